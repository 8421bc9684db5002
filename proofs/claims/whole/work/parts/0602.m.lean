set_option maxHeartbeats 4000000 in
set_option maxRecDepth 100000 in
theorem s_X3_copyAll_L3 {p : Program} {l : Launch} {e : Env} {R : Room} {s : State} {m : MethodId} {args : Array Value} {below : List Frame} {meth : Method} {c : Code} {E : JE} {h0 hF : JH} {rF : Option Value} {d : Nat} (C : j_C p s m args meth c R E cX3_copyAll 5 RX3 h0 hF d) (hret : meth.sig.returnType = none) (hdd : 2 ≤ d) (a0 : Nat) (a1 : Nat) (a2 : Nat) (a3 : Nat) (z : Int32) (h : JH) (r : Int32 ⊕ Int32) (h1 : JH) (hf : f_X3_copyAll_L3 a0 a1 a2 a3 z h = some (r, h1)) (hk : Sum.elim (fun z => Xw p l e R s m args below meth c E 5 h0 rF hF 3 [(0, .ref a0), (1, .ref a1), (2, .ref a2), (3, .ref a3), (4, .int z)] [] h1) (fun t => Xw p l e R s m args below meth c E 5 h0 rF hF 26 [(0, .ref a0), (1, .ref a1), (2, .ref a2), (3, .ref a3), (4, .int t)] [] h1) r) : Xw p l e R s m args below meth c E 5 h0 rF hF 3 [(0, .ref a0), (1, .ref a1), (2, .ref a2), (3, .ref a3), (4, .int z)] [] h := by
  unfold f_X3_copyAll_L3 at hf
  refine x_iload (v := z) C dX3_copyAll_3 rfl ?_
  refine x_iconst C dX3_copyAll_5 ki_4 ?_
  refine x_icmp_ge (tgt := 26) C dX3_copyAll_6 (by decide) (fun c9 => ?_) (fun c9 => ?_)
  · have hf := j_ifp hf c9
    obtain ⟨rfl, rfl⟩ := j_inj2 hf
    exact x_locr hk rfl
  · have hf := j_ifn hf c9
    refine x_aload_n (v := a2) C dX3_copyAll_9 rfl ?_
    refine x_iload (v := z) C dX3_copyAll_10 rfl ?_
    obtain ⟨v1, e2, hf⟩ := j_bind hf
    refine x_aald C dX3_copyAll_12 e2 ?_
    refine x_aload_n (v := a0) C dX3_copyAll_13 rfl ?_
    refine x_iload (v := z) C dX3_copyAll_14 rfl ?_
    obtain ⟨v3, e4, hf⟩ := j_bind hf
    refine x_aald C dX3_copyAll_16 e4 ?_
    obtain ⟨u7, e8, hf⟩ := j_bind hf
    obtain ⟨q5, e6, hf⟩ := j_bind hf
    refine x_callV (As := [.ref v3]) (rest := []) C dX3_copyAll_17 (m_X2_copyFrom (l := l) (E := E) (d := d - 1) (by omega) e6) km_X2_copyFrom lk_X3_40 kv_X2_copyFrom (ci := 1) rfl e8 rfl (by omega) (Nat.le_of_ble_eq_true rfl) (j_le_of (q_X2_copyFrom e6)) (Or.inr (q_X2_copyFrom e6)) ?_
    refine x_iinc (v := z) C dX3_copyAll_20 rfl ki_1 (by decide) ?_
    refine x_goto (tgt := 3) C dX3_copyAll_23 (by decide) ?_
    obtain ⟨rfl, rfl⟩ := j_inj2 hf
    exact x_locr hk rfl
set_option maxHeartbeats 4000000 in
set_option maxRecDepth 100000 in
theorem s_X3_copyAll_L29 {p : Program} {l : Launch} {e : Env} {R : Room} {s : State} {m : MethodId} {args : Array Value} {below : List Frame} {meth : Method} {c : Code} {E : JE} {h0 hF : JH} {rF : Option Value} {d : Nat} (C : j_C p s m args meth c R E cX3_copyAll 5 RX3 h0 hF d) (hret : meth.sig.returnType = none) (hdd : 2 ≤ d) (a1 : Nat) (a3 : Nat) (z : Int32) (h : JH) (r : Int32 ⊕ Int32) (h1 : JH) (hf : f_X3_copyAll_L29 a1 a3 z h = some (r, h1)) (hk : Sum.elim (fun z => Xw p l e R s m args below meth c E 5 h0 rF hF 29 [(1, .ref a1), (3, .ref a3), (4, .int z)] [] h1) (fun t => Xw p l e R s m args below meth c E 5 h0 rF hF 52 [(1, .ref a1), (3, .ref a3), (4, .int t)] [] h1) r) : Xw p l e R s m args below meth c E 5 h0 rF hF 29 [(1, .ref a1), (3, .ref a3), (4, .int z)] [] h := by
  unfold f_X3_copyAll_L29 at hf
  refine x_iload (v := z) C dX3_copyAll_29 rfl ?_
  refine x_iconst C dX3_copyAll_31 ki_2 ?_
  refine x_icmp_ge (tgt := 52) C dX3_copyAll_32 (by decide) (fun c20 => ?_) (fun c20 => ?_)
  · have hf := j_ifp hf c20
    obtain ⟨rfl, rfl⟩ := j_inj2 hf
    exact x_locr hk rfl
  · have hf := j_ifn hf c20
    refine x_aload_n (v := a3) C dX3_copyAll_35 rfl ?_
    refine x_iload (v := z) C dX3_copyAll_36 rfl ?_
    obtain ⟨v12, e13, hf⟩ := j_bind hf
    refine x_aald C dX3_copyAll_38 e13 ?_
    refine x_aload_n (v := a1) C dX3_copyAll_39 rfl ?_
    refine x_iload (v := z) C dX3_copyAll_40 rfl ?_
    obtain ⟨v14, e15, hf⟩ := j_bind hf
    refine x_aald C dX3_copyAll_42 e15 ?_
    obtain ⟨u18, e19, hf⟩ := j_bind hf
    obtain ⟨q16, e17, hf⟩ := j_bind hf
    refine x_callV (As := [.ref v14]) (rest := []) C dX3_copyAll_43 (m_X6_copyFrom (l := l) (E := E) (d := d - 1) (by omega) e17) km_X6_copyFrom lk_X3_46 kv_X6_copyFrom (ci := 4) rfl e19 rfl (by omega) (Nat.le_of_ble_eq_true rfl) (j_le_of (q_X6_copyFrom e17)) (Or.inr (q_X6_copyFrom e17)) ?_
    refine x_iinc (v := z) C dX3_copyAll_46 rfl ki_1 (by decide) ?_
    refine x_goto (tgt := 29) C dX3_copyAll_49 (by decide) ?_
    obtain ⟨rfl, rfl⟩ := j_inj2 hf
    exact x_locr hk rfl
set_option maxHeartbeats 4000000 in
set_option maxRecDepth 100000 in
theorem m_X3_copyAll {l : Launch} {E : JE} {d : Nat} (hdd : 2 ≤ d) {a0 : Nat} {a1 : Nat} {a2 : Nat} {a3 : Nat} {h : JH} {q : Unit × JH} (hf : f_X3_copyAll a0 a1 a2 a3 h = some q) : Con l E d yX3_copyAll cX3_copyAll 5 none [.ref a0, .ref a1, .ref a2, .ref a3] h (none) q.2 := by
  refine j_start rfl (Nat.le_of_ble_eq_true rfl) ?_
  intro p e s m args below meth c C hret hnm
  refine x_loc [(0, .ref a0), (1, .ref a1), (2, .ref a2), (3, .ref a3)] rfl ?_
  unfold f_X3_copyAll at hf
  refine x_iconst C dX3_copyAll_0 ki_0 ?_
  refine x_istore C dX3_copyAll_1 (by decide) ?_
  obtain ⟨q10, e11, hf⟩ := j_bind hf
  refine x_loc [(0, .ref a0), (1, .ref a1), (2, .ref a2), (3, .ref a3), (4, .int (0 : Int32))] rfl ?_
  refine x_loop (s_X3_copyAll_L3 C hret hdd a0 a1 a2 a3) e11 ?_
  refine x_iconst C dX3_copyAll_26 ki_0 ?_
  refine x_istore C dX3_copyAll_27 (by decide) ?_
  obtain ⟨q21, e22, hf⟩ := j_bind hf
  refine x_loc [(1, .ref a1), (3, .ref a3), (4, .int (0 : Int32))] rfl ?_
  refine x_loop (s_X3_copyAll_L29 C hret hdd a1 a3) e22 ?_
  obtain rfl := j_inj hf
  exact x_vret C hret dX3_copyAll_52
set_option maxHeartbeats 4000000 in
set_option maxRecDepth 100000 in
theorem m_X3_lay {l : Launch} {E : JE} {d : Nat} (hdd : 3 ≤ d) {a0 : Nat} {a1 : Nat} {a2 : Nat} {h : JH} {q : Unit × JH} (hf : f_X3_lay a0 a1 a2 h = some q) : Con l E d yX3_lay cX3_lay 3 none [.ref a0, .ref a1, .ref a2] h (none) q.2 := by
  refine j_start rfl (Nat.le_of_ble_eq_true rfl) ?_
  intro p e s m args below meth c C hret hnm
  refine x_loc [(0, .ref a0), (1, .ref a1), (2, .ref a2)] rfl ?_
  unfold f_X3_lay at hf
  refine x_aload_n (v := a1) C dX3_lay_0 rfl ?_
  refine x_aload_n (v := a2) C dX3_lay_1 rfl ?_
  refine x_aload_n (v := a0) C dX3_lay_2 rfl ?_
  obtain ⟨v1, e2, hf⟩ := j_bind hf
  refine x_get C dX3_lay_3 (jgR_some e2) fg_X3_13 ?_
  refine x_aload_n (v := a0) C dX3_lay_6 rfl ?_
  obtain ⟨v3, e4, hf⟩ := j_bind hf
  refine x_get C dX3_lay_7 (jgR_some e4) fg_X3_23 ?_
  obtain ⟨q5, e6, hf⟩ := j_bind hf
  refine x_callS (As := [.ref a1, .ref a2, .ref v1, .ref v3]) (rest := []) C dX3_lay_10 (m_X3_copyAll (l := l) (E := E) (d := d - 1) (by omega) e6) km_X3_copyAll lk_X3_27 ks_X3_copyAll rfl (by omega) (Nat.le_of_ble_eq_true rfl) (j_le_of (q_X3_copyAll e6)) (Or.inr (q_X3_copyAll e6)) ?_
  refine x_aload_n (v := a0) C dX3_lay_13 rfl ?_
  refine x_iconst C dX3_lay_14 ki_1 ?_
  obtain ⟨h7, e8, hf⟩ := j_bind hf
  refine x_put C dX3_lay_15 e8 fp_X3_31 rfl rfl ?_
  obtain rfl := j_inj hf
  exact x_vret C hret dX3_lay_18
set_option maxHeartbeats 4000000 in
set_option maxRecDepth 100000 in
theorem s_X3_bringBack_L11 {p : Program} {l : Launch} {e : Env} {R : Room} {s : State} {m : MethodId} {args : Array Value} {below : List Frame} {meth : Method} {c : Code} {E : JE} {h0 hF : JH} {rF : Option Value} {d : Nat} (C : j_C p s m args meth c R E cX3_bringBack 4 RX3 h0 hF d) (hret : meth.sig.returnType = (some .boolean)) (hdd : 3 ≤ d) (a0 : Nat) (a1 : Nat) (a2 : Nat) (z : Int32) (h : JH) (r : Int32 ⊕ (Int32 ⊕ Int32)) (h1 : JH) (hf : f_X3_bringBack_L11 a0 a1 a2 z h = some (r, h1)) (hk : Sum.elim (fun z => Xw p l e R s m args below meth c E 4 h0 rF hF 11 [(0, .ref a0), (1, .ref a1), (2, .ref a2), (3, .int z)] [] h1) (fun t => Sum.elim (fun rr => some (.int rr) = rF ∧ h1 = hF) (fun t => Xw p l e R s m args below meth c E 4 h0 rF hF 42 [(0, .ref a0), (1, .ref a1), (2, .ref a2), (3, .int t)] [] h1) t) r) : Xw p l e R s m args below meth c E 4 h0 rF hF 11 [(0, .ref a0), (1, .ref a1), (2, .ref a2), (3, .int z)] [] h := by
  unfold f_X3_bringBack_L11 at hf
  refine x_iload_n (v := z) C dX3_bringBack_11 rfl ?_
  refine x_iconst C dX3_bringBack_12 ki_2 ?_
  refine x_icmp_ge (tgt := 42) C dX3_bringBack_13 (by decide) (fun c13 => ?_) (fun c13 => ?_)
  · have hf := j_ifp hf c13
    obtain ⟨rfl, rfl⟩ := j_inj2 hf
    exact x_locr hk rfl
  · have hf := j_ifn hf c13
    refine x_aload_n (v := a2) C dX3_bringBack_16 rfl ?_
    refine x_iload_n (v := z) C dX3_bringBack_17 rfl ?_
    obtain ⟨v3, e4, hf⟩ := j_bind hf
    refine x_aald C dX3_bringBack_18 e4 ?_
    obtain ⟨v5, e6, hf⟩ := j_bind hf
    refine x_get C dX3_bringBack_19 (jgI_some e6) fg_X3_35 ?_
    refine x_aload_n (v := a0) C dX3_bringBack_22 rfl ?_
    obtain ⟨v7, e8, hf⟩ := j_bind hf
    refine x_get C dX3_bringBack_23 (jgR_some e8) fg_X3_23 ?_
    refine x_iload_n (v := z) C dX3_bringBack_26 rfl ?_
    obtain ⟨v9, e10, hf⟩ := j_bind hf
    refine x_aald C dX3_bringBack_27 e10 ?_
    obtain ⟨v11, e12, hf⟩ := j_bind hf
    refine x_get C dX3_bringBack_28 (jgI_some e12) fg_X3_35 ?_
    refine x_icmp_eq (tgt := 36) C dX3_bringBack_31 (by decide) (fun c14 => ?_) (fun c14 => ?_)
    · have hf := j_ifp hf c14
      refine x_iinc (v := z) C dX3_bringBack_36 rfl ki_1 (by decide) ?_
      refine x_goto (tgt := 11) C dX3_bringBack_39 (by decide) ?_
      obtain ⟨rfl, rfl⟩ := j_inj2 hf
      exact x_locr hk rfl
    · have hf := j_ifn hf c14
      refine x_iconst C dX3_bringBack_34 ki_0 ?_
      obtain ⟨rfl, rfl⟩ := j_inj2 hf
      obtain ⟨rfl, rfl⟩ := hk
      exact x_zret C hret (Or.inl rfl) dX3_bringBack_35
set_option maxHeartbeats 4000000 in
set_option maxRecDepth 100000 in
theorem m_X3_bringBack {l : Launch} {E : JE} {d : Nat} (hdd : 3 ≤ d) {a0 : Nat} {a1 : Nat} {a2 : Nat} {h : JH} {q : Int32 × JH} (hf : f_X3_bringBack a0 a1 a2 h = some q) : Con l E d yX3_bringBack cX3_bringBack 4 (some .boolean) [.ref a0, .ref a1, .ref a2] h (some (.int q.1)) q.2 := by
  refine j_start rfl (Nat.le_of_ble_eq_true rfl) ?_
  intro p e s m args below meth c C hret hnm
  refine x_loc [(0, .ref a0), (1, .ref a1), (2, .ref a2)] rfl ?_
  unfold f_X3_bringBack at hf
  refine x_aload_n (v := a0) C dX3_bringBack_0 rfl ?_
  obtain ⟨v1, e2, hf⟩ := j_bind hf
  refine x_get C dX3_bringBack_1 (jgI_some e2) fg_X3_31 ?_
  refine x_if_ne (tgt := 9) C dX3_bringBack_4 (by decide) (fun c26 => ?_) (fun c26 => ?_)
  · have hf := j_ifn hf c26
    refine x_iconst C dX3_bringBack_9 ki_0 ?_
    refine x_istore_n C dX3_bringBack_10 (by decide) ?_
    obtain ⟨q15, e16, hf⟩ := j_bind hf
    refine x_loc [(0, .ref a0), (1, .ref a1), (2, .ref a2), (3, .int (0 : Int32))] rfl ?_
    refine x_loop (s_X3_bringBack_L11 C hret hdd a0 a1 a2) e16 ?_
    cases y27 : q15.1 with
    | inl r18 =>
      rw [y27] at hf
      have hf := j_eliml hf
      obtain rfl := j_inj hf
      exact ⟨rfl, rfl⟩
    | inr t17 =>
      rw [y27] at hf
      have hf := j_elimr hf
      refine j_elimG ?_
      refine x_aload_n (v := a0) C dX3_bringBack_42 rfl ?_
      obtain ⟨v19, e20, hf⟩ := j_bind hf
      refine x_get C dX3_bringBack_43 (jgR_some e20) fg_X3_13 ?_
      refine x_aload_n (v := a0) C dX3_bringBack_46 rfl ?_
      obtain ⟨v21, e22, hf⟩ := j_bind hf
      refine x_get C dX3_bringBack_47 (jgR_some e22) fg_X3_23 ?_
      refine x_aload_n (v := a1) C dX3_bringBack_50 rfl ?_
      refine x_aload_n (v := a2) C dX3_bringBack_51 rfl ?_
      obtain ⟨q23, e24, hf⟩ := j_bind hf
      refine x_callS (As := [.ref v19, .ref v21, .ref a1, .ref a2]) (rest := []) C dX3_bringBack_52 (m_X3_copyAll (l := l) (E := E) (d := d - 1) (by omega) e24) km_X3_copyAll lk_X3_27 ks_X3_copyAll rfl (by omega) (Nat.le_of_ble_eq_true rfl) (j_le_of (q_X3_copyAll e24)) (Or.inr (q_X3_copyAll e24)) ?_
      refine x_iconst C dX3_bringBack_55 ki_1 ?_
      obtain rfl := j_inj hf
      exact x_zret C hret (Or.inr rfl) dX3_bringBack_56
  · have hf := j_ifp hf c26
    refine x_iconst C dX3_bringBack_7 ki_0 ?_
    obtain rfl := j_inj hf
    exact x_zret C hret (Or.inl rfl) dX3_bringBack_8
set_option maxHeartbeats 4000000 in
set_option maxRecDepth 100000 in
theorem s_X4_power_L13 {p : Program} {l : Launch} {e : Env} {R : Room} {s : State} {m : MethodId} {args : Array Value} {below : List Frame} {meth : Method} {c : Code} {E : JE} {h0 hF : JH} {rF : Option Value} {d : Nat} (C : j_C p s m args meth c R E cX4_power 6 RX4 h0 hF d) (hret : meth.sig.returnType = (some .int)) (hdd : 1 ≤ d) (a2 : Int32) (z : (Int32 × Int32 × Int32)) (h : JH) (r : (Int32 × Int32 × Int32) ⊕ (Int32 × Int32 × Int32)) (h1 : JH) (hf : f_X4_power_L13 a2 z h = some (r, h1)) (hk : Sum.elim (fun z => Xw p l e R s m args below meth c E 6 h0 rF hF 13 [(2, .int a2), (3, .int z.1), (4, .int z.2.1), (5, .int z.2.2)] [] h1) (fun t => Xw p l e R s m args below meth c E 6 h0 rF hF 59 [(2, .int a2), (3, .int t.1), (4, .int t.2.1), (5, .int t.2.2)] [] h1) r) : Xw p l e R s m args below meth c E 6 h0 rF hF 13 [(2, .int a2), (3, .int z.1), (4, .int z.2.1), (5, .int z.2.2)] [] h := by
  unfold f_X4_power_L13 at hf
  refine x_iload (v := z.2.2) C dX4_power_13 rfl ?_
  refine x_if_le (tgt := 59) C dX4_power_15 (by decide) (fun c9 => ?_) (fun c9 => ?_)
  · have hf := j_ifp hf c9
    obtain ⟨rfl, rfl⟩ := j_inj2 hf
    exact x_locr hk rfl
  · have hf := j_ifn hf c9
    refine x_iload (v := z.2.2) C dX4_power_18 rfl ?_
    refine x_iconst C dX4_power_20 ki_1 ?_
    refine x_iand C dX4_power_21 ?_
    refine x_iconst C dX4_power_22 ki_1 ?_
    refine x_icmp_ne (tgt := 37) C dX4_power_23 (by decide) (fun c10 => ?_) (fun c10 => ?_)
    · have hf := j_ifn hf c10
      refine x_iload (v := z.2.1) C dX4_power_37 rfl ?_
      refine x_i2l C dX4_power_39 ?_
      refine x_iload (v := z.2.1) C dX4_power_40 rfl ?_
      refine x_i2l C dX4_power_42 ?_
      refine x_lmul C dX4_power_43 ?_
      refine x_iload_n (v := a2) C dX4_power_44 rfl ?_
      obtain ⟨q3, e4, hf⟩ := j_bind hf
      refine x_callS (As := [.long (z.2.1.toInt64 * z.2.1.toInt64), .int a2]) (rest := []) C dX4_power_45 (m_X4_of (l := l) (E := E) (d := d - 1) (by omega) e4) km_X4_of lk_X4_7 ks_X4_of rfl (by omega) (Nat.le_of_ble_eq_true rfl) (j_le_of (q_X4_of e4)) (Or.inr (q_X4_of e4)) ?_
      refine x_istore C dX4_power_48 (by decide) ?_
      refine x_iload (v := z.2.2) C dX4_power_50 rfl ?_
      refine x_iconst C dX4_power_52 ki_1 ?_
      refine x_ishr C dX4_power_53 ?_
      refine x_istore C dX4_power_54 (by decide) ?_
      refine x_goto (tgt := 13) C dX4_power_56 (by decide) ?_
      obtain ⟨rfl, rfl⟩ := j_inj2 hf
      exact x_locr hk rfl
    · have hf := j_ifp hf c10
      refine x_iload_n (v := z.1) C dX4_power_26 rfl ?_
      refine x_i2l C dX4_power_27 ?_
      refine x_iload (v := z.2.1) C dX4_power_28 rfl ?_
      refine x_i2l C dX4_power_30 ?_
      refine x_lmul C dX4_power_31 ?_
      refine x_iload_n (v := a2) C dX4_power_32 rfl ?_
      obtain ⟨q5, e6, hf⟩ := j_bind hf
      refine x_callS (As := [.long (z.1.toInt64 * z.2.1.toInt64), .int a2]) (rest := []) C dX4_power_33 (m_X4_of (l := l) (E := E) (d := d - 1) (by omega) e6) km_X4_of lk_X4_7 ks_X4_of rfl (by omega) (Nat.le_of_ble_eq_true rfl) (j_le_of (q_X4_of e6)) (Or.inr (q_X4_of e6)) ?_
      refine x_istore_n C dX4_power_36 (by decide) ?_
      refine x_iload (v := z.2.1) C dX4_power_37 rfl ?_
      refine x_i2l C dX4_power_39 ?_
      refine x_iload (v := z.2.1) C dX4_power_40 rfl ?_
      refine x_i2l C dX4_power_42 ?_
      refine x_lmul C dX4_power_43 ?_
      refine x_iload_n (v := a2) C dX4_power_44 rfl ?_
      obtain ⟨q7, e8, hf⟩ := j_bind hf
      refine x_callS (As := [.long (z.2.1.toInt64 * z.2.1.toInt64), .int a2]) (rest := []) C dX4_power_45 (m_X4_of (l := l) (E := E) (d := d - 1) (by omega) e8) km_X4_of lk_X4_7 ks_X4_of rfl (by omega) (Nat.le_of_ble_eq_true rfl) (j_le_of (q_X4_of e8)) (Or.inr (q_X4_of e8)) ?_
      refine x_istore C dX4_power_48 (by decide) ?_
      refine x_iload (v := z.2.2) C dX4_power_50 rfl ?_
      refine x_iconst C dX4_power_52 ki_1 ?_
      refine x_ishr C dX4_power_53 ?_
      refine x_istore C dX4_power_54 (by decide) ?_
      refine x_goto (tgt := 13) C dX4_power_56 (by decide) ?_
      obtain ⟨rfl, rfl⟩ := j_inj2 hf
      exact x_locr hk rfl
set_option maxHeartbeats 4000000 in
set_option maxRecDepth 100000 in
theorem m_X4_power {l : Launch} {E : JE} {d : Nat} (hdd : 1 ≤ d) {a0 : Int32} {a1 : Int32} {a2 : Int32} {h : JH} {q : Int32 × JH} (hf : f_X4_power a0 a1 a2 h = some q) : Con l E d yX4_power cX4_power 6 (some .int) [.int a0, .int a1, .int a2] h (some (.int q.1)) q.2 := by
  refine j_start rfl (Nat.le_of_ble_eq_true rfl) ?_
  intro p e s m args below meth c C hret hnm
  refine x_loc [(0, .int a0), (1, .int a1), (2, .int a2)] rfl ?_
  unfold f_X4_power at hf
  refine x_iconst C dX4_power_0 ki_1 ?_
  refine x_istore_n C dX4_power_1 (by decide) ?_
  refine x_iload_n (v := a0) C dX4_power_2 rfl ?_
  refine x_i2l C dX4_power_3 ?_
  refine x_iload_n (v := a2) C dX4_power_4 rfl ?_
  obtain ⟨q1, e2, hf⟩ := j_bind hf
  refine x_callS (As := [.long a0.toInt64, .int a2]) (rest := []) C dX4_power_5 (m_X4_of (l := l) (E := E) (d := d - 1) (by omega) e2) km_X4_of lk_X4_7 ks_X4_of rfl (by omega) (Nat.le_of_ble_eq_true rfl) (j_le_of (q_X4_of e2)) (Or.inr (q_X4_of e2)) ?_
  refine x_istore C dX4_power_8 (by decide) ?_
  refine x_iload_n (v := a1) C dX4_power_10 rfl ?_
  refine x_istore C dX4_power_11 (by decide) ?_
  obtain ⟨q11, e12, hf⟩ := j_bind hf
  refine x_loc [(2, .int a2), (3, .int (1 : Int32)), (4, .int q1.1), (5, .int a1)] rfl ?_
  refine x_loop (s_X4_power_L13 C hret hdd a2) e12 ?_
  refine x_iload_n (v := q11.1.1) C dX4_power_59 rfl ?_
  obtain rfl := j_inj hf
  exact x_iret C hret dX4_power_60
set_option maxHeartbeats 4000000 in
set_option maxRecDepth 100000 in
theorem m_X4_divide {l : Launch} {E : JE} {d : Nat} (hdd : 2 ≤ d) {a0 : Int32} {a1 : Int32} {a2 : Int32} {h : JH} {q : Int32 × JH} (hf : f_X4_divide a0 a1 a2 h = some q) : Con l E d yX4_divide cX4_divide 3 (some .int) [.int a0, .int a1, .int a2] h (some (.int q.1)) q.2 := by
  refine j_start rfl (Nat.le_of_ble_eq_true rfl) ?_
  intro p e s m args below meth c C hret hnm
  refine x_loc [(0, .int a0), (1, .int a1), (2, .int a2)] rfl ?_
  unfold f_X4_divide at hf
  refine x_iload_n (v := a0) C dX4_divide_0 rfl ?_
  refine x_i2l C dX4_divide_1 ?_
  refine x_iload_n (v := a1) C dX4_divide_2 rfl ?_
  refine x_iload_n (v := a2) C dX4_divide_3 rfl ?_
  refine x_iconst C dX4_divide_4 ki_2 ?_
  refine x_isub C dX4_divide_5 ?_
  refine x_iload_n (v := a2) C dX4_divide_6 rfl ?_
  obtain ⟨q1, e2, hf⟩ := j_bind hf
  refine x_callS (As := [.int a1, .int (a2 - (2 : Int32)), .int a2]) (rest := [.long a0.toInt64]) C dX4_divide_7 (m_X4_power (l := l) (E := E) (d := d - 1) (by omega) e2) km_X4_power lk_X4_13 ks_X4_power rfl (by omega) (Nat.le_of_ble_eq_true rfl) (j_le_of (q_X4_power e2)) (Or.inr (q_X4_power e2)) ?_
  refine x_i2l C dX4_divide_10 ?_
  refine x_lmul C dX4_divide_11 ?_
  refine x_iload_n (v := a2) C dX4_divide_12 rfl ?_
  obtain ⟨q3, e4, hf⟩ := j_bind hf
  refine x_callS (As := [.long (a0.toInt64 * q1.1.toInt64), .int a2]) (rest := []) C dX4_divide_13 (m_X4_of (l := l) (E := E) (d := d - 1) (by omega) e4) km_X4_of lk_X4_7 ks_X4_of rfl (by omega) (Nat.le_of_ble_eq_true rfl) (j_le_of (q_X4_of e4)) (Or.inr (q_X4_of e4)) ?_
  obtain rfl := j_inj hf
  exact x_iret C hret dX4_divide_16
set_option maxHeartbeats 4000000 in
set_option maxRecDepth 100000 in
theorem m_X5_init {l : Launch} {E : JE} {d : Nat} (hdd : 1 ≤ d) {a0 : Nat} {h : JH} {q : Unit × JH} (hf : f_X5_init a0 h = some q) : Con l E d yX5_init cX5_init 1 none [.ref a0] h (none) q.2 := by
  refine j_start rfl (Nat.le_of_ble_eq_true rfl) ?_
  intro p e s m args below meth c C hret hnm
  have hin : meth.name = "<init>" := hnm
  refine x_loc [(0, .ref a0)] rfl ?_
  unfold f_X5_init at hf
  refine x_aload_n (v := a0) C dX5_init_0 rfl ?_
  refine x_objInit C dX5_init_1 ⟨lk_X5_3, w_obj⟩ (by omega) (Nat.le_of_ble_eq_true rfl) ?_
  refine x_aload_n (v := a0) C dX5_init_4 rfl ?_
  refine x_bipush C dX5_init_5 kb_6 ?_
  obtain ⟨q1, e2, hf⟩ := j_bind hf
  have hle : j_le q1.2 q.2 := by
    obtain ⟨h3, e4, hf⟩ := j_bind hf
    refine j_le_trans (j_le_of (jput_n e4)) ?_
    obtain ⟨q5, e6, hf⟩ := j_bind hf
    refine j_le_trans (jnM_le e6) ?_
    obtain ⟨h7, e8, hf⟩ := j_bind hf
    refine j_le_trans (j_le_of (jput_n e8)) ?_
    obtain ⟨q9, e10, hf⟩ := j_bind hf
    refine j_le_trans (jnM_le e10) ?_
    obtain ⟨h11, e12, hf⟩ := j_bind hf
    refine j_le_trans (j_le_of (jput_n e12)) ?_
    obtain ⟨q13, e14, hf⟩ := j_bind hf
    refine j_le_trans (jnM_le e14) ?_
    obtain ⟨h15, e16, hf⟩ := j_bind hf
    refine j_le_trans (j_le_of (jput_n e16)) ?_
    obtain rfl := j_inj hf
    exact j_le_refl _
  refine x_newa (q := q1.1) (h1 := q1.2) C dX5_init_7 rfl (by decide) (by decide) (fun q => q) wi_int e2 hle ?_
  obtain ⟨h3, e4, hf⟩ := j_bind hf
  refine x_putF C hin dX5_init_9 e4 fp_X5_9 rfl rfl ?_
  refine x_aload_n (v := a0) C dX5_init_12 rfl ?_
  refine x_iconst C dX5_init_13 ki_5 ?_
  refine x_iconst C dX5_init_14 ki_5 ?_
  obtain ⟨q5, e6, hf⟩ := j_bind hf
  have hle : j_le q5.2 q.2 := by
    obtain ⟨h7, e8, hf⟩ := j_bind hf
    refine j_le_trans (j_le_of (jput_n e8)) ?_
    obtain ⟨q9, e10, hf⟩ := j_bind hf
    refine j_le_trans (jnM_le e10) ?_
    obtain ⟨h11, e12, hf⟩ := j_bind hf
    refine j_le_trans (j_le_of (jput_n e12)) ?_
    obtain ⟨q13, e14, hf⟩ := j_bind hf
    refine j_le_trans (jnM_le e14) ?_
    obtain ⟨h15, e16, hf⟩ := j_bind hf
    refine j_le_trans (j_le_of (jput_n e16)) ?_
    obtain rfl := j_inj hf
    exact j_le_refl _
  refine x_mna (ty := .int) (q := q5.1) (h1 := q5.2) C dX5_init_15 (by decide) (by decide) (by decide) (fun q => q) (fun q => q) (fun _ => j_inner _ _ (by decide)) rfl rfl wm_X5_15 e6 hle ?_
  obtain ⟨h7, e8, hf⟩ := j_bind hf
  refine x_putF C hin dX5_init_19 e8 fp_X5_17 rfl rfl ?_
  refine x_aload_n (v := a0) C dX5_init_22 rfl ?_
  refine x_iconst C dX5_init_23 ki_5 ?_
  refine x_iconst C dX5_init_24 ki_5 ?_
  obtain ⟨q9, e10, hf⟩ := j_bind hf
  have hle : j_le q9.2 q.2 := by
    obtain ⟨h11, e12, hf⟩ := j_bind hf
    refine j_le_trans (j_le_of (jput_n e12)) ?_
    obtain ⟨q13, e14, hf⟩ := j_bind hf
    refine j_le_trans (jnM_le e14) ?_
    obtain ⟨h15, e16, hf⟩ := j_bind hf
    refine j_le_trans (j_le_of (jput_n e16)) ?_
    obtain rfl := j_inj hf
    exact j_le_refl _
  refine x_mna (ty := .int) (q := q9.1) (h1 := q9.2) C dX5_init_25 (by decide) (by decide) (by decide) (fun q => q) (fun q => q) (fun _ => j_inner _ _ (by decide)) rfl rfl wm_X5_15 e10 hle ?_
  obtain ⟨h11, e12, hf⟩ := j_bind hf
  refine x_putF C hin dX5_init_29 e12 fp_X5_20 rfl rfl ?_
  refine x_aload_n (v := a0) C dX5_init_32 rfl ?_
  refine x_iconst C dX5_init_33 ki_5 ?_
  refine x_iconst C dX5_init_34 ki_5 ?_
  obtain ⟨q13, e14, hf⟩ := j_bind hf
  have hle : j_le q13.2 q.2 := by
    obtain ⟨h15, e16, hf⟩ := j_bind hf
    refine j_le_trans (j_le_of (jput_n e16)) ?_
    obtain rfl := j_inj hf
    exact j_le_refl _
  refine x_mna (ty := .int) (q := q13.1) (h1 := q13.2) C dX5_init_35 (by decide) (by decide) (by decide) (fun q => q) (fun q => q) (fun _ => j_inner _ _ (by decide)) rfl rfl wm_X5_15 e14 hle ?_
  obtain ⟨h15, e16, hf⟩ := j_bind hf
  refine x_putF C hin dX5_init_39 e16 fp_X5_23 rfl rfl ?_
  obtain rfl := j_inj hf
  exact x_vret C hret dX5_init_42
set_option maxHeartbeats 4000000 in
set_option maxRecDepth 100000 in
theorem m_X11_lengthOf {l : Launch} {E : JE} {d : Nat} (hdd : 0 ≤ d) {a0 : Int32} {h : JH} {q : Int32 × JH} (hf : f_X11_lengthOf a0 h = some q) : Con l E d yX11_lengthOf cX11_lengthOf 1 (some .int) [.int a0] h (some (.int q.1)) q.2 := by
  refine j_start rfl (Nat.le_of_ble_eq_true rfl) ?_
  intro p e s m args below meth c C hret hnm
  refine x_loc [(0, .int a0)] rfl ?_
  unfold f_X11_lengthOf at hf
  refine x_iload_n (v := a0) C dX11_lengthOf_0 rfl ?_
  refine x_bipush C dX11_lengthOf_1 kb_12 ?_
  refine x_irem C dX11_lengthOf_3 (by decide) ?_
  refine x_iconst C dX11_lengthOf_4 ki_2 ?_
  refine x_icmp_ne (tgt := 15) C dX11_lengthOf_5 (by decide) (fun c1 => ?_) (fun c1 => ?_)
  · have hf := j_ifn hf c1
    refine x_iload_n (v := a0) C dX11_lengthOf_15 rfl ?_
    refine x_bipush C dX11_lengthOf_16 kb_12 ?_
    refine x_idiv C dX11_lengthOf_18 (by decide) ?_
    refine x_iconst C dX11_lengthOf_19 ki_1 ?_
    refine x_iadd C dX11_lengthOf_20 ?_
    obtain rfl := j_inj hf
    exact x_iret C hret dX11_lengthOf_21
  · have hf := j_ifp hf c1
    refine x_iload_n (v := a0) C dX11_lengthOf_8 rfl ?_
    refine x_bipush C dX11_lengthOf_9 kb_12 ?_
    refine x_idiv C dX11_lengthOf_11 (by decide) ?_
    refine x_goto (tgt := 21) C dX11_lengthOf_12 (by decide) ?_
    obtain rfl := j_inj hf
    exact x_iret C hret dX11_lengthOf_21
set_option maxHeartbeats 4000000 in
set_option maxRecDepth 100000 in
theorem m_X11_cuspsOf {l : Launch} {E : JE} {d : Nat} (hdd : 1 ≤ d) {a0 : Int32} {h : JH} {q : Int32 × JH} (hf : f_X11_cuspsOf a0 h = some q) : Con l E d yX11_cuspsOf cX11_cuspsOf 1 (some .int) [.int a0] h (some (.int q.1)) q.2 := by
  refine j_start rfl (Nat.le_of_ble_eq_true rfl) ?_
  intro p e s m args below meth c C hret hnm
  refine x_loc [(0, .int a0)] rfl ?_
  unfold f_X11_cuspsOf at hf
  refine x_iload_n (v := a0) C dX11_cuspsOf_0 rfl ?_
  obtain ⟨q1, e2, hf⟩ := j_bind hf
  refine x_callS (As := [.int a0]) (rest := []) C dX11_cuspsOf_1 (m_X11_lengthOf (l := l) (E := E) (d := d - 1) (by omega) e2) km_X11_lengthOf lk_X11_135 ks_X11_lengthOf rfl (by omega) (Nat.le_of_ble_eq_true rfl) (j_le_of (q_X11_lengthOf e2)) (Or.inr (q_X11_lengthOf e2)) ?_
  refine x_iconst C dX11_cuspsOf_4 ki_1 ?_
  refine x_isub C dX11_cuspsOf_5 ?_
  refine x_iconst C dX11_cuspsOf_6 ki_0 ?_
  refine x_mmax C dX11_cuspsOf_7 ⟨lk_X11_313, w_max⟩ (by omega) (Nat.le_of_ble_eq_true rfl) ?_
  obtain rfl := j_inj hf
  exact x_iret C hret dX11_cuspsOf_10
set_option maxHeartbeats 4000000 in
set_option maxRecDepth 100000 in
theorem s_X7_expand_L5 {p : Program} {l : Launch} {e : Env} {R : Room} {s : State} {m : MethodId} {args : Array Value} {below : List Frame} {meth : Method} {c : Code} {E : JE} {h0 hF : JH} {rF : Option Value} {d : Nat} (C : j_C p s m args meth c R E cX7_expand 6 RX7 h0 hF d) (hret : meth.sig.returnType = (some .int)) (hdd : 1 ≤ d) (a0 : Nat) (a1 : Nat) (a2 : Int32) (z : (Int64 × Int32)) (h : JH) (r : (Int64 × Int32) ⊕ (Int64 × Int32)) (h1 : JH) (hf : f_X7_expand_L5 a0 a1 a2 z h = some (r, h1)) (hk : Sum.elim (fun z => Xw p l e R s m args below meth c E 6 h0 rF hF 5 [(0, .ref a0), (1, .ref a1), (2, .int a2), (3, .long z.1), (5, .int z.2)] [] h1) (fun t => Xw p l e R s m args below meth c E 6 h0 rF hF 39 [(0, .ref a0), (1, .ref a1), (2, .int a2), (3, .long t.1), (5, .int t.2)] [] h1) r) : Xw p l e R s m args below meth c E 6 h0 rF hF 5 [(0, .ref a0), (1, .ref a1), (2, .int a2), (3, .long z.1), (5, .int z.2)] [] h := by
  unfold f_X7_expand_L5 at hf
  refine x_iload (v := z.2) C dX7_expand_5 rfl ?_
  refine x_aload_n (v := a0) C dX7_expand_7 rfl ?_
  obtain ⟨v1, e2, hf⟩ := j_bind hf
  refine x_get C dX7_expand_8 (jgI_some e2) fg_X7_28 ?_
  refine x_icmp_ge (tgt := 39) C dX7_expand_11 (by decide) (fun c11 => ?_) (fun c11 => ?_)
  · have hf := j_ifp hf c11
    obtain ⟨rfl, rfl⟩ := j_inj2 hf
    exact x_locr hk rfl
  · have hf := j_ifn hf c11
    refine x_lload_n (v := z.1) C dX7_expand_14 rfl ?_
    refine x_aload_n (v := a1) C dX7_expand_15 rfl ?_
    refine x_iload (v := z.2) C dX7_expand_16 rfl ?_
    obtain ⟨v3, e4, hf⟩ := j_bind hf
    refine x_iald C dX7_expand_18 e4 ?_
    refine x_i2l C dX7_expand_19 ?_
    refine x_aload_n (v := a0) C dX7_expand_20 rfl ?_
    obtain ⟨v5, e6, hf⟩ := j_bind hf
    refine x_get C dX7_expand_21 (jgR_some e6) fg_X7_11 ?_
    refine x_iload (v := z.2) C dX7_expand_24 rfl ?_
    obtain ⟨v7, e8, hf⟩ := j_bind hf
    refine x_aald C dX7_expand_26 e8 ?_
    refine x_iload_n (v := a2) C dX7_expand_27 rfl ?_
    obtain ⟨v9, e10, hf⟩ := j_bind hf
    refine x_iald C dX7_expand_28 e10 ?_
    refine x_i2l C dX7_expand_29 ?_
    refine x_lmul C dX7_expand_30 ?_
    refine x_ladd C dX7_expand_31 ?_
    refine x_lstore_n C dX7_expand_32 (by decide) ?_
    refine x_iinc (v := z.2) C dX7_expand_33 rfl ki_1 (by decide) ?_
    refine x_goto (tgt := 5) C dX7_expand_36 (by decide) ?_
    obtain ⟨rfl, rfl⟩ := j_inj2 hf
    exact x_locr hk rfl
set_option maxHeartbeats 4000000 in
set_option maxRecDepth 100000 in
theorem m_X7_expand {l : Launch} {E : JE} {d : Nat} (hdd : 1 ≤ d) {a0 : Nat} {a1 : Nat} {a2 : Int32} {h : JH} {q : Int32 × JH} (hf : f_X7_expand a0 a1 a2 h = some q) : Con l E d yX7_expand cX7_expand 6 (some .int) [.ref a0, .ref a1, .int a2] h (some (.int q.1)) q.2 := by
  refine j_start rfl (Nat.le_of_ble_eq_true rfl) ?_
  intro p e s m args below meth c C hret hnm
  refine x_loc [(0, .ref a0), (1, .ref a1), (2, .int a2)] rfl ?_
  unfold f_X7_expand at hf
  refine x_lconst C dX7_expand_0 kl_0 ?_
  refine x_lstore_n C dX7_expand_1 (by decide) ?_
  refine x_iconst C dX7_expand_2 ki_0 ?_
  refine x_istore C dX7_expand_3 (by decide) ?_
  obtain ⟨q12, e13, hf⟩ := j_bind hf
  refine x_loc [(0, .ref a0), (1, .ref a1), (2, .int a2), (3, .long (0 : Int64)), (5, .int (0 : Int32))] rfl ?_
  refine x_loop (s_X7_expand_L5 C hret hdd a0 a1 a2) e13 ?_
  refine x_lload_n (v := q12.1.1) C dX7_expand_39 rfl ?_
  refine x_aload_n (v := a0) C dX7_expand_40 rfl ?_
  obtain ⟨v14, e15, hf⟩ := j_bind hf
  refine x_get C dX7_expand_41 (jgI_some e15) fg_X7_31 ?_
  obtain ⟨q16, e17, hf⟩ := j_bind hf
  refine x_callS (As := [.long q12.1.1, .int v14]) (rest := []) C dX7_expand_44 (m_X4_of (l := l) (E := E) (d := d - 1) (by omega) e17) km_X4_of lk_X7_51 ks_X4_of rfl (by omega) (Nat.le_of_ble_eq_true rfl) (j_le_of (q_X4_of e17)) (Or.inr (q_X4_of e17)) ?_
  obtain rfl := j_inj hf
  exact x_iret C hret dX7_expand_47
set_option maxHeartbeats 4000000 in
set_option maxRecDepth 100000 in
theorem s_X7_heckeAt_L16 {p : Program} {l : Launch} {e : Env} {R : Room} {s : State} {m : MethodId} {args : Array Value} {below : List Frame} {meth : Method} {c : Code} {E : JE} {h0 hF : JH} {rF : Option Value} {d : Nat} (C : j_C p s m args meth c R E cX7_heckeAt 8 RX7 h0 hF d) (hret : meth.sig.returnType = (some .int)) (hdd : 2 ≤ d) (a0 : Nat) (a1 : Nat) (a2 : Int32) (a3 : Int32) (z : (Int32 × Int32)) (h : JH) (r : (Int32 × Int32) ⊕ (Int32 × Int32)) (h1 : JH) (hf : f_X7_heckeAt_L16 a0 a1 a2 a3 z h = some (r, h1)) (hk : Sum.elim (fun z => Xw p l e R s m args below meth c E 8 h0 rF hF 16 [(0, .ref a0), (1, .ref a1), (2, .int a2), (3, .int a3), (4, .int z.1), (5, .int z.2)] [] h1) (fun t => Xw p l e R s m args below meth c E 8 h0 rF hF 91 [(0, .ref a0), (1, .ref a1), (2, .int a2), (3, .int a3), (4, .int t.1), (5, .int t.2)] [] h1) r) : Xw p l e R s m args below meth c E 8 h0 rF hF 16 [(0, .ref a0), (1, .ref a1), (2, .int a2), (3, .int a3), (4, .int z.1), (5, .int z.2)] [] h := by
  unfold f_X7_heckeAt_L16 at hf
  refine x_iload (v := z.2) C dX7_heckeAt_16 rfl ?_
  refine x_iload_n (v := a2) C dX7_heckeAt_18 rfl ?_
  refine x_icmp_gt (tgt := 91) C dX7_heckeAt_19 (by decide) (fun c25 => ?_) (fun c25 => ?_)
  · have hf := j_ifp hf c25
    obtain ⟨rfl, rfl⟩ := j_inj2 hf
    exact x_locr hk rfl
  · have hf := j_ifn hf c25
    refine x_iload_n (v := a2) C dX7_heckeAt_22 rfl ?_
    refine x_iload (v := z.2) C dX7_heckeAt_23 rfl ?_
    obtain ⟨u3, e4, hf⟩ := j_bind hf
    refine x_irem C dX7_heckeAt_25 (jnz_some e4) ?_
    refine x_if_ne (tgt := 85) C dX7_heckeAt_26 (by decide) (fun c26 => ?_) (fun c26 => ?_)
    · have hf := j_ifn hf c26
      refine x_iinc (v := z.2) C dX7_heckeAt_85 rfl ki_1 (by decide) ?_
      refine x_goto (tgt := 16) C dX7_heckeAt_88 (by decide) ?_
      obtain ⟨rfl, rfl⟩ := j_inj2 hf
      exact x_locr hk rfl
    · have hf := j_ifp hf c26
      refine x_iload_n (v := a3) C dX7_heckeAt_29 rfl ?_
      refine x_iload (v := z.2) C dX7_heckeAt_30 rfl ?_
      obtain ⟨u5, e6, hf⟩ := j_bind hf
      refine x_irem C dX7_heckeAt_32 (jnz_some e6) ?_
      refine x_if_ne (tgt := 85) C dX7_heckeAt_33 (by decide) (fun c27 => ?_) (fun c27 => ?_)
      · have hf := j_ifn hf c27
        refine x_iinc (v := z.2) C dX7_heckeAt_85 rfl ki_1 (by decide) ?_
        refine x_goto (tgt := 16) C dX7_heckeAt_88 (by decide) ?_
        obtain ⟨rfl, rfl⟩ := j_inj2 hf
        exact x_locr hk rfl
      · have hf := j_ifp hf c27
        refine x_iload (v := z.2) C dX7_heckeAt_36 rfl ?_
        refine x_aload_n (v := a0) C dX7_heckeAt_38 rfl ?_
        obtain ⟨v7, e8, hf⟩ := j_bind hf
        refine x_get C dX7_heckeAt_39 (jgI_some e8) fg_X7_20 ?_
        refine x_iconst C dX7_heckeAt_42 ki_1 ?_
        refine x_isub C dX7_heckeAt_43 ?_
        refine x_aload_n (v := a0) C dX7_heckeAt_44 rfl ?_
        obtain ⟨v9, e10, hf⟩ := j_bind hf
        refine x_get C dX7_heckeAt_45 (jgI_some e10) fg_X7_31 ?_
        obtain ⟨q11, e12, hf⟩ := j_bind hf
        refine x_callS (As := [.int z.2, .int (v7 - (1 : Int32)), .int v9]) (rest := []) C dX7_heckeAt_48 (m_X4_power (l := l) (E := E) (d := d - 1) (by omega) e12) km_X4_power lk_X7_57 ks_X4_power rfl (by omega) (Nat.le_of_ble_eq_true rfl) (j_le_of (q_X4_power e12)) (Or.inr (q_X4_power e12)) ?_
        refine x_i2l C dX7_heckeAt_51 ?_
        refine x_lstore C dX7_heckeAt_52 (by decide) ?_
        refine x_iload (v := z.1) C dX7_heckeAt_54 rfl ?_
        refine x_i2l C dX7_heckeAt_56 ?_
        refine x_lload (v := q11.1.toInt64) C dX7_heckeAt_57 rfl ?_
        refine x_aload_n (v := a0) C dX7_heckeAt_59 rfl ?_
        refine x_aload_n (v := a1) C dX7_heckeAt_60 rfl ?_
        refine x_iload_n (v := a3) C dX7_heckeAt_61 rfl ?_
        refine x_iload (v := z.2) C dX7_heckeAt_62 rfl ?_
        obtain ⟨u13, e14, hf⟩ := j_bind hf
        refine x_idiv C dX7_heckeAt_64 (jnz_some e14) ?_
        refine x_iload_n (v := a2) C dX7_heckeAt_65 rfl ?_
        refine x_iload (v := z.2) C dX7_heckeAt_66 rfl ?_
        obtain ⟨u15, e16, hf⟩ := j_bind hf
        refine x_idiv C dX7_heckeAt_68 (jnz_some e16) ?_
        refine x_imul C dX7_heckeAt_69 ?_
        obtain ⟨u23, e24, hf⟩ := j_bind hf
        obtain ⟨q17, e18, hf⟩ := j_bind hf
        refine x_callV (As := [.ref a1, .int ((a3 / z.2) * (a2 / z.2))]) (rest := [.long q11.1.toInt64, .long z.1.toInt64]) C dX7_heckeAt_70 (m_X7_expand (l := l) (E := E) (d := d - 1) (by omega) e18) km_X7_expand lk_X7_81 kv_X7_expand (ci := 5) rfl e24 rfl (by omega) (Nat.le_of_ble_eq_true rfl) (j_le_of (q_X7_expand e18)) (Or.inr (q_X7_expand e18)) ?_
        refine x_i2l C dX7_heckeAt_73 ?_
        refine x_lmul C dX7_heckeAt_74 ?_
        refine x_ladd C dX7_heckeAt_75 ?_
        refine x_aload_n (v := a0) C dX7_heckeAt_76 rfl ?_
        obtain ⟨v19, e20, hf⟩ := j_bind hf
        refine x_get C dX7_heckeAt_77 (jgI_some e20) fg_X7_31 ?_
        obtain ⟨q21, e22, hf⟩ := j_bind hf
        refine x_callS (As := [.long (z.1.toInt64 + (q11.1.toInt64 * q17.1.toInt64)), .int v19]) (rest := []) C dX7_heckeAt_80 (m_X4_of (l := l) (E := E) (d := d - 1) (by omega) e22) km_X4_of lk_X7_51 ks_X4_of rfl (by omega) (Nat.le_of_ble_eq_true rfl) (j_le_of (q_X4_of e22)) (Or.inr (q_X4_of e22)) ?_
        refine x_istore C dX7_heckeAt_83 (by decide) ?_
        refine x_iinc (v := z.2) C dX7_heckeAt_85 rfl ki_1 (by decide) ?_
        refine x_goto (tgt := 16) C dX7_heckeAt_88 (by decide) ?_
        obtain ⟨rfl, rfl⟩ := j_inj2 hf
        exact x_locr hk rfl
set_option maxHeartbeats 4000000 in
set_option maxRecDepth 100000 in
theorem m_X7_heckeAt {l : Launch} {E : JE} {d : Nat} (hdd : 2 ≤ d) {a0 : Nat} {a1 : Nat} {a2 : Int32} {a3 : Int32} {h : JH} {q : Int32 × JH} (hf : f_X7_heckeAt a0 a1 a2 a3 h = some q) : Con l E d yX7_heckeAt cX7_heckeAt 8 (some .int) [.ref a0, .ref a1, .int a2, .int a3] h (some (.int q.1)) q.2 := by
  refine j_start rfl (Nat.le_of_ble_eq_true rfl) ?_
  intro p e s m args below meth c C hret hnm
  refine x_loc [(0, .ref a0), (1, .ref a1), (2, .int a2), (3, .int a3)] rfl ?_
  unfold f_X7_heckeAt at hf
  refine x_aload_n (v := a0) C dX7_heckeAt_0 rfl ?_
  obtain ⟨v1, e2, hf⟩ := j_bind hf
  refine x_get C dX7_heckeAt_1 (jgI_some e2) fg_X7_20 ?_
  refine x_iconst C dX7_heckeAt_4 ki_4 ?_
  refine x_icmp_ge (tgt := 10) C dX7_heckeAt_5 (by decide) (fun c30 => ?_) (fun c30 => ?_)
  · have hf := j_ifp hf c30
    refine x_iconst C dX7_heckeAt_10 ki_0 ?_
    refine x_istore C dX7_heckeAt_11 (by decide) ?_
    refine x_iconst C dX7_heckeAt_13 ki_1 ?_
    refine x_istore C dX7_heckeAt_14 (by decide) ?_
    obtain ⟨q28, e29, hf⟩ := j_bind hf
    refine x_loc [(0, .ref a0), (1, .ref a1), (2, .int a2), (3, .int a3), (4, .int (0 : Int32)), (5, .int (1 : Int32))] rfl ?_
    refine x_loop (s_X7_heckeAt_L16 C hret hdd a0 a1 a2 a3) e29 ?_
    refine x_iload (v := q28.1.1) C dX7_heckeAt_91 rfl ?_
    obtain rfl := j_inj hf
    exact x_iret C hret dX7_heckeAt_93
  · have hf := j_ifn hf c30
    refine x_iconst C dX7_heckeAt_8 ki_0 ?_
    obtain rfl := j_inj hf
    exact x_iret C hret dX7_heckeAt_9
set_option maxHeartbeats 4000000 in
set_option maxRecDepth 100000 in
theorem s_X5_load_L32 {p : Program} {l : Launch} {e : Env} {R : Room} {s : State} {m : MethodId} {args : Array Value} {below : List Frame} {meth : Method} {c : Code} {E : JE} {h0 hF : JH} {rF : Option Value} {d : Nat} (C : j_C p s m args meth c R E cX5_load 5 RX5 h0 hF d) (hret : meth.sig.returnType = none) (hdd : 3 ≤ d) (a0 : Nat) (a1 : Nat) (a2 : Int32) (a3 : Int32) (z : Int32) (h : JH) (r : Int32 ⊕ Int32) (h1 : JH) (hf : f_X5_load_L32 a0 a1 a2 a3 z h = some (r, h1)) (hk : Sum.elim (fun z => Xw p l e R s m args below meth c E 5 h0 rF hF 32 [(0, .ref a0), (1, .ref a1), (2, .int a2), (3, .int a3), (4, .int z)] [] h1) (fun t => Xw p l e R s m args below meth c E 5 h0 rF hF 73 [(0, .ref a0), (1, .ref a1), (2, .int a2), (3, .int a3), (4, .int t)] [] h1) r) : Xw p l e R s m args below meth c E 5 h0 rF hF 32 [(0, .ref a0), (1, .ref a1), (2, .int a2), (3, .int a3), (4, .int z)] [] h := by
  unfold f_X5_load_L32 at hf
  refine x_iload (v := z) C dX5_load_32 rfl ?_
  refine x_aload_n (v := a0) C dX5_load_34 rfl ?_
  obtain ⟨v13, e14, hf⟩ := j_bind hf
  refine x_get C dX5_load_35 (jgI_some e14) fg_X5_36 ?_
  refine x_icmp_ge (tgt := 73) C dX5_load_38 (by decide) (fun c29 => ?_) (fun c29 => ?_)
  · have hf := j_ifp hf c29
    obtain ⟨rfl, rfl⟩ := j_inj2 hf
    exact x_locr hk rfl
  · have hf := j_ifn hf c29
    refine x_aload_n (v := a0) C dX5_load_41 rfl ?_
    obtain ⟨v15, e16, hf⟩ := j_bind hf
    refine x_get C dX5_load_42 (jgR_some e16) fg_X5_17 ?_
    refine x_iload_n (v := a3) C dX5_load_45 rfl ?_
    obtain ⟨v17, e18, hf⟩ := j_bind hf
    refine x_aald C dX5_load_46 e18 ?_
    refine x_iload (v := z) C dX5_load_47 rfl ?_
    refine x_aload_n (v := a1) C dX5_load_49 rfl ?_
    refine x_aload_n (v := a1) C dX5_load_50 rfl ?_
    obtain ⟨v19, e20, hf⟩ := j_bind hf
    refine x_get C dX5_load_51 (jgR_some e20) fg_X5_43 ?_
    refine x_iload_n (v := a3) C dX5_load_54 rfl ?_
    refine x_iconst C dX5_load_55 ki_1 ?_
    refine x_iadd C dX5_load_56 ?_
    obtain ⟨v21, e22, hf⟩ := j_bind hf
    refine x_aald C dX5_load_57 e22 ?_
    refine x_iload_n (v := a2) C dX5_load_58 rfl ?_
    refine x_iload (v := z) C dX5_load_59 rfl ?_
    refine x_iconst C dX5_load_61 ki_1 ?_
    refine x_iadd C dX5_load_62 ?_
    obtain ⟨u27, e28, hf⟩ := j_bind hf
    obtain ⟨q23, e24, hf⟩ := j_bind hf
    refine x_callV (As := [.ref v21, .int a2, .int (z + (1 : Int32))]) (rest := [.int z, .ref v17]) C dX5_load_63 (m_X7_heckeAt (l := l) (E := E) (d := d - 1) (by omega) e24) km_X7_heckeAt lk_X5_46 kv_X7_heckeAt (ci := 5) rfl e28 rfl (by omega) (Nat.le_of_ble_eq_true rfl) (j_le_of (q_X7_heckeAt e24)) (Or.inr (q_X7_heckeAt e24)) ?_
    obtain ⟨h25, e26, hf⟩ := j_bind hf
    refine x_iast C dX5_load_66 e26 ?_
    refine x_iinc (v := z) C dX5_load_67 rfl ki_1 (by decide) ?_
    refine x_goto (tgt := 32) C dX5_load_70 (by decide) ?_
    obtain ⟨rfl, rfl⟩ := j_inj2 hf
    exact x_locr hk rfl
set_option maxHeartbeats 4000000 in
set_option maxRecDepth 100000 in
theorem s_X5_load_L21 {p : Program} {l : Launch} {e : Env} {R : Room} {s : State} {m : MethodId} {args : Array Value} {below : List Frame} {meth : Method} {c : Code} {E : JE} {h0 hF : JH} {rF : Option Value} {d : Nat} (C : j_C p s m args meth c R E cX5_load 5 RX5 h0 hF d) (hret : meth.sig.returnType = none) (hdd : 3 ≤ d) (a0 : Nat) (a1 : Nat) (a2 : Int32) (z : Int32) (h : JH) (r : Int32 ⊕ Int32) (h1 : JH) (hf : f_X5_load_L21 a0 a1 a2 z h = some (r, h1)) (hk : Sum.elim (fun z => Xw p l e R s m args below meth c E 5 h0 rF hF 21 [(0, .ref a0), (1, .ref a1), (2, .int a2), (3, .int z)] [] h1) (fun t => Xw p l e R s m args below meth c E 5 h0 rF hF 79 [(0, .ref a0), (1, .ref a1), (2, .int a2), (3, .int t)] [] h1) r) : Xw p l e R s m args below meth c E 5 h0 rF hF 21 [(0, .ref a0), (1, .ref a1), (2, .int a2), (3, .int z)] [] h := by
  unfold f_X5_load_L21 at hf
  refine x_iload_n (v := z) C dX5_load_21 rfl ?_
  refine x_aload_n (v := a0) C dX5_load_22 rfl ?_
  obtain ⟨v11, e12, hf⟩ := j_bind hf
  refine x_get C dX5_load_23 (jgI_some e12) fg_X5_36 ?_
  refine x_icmp_ge (tgt := 79) C dX5_load_26 (by decide) (fun c15 => ?_) (fun c15 => ?_)
  · have hf := j_ifp hf c15
    obtain ⟨rfl, rfl⟩ := j_inj2 hf
    exact x_locr hk rfl
  · have hf := j_ifn hf c15
    refine x_iconst C dX5_load_29 ki_0 ?_
    refine x_istore C dX5_load_30 (by decide) ?_
    obtain ⟨q13, e14, hf⟩ := j_bind hf
    refine x_loc [(0, .ref a0), (1, .ref a1), (2, .int a2), (3, .int z), (4, .int (0 : Int32))] rfl ?_
    refine x_loop (s_X5_load_L32 C hret hdd a0 a1 a2 z) e14 ?_
    refine x_iinc (v := z) C dX5_load_73 rfl ki_1 (by decide) ?_
    refine x_goto (tgt := 21) C dX5_load_76 (by decide) ?_
    obtain ⟨rfl, rfl⟩ := j_inj2 hf
    exact x_locr hk rfl
set_option maxHeartbeats 4000000 in
set_option maxRecDepth 100000 in
theorem m_X5_load {l : Launch} {E : JE} {d : Nat} (hdd : 3 ≤ d) {a0 : Nat} {a1 : Nat} {a2 : Int32} {h : JH} {q : Unit × JH} (hf : f_X5_load a0 a1 a2 h = some q) : Con l E d yX5_load cX5_load 5 none [.ref a0, .ref a1, .int a2] h (none) q.2 := by
  refine j_start rfl (Nat.le_of_ble_eq_true rfl) ?_
  intro p e s m args below meth c C hret hnm
  refine x_loc [(0, .ref a0), (1, .ref a1), (2, .int a2)] rfl ?_
  unfold f_X5_load at hf
  refine x_aload_n (v := a0) C dX5_load_0 rfl ?_
  refine x_aload_n (v := a1) C dX5_load_1 rfl ?_
  obtain ⟨v1, e2, hf⟩ := j_bind hf
  refine x_get C dX5_load_2 (jgI_some e2) fg_X5_26 ?_
  obtain ⟨q3, e4, hf⟩ := j_bind hf
  refine x_callSN (As := [.int v1]) (rest := [.ref a0]) C dX5_load_5 (m_X11_cuspsOf (l := l) (E := E) (d := d - 1) (by omega) e4) km_X11_cuspsOf lk_X5_32 ks_X11_cuspsOf rfl (by omega) (Nat.le_of_ble_eq_true rfl) (j_le_of (q_X11_cuspsOf e4)) (Or.inr (q_X11_cuspsOf e4)) ?_
  obtain ⟨h5, e6, hf⟩ := j_bind hf
  refine x_put C dX5_load_8 e6 fp_X5_36 rfl rfl ?_
  refine x_aload_n (v := a0) C dX5_load_11 rfl ?_
  refine x_aload_n (v := a1) C dX5_load_12 rfl ?_
  obtain ⟨v7, e8, hf⟩ := j_bind hf
  refine x_get C dX5_load_13 (jgI_some e8) fg_X5_39 ?_
  obtain ⟨h9, e10, hf⟩ := j_bind hf
  refine x_put C dX5_load_16 e10 fp_X5_42 rfl rfl ?_
  refine x_iconst C dX5_load_19 ki_0 ?_
  refine x_istore_n C dX5_load_20 (by decide) ?_
  obtain ⟨q16, e17, hf⟩ := j_bind hf
  refine x_loc [(0, .ref a0), (1, .ref a1), (2, .int a2), (3, .int (0 : Int32))] rfl ?_
  refine x_loop (s_X5_load_L21 C hret hdd a0 a1 a2) e17 ?_
  obtain rfl := j_inj hf
  exact x_vret C hret dX5_load_79
set_option maxHeartbeats 4000000 in
set_option maxRecDepth 100000 in
theorem s_X5_multiplyTableByWork_L25 {p : Program} {l : Launch} {e : Env} {R : Room} {s : State} {m : MethodId} {args : Array Value} {below : List Frame} {meth : Method} {c : Code} {E : JE} {h0 hF : JH} {rF : Option Value} {d : Nat} (C : j_C p s m args meth c R E cX5_multiplyTableByWork 6 RX5 h0 hF d) (hret : meth.sig.returnType = none) (hdd : 1 ≤ d) (a0 : Nat) (a1 : Int32) (a2 : Int32) (z : (Int64 × Int32)) (h : JH) (r : (Int64 × Int32) ⊕ (Int64 × Int32)) (h1 : JH) (hf : f_X5_multiplyTableByWork_L25 a0 a1 a2 z h = some (r, h1)) (hk : Sum.elim (fun z => Xw p l e R s m args below meth c E 6 h0 rF hF 25 [(0, .ref a0), (1, .int a1), (2, .int a2), (3, .long z.1), (5, .int z.2)] [] h1) (fun t => Xw p l e R s m args below meth c E 6 h0 rF hF 64 [(0, .ref a0), (1, .int a1), (2, .int a2), (3, .long t.1), (5, .int t.2)] [] h1) r) : Xw p l e R s m args below meth c E 6 h0 rF hF 25 [(0, .ref a0), (1, .int a1), (2, .int a2), (3, .long z.1), (5, .int z.2)] [] h := by
  unfold f_X5_multiplyTableByWork_L25 at hf
  refine x_iload (v := z.2) C dX5_multiplyTableByWork_25 rfl ?_
  refine x_aload_n (v := a0) C dX5_multiplyTableByWork_27 rfl ?_
  obtain ⟨v5, e6, hf⟩ := j_bind hf
  refine x_get C dX5_multiplyTableByWork_28 (jgI_some e6) fg_X5_36 ?_
  refine x_icmp_ge (tgt := 64) C dX5_multiplyTableByWork_31 (by decide) (fun c19 => ?_) (fun c19 => ?_)
  · have hf := j_ifp hf c19
    obtain ⟨rfl, rfl⟩ := j_inj2 hf
    exact x_locr hk rfl
  · have hf := j_ifn hf c19
    refine x_lload_n (v := z.1) C dX5_multiplyTableByWork_34 rfl ?_
    refine x_aload_n (v := a0) C dX5_multiplyTableByWork_35 rfl ?_
    obtain ⟨v7, e8, hf⟩ := j_bind hf
    refine x_get C dX5_multiplyTableByWork_36 (jgR_some e8) fg_X5_17 ?_
    refine x_iload_n (v := a1) C dX5_multiplyTableByWork_39 rfl ?_
    obtain ⟨v9, e10, hf⟩ := j_bind hf
    refine x_aald C dX5_multiplyTableByWork_40 e10 ?_
    refine x_iload (v := z.2) C dX5_multiplyTableByWork_41 rfl ?_
    obtain ⟨v11, e12, hf⟩ := j_bind hf
    refine x_iald C dX5_multiplyTableByWork_43 e12 ?_
    refine x_i2l C dX5_multiplyTableByWork_44 ?_
    refine x_aload_n (v := a0) C dX5_multiplyTableByWork_45 rfl ?_
    obtain ⟨v13, e14, hf⟩ := j_bind hf
    refine x_get C dX5_multiplyTableByWork_46 (jgR_some e14) fg_X5_20 ?_
    refine x_iload (v := z.2) C dX5_multiplyTableByWork_49 rfl ?_
    obtain ⟨v15, e16, hf⟩ := j_bind hf
    refine x_aald C dX5_multiplyTableByWork_51 e16 ?_
    refine x_iload_n (v := a2) C dX5_multiplyTableByWork_52 rfl ?_
    obtain ⟨v17, e18, hf⟩ := j_bind hf
    refine x_iald C dX5_multiplyTableByWork_53 e18 ?_
    refine x_i2l C dX5_multiplyTableByWork_54 ?_
    refine x_lmul C dX5_multiplyTableByWork_55 ?_
    refine x_ladd C dX5_multiplyTableByWork_56 ?_
    refine x_lstore_n C dX5_multiplyTableByWork_57 (by decide) ?_
    refine x_iinc (v := z.2) C dX5_multiplyTableByWork_58 rfl ki_1 (by decide) ?_
    refine x_goto (tgt := 25) C dX5_multiplyTableByWork_61 (by decide) ?_
    obtain ⟨rfl, rfl⟩ := j_inj2 hf
    exact x_locr hk rfl
set_option maxHeartbeats 4000000 in
set_option maxRecDepth 100000 in
theorem s_X5_multiplyTableByWork_L12 {p : Program} {l : Launch} {e : Env} {R : Room} {s : State} {m : MethodId} {args : Array Value} {below : List Frame} {meth : Method} {c : Code} {E : JE} {h0 hF : JH} {rF : Option Value} {d : Nat} (C : j_C p s m args meth c R E cX5_multiplyTableByWork 6 RX5 h0 hF d) (hret : meth.sig.returnType = none) (hdd : 1 ≤ d) (a0 : Nat) (a1 : Int32) (z : Int32) (h : JH) (r : Int32 ⊕ Int32) (h1 : JH) (hf : f_X5_multiplyTableByWork_L12 a0 a1 z h = some (r, h1)) (hk : Sum.elim (fun z => Xw p l e R s m args below meth c E 6 h0 rF hF 12 [(0, .ref a0), (1, .int a1), (2, .int z)] [] h1) (fun t => Xw p l e R s m args below meth c E 6 h0 rF hF 86 [(0, .ref a0), (1, .int a1), (2, .int t)] [] h1) r) : Xw p l e R s m args below meth c E 6 h0 rF hF 12 [(0, .ref a0), (1, .int a1), (2, .int z)] [] h := by
  unfold f_X5_multiplyTableByWork_L12 at hf
  refine x_iload_n (v := z) C dX5_multiplyTableByWork_12 rfl ?_
  refine x_aload_n (v := a0) C dX5_multiplyTableByWork_13 rfl ?_
  obtain ⟨v3, e4, hf⟩ := j_bind hf
  refine x_get C dX5_multiplyTableByWork_14 (jgI_some e4) fg_X5_36 ?_
  refine x_icmp_ge (tgt := 86) C dX5_multiplyTableByWork_17 (by decide) (fun c17 => ?_) (fun c17 => ?_)
  · have hf := j_ifp hf c17
    obtain ⟨rfl, rfl⟩ := j_inj2 hf
    exact x_locr hk rfl
  · have hf := j_ifn hf c17
    refine x_lconst C dX5_multiplyTableByWork_20 kl_0 ?_
    refine x_lstore_n C dX5_multiplyTableByWork_21 (by decide) ?_
    refine x_iconst C dX5_multiplyTableByWork_22 ki_0 ?_
    refine x_istore C dX5_multiplyTableByWork_23 (by decide) ?_
    obtain ⟨q5, e6, hf⟩ := j_bind hf
    refine x_loc [(0, .ref a0), (1, .int a1), (2, .int z), (3, .long (0 : Int64)), (5, .int (0 : Int32))] rfl ?_
    refine x_loop (s_X5_multiplyTableByWork_L25 C hret hdd a0 a1 z) e6 ?_
    refine x_aload_n (v := a0) C dX5_multiplyTableByWork_64 rfl ?_
    obtain ⟨v7, e8, hf⟩ := j_bind hf
    refine x_get C dX5_multiplyTableByWork_65 (jgR_some e8) fg_X5_23 ?_
    refine x_iload_n (v := a1) C dX5_multiplyTableByWork_68 rfl ?_
    obtain ⟨v9, e10, hf⟩ := j_bind hf
    refine x_aald C dX5_multiplyTableByWork_69 e10 ?_
    refine x_iload_n (v := z) C dX5_multiplyTableByWork_70 rfl ?_
    refine x_lload_n (v := q5.1.1) C dX5_multiplyTableByWork_71 rfl ?_
    refine x_aload_n (v := a0) C dX5_multiplyTableByWork_72 rfl ?_
    obtain ⟨v11, e12, hf⟩ := j_bind hf
    refine x_get C dX5_multiplyTableByWork_73 (jgI_some e12) fg_X5_42 ?_
    obtain ⟨q13, e14, hf⟩ := j_bind hf
    refine x_callS (As := [.long q5.1.1, .int v11]) (rest := [.int z, .ref v9]) C dX5_multiplyTableByWork_76 (m_X4_of (l := l) (E := E) (d := d - 1) (by omega) e14) km_X4_of lk_X5_63 ks_X4_of rfl (by omega) (Nat.le_of_ble_eq_true rfl) (j_le_of (q_X4_of e14)) (Or.inr (q_X4_of e14)) ?_
    obtain ⟨h15, e16, hf⟩ := j_bind hf
    refine x_iast C dX5_multiplyTableByWork_79 e16 ?_
    refine x_iinc (v := z) C dX5_multiplyTableByWork_80 rfl ki_1 (by decide) ?_
    refine x_goto (tgt := 12) C dX5_multiplyTableByWork_83 (by decide) ?_
    obtain ⟨rfl, rfl⟩ := j_inj2 hf
    exact x_locr hk rfl
set_option maxHeartbeats 4000000 in
set_option maxRecDepth 100000 in
theorem s_X5_multiplyTableByWork_L2 {p : Program} {l : Launch} {e : Env} {R : Room} {s : State} {m : MethodId} {args : Array Value} {below : List Frame} {meth : Method} {c : Code} {E : JE} {h0 hF : JH} {rF : Option Value} {d : Nat} (C : j_C p s m args meth c R E cX5_multiplyTableByWork 6 RX5 h0 hF d) (hret : meth.sig.returnType = none) (hdd : 1 ≤ d) (a0 : Nat) (z : Int32) (h : JH) (r : Int32 ⊕ Int32) (h1 : JH) (hf : f_X5_multiplyTableByWork_L2 a0 z h = some (r, h1)) (hk : Sum.elim (fun z => Xw p l e R s m args below meth c E 6 h0 rF hF 2 [(0, .ref a0), (1, .int z)] [] h1) (fun t => Xw p l e R s m args below meth c E 6 h0 rF hF 92 [(0, .ref a0), (1, .int t)] [] h1) r) : Xw p l e R s m args below meth c E 6 h0 rF hF 2 [(0, .ref a0), (1, .int z)] [] h := by
  unfold f_X5_multiplyTableByWork_L2 at hf
  refine x_iload_n (v := z) C dX5_multiplyTableByWork_2 rfl ?_
  refine x_aload_n (v := a0) C dX5_multiplyTableByWork_3 rfl ?_
  obtain ⟨v1, e2, hf⟩ := j_bind hf
  refine x_get C dX5_multiplyTableByWork_4 (jgI_some e2) fg_X5_36 ?_
  refine x_icmp_ge (tgt := 92) C dX5_multiplyTableByWork_7 (by decide) (fun c5 => ?_) (fun c5 => ?_)
  · have hf := j_ifp hf c5
    obtain ⟨rfl, rfl⟩ := j_inj2 hf
    exact x_locr hk rfl
  · have hf := j_ifn hf c5
    refine x_iconst C dX5_multiplyTableByWork_10 ki_0 ?_
    refine x_istore_n C dX5_multiplyTableByWork_11 (by decide) ?_
    obtain ⟨q3, e4, hf⟩ := j_bind hf
    refine x_loc [(0, .ref a0), (1, .int z), (2, .int (0 : Int32))] rfl ?_
    refine x_loop (s_X5_multiplyTableByWork_L12 C hret hdd a0 z) e4 ?_
    refine x_iinc (v := z) C dX5_multiplyTableByWork_86 rfl ki_1 (by decide) ?_
    refine x_goto (tgt := 2) C dX5_multiplyTableByWork_89 (by decide) ?_
    obtain ⟨rfl, rfl⟩ := j_inj2 hf
    exact x_locr hk rfl
set_option maxHeartbeats 4000000 in
set_option maxRecDepth 100000 in
theorem m_X5_multiplyTableByWork {l : Launch} {E : JE} {d : Nat} (hdd : 1 ≤ d) {a0 : Nat} {h : JH} {q : Unit × JH} (hf : f_X5_multiplyTableByWork a0 h = some q) : Con l E d yX5_multiplyTableByWork cX5_multiplyTableByWork 6 none [.ref a0] h (none) q.2 := by
  refine j_start rfl (Nat.le_of_ble_eq_true rfl) ?_
  intro p e s m args below meth c C hret hnm
  refine x_loc [(0, .ref a0)] rfl ?_
  unfold f_X5_multiplyTableByWork at hf
  refine x_iconst C dX5_multiplyTableByWork_0 ki_0 ?_
  refine x_istore_n C dX5_multiplyTableByWork_1 (by decide) ?_
  obtain ⟨q6, e7, hf⟩ := j_bind hf
  refine x_loc [(0, .ref a0), (1, .int (0 : Int32))] rfl ?_
  refine x_loop (s_X5_multiplyTableByWork_L2 C hret hdd a0) e7 ?_
  obtain rfl := j_inj hf
  exact x_vret C hret dX5_multiplyTableByWork_92
set_option maxHeartbeats 4000000 in
set_option maxRecDepth 100000 in
theorem s_X5_takeProduct_L2 {p : Program} {l : Launch} {e : Env} {R : Room} {s : State} {m : MethodId} {args : Array Value} {below : List Frame} {meth : Method} {c : Code} {E : JE} {h0 hF : JH} {rF : Option Value} {d : Nat} (C : j_C p s m args meth c R E cX5_takeProduct 3 RX5 h0 hF d) (hret : meth.sig.returnType = none) (hdd : 1 ≤ d) (a0 : Nat) (a1 : Int32) (z : Int32) (h : JH) (r : Int32 ⊕ Int32) (h1 : JH) (hf : f_X5_takeProduct_L2 a0 a1 z h = some (r, h1)) (hk : Sum.elim (fun z => Xw p l e R s m args below meth c E 3 h0 rF hF 2 [(0, .ref a0), (1, .int a1), (2, .int z)] [] h1) (fun t => Xw p l e R s m args below meth c E 3 h0 rF hF 63 [(0, .ref a0), (1, .int a1), (2, .int t)] [] h1) r) : Xw p l e R s m args below meth c E 3 h0 rF hF 2 [(0, .ref a0), (1, .int a1), (2, .int z)] [] h := by
  unfold f_X5_takeProduct_L2 at hf
  refine x_iload_n (v := z) C dX5_takeProduct_2 rfl ?_
  refine x_aload_n (v := a0) C dX5_takeProduct_3 rfl ?_
  obtain ⟨v1, e2, hf⟩ := j_bind hf
  refine x_get C dX5_takeProduct_4 (jgI_some e2) fg_X5_36 ?_
  refine x_icmp_ge (tgt := 63) C dX5_takeProduct_7 (by decide) (fun c31 => ?_) (fun c31 => ?_)
  · have hf := j_ifp hf c31
    obtain ⟨rfl, rfl⟩ := j_inj2 hf
    exact x_locr hk rfl
  · have hf := j_ifn hf c31
    refine x_aload_n (v := a0) C dX5_takeProduct_10 rfl ?_
    obtain ⟨v3, e4, hf⟩ := j_bind hf
    refine x_get C dX5_takeProduct_11 (jgR_some e4) fg_X5_23 ?_
    refine x_iload_n (v := z) C dX5_takeProduct_14 rfl ?_
    obtain ⟨v5, e6, hf⟩ := j_bind hf
    refine x_aald C dX5_takeProduct_15 e6 ?_
    refine x_iconst C dX5_takeProduct_16 ki_0 ?_
    refine x_aload_n (v := a0) C dX5_takeProduct_17 rfl ?_
    obtain ⟨v7, e8, hf⟩ := j_bind hf
    refine x_get C dX5_takeProduct_18 (jgR_some e8) fg_X5_20 ?_
    refine x_iload_n (v := z) C dX5_takeProduct_21 rfl ?_
    obtain ⟨v9, e10, hf⟩ := j_bind hf
    refine x_aald C dX5_takeProduct_22 e10 ?_
    refine x_iconst C dX5_takeProduct_23 ki_0 ?_
    refine x_aload_n (v := a0) C dX5_takeProduct_24 rfl ?_
    obtain ⟨v11, e12, hf⟩ := j_bind hf
    refine x_get C dX5_takeProduct_25 (jgI_some e12) fg_X5_36 ?_
    obtain ⟨h13, e14, hf⟩ := j_bind hf
    refine x_copyi C dX5_takeProduct_28 e14 ⟨lk_X5_73, w_acp⟩ (by omega) (Nat.le_of_ble_eq_true rfl) ?_
    refine x_aload_n (v := a0) C dX5_takeProduct_31 rfl ?_
    obtain ⟨v15, e16, hf⟩ := j_bind hf
    refine x_get C dX5_takeProduct_32 (jgR_some e16) fg_X5_20 ?_
    refine x_iload_n (v := z) C dX5_takeProduct_35 rfl ?_
    obtain ⟨v17, e18, hf⟩ := j_bind hf
    refine x_aald C dX5_takeProduct_36 e18 ?_
    refine x_iload_n (v := z) C dX5_takeProduct_37 rfl ?_
    refine x_aload_n (v := a0) C dX5_takeProduct_38 rfl ?_
    obtain ⟨v19, e20, hf⟩ := j_bind hf
    refine x_get C dX5_takeProduct_39 (jgR_some e20) fg_X5_20 ?_
    refine x_iload_n (v := z) C dX5_takeProduct_42 rfl ?_
    obtain ⟨v21, e22, hf⟩ := j_bind hf
    refine x_aald C dX5_takeProduct_43 e22 ?_
    refine x_iload_n (v := z) C dX5_takeProduct_44 rfl ?_
    obtain ⟨v23, e24, hf⟩ := j_bind hf
    refine x_iald C dX5_takeProduct_45 e24 ?_
    refine x_iload_n (v := a1) C dX5_takeProduct_46 rfl ?_
    refine x_iadd C dX5_takeProduct_47 ?_
    refine x_i2l C dX5_takeProduct_48 ?_
    refine x_aload_n (v := a0) C dX5_takeProduct_49 rfl ?_
    obtain ⟨v25, e26, hf⟩ := j_bind hf
    refine x_get C dX5_takeProduct_50 (jgI_some e26) fg_X5_42 ?_
    obtain ⟨q27, e28, hf⟩ := j_bind hf
    refine x_callS (As := [.long ((v23 + a1).toInt64), .int v25]) (rest := [.int z, .ref v17]) C dX5_takeProduct_53 (m_X4_of (l := l) (E := E) (d := d - 1) (by omega) e28) km_X4_of lk_X5_63 ks_X4_of rfl (by omega) (Nat.le_of_ble_eq_true rfl) (j_le_of (q_X4_of e28)) (Or.inr (q_X4_of e28)) ?_
    obtain ⟨h29, e30, hf⟩ := j_bind hf
    refine x_iast C dX5_takeProduct_56 e30 ?_
    refine x_iinc (v := z) C dX5_takeProduct_57 rfl ki_1 (by decide) ?_
    refine x_goto (tgt := 2) C dX5_takeProduct_60 (by decide) ?_
    obtain ⟨rfl, rfl⟩ := j_inj2 hf
    exact x_locr hk rfl
set_option maxHeartbeats 4000000 in
set_option maxRecDepth 100000 in
theorem m_X5_takeProduct {l : Launch} {E : JE} {d : Nat} (hdd : 1 ≤ d) {a0 : Nat} {a1 : Int32} {h : JH} {q : Unit × JH} (hf : f_X5_takeProduct a0 a1 h = some q) : Con l E d yX5_takeProduct cX5_takeProduct 3 none [.ref a0, .int a1] h (none) q.2 := by
  refine j_start rfl (Nat.le_of_ble_eq_true rfl) ?_
  intro p e s m args below meth c C hret hnm
  refine x_loc [(0, .ref a0), (1, .int a1)] rfl ?_
  unfold f_X5_takeProduct at hf
  refine x_iconst C dX5_takeProduct_0 ki_0 ?_
  refine x_istore_n C dX5_takeProduct_1 (by decide) ?_
  obtain ⟨q32, e33, hf⟩ := j_bind hf
  refine x_loc [(0, .ref a0), (1, .int a1), (2, .int (0 : Int32))] rfl ?_
  refine x_loop (s_X5_takeProduct_L2 C hret hdd a0 a1) e33 ?_
  obtain rfl := j_inj hf
  exact x_vret C hret dX5_takeProduct_63
set_option maxHeartbeats 4000000 in
set_option maxRecDepth 100000 in
theorem s_X5_findPolynomial_L2 {p : Program} {l : Launch} {e : Env} {R : Room} {s : State} {m : MethodId} {args : Array Value} {below : List Frame} {meth : Method} {c : Code} {E : JE} {h0 hF : JH} {rF : Option Value} {d : Nat} (C : j_C p s m args meth c R E cX5_findPolynomial 5 RX5 h0 hF d) (hret : meth.sig.returnType = none) (hdd : 3 ≤ d) (a0 : Nat) (z : Int32) (h : JH) (r : Int32 ⊕ Int32) (h1 : JH) (hf : f_X5_findPolynomial_L2 a0 z h = some (r, h1)) (hk : Sum.elim (fun z => Xw p l e R s m args below meth c E 5 h0 rF hF 2 [(0, .ref a0), (1, .int z)] [] h1) (fun t => Xw p l e R s m args below meth c E 5 h0 rF hF 26 [(0, .ref a0), (1, .int t)] [] h1) r) : Xw p l e R s m args below meth c E 5 h0 rF hF 2 [(0, .ref a0), (1, .int z)] [] h := by
  unfold f_X5_findPolynomial_L2 at hf
  refine x_iload_n (v := z) C dX5_findPolynomial_2 rfl ?_
  refine x_aload_n (v := a0) C dX5_findPolynomial_3 rfl ?_
  obtain ⟨v1, e2, hf⟩ := j_bind hf
  refine x_get C dX5_findPolynomial_4 (jgI_some e2) fg_X5_36 ?_
  refine x_icmp_ge (tgt := 26) C dX5_findPolynomial_7 (by decide) (fun c9 => ?_) (fun c9 => ?_)
  · have hf := j_ifp hf c9
    obtain ⟨rfl, rfl⟩ := j_inj2 hf
    exact x_locr hk rfl
  · have hf := j_ifn hf c9
    refine x_aload_n (v := a0) C dX5_findPolynomial_10 rfl ?_
    obtain ⟨v3, e4, hf⟩ := j_bind hf
    refine x_get C dX5_findPolynomial_11 (jgR_some e4) fg_X5_23 ?_
    refine x_iload_n (v := z) C dX5_findPolynomial_14 rfl ?_
    obtain ⟨v5, e6, hf⟩ := j_bind hf
    refine x_aald C dX5_findPolynomial_15 e6 ?_
    refine x_iconst C dX5_findPolynomial_16 ki_0 ?_
    obtain ⟨q7, e8, hf⟩ := j_bind hf
    refine x_callS (As := [.ref v5, .int (0 : Int32)]) (rest := []) C dX5_findPolynomial_17 (m_J7_fill_53178 (l := l) (E := E) (d := d - 1) (by omega) e8) km_J7_fill_53178 lk_X5_50 ks_J7_fill_53178 rfl (by omega) (Nat.le_of_ble_eq_true rfl) (j_le_of (q_J7_fill_53178 e8)) (Or.inr (q_J7_fill_53178 e8)) ?_
    refine x_iinc (v := z) C dX5_findPolynomial_20 rfl ki_1 (by decide) ?_
    refine x_goto (tgt := 2) C dX5_findPolynomial_23 (by decide) ?_
    obtain ⟨rfl, rfl⟩ := j_inj2 hf
    exact x_locr hk rfl
set_option maxHeartbeats 4000000 in
set_option maxRecDepth 100000 in
theorem s_X5_findPolynomial_L72 {p : Program} {l : Launch} {e : Env} {R : Room} {s : State} {m : MethodId} {args : Array Value} {below : List Frame} {meth : Method} {c : Code} {E : JE} {h0 hF : JH} {rF : Option Value} {d : Nat} (C : j_C p s m args meth c R E cX5_findPolynomial 5 RX5 h0 hF d) (hret : meth.sig.returnType = none) (hdd : 3 ≤ d) (a0 : Nat) (a1 : Int32) (z : (Int64 × Int32)) (h : JH) (r : (Int64 × Int32) ⊕ (Int64 × Int32)) (h1 : JH) (hf : f_X5_findPolynomial_L72 a0 a1 z h = some (r, h1)) (hk : Sum.elim (fun z => Xw p l e R s m args below meth c E 5 h0 rF hF 72 [(0, .ref a0), (1, .int a1), (2, .long z.1), (4, .int z.2)] [] h1) (fun t => Xw p l e R s m args below meth c E 5 h0 rF hF 101 [(0, .ref a0), (1, .int a1), (2, .long t.1), (4, .int t.2)] [] h1) r) : Xw p l e R s m args below meth c E 5 h0 rF hF 72 [(0, .ref a0), (1, .int a1), (2, .long z.1), (4, .int z.2)] [] h := by
  unfold f_X5_findPolynomial_L72 at hf
  refine x_iload (v := z.2) C dX5_findPolynomial_72 rfl ?_
  refine x_aload_n (v := a0) C dX5_findPolynomial_74 rfl ?_
  obtain ⟨v30, e31, hf⟩ := j_bind hf
  refine x_get C dX5_findPolynomial_75 (jgI_some e31) fg_X5_36 ?_
  refine x_icmp_ge (tgt := 101) C dX5_findPolynomial_78 (by decide) (fun c38 => ?_) (fun c38 => ?_)
  · have hf := j_ifp hf c38
    obtain ⟨rfl, rfl⟩ := j_inj2 hf
    exact x_locr hk rfl
  · have hf := j_ifn hf c38
    refine x_lload_n (v := z.1) C dX5_findPolynomial_81 rfl ?_
    refine x_aload_n (v := a0) C dX5_findPolynomial_82 rfl ?_
    obtain ⟨v32, e33, hf⟩ := j_bind hf
    refine x_get C dX5_findPolynomial_83 (jgR_some e33) fg_X5_23 ?_
    refine x_iload (v := z.2) C dX5_findPolynomial_86 rfl ?_
    obtain ⟨v34, e35, hf⟩ := j_bind hf
    refine x_aald C dX5_findPolynomial_88 e35 ?_
    refine x_iload (v := z.2) C dX5_findPolynomial_89 rfl ?_
    obtain ⟨v36, e37, hf⟩ := j_bind hf
    refine x_iald C dX5_findPolynomial_91 e37 ?_
    refine x_i2l C dX5_findPolynomial_92 ?_
    refine x_ladd C dX5_findPolynomial_93 ?_
    refine x_lstore_n C dX5_findPolynomial_94 (by decide) ?_
    refine x_iinc (v := z.2) C dX5_findPolynomial_95 rfl ki_1 (by decide) ?_
    refine x_goto (tgt := 72) C dX5_findPolynomial_98 (by decide) ?_
    obtain ⟨rfl, rfl⟩ := j_inj2 hf
    exact x_locr hk rfl
set_option maxHeartbeats 4000000 in
set_option maxRecDepth 100000 in
theorem s_X5_findPolynomial_L38 {p : Program} {l : Launch} {e : Env} {R : Room} {s : State} {m : MethodId} {args : Array Value} {below : List Frame} {meth : Method} {c : Code} {E : JE} {h0 hF : JH} {rF : Option Value} {d : Nat} (C : j_C p s m args meth c R E cX5_findPolynomial 5 RX5 h0 hF d) (hret : meth.sig.returnType = none) (hdd : 3 ≤ d) (a0 : Nat) (z : Int32) (h : JH) (r : Int32 ⊕ Int32) (h1 : JH) (hf : f_X5_findPolynomial_L38 a0 z h = some (r, h1)) (hk : Sum.elim (fun z => Xw p l e R s m args below meth c E 5 h0 rF hF 38 [(0, .ref a0), (1, .int z)] [] h1) (fun t => Xw p l e R s m args below meth c E 5 h0 rF hF 135 [(0, .ref a0), (1, .int t)] [] h1) r) : Xw p l e R s m args below meth c E 5 h0 rF hF 38 [(0, .ref a0), (1, .int z)] [] h := by
  unfold f_X5_findPolynomial_L38 at hf
  refine x_iload_n (v := z) C dX5_findPolynomial_38 rfl ?_
  refine x_aload_n (v := a0) C dX5_findPolynomial_39 rfl ?_
  obtain ⟨v18, e19, hf⟩ := j_bind hf
  refine x_get C dX5_findPolynomial_40 (jgI_some e19) fg_X5_36 ?_
  refine x_icmp_gt (tgt := 135) C dX5_findPolynomial_43 (by decide) (fun c50 => ?_) (fun c50 => ?_)
  · have hf := j_ifp hf c50
    obtain ⟨rfl, rfl⟩ := j_inj2 hf
    exact x_locr hk rfl
  · have hf := j_ifn hf c50
    refine x_aload_n (v := a0) C dX5_findPolynomial_46 rfl ?_
    refine x_aload_n (v := a0) C dX5_findPolynomial_47 rfl ?_
    obtain ⟨v20, e21, hf⟩ := j_bind hf
    refine x_get C dX5_findPolynomial_48 (jgR_some e21) fg_X5_9 ?_
    refine x_aload_n (v := a0) C dX5_findPolynomial_51 rfl ?_
    obtain ⟨v22, e23, hf⟩ := j_bind hf
    refine x_get C dX5_findPolynomial_52 (jgI_some e23) fg_X5_36 ?_
    refine x_iload_n (v := z) C dX5_findPolynomial_55 rfl ?_
    refine x_isub C dX5_findPolynomial_56 ?_
    refine x_iconst C dX5_findPolynomial_57 ki_1 ?_
    refine x_iadd C dX5_findPolynomial_58 ?_
    obtain ⟨v24, e25, hf⟩ := j_bind hf
    refine x_iald C dX5_findPolynomial_59 e25 ?_
    obtain ⟨u48, e49, hf⟩ := j_bind hf
    obtain ⟨q26, e27, hf⟩ := j_bind hf
    refine x_callV (As := [.int v24]) (rest := []) C dX5_findPolynomial_60 (m_X5_takeProduct (l := l) (E := E) (d := d - 1) (by omega) e27) km_X5_takeProduct lk_X5_56 kv_X5_takeProduct (ci := 3) rfl e49 rfl (by omega) (Nat.le_of_ble_eq_true rfl) (j_le_of (q_X5_takeProduct e27)) (Or.inr (q_X5_takeProduct e27)) ?_
    refine x_aload_n (v := a0) C dX5_findPolynomial_63 rfl ?_
    obtain ⟨u46, e47, hf⟩ := j_bind hf
    obtain ⟨q28, e29, hf⟩ := j_bind hf
    refine x_callV (As := []) (rest := []) C dX5_findPolynomial_64 (m_X5_multiplyTableByWork (l := l) (E := E) (d := d - 1) (by omega) e29) km_X5_multiplyTableByWork lk_X5_60 kv_X5_multiplyTableByWork (ci := 3) rfl e47 rfl (by omega) (Nat.le_of_ble_eq_true rfl) (j_le_of (q_X5_multiplyTableByWork e29)) (Or.inr (q_X5_multiplyTableByWork e29)) ?_
    refine x_lconst C dX5_findPolynomial_67 kl_0 ?_
    refine x_lstore_n C dX5_findPolynomial_68 (by decide) ?_
    refine x_iconst C dX5_findPolynomial_69 ki_0 ?_
    refine x_istore C dX5_findPolynomial_70 (by decide) ?_
    obtain ⟨q30, e31, hf⟩ := j_bind hf
    refine x_loc [(0, .ref a0), (1, .int z), (2, .long (0 : Int64)), (4, .int (0 : Int32))] rfl ?_
    refine x_loop (s_X5_findPolynomial_L72 C hret hdd a0 z) e31 ?_
    refine x_aload_n (v := a0) C dX5_findPolynomial_101 rfl ?_
    obtain ⟨v32, e33, hf⟩ := j_bind hf
    refine x_get C dX5_findPolynomial_102 (jgR_some e33) fg_X5_9 ?_
    refine x_aload_n (v := a0) C dX5_findPolynomial_105 rfl ?_
    obtain ⟨v34, e35, hf⟩ := j_bind hf
    refine x_get C dX5_findPolynomial_106 (jgI_some e35) fg_X5_36 ?_
    refine x_iload_n (v := z) C dX5_findPolynomial_109 rfl ?_
    refine x_isub C dX5_findPolynomial_110 ?_
    refine x_lload_n (v := q30.1.1) C dX5_findPolynomial_111 rfl ?_
    refine x_lneg C dX5_findPolynomial_112 ?_
    refine x_aload_n (v := a0) C dX5_findPolynomial_113 rfl ?_
    obtain ⟨v36, e37, hf⟩ := j_bind hf
    refine x_get C dX5_findPolynomial_114 (jgI_some e37) fg_X5_42 ?_
    obtain ⟨q38, e39, hf⟩ := j_bind hf
    refine x_callS (As := [.long (-q30.1.1), .int v36]) (rest := [.int (v34 - z), .ref v32]) C dX5_findPolynomial_117 (m_X4_of (l := l) (E := E) (d := d - 1) (by omega) e39) km_X4_of lk_X5_63 ks_X4_of rfl (by omega) (Nat.le_of_ble_eq_true rfl) (j_le_of (q_X4_of e39)) (Or.inr (q_X4_of e39)) ?_
    refine x_iload_n (v := z) C dX5_findPolynomial_120 rfl ?_
    refine x_aload_n (v := a0) C dX5_findPolynomial_121 rfl ?_
    obtain ⟨v40, e41, hf⟩ := j_bind hf
    refine x_get C dX5_findPolynomial_122 (jgI_some e41) fg_X5_42 ?_
    obtain ⟨q42, e43, hf⟩ := j_bind hf
    refine x_callS (As := [.int q38.1, .int z, .int v40]) (rest := [.int (v34 - z), .ref v32]) C dX5_findPolynomial_125 (m_X4_divide (l := l) (E := E) (d := d - 1) (by omega) e43) km_X4_divide lk_X5_69 ks_X4_divide rfl (by omega) (Nat.le_of_ble_eq_true rfl) (j_le_of (q_X4_divide e43)) (Or.inr (q_X4_divide e43)) ?_
    obtain ⟨h44, e45, hf⟩ := j_bind hf
    refine x_iast C dX5_findPolynomial_128 e45 ?_
    refine x_iinc (v := z) C dX5_findPolynomial_129 rfl ki_1 (by decide) ?_
    refine x_goto (tgt := 38) C dX5_findPolynomial_132 (by decide) ?_
    obtain ⟨rfl, rfl⟩ := j_inj2 hf
    exact x_locr hk rfl
set_option maxHeartbeats 4000000 in
set_option maxRecDepth 100000 in
theorem m_X5_findPolynomial {l : Launch} {E : JE} {d : Nat} (hdd : 3 ≤ d) {a0 : Nat} {h : JH} {q : Unit × JH} (hf : f_X5_findPolynomial a0 h = some q) : Con l E d yX5_findPolynomial cX5_findPolynomial 5 none [.ref a0] h (none) q.2 := by
  refine j_start rfl (Nat.le_of_ble_eq_true rfl) ?_
  intro p e s m args below meth c C hret hnm
  refine x_loc [(0, .ref a0)] rfl ?_
  unfold f_X5_findPolynomial at hf
  refine x_iconst C dX5_findPolynomial_0 ki_0 ?_
  refine x_istore_n C dX5_findPolynomial_1 (by decide) ?_
  obtain ⟨q10, e11, hf⟩ := j_bind hf
  refine x_loc [(0, .ref a0), (1, .int (0 : Int32))] rfl ?_
  refine x_loop (s_X5_findPolynomial_L2 C hret hdd a0) e11 ?_
  refine x_aload_n (v := a0) C dX5_findPolynomial_26 rfl ?_
  obtain ⟨v12, e13, hf⟩ := j_bind hf
  refine x_get C dX5_findPolynomial_27 (jgR_some e13) fg_X5_9 ?_
  refine x_aload_n (v := a0) C dX5_findPolynomial_30 rfl ?_
  obtain ⟨v14, e15, hf⟩ := j_bind hf
  refine x_get C dX5_findPolynomial_31 (jgI_some e15) fg_X5_36 ?_
  refine x_iconst C dX5_findPolynomial_34 ki_1 ?_
  obtain ⟨h16, e17, hf⟩ := j_bind hf
  refine x_iast C dX5_findPolynomial_35 e17 ?_
  refine x_iconst C dX5_findPolynomial_36 ki_1 ?_
  refine x_istore_n C dX5_findPolynomial_37 (by decide) ?_
  obtain ⟨q51, e52, hf⟩ := j_bind hf
  refine x_loc [(0, .ref a0), (1, .int (1 : Int32))] rfl ?_
  refine x_loop (s_X5_findPolynomial_L38 C hret hdd a0) e52 ?_
  obtain rfl := j_inj hf
  exact x_vret C hret dX5_findPolynomial_135
set_option maxHeartbeats 4000000 in
set_option maxRecDepth 100000 in
theorem s_X5_polynomialAt_L7 {p : Program} {l : Launch} {e : Env} {R : Room} {s : State} {m : MethodId} {args : Array Value} {below : List Frame} {meth : Method} {c : Code} {E : JE} {h0 hF : JH} {rF : Option Value} {d : Nat} (C : j_C p s m args meth c R E cX5_polynomialAt 4 RX5 h0 hF d) (hret : meth.sig.returnType = (some .int)) (hdd : 1 ≤ d) (a0 : Nat) (a1 : Int32) (z : (Int32 × Int32)) (h : JH) (r : (Int32 × Int32) ⊕ (Int32 × Int32)) (h1 : JH) (hf : f_X5_polynomialAt_L7 a0 a1 z h = some (r, h1)) (hk : Sum.elim (fun z => Xw p l e R s m args below meth c E 4 h0 rF hF 7 [(0, .ref a0), (1, .int a1), (2, .int z.1), (3, .int z.2)] [] h1) (fun t => Xw p l e R s m args below meth c E 4 h0 rF hF 38 [(0, .ref a0), (1, .int a1), (2, .int t.1), (3, .int t.2)] [] h1) r) : Xw p l e R s m args below meth c E 4 h0 rF hF 7 [(0, .ref a0), (1, .int a1), (2, .int z.1), (3, .int z.2)] [] h := by
  unfold f_X5_polynomialAt_L7 at hf
  refine x_iload_n (v := z.2) C dX5_polynomialAt_7 rfl ?_
  refine x_if_lt (tgt := 38) C dX5_polynomialAt_8 (by decide) (fun c11 => ?_) (fun c11 => ?_)
  · have hf := j_ifp hf c11
    obtain ⟨rfl, rfl⟩ := j_inj2 hf
    exact x_locr hk rfl
  · have hf := j_ifn hf c11
    refine x_iload_n (v := z.1) C dX5_polynomialAt_11 rfl ?_
    refine x_i2l C dX5_polynomialAt_12 ?_
    refine x_iload_n (v := a1) C dX5_polynomialAt_13 rfl ?_
    refine x_i2l C dX5_polynomialAt_14 ?_
    refine x_lmul C dX5_polynomialAt_15 ?_
    refine x_aload_n (v := a0) C dX5_polynomialAt_16 rfl ?_
    obtain ⟨v3, e4, hf⟩ := j_bind hf
    refine x_get C dX5_polynomialAt_17 (jgR_some e4) fg_X5_9 ?_
    refine x_iload_n (v := z.2) C dX5_polynomialAt_20 rfl ?_
    obtain ⟨v5, e6, hf⟩ := j_bind hf
    refine x_iald C dX5_polynomialAt_21 e6 ?_
    refine x_i2l C dX5_polynomialAt_22 ?_
    refine x_ladd C dX5_polynomialAt_23 ?_
    refine x_aload_n (v := a0) C dX5_polynomialAt_24 rfl ?_
    obtain ⟨v7, e8, hf⟩ := j_bind hf
    refine x_get C dX5_polynomialAt_25 (jgI_some e8) fg_X5_42 ?_
    obtain ⟨q9, e10, hf⟩ := j_bind hf
    refine x_callS (As := [.long ((z.1.toInt64 * a1.toInt64) + v5.toInt64), .int v7]) (rest := []) C dX5_polynomialAt_28 (m_X4_of (l := l) (E := E) (d := d - 1) (by omega) e10) km_X4_of lk_X5_63 ks_X4_of rfl (by omega) (Nat.le_of_ble_eq_true rfl) (j_le_of (q_X4_of e10)) (Or.inr (q_X4_of e10)) ?_
    refine x_istore_n C dX5_polynomialAt_31 (by decide) ?_
    refine x_iinc (v := z.2) C dX5_polynomialAt_32 rfl ki_m1 (by decide) ?_
    refine x_goto (tgt := 7) C dX5_polynomialAt_35 (by decide) ?_
    obtain ⟨rfl, rfl⟩ := j_inj2 hf
    exact x_locr hk rfl
set_option maxHeartbeats 4000000 in
set_option maxRecDepth 100000 in
theorem m_X5_polynomialAt {l : Launch} {E : JE} {d : Nat} (hdd : 1 ≤ d) {a0 : Nat} {a1 : Int32} {h : JH} {q : Int32 × JH} (hf : f_X5_polynomialAt a0 a1 h = some q) : Con l E d yX5_polynomialAt cX5_polynomialAt 4 (some .int) [.ref a0, .int a1] h (some (.int q.1)) q.2 := by
  refine j_start rfl (Nat.le_of_ble_eq_true rfl) ?_
  intro p e s m args below meth c C hret hnm
  refine x_loc [(0, .ref a0), (1, .int a1)] rfl ?_
  unfold f_X5_polynomialAt at hf
  refine x_iconst C dX5_polynomialAt_0 ki_0 ?_
  refine x_istore_n C dX5_polynomialAt_1 (by decide) ?_
  refine x_aload_n (v := a0) C dX5_polynomialAt_2 rfl ?_
  obtain ⟨v1, e2, hf⟩ := j_bind hf
  refine x_get C dX5_polynomialAt_3 (jgI_some e2) fg_X5_36 ?_
  refine x_istore_n C dX5_polynomialAt_6 (by decide) ?_
  obtain ⟨q12, e13, hf⟩ := j_bind hf
  refine x_loc [(0, .ref a0), (1, .int a1), (2, .int (0 : Int32)), (3, .int v1)] rfl ?_
  refine x_loop (s_X5_polynomialAt_L7 C hret hdd a0 a1) e13 ?_
  refine x_iload_n (v := q12.1.1) C dX5_polynomialAt_38 rfl ?_
  obtain rfl := j_inj hf
  exact x_iret C hret dX5_polynomialAt_39
set_option maxHeartbeats 4000000 in
set_option maxRecDepth 100000 in
theorem s_X5_findRoots_L4 {p : Program} {l : Launch} {e : Env} {R : Room} {s : State} {m : MethodId} {args : Array Value} {below : List Frame} {meth : Method} {c : Code} {E : JE} {h0 hF : JH} {rF : Option Value} {d : Nat} (C : j_C p s m args meth c R E cX5_findRoots 4 RX5 h0 hF d) (hret : meth.sig.returnType = (some .int)) (hdd : 2 ≤ d) (a0 : Nat) (a1 : Nat) (z : (Int32 × Int32)) (h : JH) (r : (Int32 × Int32) ⊕ (Int32 × Int32)) (h1 : JH) (hf : f_X5_findRoots_L4 a0 a1 z h = some (r, h1)) (hk : Sum.elim (fun z => Xw p l e R s m args below meth c E 4 h0 rF hF 4 [(0, .ref a0), (1, .ref a1), (2, .int z.1), (3, .int z.2)] [] h1) (fun t => Xw p l e R s m args below meth c E 4 h0 rF hF 41 [(0, .ref a0), (1, .ref a1), (2, .int t.1), (3, .int t.2)] [] h1) r) : Xw p l e R s m args below meth c E 4 h0 rF hF 4 [(0, .ref a0), (1, .ref a1), (2, .int z.1), (3, .int z.2)] [] h := by
  unfold f_X5_findRoots_L4 at hf
  refine x_iload_n (v := z.2) C dX5_findRoots_4 rfl ?_
  refine x_aload_n (v := a0) C dX5_findRoots_5 rfl ?_
  obtain ⟨v1, e2, hf⟩ := j_bind hf
  refine x_get C dX5_findRoots_6 (jgI_some e2) fg_X5_42 ?_
  refine x_icmp_ge (tgt := 41) C dX5_findRoots_9 (by decide) (fun c11 => ?_) (fun c11 => ?_)
  · have hf := j_ifp hf c11
    obtain ⟨rfl, rfl⟩ := j_inj2 hf
    exact x_locr hk rfl
  · have hf := j_ifn hf c11
    refine x_iload_n (v := z.1) C dX5_findRoots_12 rfl ?_
    refine x_aload_n (v := a0) C dX5_findRoots_13 rfl ?_
    obtain ⟨v3, e4, hf⟩ := j_bind hf
    refine x_get C dX5_findRoots_14 (jgI_some e4) fg_X5_36 ?_
    refine x_icmp_ge (tgt := 41) C dX5_findRoots_17 (by decide) (fun c12 => ?_) (fun c12 => ?_)
    · have hf := j_ifp hf c12
      obtain ⟨rfl, rfl⟩ := j_inj2 hf
      exact x_locr hk rfl
    · have hf := j_ifn hf c12
      refine x_aload_n (v := a0) C dX5_findRoots_20 rfl ?_
      refine x_iload_n (v := z.2) C dX5_findRoots_21 rfl ?_
      obtain ⟨u9, e10, hf⟩ := j_bind hf
      obtain ⟨q5, e6, hf⟩ := j_bind hf
      refine x_callV (As := [.int z.2]) (rest := []) C dX5_findRoots_22 (m_X5_polynomialAt (l := l) (E := E) (d := d - 1) (by omega) e6) km_X5_polynomialAt lk_X5_79 kv_X5_polynomialAt (ci := 3) rfl e10 rfl (by omega) (Nat.le_of_ble_eq_true rfl) (j_le_of (q_X5_polynomialAt e6)) (Or.inr (q_X5_polynomialAt e6)) ?_
      refine x_if_ne (tgt := 35) C dX5_findRoots_25 (by decide) (fun c13 => ?_) (fun c13 => ?_)
      · have hf := j_ifn hf c13
        refine x_iinc (v := z.2) C dX5_findRoots_35 rfl ki_1 (by decide) ?_
        refine x_goto (tgt := 4) C dX5_findRoots_38 (by decide) ?_
        obtain ⟨rfl, rfl⟩ := j_inj2 hf
        exact x_locr hk rfl
      · have hf := j_ifp hf c13
        refine x_aload_n (v := a1) C dX5_findRoots_28 rfl ?_
        refine x_iload_n (v := z.1) C dX5_findRoots_29 rfl ?_
        refine x_iload_n (v := z.2) C dX5_findRoots_30 rfl ?_
        obtain ⟨h7, e8, hf⟩ := j_bind hf
        refine x_iast C dX5_findRoots_31 e8 ?_
        refine x_iinc (v := z.1) C dX5_findRoots_32 rfl ki_1 (by decide) ?_
        refine x_iinc (v := z.2) C dX5_findRoots_35 rfl ki_1 (by decide) ?_
        refine x_goto (tgt := 4) C dX5_findRoots_38 (by decide) ?_
        obtain ⟨rfl, rfl⟩ := j_inj2 hf
        exact x_locr hk rfl
set_option maxHeartbeats 4000000 in
set_option maxRecDepth 100000 in
theorem m_X5_findRoots {l : Launch} {E : JE} {d : Nat} (hdd : 2 ≤ d) {a0 : Nat} {a1 : Nat} {h : JH} {q : Int32 × JH} (hf : f_X5_findRoots a0 a1 h = some q) : Con l E d yX5_findRoots cX5_findRoots 4 (some .int) [.ref a0, .ref a1] h (some (.int q.1)) q.2 := by
  refine j_start rfl (Nat.le_of_ble_eq_true rfl) ?_
  intro p e s m args below meth c C hret hnm
  refine x_loc [(0, .ref a0), (1, .ref a1)] rfl ?_
  unfold f_X5_findRoots at hf
  refine x_iconst C dX5_findRoots_0 ki_0 ?_
  refine x_istore_n C dX5_findRoots_1 (by decide) ?_
  refine x_iconst C dX5_findRoots_2 ki_0 ?_
  refine x_istore_n C dX5_findRoots_3 (by decide) ?_
  obtain ⟨q14, e15, hf⟩ := j_bind hf
  refine x_loc [(0, .ref a0), (1, .ref a1), (2, .int (0 : Int32)), (3, .int (0 : Int32))] rfl ?_
  refine x_loop (s_X5_findRoots_L4 C hret hdd a0 a1) e15 ?_
  refine x_iload_n (v := q14.1.1) C dX5_findRoots_41 rfl ?_
  obtain rfl := j_inj hf
  exact x_iret C hret dX5_findRoots_42
set_option maxHeartbeats 4000000 in
set_option maxRecDepth 100000 in
theorem s_X5_clearColumn_L19 {p : Program} {l : Launch} {e : Env} {R : Room} {s : State} {m : MethodId} {args : Array Value} {below : List Frame} {meth : Method} {c : Code} {E : JE} {h0 hF : JH} {rF : Option Value} {d : Nat} (C : j_C p s m args meth c R E cX5_clearColumn 6 RX5 h0 hF d) (hret : meth.sig.returnType = none) (hdd : 3 ≤ d) (a0 : Nat) (a1 : Int32) (a2 : Int32) (z : Int32) (h : JH) (r : Int32 ⊕ Int32) (h1 : JH) (hf : f_X5_clearColumn_L19 a0 a1 a2 z h = some (r, h1)) (hk : Sum.elim (fun z => Xw p l e R s m args below meth c E 6 h0 rF hF 19 [(0, .ref a0), (1, .int a1), (2, .int a2), (3, .int z)] [] h1) (fun t => Xw p l e R s m args below meth c E 6 h0 rF hF 60 [(0, .ref a0), (1, .int a1), (2, .int a2), (3, .int t)] [] h1) r) : Xw p l e R s m args below meth c E 6 h0 rF hF 19 [(0, .ref a0), (1, .int a1), (2, .int a2), (3, .int z)] [] h := by
  unfold f_X5_clearColumn_L19 at hf
  refine x_iload_n (v := z) C dX5_clearColumn_19 rfl ?_
  refine x_aload_n (v := a0) C dX5_clearColumn_20 rfl ?_
  obtain ⟨v11, e12, hf⟩ := j_bind hf
  refine x_get C dX5_clearColumn_21 (jgI_some e12) fg_X5_36 ?_
  refine x_icmp_ge (tgt := 60) C dX5_clearColumn_24 (by decide) (fun c29 => ?_) (fun c29 => ?_)
  · have hf := j_ifp hf c29
    obtain ⟨rfl, rfl⟩ := j_inj2 hf
    exact x_locr hk rfl
  · have hf := j_ifn hf c29
    refine x_aload_n (v := a0) C dX5_clearColumn_27 rfl ?_
    obtain ⟨v13, e14, hf⟩ := j_bind hf
    refine x_get C dX5_clearColumn_28 (jgR_some e14) fg_X5_20 ?_
    refine x_iload_n (v := a1) C dX5_clearColumn_31 rfl ?_
    obtain ⟨v15, e16, hf⟩ := j_bind hf
    refine x_aald C dX5_clearColumn_32 e16 ?_
    refine x_iload_n (v := z) C dX5_clearColumn_33 rfl ?_
    refine x_aload_n (v := a0) C dX5_clearColumn_34 rfl ?_
    obtain ⟨v17, e18, hf⟩ := j_bind hf
    refine x_get C dX5_clearColumn_35 (jgR_some e18) fg_X5_20 ?_
    refine x_iload_n (v := a1) C dX5_clearColumn_38 rfl ?_
    obtain ⟨v19, e20, hf⟩ := j_bind hf
    refine x_aald C dX5_clearColumn_39 e20 ?_
    refine x_iload_n (v := z) C dX5_clearColumn_40 rfl ?_
    obtain ⟨v21, e22, hf⟩ := j_bind hf
    refine x_iald C dX5_clearColumn_41 e22 ?_
    refine x_i2l C dX5_clearColumn_42 ?_
    refine x_iload_n (v := a2) C dX5_clearColumn_43 rfl ?_
    refine x_i2l C dX5_clearColumn_44 ?_
    refine x_lmul C dX5_clearColumn_45 ?_
    refine x_aload_n (v := a0) C dX5_clearColumn_46 rfl ?_
    obtain ⟨v23, e24, hf⟩ := j_bind hf
    refine x_get C dX5_clearColumn_47 (jgI_some e24) fg_X5_42 ?_
    obtain ⟨q25, e26, hf⟩ := j_bind hf
    refine x_callS (As := [.long (v21.toInt64 * a2.toInt64), .int v23]) (rest := [.int z, .ref v15]) C dX5_clearColumn_50 (m_X4_of (l := l) (E := E) (d := d - 1) (by omega) e26) km_X4_of lk_X5_63 ks_X4_of rfl (by omega) (Nat.le_of_ble_eq_true rfl) (j_le_of (q_X4_of e26)) (Or.inr (q_X4_of e26)) ?_
    obtain ⟨h27, e28, hf⟩ := j_bind hf
    refine x_iast C dX5_clearColumn_53 e28 ?_
    refine x_iinc (v := z) C dX5_clearColumn_54 rfl ki_1 (by decide) ?_
    refine x_goto (tgt := 19) C dX5_clearColumn_57 (by decide) ?_
    obtain ⟨rfl, rfl⟩ := j_inj2 hf
    exact x_locr hk rfl
set_option maxHeartbeats 4000000 in
set_option maxRecDepth 100000 in
theorem s_X5_clearColumn_L93 {p : Program} {l : Launch} {e : Env} {R : Room} {s : State} {m : MethodId} {args : Array Value} {below : List Frame} {meth : Method} {c : Code} {E : JE} {h0 hF : JH} {rF : Option Value} {d : Nat} (C : j_C p s m args meth c R E cX5_clearColumn 6 RX5 h0 hF d) (hret : meth.sig.returnType = none) (hdd : 3 ≤ d) (a0 : Nat) (a1 : Int32) (a3 : Int32) (a4 : Int32) (z : Int32) (h : JH) (r : Int32 ⊕ Int32) (h1 : JH) (hf : f_X5_clearColumn_L93 a0 a1 a3 a4 z h = some (r, h1)) (hk : Sum.elim (fun z => Xw p l e R s m args below meth c E 6 h0 rF hF 93 [(0, .ref a0), (1, .int a1), (3, .int a3), (4, .int a4), (5, .int z)] [] h1) (fun t => Xw p l e R s m args below meth c E 6 h0 rF hF 149 [(0, .ref a0), (1, .int a1), (3, .int a3), (4, .int a4), (5, .int t)] [] h1) r) : Xw p l e R s m args below meth c E 6 h0 rF hF 93 [(0, .ref a0), (1, .int a1), (3, .int a3), (4, .int a4), (5, .int z)] [] h := by
  unfold f_X5_clearColumn_L93 at hf
  refine x_iload (v := z) C dX5_clearColumn_93 rfl ?_
  refine x_aload_n (v := a0) C dX5_clearColumn_95 rfl ?_
  obtain ⟨v40, e41, hf⟩ := j_bind hf
  refine x_get C dX5_clearColumn_96 (jgI_some e41) fg_X5_36 ?_
  refine x_icmp_ge (tgt := 149) C dX5_clearColumn_99 (by decide) (fun c64 => ?_) (fun c64 => ?_)
  · have hf := j_ifp hf c64
    obtain ⟨rfl, rfl⟩ := j_inj2 hf
    exact x_locr hk rfl
  · have hf := j_ifn hf c64
    refine x_aload_n (v := a0) C dX5_clearColumn_102 rfl ?_
    obtain ⟨v42, e43, hf⟩ := j_bind hf
    refine x_get C dX5_clearColumn_103 (jgR_some e43) fg_X5_20 ?_
    refine x_iload_n (v := a3) C dX5_clearColumn_106 rfl ?_
    obtain ⟨v44, e45, hf⟩ := j_bind hf
    refine x_aald C dX5_clearColumn_107 e45 ?_
    refine x_iload (v := z) C dX5_clearColumn_108 rfl ?_
    refine x_aload_n (v := a0) C dX5_clearColumn_110 rfl ?_
    obtain ⟨v46, e47, hf⟩ := j_bind hf
    refine x_get C dX5_clearColumn_111 (jgR_some e47) fg_X5_20 ?_
    refine x_iload_n (v := a3) C dX5_clearColumn_114 rfl ?_
    obtain ⟨v48, e49, hf⟩ := j_bind hf
    refine x_aald C dX5_clearColumn_115 e49 ?_
    refine x_iload (v := z) C dX5_clearColumn_116 rfl ?_
    obtain ⟨v50, e51, hf⟩ := j_bind hf
    refine x_iald C dX5_clearColumn_118 e51 ?_
    refine x_i2l C dX5_clearColumn_119 ?_
    refine x_iload (v := a4) C dX5_clearColumn_120 rfl ?_
    refine x_i2l C dX5_clearColumn_122 ?_
    refine x_aload_n (v := a0) C dX5_clearColumn_123 rfl ?_
    obtain ⟨v52, e53, hf⟩ := j_bind hf
    refine x_get C dX5_clearColumn_124 (jgR_some e53) fg_X5_20 ?_
    refine x_iload_n (v := a1) C dX5_clearColumn_127 rfl ?_
    obtain ⟨v54, e55, hf⟩ := j_bind hf
    refine x_aald C dX5_clearColumn_128 e55 ?_
    refine x_iload (v := z) C dX5_clearColumn_129 rfl ?_
    obtain ⟨v56, e57, hf⟩ := j_bind hf
    refine x_iald C dX5_clearColumn_131 e57 ?_
    refine x_i2l C dX5_clearColumn_132 ?_
    refine x_lmul C dX5_clearColumn_133 ?_
    refine x_lsub C dX5_clearColumn_134 ?_
    refine x_aload_n (v := a0) C dX5_clearColumn_135 rfl ?_
    obtain ⟨v58, e59, hf⟩ := j_bind hf
    refine x_get C dX5_clearColumn_136 (jgI_some e59) fg_X5_42 ?_
    obtain ⟨q60, e61, hf⟩ := j_bind hf
    refine x_callS (As := [.long (v50.toInt64 - (a4.toInt64 * v56.toInt64)), .int v58]) (rest := [.int z, .ref v44]) C dX5_clearColumn_139 (m_X4_of (l := l) (E := E) (d := d - 1) (by omega) e61) km_X4_of lk_X5_63 ks_X4_of rfl (by omega) (Nat.le_of_ble_eq_true rfl) (j_le_of (q_X4_of e61)) (Or.inr (q_X4_of e61)) ?_
    obtain ⟨h62, e63, hf⟩ := j_bind hf
    refine x_iast C dX5_clearColumn_142 e63 ?_
    refine x_iinc (v := z) C dX5_clearColumn_143 rfl ki_1 (by decide) ?_
    refine x_goto (tgt := 93) C dX5_clearColumn_146 (by decide) ?_
    obtain ⟨rfl, rfl⟩ := j_inj2 hf
    exact x_locr hk rfl
set_option maxHeartbeats 4000000 in
set_option maxRecDepth 100000 in
theorem s_X5_clearColumn_L62 {p : Program} {l : Launch} {e : Env} {R : Room} {s : State} {m : MethodId} {args : Array Value} {below : List Frame} {meth : Method} {c : Code} {E : JE} {h0 hF : JH} {rF : Option Value} {d : Nat} (C : j_C p s m args meth c R E cX5_clearColumn 6 RX5 h0 hF d) (hret : meth.sig.returnType = none) (hdd : 3 ≤ d) (a0 : Nat) (a1 : Int32) (z : Int32) (h : JH) (r : Int32 ⊕ Int32) (h1 : JH) (hf : f_X5_clearColumn_L62 a0 a1 z h = some (r, h1)) (hk : Sum.elim (fun z => Xw p l e R s m args below meth c E 6 h0 rF hF 62 [(0, .ref a0), (1, .int a1), (3, .int z)] [] h1) (fun t => Xw p l e R s m args below meth c E 6 h0 rF hF 155 [(0, .ref a0), (1, .int a1), (3, .int t)] [] h1) r) : Xw p l e R s m args below meth c E 6 h0 rF hF 62 [(0, .ref a0), (1, .int a1), (3, .int z)] [] h := by
  unfold f_X5_clearColumn_L62 at hf
  refine x_iload_n (v := z) C dX5_clearColumn_62 rfl ?_
  refine x_aload_n (v := a0) C dX5_clearColumn_63 rfl ?_
  obtain ⟨v32, e33, hf⟩ := j_bind hf
  refine x_get C dX5_clearColumn_64 (jgI_some e33) fg_X5_36 ?_
  refine x_icmp_ge (tgt := 155) C dX5_clearColumn_67 (by decide) (fun c42 => ?_) (fun c42 => ?_)
  · have hf := j_ifp hf c42
    obtain ⟨rfl, rfl⟩ := j_inj2 hf
    exact x_locr hk rfl
  · have hf := j_ifn hf c42
    refine x_aload_n (v := a0) C dX5_clearColumn_70 rfl ?_
    obtain ⟨v34, e35, hf⟩ := j_bind hf
    refine x_get C dX5_clearColumn_71 (jgR_some e35) fg_X5_20 ?_
    refine x_iload_n (v := z) C dX5_clearColumn_74 rfl ?_
    obtain ⟨v36, e37, hf⟩ := j_bind hf
    refine x_aald C dX5_clearColumn_75 e37 ?_
    refine x_iload_n (v := a1) C dX5_clearColumn_76 rfl ?_
    obtain ⟨v38, e39, hf⟩ := j_bind hf
    refine x_iald C dX5_clearColumn_77 e39 ?_
    refine x_istore C dX5_clearColumn_78 (by decide) ?_
    refine x_iload_n (v := z) C dX5_clearColumn_80 rfl ?_
    refine x_iload_n (v := a1) C dX5_clearColumn_81 rfl ?_
    refine x_icmp_eq (tgt := 149) C dX5_clearColumn_82 (by decide) (fun c43 => ?_) (fun c43 => ?_)
    · have hf := j_ifp hf c43
      refine x_iinc (v := z) C dX5_clearColumn_149 rfl ki_1 (by decide) ?_
      refine x_goto (tgt := 62) C dX5_clearColumn_152 (by decide) ?_
      obtain ⟨rfl, rfl⟩ := j_inj2 hf
      exact x_locr hk rfl
    · have hf := j_ifn hf c43
      refine x_iload (v := v38) C dX5_clearColumn_85 rfl ?_
      refine x_if_eq (tgt := 149) C dX5_clearColumn_87 (by decide) (fun c44 => ?_) (fun c44 => ?_)
      · have hf := j_ifp hf c44
        refine x_iinc (v := z) C dX5_clearColumn_149 rfl ki_1 (by decide) ?_
        refine x_goto (tgt := 62) C dX5_clearColumn_152 (by decide) ?_
        obtain ⟨rfl, rfl⟩ := j_inj2 hf
        exact x_locr hk rfl
      · have hf := j_ifn hf c44
        refine x_iconst C dX5_clearColumn_90 ki_0 ?_
        refine x_istore C dX5_clearColumn_91 (by decide) ?_
        obtain ⟨q40, e41, hf⟩ := j_bind hf
        refine x_loc [(0, .ref a0), (1, .int a1), (3, .int z), (4, .int v38), (5, .int (0 : Int32))] rfl ?_
        refine x_loop (s_X5_clearColumn_L93 C hret hdd a0 a1 z v38) e41 ?_
        refine x_iinc (v := z) C dX5_clearColumn_149 rfl ki_1 (by decide) ?_
        refine x_goto (tgt := 62) C dX5_clearColumn_152 (by decide) ?_
        obtain ⟨rfl, rfl⟩ := j_inj2 hf
        exact x_locr hk rfl
set_option maxHeartbeats 4000000 in
set_option maxRecDepth 100000 in
theorem m_X5_clearColumn {l : Launch} {E : JE} {d : Nat} (hdd : 3 ≤ d) {a0 : Nat} {a1 : Int32} {h : JH} {q : Unit × JH} (hf : f_X5_clearColumn a0 a1 h = some q) : Con l E d yX5_clearColumn cX5_clearColumn 6 none [.ref a0, .int a1] h (none) q.2 := by
  refine j_start rfl (Nat.le_of_ble_eq_true rfl) ?_
  intro p e s m args below meth c C hret hnm
  refine x_loc [(0, .ref a0), (1, .int a1)] rfl ?_
  unfold f_X5_clearColumn at hf
  refine x_iconst C dX5_clearColumn_0 ki_1 ?_
  refine x_aload_n (v := a0) C dX5_clearColumn_1 rfl ?_
  obtain ⟨v1, e2, hf⟩ := j_bind hf
  refine x_get C dX5_clearColumn_2 (jgR_some e2) fg_X5_20 ?_
  refine x_iload_n (v := a1) C dX5_clearColumn_5 rfl ?_
  obtain ⟨v3, e4, hf⟩ := j_bind hf
  refine x_aald C dX5_clearColumn_6 e4 ?_
  refine x_iload_n (v := a1) C dX5_clearColumn_7 rfl ?_
  obtain ⟨v5, e6, hf⟩ := j_bind hf
  refine x_iald C dX5_clearColumn_8 e6 ?_
  refine x_aload_n (v := a0) C dX5_clearColumn_9 rfl ?_
  obtain ⟨v7, e8, hf⟩ := j_bind hf
  refine x_get C dX5_clearColumn_10 (jgI_some e8) fg_X5_42 ?_
  obtain ⟨q9, e10, hf⟩ := j_bind hf
  refine x_callS (As := [.int (1 : Int32), .int v5, .int v7]) (rest := []) C dX5_clearColumn_13 (m_X4_divide (l := l) (E := E) (d := d - 1) (by omega) e10) km_X4_divide lk_X5_69 ks_X4_divide rfl (by omega) (Nat.le_of_ble_eq_true rfl) (j_le_of (q_X4_divide e10)) (Or.inr (q_X4_divide e10)) ?_
  refine x_istore_n C dX5_clearColumn_16 (by decide) ?_
  refine x_iconst C dX5_clearColumn_17 ki_0 ?_
  refine x_istore_n C dX5_clearColumn_18 (by decide) ?_
  obtain ⟨q30, e31, hf⟩ := j_bind hf
  refine x_loc [(0, .ref a0), (1, .int a1), (2, .int q9.1), (3, .int (0 : Int32))] rfl ?_
  refine x_loop (s_X5_clearColumn_L19 C hret hdd a0 a1 q9.1) e31 ?_
  refine x_iconst C dX5_clearColumn_60 ki_0 ?_
  refine x_istore_n C dX5_clearColumn_61 (by decide) ?_
  obtain ⟨q45, e46, hf⟩ := j_bind hf
  refine x_loc [(0, .ref a0), (1, .int a1), (3, .int (0 : Int32))] rfl ?_
  refine x_loop (s_X5_clearColumn_L62 C hret hdd a0 a1) e46 ?_
  obtain rfl := j_inj hf
  exact x_vret C hret dX5_clearColumn_155
set_option maxHeartbeats 4000000 in
set_option maxRecDepth 100000 in
theorem s_X5_layEquations_L12 {p : Program} {l : Launch} {e : Env} {R : Room} {s : State} {m : MethodId} {args : Array Value} {below : List Frame} {meth : Method} {c : Code} {E : JE} {h0 hF : JH} {rF : Option Value} {d : Nat} (C : j_C p s m args meth c R E cX5_layEquations 4 RX5 h0 hF d) (hret : meth.sig.returnType = none) (hdd : 1 ≤ d) (a0 : Nat) (a1 : Int32) (a2 : Int32) (z : Int32) (h : JH) (r : Int32 ⊕ Int32) (h1 : JH) (hf : f_X5_layEquations_L12 a0 a1 a2 z h = some (r, h1)) (hk : Sum.elim (fun z => Xw p l e R s m args below meth c E 4 h0 rF hF 12 [(0, .ref a0), (1, .int a1), (2, .int a2), (3, .int z)] [] h1) (fun t => Xw p l e R s m args below meth c E 4 h0 rF hF 63 [(0, .ref a0), (1, .int a1), (2, .int a2), (3, .int t)] [] h1) r) : Xw p l e R s m args below meth c E 4 h0 rF hF 12 [(0, .ref a0), (1, .int a1), (2, .int a2), (3, .int z)] [] h := by
  unfold f_X5_layEquations_L12 at hf
  refine x_iload_n (v := z) C dX5_layEquations_12 rfl ?_
  refine x_aload_n (v := a0) C dX5_layEquations_13 rfl ?_
  obtain ⟨v3, e4, hf⟩ := j_bind hf
  refine x_get C dX5_layEquations_14 (jgI_some e4) fg_X5_36 ?_
  refine x_icmp_ge (tgt := 63) C dX5_layEquations_17 (by decide) (fun c27 => ?_) (fun c27 => ?_)
  · have hf := j_ifp hf c27
    obtain ⟨rfl, rfl⟩ := j_inj2 hf
    exact x_locr hk rfl
  · have hf := j_ifn hf c27
    refine x_aload_n (v := a0) C dX5_layEquations_20 rfl ?_
    obtain ⟨v5, e6, hf⟩ := j_bind hf
    refine x_get C dX5_layEquations_21 (jgR_some e6) fg_X5_20 ?_
    refine x_iload_n (v := a2) C dX5_layEquations_24 rfl ?_
    obtain ⟨v7, e8, hf⟩ := j_bind hf
    refine x_aald C dX5_layEquations_25 e8 ?_
    refine x_iload_n (v := z) C dX5_layEquations_26 rfl ?_
    refine x_iconst C dX5_layEquations_27 ki_1 ?_
    refine x_isub C dX5_layEquations_28 ?_
    refine x_aload_n (v := a0) C dX5_layEquations_29 rfl ?_
    obtain ⟨v9, e10, hf⟩ := j_bind hf
    refine x_get C dX5_layEquations_30 (jgR_some e10) fg_X5_17 ?_
    refine x_iload_n (v := z) C dX5_layEquations_33 rfl ?_
    obtain ⟨v11, e12, hf⟩ := j_bind hf
    refine x_aald C dX5_layEquations_34 e12 ?_
    refine x_iload_n (v := a2) C dX5_layEquations_35 rfl ?_
    obtain ⟨v13, e14, hf⟩ := j_bind hf
    refine x_iald C dX5_layEquations_36 e14 ?_
    refine x_iload_n (v := z) C dX5_layEquations_37 rfl ?_
    refine x_iload_n (v := a2) C dX5_layEquations_38 rfl ?_
    refine x_icmp_ne (tgt := 46) C dX5_layEquations_39 (by decide) (fun c28 => ?_) (fun c28 => ?_)
    · have hf := j_ifn hf c28
      refine x_iconst C dX5_layEquations_46 ki_0 ?_
      refine x_isub C dX5_layEquations_47 ?_
      refine x_i2l C dX5_layEquations_48 ?_
      refine x_aload_n (v := a0) C dX5_layEquations_49 rfl ?_
      obtain ⟨v15, e16, hf⟩ := j_bind hf
      refine x_get C dX5_layEquations_50 (jgI_some e16) fg_X5_42 ?_
      obtain ⟨q17, e18, hf⟩ := j_bind hf
      refine x_callS (As := [.long ((v13 - (0 : Int32)).toInt64), .int v15]) (rest := [.int (z - (1 : Int32)), .ref v7]) C dX5_layEquations_53 (m_X4_of (l := l) (E := E) (d := d - 1) (by omega) e18) km_X4_of lk_X5_63 ks_X4_of rfl (by omega) (Nat.le_of_ble_eq_true rfl) (j_le_of (q_X4_of e18)) (Or.inr (q_X4_of e18)) ?_
      obtain ⟨h19, e20, hf⟩ := j_bind hf
      refine x_iast C dX5_layEquations_56 e20 ?_
      refine x_iinc (v := z) C dX5_layEquations_57 rfl ki_1 (by decide) ?_
      refine x_goto (tgt := 12) C dX5_layEquations_60 (by decide) ?_
      obtain ⟨rfl, rfl⟩ := j_inj2 hf
      exact x_locr hk rfl
    · have hf := j_ifp hf c28
      refine x_iload_n (v := a1) C dX5_layEquations_42 rfl ?_
      refine x_goto (tgt := 47) C dX5_layEquations_43 (by decide) ?_
      refine x_isub C dX5_layEquations_47 ?_
      refine x_i2l C dX5_layEquations_48 ?_
      refine x_aload_n (v := a0) C dX5_layEquations_49 rfl ?_
      obtain ⟨v21, e22, hf⟩ := j_bind hf
      refine x_get C dX5_layEquations_50 (jgI_some e22) fg_X5_42 ?_
      obtain ⟨q23, e24, hf⟩ := j_bind hf
      refine x_callS (As := [.long ((v13 - a1).toInt64), .int v21]) (rest := [.int (z - (1 : Int32)), .ref v7]) C dX5_layEquations_53 (m_X4_of (l := l) (E := E) (d := d - 1) (by omega) e24) km_X4_of lk_X5_63 ks_X4_of rfl (by omega) (Nat.le_of_ble_eq_true rfl) (j_le_of (q_X4_of e24)) (Or.inr (q_X4_of e24)) ?_
      obtain ⟨h25, e26, hf⟩ := j_bind hf
      refine x_iast C dX5_layEquations_56 e26 ?_
      refine x_iinc (v := z) C dX5_layEquations_57 rfl ki_1 (by decide) ?_
      refine x_goto (tgt := 12) C dX5_layEquations_60 (by decide) ?_
      obtain ⟨rfl, rfl⟩ := j_inj2 hf
      exact x_locr hk rfl
set_option maxHeartbeats 4000000 in
set_option maxRecDepth 100000 in
theorem s_X5_layEquations_L2 {p : Program} {l : Launch} {e : Env} {R : Room} {s : State} {m : MethodId} {args : Array Value} {below : List Frame} {meth : Method} {c : Code} {E : JE} {h0 hF : JH} {rF : Option Value} {d : Nat} (C : j_C p s m args meth c R E cX5_layEquations 4 RX5 h0 hF d) (hret : meth.sig.returnType = none) (hdd : 1 ≤ d) (a0 : Nat) (a1 : Int32) (z : Int32) (h : JH) (r : Int32 ⊕ Int32) (h1 : JH) (hf : f_X5_layEquations_L2 a0 a1 z h = some (r, h1)) (hk : Sum.elim (fun z => Xw p l e R s m args below meth c E 4 h0 rF hF 2 [(0, .ref a0), (1, .int a1), (2, .int z)] [] h1) (fun t => Xw p l e R s m args below meth c E 4 h0 rF hF 108 [(0, .ref a0), (1, .int a1), (2, .int t)] [] h1) r) : Xw p l e R s m args below meth c E 4 h0 rF hF 2 [(0, .ref a0), (1, .int a1), (2, .int z)] [] h := by
  unfold f_X5_layEquations_L2 at hf
  refine x_iload_n (v := z) C dX5_layEquations_2 rfl ?_
  refine x_aload_n (v := a0) C dX5_layEquations_3 rfl ?_
  obtain ⟨v1, e2, hf⟩ := j_bind hf
  refine x_get C dX5_layEquations_4 (jgI_some e2) fg_X5_36 ?_
  refine x_icmp_ge (tgt := 108) C dX5_layEquations_7 (by decide) (fun c35 => ?_) (fun c35 => ?_)
  · have hf := j_ifp hf c35
    obtain ⟨rfl, rfl⟩ := j_inj2 hf
    exact x_locr hk rfl
  · have hf := j_ifn hf c35
    refine x_iconst C dX5_layEquations_10 ki_1 ?_
    refine x_istore_n C dX5_layEquations_11 (by decide) ?_
    obtain ⟨q3, e4, hf⟩ := j_bind hf
    refine x_loc [(0, .ref a0), (1, .int a1), (2, .int z), (3, .int (1 : Int32))] rfl ?_
    refine x_loop (s_X5_layEquations_L12 C hret hdd a0 a1 z) e4 ?_
    refine x_aload_n (v := a0) C dX5_layEquations_63 rfl ?_
    obtain ⟨v5, e6, hf⟩ := j_bind hf
    refine x_get C dX5_layEquations_64 (jgR_some e6) fg_X5_20 ?_
    refine x_iload_n (v := z) C dX5_layEquations_67 rfl ?_
    obtain ⟨v7, e8, hf⟩ := j_bind hf
    refine x_aald C dX5_layEquations_68 e8 ?_
    refine x_aload_n (v := a0) C dX5_layEquations_69 rfl ?_
    obtain ⟨v9, e10, hf⟩ := j_bind hf
    refine x_get C dX5_layEquations_70 (jgI_some e10) fg_X5_36 ?_
    refine x_iconst C dX5_layEquations_73 ki_1 ?_
    refine x_isub C dX5_layEquations_74 ?_
    refine x_iload_n (v := z) C dX5_layEquations_75 rfl ?_
    refine x_if_ne (tgt := 83) C dX5_layEquations_76 (by decide) (fun c36 => ?_) (fun c36 => ?_)
    · have hf := j_ifn hf c36
      refine x_iconst C dX5_layEquations_83 ki_0 ?_
      refine x_aload_n (v := a0) C dX5_layEquations_84 rfl ?_
      obtain ⟨v11, e12, hf⟩ := j_bind hf
      refine x_get C dX5_layEquations_85 (jgR_some e12) fg_X5_17 ?_
      refine x_iconst C dX5_layEquations_88 ki_0 ?_
      obtain ⟨v13, e14, hf⟩ := j_bind hf
      refine x_aald C dX5_layEquations_89 e14 ?_
      refine x_iload_n (v := z) C dX5_layEquations_90 rfl ?_
      obtain ⟨v15, e16, hf⟩ := j_bind hf
      refine x_iald C dX5_layEquations_91 e16 ?_
      refine x_isub C dX5_layEquations_92 ?_
      refine x_i2l C dX5_layEquations_93 ?_
      refine x_aload_n (v := a0) C dX5_layEquations_94 rfl ?_
      obtain ⟨v17, e18, hf⟩ := j_bind hf
      refine x_get C dX5_layEquations_95 (jgI_some e18) fg_X5_42 ?_
      obtain ⟨q19, e20, hf⟩ := j_bind hf
      refine x_callS (As := [.long (((0 : Int32) - v15).toInt64), .int v17]) (rest := [.int (v9 - (1 : Int32)), .ref v7]) C dX5_layEquations_98 (m_X4_of (l := l) (E := E) (d := d - 1) (by omega) e20) km_X4_of lk_X5_63 ks_X4_of rfl (by omega) (Nat.le_of_ble_eq_true rfl) (j_le_of (q_X4_of e20)) (Or.inr (q_X4_of e20)) ?_
      obtain ⟨h21, e22, hf⟩ := j_bind hf
      refine x_iast C dX5_layEquations_101 e22 ?_
      refine x_iinc (v := z) C dX5_layEquations_102 rfl ki_1 (by decide) ?_
      refine x_goto (tgt := 2) C dX5_layEquations_105 (by decide) ?_
      obtain ⟨rfl, rfl⟩ := j_inj2 hf
      exact x_locr hk rfl
    · have hf := j_ifp hf c36
      refine x_iload_n (v := a1) C dX5_layEquations_79 rfl ?_
      refine x_goto (tgt := 84) C dX5_layEquations_80 (by decide) ?_
      refine x_aload_n (v := a0) C dX5_layEquations_84 rfl ?_
      obtain ⟨v23, e24, hf⟩ := j_bind hf
      refine x_get C dX5_layEquations_85 (jgR_some e24) fg_X5_17 ?_
      refine x_iconst C dX5_layEquations_88 ki_0 ?_
      obtain ⟨v25, e26, hf⟩ := j_bind hf
      refine x_aald C dX5_layEquations_89 e26 ?_
      refine x_iload_n (v := z) C dX5_layEquations_90 rfl ?_
      obtain ⟨v27, e28, hf⟩ := j_bind hf
      refine x_iald C dX5_layEquations_91 e28 ?_
      refine x_isub C dX5_layEquations_92 ?_
      refine x_i2l C dX5_layEquations_93 ?_
      refine x_aload_n (v := a0) C dX5_layEquations_94 rfl ?_
      obtain ⟨v29, e30, hf⟩ := j_bind hf
      refine x_get C dX5_layEquations_95 (jgI_some e30) fg_X5_42 ?_
      obtain ⟨q31, e32, hf⟩ := j_bind hf
      refine x_callS (As := [.long ((a1 - v27).toInt64), .int v29]) (rest := [.int (v9 - (1 : Int32)), .ref v7]) C dX5_layEquations_98 (m_X4_of (l := l) (E := E) (d := d - 1) (by omega) e32) km_X4_of lk_X5_63 ks_X4_of rfl (by omega) (Nat.le_of_ble_eq_true rfl) (j_le_of (q_X4_of e32)) (Or.inr (q_X4_of e32)) ?_
      obtain ⟨h33, e34, hf⟩ := j_bind hf
      refine x_iast C dX5_layEquations_101 e34 ?_
      refine x_iinc (v := z) C dX5_layEquations_102 rfl ki_1 (by decide) ?_
      refine x_goto (tgt := 2) C dX5_layEquations_105 (by decide) ?_
      obtain ⟨rfl, rfl⟩ := j_inj2 hf
      exact x_locr hk rfl
set_option maxHeartbeats 4000000 in
set_option maxRecDepth 100000 in
theorem m_X5_layEquations {l : Launch} {E : JE} {d : Nat} (hdd : 1 ≤ d) {a0 : Nat} {a1 : Int32} {h : JH} {q : Unit × JH} (hf : f_X5_layEquations a0 a1 h = some q) : Con l E d yX5_layEquations cX5_layEquations 4 none [.ref a0, .int a1] h (none) q.2 := by
  refine j_start rfl (Nat.le_of_ble_eq_true rfl) ?_
  intro p e s m args below meth c C hret hnm
  refine x_loc [(0, .ref a0), (1, .int a1)] rfl ?_
  unfold f_X5_layEquations at hf
  refine x_iconst C dX5_layEquations_0 ki_0 ?_
  refine x_istore_n C dX5_layEquations_1 (by decide) ?_
  obtain ⟨q37, e38, hf⟩ := j_bind hf
  refine x_loc [(0, .ref a0), (1, .int a1), (2, .int (0 : Int32))] rfl ?_
  refine x_loop (s_X5_layEquations_L2 C hret hdd a0 a1) e38 ?_
  obtain rfl := j_inj hf
  exact x_vret C hret dX5_layEquations_108
set_option maxHeartbeats 4000000 in
set_option maxRecDepth 100000 in
theorem s_X5_exchange_L2 {p : Program} {l : Launch} {e : Env} {R : Room} {s : State} {m : MethodId} {args : Array Value} {below : List Frame} {meth : Method} {c : Code} {E : JE} {h0 hF : JH} {rF : Option Value} {d : Nat} (C : j_C p s m args meth c R E cX5_exchange 5 RX5 h0 hF d) (hret : meth.sig.returnType = none) (hdd : 0 ≤ d) (a0 : Nat) (a1 : Nat) (a2 : Nat) (z : Int32) (h : JH) (r : Int32 ⊕ Int32) (h1 : JH) (hf : f_X5_exchange_L2 a0 a1 a2 z h = some (r, h1)) (hk : Sum.elim (fun z => Xw p l e R s m args below meth c E 5 h0 rF hF 2 [(0, .ref a0), (1, .ref a1), (2, .ref a2), (3, .int z)] [] h1) (fun t => Xw p l e R s m args below meth c E 5 h0 rF hF 32 [(0, .ref a0), (1, .ref a1), (2, .ref a2), (3, .int t)] [] h1) r) : Xw p l e R s m args below meth c E 5 h0 rF hF 2 [(0, .ref a0), (1, .ref a1), (2, .ref a2), (3, .int z)] [] h := by
  unfold f_X5_exchange_L2 at hf
  refine x_iload_n (v := z) C dX5_exchange_2 rfl ?_
  refine x_aload_n (v := a0) C dX5_exchange_3 rfl ?_
  obtain ⟨v1, e2, hf⟩ := j_bind hf
  refine x_get C dX5_exchange_4 (jgI_some e2) fg_X5_36 ?_
  refine x_icmp_ge (tgt := 32) C dX5_exchange_7 (by decide) (fun c11 => ?_) (fun c11 => ?_)
  · have hf := j_ifp hf c11
    obtain ⟨rfl, rfl⟩ := j_inj2 hf
    exact x_locr hk rfl
  · have hf := j_ifn hf c11
    refine x_aload_n (v := a1) C dX5_exchange_10 rfl ?_
    refine x_iload_n (v := z) C dX5_exchange_11 rfl ?_
    obtain ⟨v3, e4, hf⟩ := j_bind hf
    refine x_iald C dX5_exchange_12 e4 ?_
    refine x_istore C dX5_exchange_13 (by decide) ?_
    refine x_aload_n (v := a1) C dX5_exchange_15 rfl ?_
    refine x_iload_n (v := z) C dX5_exchange_16 rfl ?_
    refine x_aload_n (v := a2) C dX5_exchange_17 rfl ?_
    refine x_iload_n (v := z) C dX5_exchange_18 rfl ?_
    obtain ⟨v5, e6, hf⟩ := j_bind hf
    refine x_iald C dX5_exchange_19 e6 ?_
    obtain ⟨h7, e8, hf⟩ := j_bind hf
    refine x_iast C dX5_exchange_20 e8 ?_
    refine x_aload_n (v := a2) C dX5_exchange_21 rfl ?_
    refine x_iload_n (v := z) C dX5_exchange_22 rfl ?_
    refine x_iload (v := v3) C dX5_exchange_23 rfl ?_
    obtain ⟨h9, e10, hf⟩ := j_bind hf
    refine x_iast C dX5_exchange_25 e10 ?_
    refine x_iinc (v := z) C dX5_exchange_26 rfl ki_1 (by decide) ?_
    refine x_goto (tgt := 2) C dX5_exchange_29 (by decide) ?_
    obtain ⟨rfl, rfl⟩ := j_inj2 hf
    exact x_locr hk rfl
set_option maxHeartbeats 4000000 in
set_option maxRecDepth 100000 in
theorem m_X5_exchange {l : Launch} {E : JE} {d : Nat} (hdd : 0 ≤ d) {a0 : Nat} {a1 : Nat} {a2 : Nat} {h : JH} {q : Unit × JH} (hf : f_X5_exchange a0 a1 a2 h = some q) : Con l E d yX5_exchange cX5_exchange 5 none [.ref a0, .ref a1, .ref a2] h (none) q.2 := by
  refine j_start rfl (Nat.le_of_ble_eq_true rfl) ?_
  intro p e s m args below meth c C hret hnm
  refine x_loc [(0, .ref a0), (1, .ref a1), (2, .ref a2)] rfl ?_
  unfold f_X5_exchange at hf
  refine x_iconst C dX5_exchange_0 ki_0 ?_
  refine x_istore_n C dX5_exchange_1 (by decide) ?_
  obtain ⟨q12, e13, hf⟩ := j_bind hf
  refine x_loc [(0, .ref a0), (1, .ref a1), (2, .ref a2), (3, .int (0 : Int32))] rfl ?_
  refine x_loop (s_X5_exchange_L2 C hret hdd a0 a1 a2) e13 ?_
  obtain rfl := j_inj hf
  exact x_vret C hret dX5_exchange_32
set_option maxHeartbeats 4000000 in
set_option maxRecDepth 100000 in
theorem s_X5_liftPivot_L2 {p : Program} {l : Launch} {e : Env} {R : Room} {s : State} {m : MethodId} {args : Array Value} {below : List Frame} {meth : Method} {c : Code} {E : JE} {h0 hF : JH} {rF : Option Value} {d : Nat} (C : j_C p s m args meth c R E cX5_liftPivot 3 RX5 h0 hF d) (hret : meth.sig.returnType = (some .boolean)) (hdd : 1 ≤ d) (a0 : Nat) (a1 : Int32) (z : Int32) (h : JH) (r : Int32 ⊕ (Int32 ⊕ Int32)) (h1 : JH) (hf : f_X5_liftPivot_L2 a0 a1 z h = some (r, h1)) (hk : Sum.elim (fun z => Xw p l e R s m args below meth c E 3 h0 rF hF 2 [(0, .ref a0), (1, .int a1), (2, .int z)] [] h1) (fun t => Sum.elim (fun rr => some (.int rr) = rF ∧ h1 = hF) (fun t => Xw p l e R s m args below meth c E 3 h0 rF hF 45 [(0, .ref a0), (1, .int a1), (2, .int t)] [] h1) t) r) : Xw p l e R s m args below meth c E 3 h0 rF hF 2 [(0, .ref a0), (1, .int a1), (2, .int z)] [] h := by
  unfold f_X5_liftPivot_L2 at hf
  refine x_iload_n (v := z) C dX5_liftPivot_2 rfl ?_
  refine x_aload_n (v := a0) C dX5_liftPivot_3 rfl ?_
  obtain ⟨v1, e2, hf⟩ := j_bind hf
  refine x_get C dX5_liftPivot_4 (jgI_some e2) fg_X5_36 ?_
  refine x_icmp_ge (tgt := 45) C dX5_liftPivot_7 (by decide) (fun c21 => ?_) (fun c21 => ?_)
  · have hf := j_ifp hf c21
    obtain ⟨rfl, rfl⟩ := j_inj2 hf
    exact x_locr hk rfl
  · have hf := j_ifn hf c21
    refine x_aload_n (v := a0) C dX5_liftPivot_10 rfl ?_
    obtain ⟨v3, e4, hf⟩ := j_bind hf
    refine x_get C dX5_liftPivot_11 (jgR_some e4) fg_X5_20 ?_
    refine x_iload_n (v := z) C dX5_liftPivot_14 rfl ?_
    obtain ⟨v5, e6, hf⟩ := j_bind hf
    refine x_aald C dX5_liftPivot_15 e6 ?_
    refine x_iload_n (v := a1) C dX5_liftPivot_16 rfl ?_
    obtain ⟨v7, e8, hf⟩ := j_bind hf
    refine x_iald C dX5_liftPivot_17 e8 ?_
    refine x_if_eq (tgt := 39) C dX5_liftPivot_18 (by decide) (fun c22 => ?_) (fun c22 => ?_)
    · have hf := j_ifp hf c22
      refine x_iinc (v := z) C dX5_liftPivot_39 rfl ki_1 (by decide) ?_
      refine x_goto (tgt := 2) C dX5_liftPivot_42 (by decide) ?_
      obtain ⟨rfl, rfl⟩ := j_inj2 hf
      exact x_locr hk rfl
    · have hf := j_ifn hf c22
      refine x_aload_n (v := a0) C dX5_liftPivot_21 rfl ?_
      refine x_aload_n (v := a0) C dX5_liftPivot_22 rfl ?_
      obtain ⟨v9, e10, hf⟩ := j_bind hf
      refine x_get C dX5_liftPivot_23 (jgR_some e10) fg_X5_20 ?_
      refine x_iload_n (v := z) C dX5_liftPivot_26 rfl ?_
      obtain ⟨v11, e12, hf⟩ := j_bind hf
      refine x_aald C dX5_liftPivot_27 e12 ?_
      refine x_aload_n (v := a0) C dX5_liftPivot_28 rfl ?_
      obtain ⟨v13, e14, hf⟩ := j_bind hf
      refine x_get C dX5_liftPivot_29 (jgR_some e14) fg_X5_20 ?_
      refine x_iload_n (v := a1) C dX5_liftPivot_32 rfl ?_
      obtain ⟨v15, e16, hf⟩ := j_bind hf
      refine x_aald C dX5_liftPivot_33 e16 ?_
      obtain ⟨u19, e20, hf⟩ := j_bind hf
      obtain ⟨q17, e18, hf⟩ := j_bind hf
      refine x_callV (As := [.ref v11, .ref v15]) (rest := []) C dX5_liftPivot_34 (m_X5_exchange (l := l) (E := E) (d := d - 1) (by omega) e18) km_X5_exchange lk_X5_92 kv_X5_exchange (ci := 3) rfl e20 rfl (by omega) (Nat.le_of_ble_eq_true rfl) (j_le_of (q_X5_exchange e18)) (Or.inr (q_X5_exchange e18)) ?_
      refine x_iconst C dX5_liftPivot_37 ki_1 ?_
      obtain ⟨rfl, rfl⟩ := j_inj2 hf
      obtain ⟨rfl, rfl⟩ := hk
      exact x_zret C hret (Or.inr rfl) dX5_liftPivot_38
set_option maxHeartbeats 4000000 in
set_option maxRecDepth 100000 in
theorem m_X5_liftPivot {l : Launch} {E : JE} {d : Nat} (hdd : 1 ≤ d) {a0 : Nat} {a1 : Int32} {h : JH} {q : Int32 × JH} (hf : f_X5_liftPivot a0 a1 h = some q) : Con l E d yX5_liftPivot cX5_liftPivot 3 (some .boolean) [.ref a0, .int a1] h (some (.int q.1)) q.2 := by
  refine j_start rfl (Nat.le_of_ble_eq_true rfl) ?_
  intro p e s m args below meth c C hret hnm
  refine x_loc [(0, .ref a0), (1, .int a1)] rfl ?_
  unfold f_X5_liftPivot at hf
  refine x_iload_n (v := a1) C dX5_liftPivot_0 rfl ?_
  refine x_istore_n C dX5_liftPivot_1 (by decide) ?_
  obtain ⟨q23, e24, hf⟩ := j_bind hf
  refine x_loc [(0, .ref a0), (1, .int a1), (2, .int a1)] rfl ?_
  refine x_loop (s_X5_liftPivot_L2 C hret hdd a0 a1) e24 ?_
  cases y28 : q23.1 with
  | inl r26 =>
    rw [y28] at hf
    have hf := j_eliml hf
    obtain rfl := j_inj hf
    exact ⟨rfl, rfl⟩
  | inr t25 =>
    rw [y28] at hf
    have hf := j_elimr hf
    refine j_elimG ?_
    refine x_iconst C dX5_liftPivot_45 ki_0 ?_
    obtain rfl := j_inj hf
    exact x_zret C hret (Or.inl rfl) dX5_liftPivot_46
set_option maxHeartbeats 4000000 in
set_option maxRecDepth 100000 in
theorem s_X5_findOwn_L15 {p : Program} {l : Launch} {e : Env} {R : Room} {s : State} {m : MethodId} {args : Array Value} {below : List Frame} {meth : Method} {c : Code} {E : JE} {h0 hF : JH} {rF : Option Value} {d : Nat} (C : j_C p s m args meth c R E cX5_findOwn 5 RX5 h0 hF d) (hret : meth.sig.returnType = (some .boolean)) (hdd : 4 ≤ d) (a0 : Nat) (a2 : Nat) (a3 : Int32) (z : Int32) (h : JH) (r : Int32 ⊕ (Int32 ⊕ Int32)) (h1 : JH) (hf : f_X5_findOwn_L15 a0 a2 a3 z h = some (r, h1)) (hk : Sum.elim (fun z => Xw p l e R s m args below meth c E 5 h0 rF hF 15 [(0, .ref a0), (2, .ref a2), (3, .int a3), (4, .int z)] [] h1) (fun t => Sum.elim (fun rr => some (.int rr) = rF ∧ h1 = hF) (fun t => Xw p l e R s m args below meth c E 5 h0 rF hF 44 [(0, .ref a0), (2, .ref a2), (3, .int a3), (4, .int t)] [] h1) t) r) : Xw p l e R s m args below meth c E 5 h0 rF hF 15 [(0, .ref a0), (2, .ref a2), (3, .int a3), (4, .int z)] [] h := by
  unfold f_X5_findOwn_L15 at hf
  refine x_iload (v := z) C dX5_findOwn_15 rfl ?_
  refine x_iload_n (v := a3) C dX5_findOwn_17 rfl ?_
  refine x_icmp_ge (tgt := 44) C dX5_findOwn_18 (by decide) (fun c13 => ?_) (fun c13 => ?_)
  · have hf := j_ifp hf c13
    obtain ⟨rfl, rfl⟩ := j_inj2 hf
    exact x_locr hk rfl
  · have hf := j_ifn hf c13
    refine x_aload_n (v := a0) C dX5_findOwn_21 rfl ?_
    refine x_iload (v := z) C dX5_findOwn_22 rfl ?_
    obtain ⟨u11, e12, hf⟩ := j_bind hf
    obtain ⟨q5, e6, hf⟩ := j_bind hf
    refine x_callV (As := [.int z]) (rest := []) C dX5_findOwn_24 (m_X5_liftPivot (l := l) (E := E) (d := d - 1) (by omega) e6) km_X5_liftPivot lk_X5_85 kv_X5_liftPivot (ci := 3) rfl e12 rfl (by omega) (Nat.le_of_ble_eq_true rfl) (j_le_of (q_X5_liftPivot e6)) (Or.inr (q_X5_liftPivot e6)) ?_
    refine x_if_ne (tgt := 32) C dX5_findOwn_27 (by decide) (fun c14 => ?_) (fun c14 => ?_)
    · have hf := j_ifn hf c14
      refine x_aload_n (v := a0) C dX5_findOwn_32 rfl ?_
      refine x_iload (v := z) C dX5_findOwn_33 rfl ?_
      obtain ⟨u9, e10, hf⟩ := j_bind hf
      obtain ⟨q7, e8, hf⟩ := j_bind hf
      refine x_callV (As := [.int z]) (rest := []) C dX5_findOwn_35 (m_X5_clearColumn (l := l) (E := E) (d := d - 1) (by omega) e8) km_X5_clearColumn lk_X5_89 kv_X5_clearColumn (ci := 3) rfl e10 rfl (by omega) (Nat.le_of_ble_eq_true rfl) (j_le_of (q_X5_clearColumn e8)) (Or.inr (q_X5_clearColumn e8)) ?_
      refine x_iinc (v := z) C dX5_findOwn_38 rfl ki_1 (by decide) ?_
      refine x_goto (tgt := 15) C dX5_findOwn_41 (by decide) ?_
      obtain ⟨rfl, rfl⟩ := j_inj2 hf
      exact x_locr hk rfl
    · have hf := j_ifp hf c14
      refine x_iconst C dX5_findOwn_30 ki_0 ?_
      obtain ⟨rfl, rfl⟩ := j_inj2 hf
      obtain ⟨rfl, rfl⟩ := hk
      exact x_zret C hret (Or.inl rfl) dX5_findOwn_31
set_option maxHeartbeats 4000000 in
set_option maxRecDepth 100000 in
theorem s_X5_findOwn_L68 {p : Program} {l : Launch} {e : Env} {R : Room} {s : State} {m : MethodId} {args : Array Value} {below : List Frame} {meth : Method} {c : Code} {E : JE} {h0 hF : JH} {rF : Option Value} {d : Nat} (C : j_C p s m args meth c R E cX5_findOwn 5 RX5 h0 hF d) (hret : meth.sig.returnType = (some .boolean)) (hdd : 4 ≤ d) (a0 : Nat) (a2 : Nat) (a3 : Int32) (z : Int32) (h : JH) (r : Int32 ⊕ Int32) (h1 : JH) (hf : f_X5_findOwn_L68 a0 a2 a3 z h = some (r, h1)) (hk : Sum.elim (fun z => Xw p l e R s m args below meth c E 5 h0 rF hF 68 [(0, .ref a0), (2, .ref a2), (3, .int a3), (4, .int z)] [] h1) (fun t => Xw p l e R s m args below meth c E 5 h0 rF hF 95 [(0, .ref a0), (2, .ref a2), (3, .int a3), (4, .int t)] [] h1) r) : Xw p l e R s m args below meth c E 5 h0 rF hF 68 [(0, .ref a0), (2, .ref a2), (3, .int a3), (4, .int z)] [] h := by
  unfold f_X5_findOwn_L68 at hf
  refine x_iload (v := z) C dX5_findOwn_68 rfl ?_
  refine x_iload_n (v := a3) C dX5_findOwn_70 rfl ?_
  refine x_icmp_ge (tgt := 95) C dX5_findOwn_71 (by decide) (fun c35 => ?_) (fun c35 => ?_)
  · have hf := j_ifp hf c35
    obtain ⟨rfl, rfl⟩ := j_inj2 hf
    exact x_locr hk rfl
  · have hf := j_ifn hf c35
    refine x_aload_n (v := a2) C dX5_findOwn_74 rfl ?_
    refine x_iload (v := z) C dX5_findOwn_75 rfl ?_
    refine x_iconst C dX5_findOwn_77 ki_2 ?_
    refine x_iadd C dX5_findOwn_78 ?_
    refine x_aload_n (v := a0) C dX5_findOwn_79 rfl ?_
    obtain ⟨v27, e28, hf⟩ := j_bind hf
    refine x_get C dX5_findOwn_80 (jgR_some e28) fg_X5_20 ?_
    refine x_iload (v := z) C dX5_findOwn_83 rfl ?_
    obtain ⟨v29, e30, hf⟩ := j_bind hf
    refine x_aald C dX5_findOwn_85 e30 ?_
    refine x_iload_n (v := a3) C dX5_findOwn_86 rfl ?_
    obtain ⟨v31, e32, hf⟩ := j_bind hf
    refine x_iald C dX5_findOwn_87 e32 ?_
    obtain ⟨h33, e34, hf⟩ := j_bind hf
    refine x_iast C dX5_findOwn_88 e34 ?_
    refine x_iinc (v := z) C dX5_findOwn_89 rfl ki_1 (by decide) ?_
    refine x_goto (tgt := 68) C dX5_findOwn_92 (by decide) ?_
    obtain ⟨rfl, rfl⟩ := j_inj2 hf
    exact x_locr hk rfl
set_option maxHeartbeats 4000000 in
set_option maxRecDepth 100000 in
theorem m_X5_findOwn {l : Launch} {E : JE} {d : Nat} (hdd : 4 ≤ d) {a0 : Nat} {a1 : Int32} {a2 : Nat} {h : JH} {q : Int32 × JH} (hf : f_X5_findOwn a0 a1 a2 h = some q) : Con l E d yX5_findOwn cX5_findOwn 5 (some .boolean) [.ref a0, .int a1, .ref a2] h (some (.int q.1)) q.2 := by
  refine j_start rfl (Nat.le_of_ble_eq_true rfl) ?_
  intro p e s m args below meth c C hret hnm
  refine x_loc [(0, .ref a0), (1, .int a1), (2, .ref a2)] rfl ?_
  unfold f_X5_findOwn at hf
  refine x_aload_n (v := a0) C dX5_findOwn_0 rfl ?_
  refine x_iload_n (v := a1) C dX5_findOwn_1 rfl ?_
  obtain ⟨u38, e39, hf⟩ := j_bind hf
  obtain ⟨q1, e2, hf⟩ := j_bind hf
  refine x_callV (As := [.int a1]) (rest := []) C dX5_findOwn_2 (m_X5_layEquations (l := l) (E := E) (d := d - 1) (by omega) e2) km_X5_layEquations lk_X5_82 kv_X5_layEquations (ci := 3) rfl e39 rfl (by omega) (Nat.le_of_ble_eq_true rfl) (j_le_of (q_X5_layEquations e2)) (Or.inr (q_X5_layEquations e2)) ?_
  refine x_aload_n (v := a0) C dX5_findOwn_5 rfl ?_
  obtain ⟨v3, e4, hf⟩ := j_bind hf
  refine x_get C dX5_findOwn_6 (jgI_some e4) fg_X5_36 ?_
  refine x_iconst C dX5_findOwn_9 ki_1 ?_
  refine x_isub C dX5_findOwn_10 ?_
  refine x_istore_n C dX5_findOwn_11 (by decide) ?_
  refine x_iconst C dX5_findOwn_12 ki_0 ?_
  refine x_istore C dX5_findOwn_13 (by decide) ?_
  obtain ⟨q15, e16, hf⟩ := j_bind hf
  refine x_loc [(0, .ref a0), (2, .ref a2), (3, .int (v3 - (1 : Int32))), (4, .int (0 : Int32))] rfl ?_
  refine x_loop (s_X5_findOwn_L15 C hret hdd a0 a2 (v3 - (1 : Int32))) e16 ?_
  cases y41 : q15.1 with
  | inl r18 =>
    rw [y41] at hf
    have hf := j_eliml hf
    obtain rfl := j_inj hf
    exact ⟨rfl, rfl⟩
  | inr t17 =>
    rw [y41] at hf
    have hf := j_elimr hf
    refine j_elimG ?_
    refine x_iload_n (v := v3 - (1 : Int32)) C dX5_findOwn_44 rfl ?_
    refine x_if_lt (tgt := 59) C dX5_findOwn_45 (by decide) (fun c42 => ?_) (fun c42 => ?_)
    · have hf := j_ifp hf c42
      refine x_iconst C dX5_findOwn_59 ki_0 ?_
      obtain rfl := j_inj hf
      exact x_zret C hret (Or.inl rfl) dX5_findOwn_60
    · have hf := j_ifn hf c42
      refine x_aload_n (v := a0) C dX5_findOwn_48 rfl ?_
      obtain ⟨v19, e20, hf⟩ := j_bind hf
      refine x_get C dX5_findOwn_49 (jgR_some e20) fg_X5_20 ?_
      refine x_iload_n (v := v3 - (1 : Int32)) C dX5_findOwn_52 rfl ?_
      obtain ⟨v21, e22, hf⟩ := j_bind hf
      refine x_aald C dX5_findOwn_53 e22 ?_
      refine x_iload_n (v := v3 - (1 : Int32)) C dX5_findOwn_54 rfl ?_
      obtain ⟨v23, e24, hf⟩ := j_bind hf
      refine x_iald C dX5_findOwn_55 e24 ?_
      refine x_if_eq (tgt := 61) C dX5_findOwn_56 (by decide) (fun c43 => ?_) (fun c43 => ?_)
      · have hf := j_ifp hf c43
        refine x_aload_n (v := a2) C dX5_findOwn_61 rfl ?_
        refine x_iconst C dX5_findOwn_62 ki_1 ?_
        refine x_iconst C dX5_findOwn_63 ki_1 ?_
        obtain ⟨h25, e26, hf⟩ := j_bind hf
        refine x_iast C dX5_findOwn_64 e26 ?_
        refine x_iconst C dX5_findOwn_65 ki_0 ?_
        refine x_istore C dX5_findOwn_66 (by decide) ?_
        obtain ⟨q36, e37, hf⟩ := j_bind hf
        refine x_loc [(0, .ref a0), (2, .ref a2), (3, .int (v3 - (1 : Int32))), (4, .int (0 : Int32))] rfl ?_
        refine x_loop (s_X5_findOwn_L68 C hret hdd a0 a2 (v3 - (1 : Int32))) e37 ?_
        refine x_iconst C dX5_findOwn_95 ki_1 ?_
        obtain rfl := j_inj hf
        exact x_zret C hret (Or.inr rfl) dX5_findOwn_96
      · have hf := j_ifn hf c43
        refine x_iconst C dX5_findOwn_59 ki_0 ?_
        obtain rfl := j_inj hf
        exact x_zret C hret (Or.inl rfl) dX5_findOwn_60
set_option maxHeartbeats 4000000 in
set_option maxRecDepth 100000 in
theorem m_X6_numbersInRow {l : Launch} {E : JE} {d : Nat} (hdd : 0 ≤ d) {a0 : Nat} {h : JH} {q : Int32 × JH} (hf : f_X6_numbersInRow a0 h = some q) : Con l E d yX6_numbersInRow cX6_numbersInRow 1 (some .int) [.ref a0] h (some (.int q.1)) q.2 := by
  refine j_start rfl (Nat.le_of_ble_eq_true rfl) ?_
  intro p e s m args below meth c C hret hnm
  refine x_loc [(0, .ref a0)] rfl ?_
  unfold f_X6_numbersInRow at hf
  refine x_aload_n (v := a0) C dX6_numbersInRow_0 rfl ?_
  obtain ⟨v1, e2, hf⟩ := j_bind hf
  refine x_get C dX6_numbersInRow_1 (jgI_some e2) fg_X6_20 ?_
  refine x_if_eq (tgt := 12) C dX6_numbersInRow_4 (by decide) (fun c3 => ?_) (fun c3 => ?_)
  · have hf := j_ifp hf c3
    refine x_bipush C dX6_numbersInRow_12 kb_13 ?_
    obtain rfl := j_inj hf
    exact x_iret C hret dX6_numbersInRow_14
  · have hf := j_ifn hf c3
    refine x_bipush C dX6_numbersInRow_7 kb_12 ?_
    refine x_goto (tgt := 14) C dX6_numbersInRow_9 (by decide) ?_
    obtain rfl := j_inj hf
    exact x_iret C hret dX6_numbersInRow_14
set_option maxHeartbeats 4000000 in
set_option maxRecDepth 100000 in
theorem s_X6_empty_L2 {p : Program} {l : Launch} {e : Env} {R : Room} {s : State} {m : MethodId} {args : Array Value} {below : List Frame} {meth : Method} {c : Code} {E : JE} {h0 hF : JH} {rF : Option Value} {d : Nat} (C : j_C p s m args meth c R E cX6_empty 2 RX6 h0 hF d) (hret : meth.sig.returnType = none) (hdd : 0 ≤ d) (a0 : Nat) (z : Int32) (h : JH) (r : Int32 ⊕ Int32) (h1 : JH) (hf : f_X6_empty_L2 a0 z h = some (r, h1)) (hk : Sum.elim (fun z => Xw p l e R s m args below meth c E 2 h0 rF hF 2 [(0, .ref a0), (1, .int z)] [] h1) (fun t => Xw p l e R s m args below meth c E 2 h0 rF hF 20 [(0, .ref a0), (1, .int t)] [] h1) r) : Xw p l e R s m args below meth c E 2 h0 rF hF 2 [(0, .ref a0), (1, .int z)] [] h := by
  unfold f_X6_empty_L2 at hf
  refine x_iload_n (v := z) C dX6_empty_2 rfl ?_
  refine x_iconst C dX6_empty_3 ki_4 ?_
  refine x_icmp_ge (tgt := 20) C dX6_empty_4 (by decide) (fun c5 => ?_) (fun c5 => ?_)
  · have hf := j_ifp hf c5
    obtain ⟨rfl, rfl⟩ := j_inj2 hf
    exact x_locr hk rfl
  · have hf := j_ifn hf c5
    refine x_aload_n (v := a0) C dX6_empty_7 rfl ?_
    obtain ⟨v1, e2, hf⟩ := j_bind hf
    refine x_get C dX6_empty_8 (jgR_some e2) fg_X6_9 ?_
    refine x_iload_n (v := z) C dX6_empty_11 rfl ?_
    refine x_iconst C dX6_empty_12 ki_0 ?_
    obtain ⟨h3, e4, hf⟩ := j_bind hf
    refine x_bast C dX6_empty_13 e4 ?_
    refine x_iinc (v := z) C dX6_empty_14 rfl ki_1 (by decide) ?_
    refine x_goto (tgt := 2) C dX6_empty_17 (by decide) ?_
    obtain ⟨rfl, rfl⟩ := j_inj2 hf
    exact x_locr hk rfl
set_option maxHeartbeats 4000000 in
set_option maxRecDepth 100000 in
theorem m_X6_empty {l : Launch} {E : JE} {d : Nat} (hdd : 0 ≤ d) {a0 : Nat} {h : JH} {q : Unit × JH} (hf : f_X6_empty a0 h = some q) : Con l E d yX6_empty cX6_empty 2 none [.ref a0] h (none) q.2 := by
  refine j_start rfl (Nat.le_of_ble_eq_true rfl) ?_
  intro p e s m args below meth c C hret hnm
  refine x_loc [(0, .ref a0)] rfl ?_
  unfold f_X6_empty at hf
  refine x_iconst C dX6_empty_0 ki_0 ?_
  refine x_istore_n C dX6_empty_1 (by decide) ?_
  obtain ⟨q6, e7, hf⟩ := j_bind hf
  refine x_loc [(0, .ref a0), (1, .int (0 : Int32))] rfl ?_
  refine x_loop (s_X6_empty_L2 C hret hdd a0) e7 ?_
  obtain rfl := j_inj hf
  exact x_vret C hret dX6_empty_20
set_option maxHeartbeats 4000000 in
set_option maxRecDepth 100000 in
theorem m_X7_init {l : Launch} {E : JE} {d : Nat} (hdd : 1 ≤ d) {a0 : Nat} {a1 : Int32} {h : JH} {q : Unit × JH} (hf : f_X7_init a0 a1 h = some q) : Con l E d yX7_init cX7_init 2 none [.ref a0, .int a1] h (none) q.2 := by
  refine j_start rfl (Nat.le_of_ble_eq_true rfl) ?_
  intro p e s m args below meth c C hret hnm
  have hin : meth.name = "<init>" := hnm
  refine x_loc [(0, .ref a0), (1, .int a1)] rfl ?_
  unfold f_X7_init at hf
  refine x_aload_n (v := a0) C dX7_init_0 rfl ?_
  refine x_objInit C dX7_init_1 ⟨lk_X7_3, w_obj⟩ (by omega) (Nat.le_of_ble_eq_true rfl) ?_
  refine x_aload_n (v := a0) C dX7_init_4 rfl ?_
  refine x_iconst C dX7_init_5 ki_0 ?_
  refine x_iconst C dX7_init_6 ki_0 ?_
  obtain ⟨q1, e2, hf⟩ := j_bind hf
  have hle : j_le q1.2 q.2 := by
    obtain ⟨h3, e4, hf⟩ := j_bind hf
    refine j_le_trans (j_le_of (jput_n e4)) ?_
    obtain ⟨q5, e6, hf⟩ := j_bind hf
    refine j_le_trans (jnA_le e6) ?_
    obtain ⟨h7, e8, hf⟩ := j_bind hf
    refine j_le_trans (j_le_of (jput_n e8)) ?_
    obtain ⟨h9, e10, hf⟩ := j_bind hf
    refine j_le_trans (j_le_of (jput_n e10)) ?_
    obtain ⟨q11, e12, hf⟩ := j_bind hf
    refine j_le_trans (j_le_of ((q_X11_lengthOf e12))) ?_
    obtain ⟨h13, e14, hf⟩ := j_bind hf
    refine j_le_trans (j_le_of (jput_n e14)) ?_
    obtain rfl := j_inj hf
    exact j_le_refl _
  refine x_mna (ty := .int) (q := q1.1) (h1 := q1.2) C dX7_init_7 (by decide) (by decide) (by decide) (fun q => q) (fun q => q) (fun _ => j_inner _ _ (by decide)) rfl rfl wm_X7_9 e2 hle ?_
  obtain ⟨h3, e4, hf⟩ := j_bind hf
  refine x_put C dX7_init_11 e4 fp_X7_11 rfl rfl ?_
  refine x_aload_n (v := a0) C dX7_init_14 rfl ?_
  refine x_bipush C dX7_init_15 kb_6 ?_
  obtain ⟨q5, e6, hf⟩ := j_bind hf
  have hle : j_le q5.2 q.2 := by
    obtain ⟨h7, e8, hf⟩ := j_bind hf
    refine j_le_trans (j_le_of (jput_n e8)) ?_
    obtain ⟨h9, e10, hf⟩ := j_bind hf
    refine j_le_trans (j_le_of (jput_n e10)) ?_
    obtain ⟨q11, e12, hf⟩ := j_bind hf
    refine j_le_trans (j_le_of ((q_X11_lengthOf e12))) ?_
    obtain ⟨h13, e14, hf⟩ := j_bind hf
    refine j_le_trans (j_le_of (jput_n e14)) ?_
    obtain rfl := j_inj hf
    exact j_le_refl _
  refine x_newa (q := q5.1) (h1 := q5.2) C dX7_init_17 rfl (by decide) (by decide) (fun q => q) wi_int e6 hle ?_
  obtain ⟨h7, e8, hf⟩ := j_bind hf
  refine x_putF C hin dX7_init_19 e8 fp_X7_16 rfl rfl ?_
  refine x_aload_n (v := a0) C dX7_init_22 rfl ?_
  refine x_iload_n (v := a1) C dX7_init_23 rfl ?_
  obtain ⟨h9, e10, hf⟩ := j_bind hf
  refine x_putF C hin dX7_init_24 e10 fp_X7_20 rfl rfl ?_
  refine x_aload_n (v := a0) C dX7_init_27 rfl ?_
  refine x_iload_n (v := a1) C dX7_init_28 rfl ?_
  obtain ⟨q11, e12, hf⟩ := j_bind hf
  refine x_callSN (As := [.int a1]) (rest := [.ref a0]) C dX7_init_29 (m_X11_lengthOf (l := l) (E := E) (d := d - 1) (by omega) e12) km_X11_lengthOf lk_X7_24 ks_X11_lengthOf rfl (by omega) (Nat.le_of_ble_eq_true rfl) (j_le_of (q_X11_lengthOf e12)) (Or.inr (q_X11_lengthOf e12)) ?_
  obtain ⟨h13, e14, hf⟩ := j_bind hf
  refine x_putF C hin dX7_init_32 e14 fp_X7_28 rfl rfl ?_
  obtain rfl := j_inj hf
  exact x_vret C hret dX7_init_35
set_option maxHeartbeats 4000000 in
set_option maxRecDepth 100000 in
theorem m_X7_isReady {l : Launch} {E : JE} {d : Nat} (hdd : 0 ≤ d) {a0 : Nat} {a1 : Int32} {a2 : Int32} {h : JH} {q : Int32 × JH} (hf : f_X7_isReady a0 a1 a2 h = some q) : Con l E d yX7_isReady cX7_isReady 3 (some .boolean) [.ref a0, .int a1, .int a2] h (some (.int q.1)) q.2 := by
  refine j_start rfl (Nat.le_of_ble_eq_true rfl) ?_
  intro p e s m args below meth c C hret hnm
  refine x_loc [(0, .ref a0), (1, .int a1), (2, .int a2)] rfl ?_
  unfold f_X7_isReady at hf
  refine x_aload_n (v := a0) C dX7_isReady_0 rfl ?_
  obtain ⟨v1, e2, hf⟩ := j_bind hf
  refine x_get C dX7_isReady_1 (jgI_some e2) fg_X7_31 ?_
  refine x_iload_n (v := a1) C dX7_isReady_4 rfl ?_
  refine x_icmp_ne (tgt := 20) C dX7_isReady_5 (by decide) (fun c5 => ?_) (fun c5 => ?_)
  · have hf := j_ifn hf c5
    refine x_iconst C dX7_isReady_20 ki_0 ?_
    obtain rfl := j_inj hf
    exact x_zret C hret (Or.inl rfl) dX7_isReady_21
  · have hf := j_ifp hf c5
    refine x_aload_n (v := a0) C dX7_isReady_8 rfl ?_
    obtain ⟨v3, e4, hf⟩ := j_bind hf
    refine x_get C dX7_isReady_9 (jgI_some e4) fg_X7_34 ?_
    refine x_iload_n (v := a2) C dX7_isReady_12 rfl ?_
    refine x_icmp_lt (tgt := 20) C dX7_isReady_13 (by decide) (fun c6 => ?_) (fun c6 => ?_)
    · have hf := j_ifp hf c6
      refine x_iconst C dX7_isReady_20 ki_0 ?_
      obtain rfl := j_inj hf
      exact x_zret C hret (Or.inl rfl) dX7_isReady_21
    · have hf := j_ifn hf c6
      refine x_iconst C dX7_isReady_16 ki_1 ?_
      refine x_goto (tgt := 21) C dX7_isReady_17 (by decide) ?_
      obtain rfl := j_inj hf
      exact x_zret C hret (Or.inr rfl) dX7_isReady_21
set_option maxHeartbeats 4000000 in
set_option maxRecDepth 100000 in
theorem m_X7_begin {l : Launch} {E : JE} {d : Nat} (hdd : 0 ≤ d) {a0 : Nat} {a1 : Int32} {a2 : Int32} {h : JH} {q : Unit × JH} (hf : f_X7_begin a0 a1 a2 h = some q) : Con l E d yX7_begin cX7_begin 3 none [.ref a0, .int a1, .int a2] h (none) q.2 := by
  refine j_start rfl (Nat.le_of_ble_eq_true rfl) ?_
  intro p e s m args below meth c C hret hnm
  refine x_loc [(0, .ref a0), (1, .int a1), (2, .int a2)] rfl ?_
  unfold f_X7_begin at hf
  refine x_aload_n (v := a0) C dX7_begin_0 rfl ?_
  refine x_iload_n (v := a1) C dX7_begin_1 rfl ?_
  obtain ⟨h1, e2, hf⟩ := j_bind hf
  refine x_put C dX7_begin_2 e2 fp_X7_31 rfl rfl ?_
  refine x_aload_n (v := a0) C dX7_begin_5 rfl ?_
  refine x_iload_n (v := a2) C dX7_begin_6 rfl ?_
  obtain ⟨h3, e4, hf⟩ := j_bind hf
  refine x_put C dX7_begin_7 e4 fp_X7_34 rfl rfl ?_
  refine x_aload_n (v := a0) C dX7_begin_10 rfl ?_
  obtain ⟨v5, e6, hf⟩ := j_bind hf
  refine x_get C dX7_begin_11 (jgR_some e6) fg_X7_11 ?_
  obtain ⟨v7, e8, hf⟩ := j_bind hf
  refine x_alen C dX7_begin_14 e8 ?_
  refine x_aload_n (v := a0) C dX7_begin_15 rfl ?_
  obtain ⟨v9, e10, hf⟩ := j_bind hf
  refine x_get C dX7_begin_16 (jgI_some e10) fg_X7_28 ?_
  refine x_icmp_eq (tgt := 37) C dX7_begin_19 (by decide) (fun c17 => ?_) (fun c17 => ?_)
  · have hf := j_ifp hf c17
    obtain rfl := j_inj hf
    exact x_vret C hret dX7_begin_37
  · have hf := j_ifn hf c17
    refine x_aload_n (v := a0) C dX7_begin_22 rfl ?_
    refine x_aload_n (v := a0) C dX7_begin_23 rfl ?_
    obtain ⟨v11, e12, hf⟩ := j_bind hf
    refine x_get C dX7_begin_24 (jgI_some e12) fg_X7_28 ?_
    refine x_sipush C dX7_begin_27 ks_181 ?_
    obtain ⟨q13, e14, hf⟩ := j_bind hf
    have hle : j_le q13.2 q.2 := by
      obtain ⟨h15, e16, hf⟩ := j_bind hf
      refine j_le_trans (j_le_of (jput_n e16)) ?_
      obtain rfl := j_inj hf
      exact j_le_refl _
    refine x_mna (ty := .int) (q := q13.1) (h1 := q13.2) C dX7_begin_30 (by decide) (by decide) (by decide) (fun q => q) (fun q => q) (fun _ => j_inner _ _ (by decide)) rfl rfl wm_X7_9 e14 hle ?_
    obtain ⟨h15, e16, hf⟩ := j_bind hf
    refine x_put C dX7_begin_34 e16 fp_X7_11 rfl rfl ?_
    obtain rfl := j_inj hf
    exact x_vret C hret dX7_begin_37
set_option maxHeartbeats 4000000 in
set_option maxRecDepth 100000 in
theorem m_X7_factorOfSums {l : Launch} {E : JE} {d : Nat} (hdd : 0 ≤ d) {a0 : Nat} {h : JH} {q : Int32 × JH} (hf : f_X7_factorOfSums a0 h = some q) : Con l E d yX7_factorOfSums cX7_factorOfSums 1 (some .int) [.ref a0] h (some (.int q.1)) q.2 := by
  refine j_start rfl (Nat.le_of_ble_eq_true rfl) ?_
  intro p e s m args below meth c C hret hnm
  refine x_loc [(0, .ref a0)] rfl ?_
  unfold f_X7_factorOfSums at hf
  refine x_aload_n (v := a0) C dX7_factorOfSums_0 rfl ?_
  obtain ⟨v1, e2, hf⟩ := j_bind hf
  refine x_get C dX7_factorOfSums_1 (jgI_some e2) fg_X7_20 ?_
  by_cases c3 : v1 = (0 : Int32)
  · have hf := j_ifp hf c3
    refine x_table C dX7_factorOfSums_4 64 (by rw [c3]; decide) (60) (by rw [c3]; rfl) (by decide) ?_
    refine x_iconst C dX7_factorOfSums_64 ki_0 ?_
    obtain rfl := j_inj hf
    exact x_iret C hret dX7_factorOfSums_65
  have hf := j_ifn hf c3
  by_cases c4 : v1 = (4 : Int32)
  · have hf := j_ifp hf c4
    refine x_table C dX7_factorOfSums_4 66 (by rw [c4]; decide) (62) (by rw [c4]; rfl) (by decide) ?_
    refine x_sipush C dX7_factorOfSums_66 ks_240 ?_
    obtain rfl := j_inj hf
    exact x_iret C hret dX7_factorOfSums_69
  have hf := j_ifn hf c4
  by_cases c5 : v1 = (6 : Int32)
  · have hf := j_ifp hf c5
    refine x_table C dX7_factorOfSums_4 70 (by rw [c5]; decide) (66) (by rw [c5]; rfl) (by decide) ?_
    refine x_sipush C dX7_factorOfSums_70 ks_m504 ?_
    obtain rfl := j_inj hf
    exact x_iret C hret dX7_factorOfSums_73
  have hf := j_ifn hf c5
  by_cases c6 : v1 = (8 : Int32)
  · have hf := j_ifp hf c6
    refine x_table C dX7_factorOfSums_4 74 (by rw [c6]; decide) (70) (by rw [c6]; rfl) (by decide) ?_
    refine x_sipush C dX7_factorOfSums_74 ks_480 ?_
    obtain rfl := j_inj hf
    exact x_iret C hret dX7_factorOfSums_77
  have hf := j_ifn hf c6
  by_cases c7 : v1 = (10 : Int32)
  · have hf := j_ifp hf c7
    refine x_table C dX7_factorOfSums_4 78 (by rw [c7]; decide) (74) (by rw [c7]; rfl) (by decide) ?_
    refine x_sipush C dX7_factorOfSums_78 ks_m264 ?_
    obtain rfl := j_inj hf
    exact x_iret C hret dX7_factorOfSums_81
  have hf := j_ifn hf c7
  by_cases c8 : v1 = (1 : Int32)
  · refine x_table C dX7_factorOfSums_4 82 (by rw [c8]; decide) (78) (by rw [c8]; rfl) (by decide) ?_
    refine x_bipush C dX7_factorOfSums_82 kb_m24 ?_
    obtain rfl := j_inj hf
    exact x_iret C hret dX7_factorOfSums_84
  by_cases c9 : v1 = (2 : Int32)
  · refine x_table C dX7_factorOfSums_4 82 (by rw [c9]; decide) (78) (by rw [c9]; rfl) (by decide) ?_
    refine x_bipush C dX7_factorOfSums_82 kb_m24 ?_
    obtain rfl := j_inj hf
    exact x_iret C hret dX7_factorOfSums_84
  by_cases c10 : v1 = (3 : Int32)
  · refine x_table C dX7_factorOfSums_4 82 (by rw [c10]; decide) (78) (by rw [c10]; rfl) (by decide) ?_
    refine x_bipush C dX7_factorOfSums_82 kb_m24 ?_
    obtain rfl := j_inj hf
    exact x_iret C hret dX7_factorOfSums_84
  by_cases c11 : v1 = (5 : Int32)
  · refine x_table C dX7_factorOfSums_4 82 (by rw [c11]; decide) (78) (by rw [c11]; rfl) (by decide) ?_
    refine x_bipush C dX7_factorOfSums_82 kb_m24 ?_
    obtain rfl := j_inj hf
    exact x_iret C hret dX7_factorOfSums_84
  by_cases c12 : v1 = (7 : Int32)
  · refine x_table C dX7_factorOfSums_4 82 (by rw [c12]; decide) (78) (by rw [c12]; rfl) (by decide) ?_
    refine x_bipush C dX7_factorOfSums_82 kb_m24 ?_
    obtain rfl := j_inj hf
    exact x_iret C hret dX7_factorOfSums_84
  by_cases c13 : v1 = (9 : Int32)
  · refine x_table C dX7_factorOfSums_4 82 (by rw [c13]; decide) (78) (by rw [c13]; rfl) (by decide) ?_
    refine x_bipush C dX7_factorOfSums_82 kb_m24 ?_
    obtain rfl := j_inj hf
    exact x_iret C hret dX7_factorOfSums_84
  refine x_tableD C dX7_factorOfSums_4 82 (by have := j_ne c3 (show (0 : Int32).toInt = 0 by decide); have := j_ne c4 (show (4 : Int32).toInt = 4 by decide); have := j_ne c5 (show (6 : Int32).toInt = 6 by decide); have := j_ne c6 (show (8 : Int32).toInt = 8 by decide); have := j_ne c7 (show (10 : Int32).toInt = 10 by decide); have := j_ne c8 (show (1 : Int32).toInt = 1 by decide); have := j_ne c9 (show (2 : Int32).toInt = 2 by decide); have := j_ne c10 (show (3 : Int32).toInt = 3 by decide); have := j_ne c11 (show (5 : Int32).toInt = 5 by decide); have := j_ne c12 (show (7 : Int32).toInt = 7 by decide); have := j_ne c13 (show (9 : Int32).toInt = 9 by decide); omega) (by decide) ?_
  refine x_bipush C dX7_factorOfSums_82 kb_m24 ?_
  obtain rfl := j_inj hf
  exact x_iret C hret dX7_factorOfSums_84
