set_option maxHeartbeats 4000000 in
set_option maxRecDepth 100000 in
theorem m_X12_weight {l : Launch} {E : JE} {d : Nat} (hdd : 2 ≤ d) {a0 : Nat} {a1 : Int32} {h : JH} {q : Int32 × JH} (hf : f_X12_weight a0 a1 h = some q) : Con l E d yX12_weight cX12_weight 2 (some .int) [.ref a0, .int a1] h (some (.int q.1)) q.2 := by
  refine j_start rfl (Nat.le_of_ble_eq_true rfl) ?_
  intro p e s m args below meth c C hret hnm
  refine x_loc [(0, .ref a0), (1, .int a1)] rfl ?_
  unfold f_X12_weight at hf
  refine x_aload_n (v := a0) C dX12_weight_0 rfl ?_
  refine x_iconst C dX12_weight_1 ki_0 ?_
  obtain ⟨h1, e2, hf⟩ := j_bind hf
  refine x_put C dX12_weight_2 e2 fp_X12_1 rfl rfl ?_
  refine x_aload_n (v := a0) C dX12_weight_5 rfl ?_
  refine x_iload_n (v := a1) C dX12_weight_6 rfl ?_
  obtain ⟨u9, e10, hf⟩ := j_bind hf
  obtain ⟨q3, e4, hf⟩ := j_bind hf
  refine x_callV (As := [.int a1]) (rest := []) C dX12_weight_7 (m_X12_isRegister (l := l) (E := E) (d := d - 1) (by omega) e4) km_X12_isRegister lk_X12_269 kv_X12_isRegister (ci := 9) rfl e10 rfl (by omega) (Nat.le_of_ble_eq_true rfl) (j_le_of (q_X12_isRegister e4)) (Or.inr (q_X12_isRegister e4)) ?_
  refine x_if_eq (tgt := 22) C dX12_weight_10 (by decide) (fun c11 => ?_) (fun c11 => ?_)
  · have hf := j_ifp hf c11
    refine x_iconst C dX12_weight_22 ki_m1 ?_
    obtain rfl := j_inj hf
    exact x_iret C hret dX12_weight_23
  · have hf := j_ifn hf c11
    refine x_aload_n (v := a0) C dX12_weight_13 rfl ?_
    obtain ⟨v5, e6, hf⟩ := j_bind hf
    refine x_get C dX12_weight_14 (jgR_some e6) fg_X12_215 ?_
    refine x_iload_n (v := a1) C dX12_weight_17 rfl ?_
    obtain ⟨v7, e8, hf⟩ := j_bind hf
    refine x_iald C dX12_weight_18 e8 ?_
    refine x_goto (tgt := 23) C dX12_weight_19 (by decide) ?_
    obtain rfl := j_inj hf
    exact x_iret C hret dX12_weight_23
set_option maxHeartbeats 4000000 in
set_option maxRecDepth 100000 in
theorem m_X12_cuspsOf {l : Launch} {E : JE} {d : Nat} (hdd : 1 ≤ d) {a0 : Int32} {h : JH} {q : Int32 × JH} (hf : f_X12_cuspsOf a0 h = some q) : Con l E d yX12_cuspsOf cX12_cuspsOf 1 (some .int) [.int a0] h (some (.int q.1)) q.2 := by
  refine j_start rfl (Nat.le_of_ble_eq_true rfl) ?_
  intro p e s m args below meth c C hret hnm
  refine x_loc [(0, .int a0)] rfl ?_
  unfold f_X12_cuspsOf at hf
  refine x_iload_n (v := a0) C dX12_cuspsOf_0 rfl ?_
  obtain ⟨q1, e2, hf⟩ := j_bind hf
  refine x_callS (As := [.int a0]) (rest := []) C dX12_cuspsOf_1 (m_X12_longOf (l := l) (E := E) (d := d - 1) (by omega) e2) km_X12_longOf lk_X12_52 ks_X12_longOf rfl (by omega) (Nat.le_of_ble_eq_true rfl) (j_le_of (q_X12_longOf e2)) (Or.inr (q_X12_longOf e2)) ?_
  refine x_if_ne (tgt := 11) C dX12_cuspsOf_4 (by decide) (fun c5 => ?_) (fun c5 => ?_)
  · have hf := j_ifn hf c5
    refine x_iload_n (v := a0) C dX12_cuspsOf_11 rfl ?_
    obtain ⟨q3, e4, hf⟩ := j_bind hf
    refine x_callS (As := [.int a0]) (rest := []) C dX12_cuspsOf_12 (m_X12_longOf (l := l) (E := E) (d := d - 1) (by omega) e4) km_X12_longOf lk_X12_52 ks_X12_longOf rfl (by omega) (Nat.le_of_ble_eq_true rfl) (j_le_of (q_X12_longOf e4)) (Or.inr (q_X12_longOf e4)) ?_
    refine x_iconst C dX12_cuspsOf_15 ki_1 ?_
    refine x_isub C dX12_cuspsOf_16 ?_
    obtain rfl := j_inj hf
    exact x_iret C hret dX12_cuspsOf_17
  · have hf := j_ifp hf c5
    refine x_iconst C dX12_cuspsOf_7 ki_0 ?_
    refine x_goto (tgt := 17) C dX12_cuspsOf_8 (by decide) ?_
    obtain rfl := j_inj hf
    exact x_iret C hret dX12_cuspsOf_17
set_option maxHeartbeats 4000000 in
set_option maxRecDepth 100000 in
theorem m_X12_makes {l : Launch} {E : JE} {d : Nat} (hdd : 2 ≤ d) {a0 : Nat} {a1 : Int32} {a2 : Int32} {h : JH} {q : Int32 × JH} (hf : f_X12_makes a0 a1 a2 h = some q) : Con l E d yX12_makes cX12_makes 3 (some .int) [.ref a0, .int a1, .int a2] h (some (.int q.1)) q.2 := by
  refine j_start rfl (Nat.le_of_ble_eq_true rfl) ?_
  intro p e s m args below meth c C hret hnm
  refine x_loc [(0, .ref a0), (1, .int a1), (2, .int a2)] rfl ?_
  unfold f_X12_makes at hf
  refine x_aload_n (v := a0) C dX12_makes_0 rfl ?_
  refine x_iconst C dX12_makes_1 ki_0 ?_
  obtain ⟨h1, e2, hf⟩ := j_bind hf
  refine x_put C dX12_makes_2 e2 fp_X12_1 rfl rfl ?_
  refine x_iload_n (v := a1) C dX12_makes_5 rfl ?_
  obtain ⟨q3, e4, hf⟩ := j_bind hf
  refine x_callS (As := [.int a1]) (rest := []) C dX12_makes_6 (m_X12_isWeight (l := l) (E := E) (d := d - 1) (by omega) e4) km_X12_isWeight lk_X12_272 ks_X12_isWeight rfl (by omega) (Nat.le_of_ble_eq_true rfl) (j_le_of (q_X12_isWeight e4)) (Or.inr (q_X12_isWeight e4)) ?_
  refine x_if_eq (tgt := 30) C dX12_makes_9 (by decide) (fun c9 => ?_) (fun c9 => ?_)
  · have hf := j_ifp hf c9
    refine x_iconst C dX12_makes_30 ki_m1 ?_
    obtain rfl := j_inj hf
    exact x_iret C hret dX12_makes_31
  · have hf := j_ifn hf c9
    refine x_iload_n (v := a2) C dX12_makes_12 rfl ?_
    refine x_if_eq (tgt := 23) C dX12_makes_13 (by decide) (fun c10 => ?_) (fun c10 => ?_)
    · have hf := j_ifp hf c10
      refine x_iload_n (v := a1) C dX12_makes_23 rfl ?_
      obtain ⟨q5, e6, hf⟩ := j_bind hf
      refine x_callS (As := [.int a1]) (rest := []) C dX12_makes_24 (m_X12_longOf (l := l) (E := E) (d := d - 1) (by omega) e6) km_X12_longOf lk_X12_52 ks_X12_longOf rfl (by omega) (Nat.le_of_ble_eq_true rfl) (j_le_of (q_X12_longOf e6)) (Or.inr (q_X12_longOf e6)) ?_
      refine x_goto (tgt := 31) C dX12_makes_27 (by decide) ?_
      obtain rfl := j_inj hf
      exact x_iret C hret dX12_makes_31
    · have hf := j_ifn hf c10
      refine x_iload_n (v := a1) C dX12_makes_16 rfl ?_
      obtain ⟨q7, e8, hf⟩ := j_bind hf
      refine x_callS (As := [.int a1]) (rest := []) C dX12_makes_17 (m_X12_cuspsOf (l := l) (E := E) (d := d - 1) (by omega) e8) km_X12_cuspsOf lk_X12_275 ks_X12_cuspsOf rfl (by omega) (Nat.le_of_ble_eq_true rfl) (j_le_of (q_X12_cuspsOf e8)) (Or.inr (q_X12_cuspsOf e8)) ?_
      refine x_goto (tgt := 31) C dX12_makes_20 (by decide) ?_
      obtain rfl := j_inj hf
      exact x_iret C hret dX12_makes_31
set_option maxHeartbeats 4000000 in
set_option maxRecDepth 100000 in
theorem s_X12_divisor_L22 {p : Program} {l : Launch} {e : Env} {R : Room} {s : State} {m : MethodId} {args : Array Value} {below : List Frame} {meth : Method} {c : Code} {E : JE} {h0 hF : JH} {rF : Option Value} {d : Nat} (C : j_C p s m args meth c R E cX12_divisor 5 RX12 h0 hF d) (hret : meth.sig.returnType = (some .int)) (hdd : 0 ≤ d)  (z : (Int32 × Int32)) (h : JH) (r : (Int32 × Int32) ⊕ (Int32 × Int32)) (h1 : JH) (hf : f_X12_divisor_L22  z h = some (r, h1)) (hk : Sum.elim (fun z => Xw p l e R s m args below meth c E 5 h0 rF hF 22 [(2, .int z.1), (3, .int z.2)] [] h1) (fun t => Xw p l e R s m args below meth c E 5 h0 rF hF 39 [(2, .int t.1), (3, .int t.2)] [] h1) r) : Xw p l e R s m args below meth c E 5 h0 rF hF 22 [(2, .int z.1), (3, .int z.2)] [] h := by
  unfold f_X12_divisor_L22 at hf
  refine x_iload_n (v := z.2) C dX12_divisor_22 rfl ?_
  refine x_if_eq (tgt := 39) C dX12_divisor_23 (by decide) (fun c3 => ?_) (fun c3 => ?_)
  · have hf := j_ifp hf c3
    obtain ⟨rfl, rfl⟩ := j_inj2 hf
    exact x_locr hk rfl
  · have hf := j_ifn hf c3
    refine x_iload_n (v := z.1) C dX12_divisor_26 rfl ?_
    refine x_iload_n (v := z.2) C dX12_divisor_27 rfl ?_
    obtain ⟨u1, e2, hf⟩ := j_bind hf
    refine x_irem C dX12_divisor_28 (jnz_some e2) ?_
    refine x_istore C dX12_divisor_29 (by decide) ?_
    refine x_iload_n (v := z.2) C dX12_divisor_31 rfl ?_
    refine x_istore_n C dX12_divisor_32 (by decide) ?_
    refine x_iload (v := jrem z.1 z.2) C dX12_divisor_33 rfl ?_
    refine x_istore_n C dX12_divisor_35 (by decide) ?_
    refine x_goto (tgt := 22) C dX12_divisor_36 (by decide) ?_
    obtain ⟨rfl, rfl⟩ := j_inj2 hf
    exact x_locr hk rfl
set_option maxHeartbeats 4000000 in
set_option maxRecDepth 100000 in
theorem m_X12_divisor {l : Launch} {E : JE} {d : Nat} (hdd : 0 ≤ d) {a0 : Int32} {a1 : Int32} {h : JH} {q : Int32 × JH} (hf : f_X12_divisor a0 a1 h = some q) : Con l E d yX12_divisor cX12_divisor 5 (some .int) [.int a0, .int a1] h (some (.int q.1)) q.2 := by
  refine j_start rfl (Nat.le_of_ble_eq_true rfl) ?_
  intro p e s m args below meth c C hret hnm
  refine x_loc [(0, .int a0), (1, .int a1)] rfl ?_
  unfold f_X12_divisor at hf
  refine x_iload_n (v := a0) C dX12_divisor_0 rfl ?_
  refine x_if_ge (tgt := 9) C dX12_divisor_1 (by decide) (fun c12 => ?_) (fun c12 => ?_)
  · have hf := j_ifp hf c12
    refine x_iload_n (v := a0) C dX12_divisor_9 rfl ?_
    refine x_istore_n C dX12_divisor_10 (by decide) ?_
    refine x_iload_n (v := a1) C dX12_divisor_11 rfl ?_
    refine x_if_ge (tgt := 20) C dX12_divisor_12 (by decide) (fun c13 => ?_) (fun c13 => ?_)
    · have hf := j_ifp hf c13
      refine x_iload_n (v := a1) C dX12_divisor_20 rfl ?_
      refine x_istore_n C dX12_divisor_21 (by decide) ?_
      obtain ⟨q4, e5, hf⟩ := j_bind hf
      refine x_loc [(2, .int a0), (3, .int a1)] rfl ?_
      refine x_loop (s_X12_divisor_L22 C hret hdd ) e5 ?_
      refine x_iload_n (v := q4.1.1) C dX12_divisor_39 rfl ?_
      obtain rfl := j_inj hf
      exact x_iret C hret dX12_divisor_40
    · have hf := j_ifn hf c13
      refine x_iload_n (v := a1) C dX12_divisor_15 rfl ?_
      refine x_ineg C dX12_divisor_16 ?_
      refine x_goto (tgt := 21) C dX12_divisor_17 (by decide) ?_
      refine x_istore_n C dX12_divisor_21 (by decide) ?_
      obtain ⟨q6, e7, hf⟩ := j_bind hf
      refine x_loc [(2, .int a0), (3, .int (-a1))] rfl ?_
      refine x_loop (s_X12_divisor_L22 C hret hdd ) e7 ?_
      refine x_iload_n (v := q6.1.1) C dX12_divisor_39 rfl ?_
      obtain rfl := j_inj hf
      exact x_iret C hret dX12_divisor_40
  · have hf := j_ifn hf c12
    refine x_iload_n (v := a0) C dX12_divisor_4 rfl ?_
    refine x_ineg C dX12_divisor_5 ?_
    refine x_goto (tgt := 10) C dX12_divisor_6 (by decide) ?_
    refine x_istore_n C dX12_divisor_10 (by decide) ?_
    refine x_iload_n (v := a1) C dX12_divisor_11 rfl ?_
    refine x_if_ge (tgt := 20) C dX12_divisor_12 (by decide) (fun c14 => ?_) (fun c14 => ?_)
    · have hf := j_ifp hf c14
      refine x_iload_n (v := a1) C dX12_divisor_20 rfl ?_
      refine x_istore_n C dX12_divisor_21 (by decide) ?_
      obtain ⟨q8, e9, hf⟩ := j_bind hf
      refine x_loc [(2, .int (-a0)), (3, .int a1)] rfl ?_
      refine x_loop (s_X12_divisor_L22 C hret hdd ) e9 ?_
      refine x_iload_n (v := q8.1.1) C dX12_divisor_39 rfl ?_
      obtain rfl := j_inj hf
      exact x_iret C hret dX12_divisor_40
    · have hf := j_ifn hf c14
      refine x_iload_n (v := a1) C dX12_divisor_15 rfl ?_
      refine x_ineg C dX12_divisor_16 ?_
      refine x_goto (tgt := 21) C dX12_divisor_17 (by decide) ?_
      refine x_istore_n C dX12_divisor_21 (by decide) ?_
      obtain ⟨q10, e11, hf⟩ := j_bind hf
      refine x_loc [(2, .int (-a0)), (3, .int (-a1))] rfl ?_
      refine x_loop (s_X12_divisor_L22 C hret hdd ) e11 ?_
      refine x_iload_n (v := q10.1.1) C dX12_divisor_39 rfl ?_
      obtain rfl := j_inj hf
      exact x_iret C hret dX12_divisor_40
set_option maxHeartbeats 4000000 in
set_option maxRecDepth 100000 in
theorem m_X12_isDisc {l : Launch} {E : JE} {d : Nat} (hdd : 1 ≤ d) {a0 : Int32} {h : JH} {q : Int32 × JH} (hf : f_X12_isDisc a0 h = some q) : Con l E d yX12_isDisc cX12_isDisc 1 (some .boolean) [.int a0] h (some (.int q.1)) q.2 := by
  refine j_start rfl (Nat.le_of_ble_eq_true rfl) ?_
  intro p e s m args below meth c C hret hnm
  refine x_loc [(0, .int a0)] rfl ?_
  unfold f_X12_isDisc at hf
  refine x_iload_n (v := a0) C dX12_isDisc_0 rfl ?_
  refine x_iconst C dX12_isDisc_1 ki_1 ?_
  refine x_sipush C dX12_isDisc_2 ks_2000 ?_
  obtain ⟨q1, e2, hf⟩ := j_bind hf
  refine x_callS (As := [.int a0, .int (1 : Int32), .int (2000 : Int32)]) (rest := []) C dX12_isDisc_5 (m_X12_within (l := l) (E := E) (d := d - 1) (by omega) e2) km_X12_within lk_X12_45 ks_X12_within rfl (by omega) (Nat.le_of_ble_eq_true rfl) (j_le_of (q_X12_within e2)) (Or.inr (q_X12_within e2)) ?_
  refine x_if_eq (tgt := 28) C dX12_isDisc_8 (by decide) (fun c3 => ?_) (fun c3 => ?_)
  · have hf := j_ifp hf c3
    refine x_iconst C dX12_isDisc_28 ki_0 ?_
    obtain rfl := j_inj hf
    exact x_zret C hret (Or.inl rfl) dX12_isDisc_29
  · have hf := j_ifn hf c3
    refine x_iload_n (v := a0) C dX12_isDisc_11 rfl ?_
    refine x_iconst C dX12_isDisc_12 ki_4 ?_
    refine x_irem C dX12_isDisc_13 (by decide) ?_
    refine x_if_eq (tgt := 24) C dX12_isDisc_14 (by decide) (fun c4 => ?_) (fun c4 => ?_)
    · have hf := j_ifp hf c4
      refine x_iconst C dX12_isDisc_24 ki_1 ?_
      refine x_goto (tgt := 29) C dX12_isDisc_25 (by decide) ?_
      obtain rfl := j_inj hf
      exact x_zret C hret (Or.inr rfl) dX12_isDisc_29
    · have hf := j_ifn hf c4
      refine x_iload_n (v := a0) C dX12_isDisc_17 rfl ?_
      refine x_iconst C dX12_isDisc_18 ki_4 ?_
      refine x_irem C dX12_isDisc_19 (by decide) ?_
      refine x_iconst C dX12_isDisc_20 ki_3 ?_
      refine x_icmp_ne (tgt := 28) C dX12_isDisc_21 (by decide) (fun c5 => ?_) (fun c5 => ?_)
      · have hf := j_ifn hf c5
        refine x_iconst C dX12_isDisc_28 ki_0 ?_
        obtain rfl := j_inj hf
        exact x_zret C hret (Or.inl rfl) dX12_isDisc_29
      · have hf := j_ifp hf c5
        refine x_iconst C dX12_isDisc_24 ki_1 ?_
        refine x_goto (tgt := 29) C dX12_isDisc_25 (by decide) ?_
        obtain rfl := j_inj hf
        exact x_zret C hret (Or.inr rfl) dX12_isDisc_29
set_option maxHeartbeats 4000000 in
set_option maxRecDepth 100000 in
theorem s_X12_counts_L18 {p : Program} {l : Launch} {e : Env} {R : Room} {s : State} {m : MethodId} {args : Array Value} {below : List Frame} {meth : Method} {c : Code} {E : JE} {h0 hF : JH} {rF : Option Value} {d : Nat} (C : j_C p s m args meth c R E cX12_counts 7 RX12 h0 hF d) (hret : meth.sig.returnType = (some .int)) (hdd : 1 ≤ d) (a0 : Int32) (a1 : Int32) (a3 : Int32) (z : (Int32 × Int32)) (h : JH) (r : (Int32 × Int32) ⊕ (Int32 × Int32)) (h1 : JH) (hf : f_X12_counts_L18 a0 a1 a3 z h = some (r, h1)) (hk : Sum.elim (fun z => Xw p l e R s m args below meth c E 7 h0 rF hF 18 [(0, .int a0), (1, .int a1), (2, .int z.1), (3, .int a3), (4, .int z.2)] [] h1) (fun t => Xw p l e R s m args below meth c E 7 h0 rF hF 153 [(0, .int a0), (1, .int a1), (2, .int t.1), (3, .int a3), (4, .int t.2)] [] h1) r) : Xw p l e R s m args below meth c E 7 h0 rF hF 18 [(0, .int a0), (1, .int a1), (2, .int z.1), (3, .int a3), (4, .int z.2)] [] h := by
  unfold f_X12_counts_L18 at hf
  refine x_iload (v := z.2) C dX12_counts_18 rfl ?_
  refine x_iload_n (v := a3) C dX12_counts_20 rfl ?_
  refine x_icmp_gt (tgt := 153) C dX12_counts_21 (by decide) (fun c45 => ?_) (fun c45 => ?_)
  · have hf := j_ifp hf c45
    obtain ⟨rfl, rfl⟩ := j_inj2 hf
    exact x_locr hk rfl
  · have hf := j_ifn hf c45
    refine x_iload_n (v := a0) C dX12_counts_24 rfl ?_
    refine x_iload (v := z.2) C dX12_counts_25 rfl ?_
    refine x_iload (v := z.2) C dX12_counts_27 rfl ?_
    refine x_imul C dX12_counts_29 ?_
    refine x_iadd C dX12_counts_30 ?_
    refine x_iconst C dX12_counts_31 ki_4 ?_
    refine x_iload_n (v := a3) C dX12_counts_32 rfl ?_
    refine x_imul C dX12_counts_33 ?_
    obtain ⟨u1, e2, hf⟩ := j_bind hf
    refine x_idiv C dX12_counts_34 (jnz_some e2) ?_
    refine x_istore C dX12_counts_35 (by decide) ?_
    refine x_iload_n (v := a0) C dX12_counts_37 rfl ?_
    refine x_iload (v := z.2) C dX12_counts_38 rfl ?_
    refine x_iload (v := z.2) C dX12_counts_40 rfl ?_
    refine x_imul C dX12_counts_42 ?_
    refine x_iadd C dX12_counts_43 ?_
    refine x_iconst C dX12_counts_44 ki_4 ?_
    refine x_iload_n (v := a3) C dX12_counts_45 rfl ?_
    refine x_imul C dX12_counts_46 ?_
    obtain ⟨u3, e4, hf⟩ := j_bind hf
    refine x_irem C dX12_counts_47 (jnz_some e4) ?_
    refine x_if_ne (tgt := 72) C dX12_counts_48 (by decide) (fun c46 => ?_) (fun c46 => ?_)
    · have hf := j_ifn hf c46
      refine x_iconst C dX12_counts_72 ki_0 ?_
      refine x_istore C dX12_counts_73 (by decide) ?_
      refine x_iload (v := (0 : Int32)) C dX12_counts_75 rfl ?_
      refine x_if_eq (tgt := 124) C dX12_counts_77 (by decide) (fun c47 => ?_) (fun c47 => ?_)
      · have hf := j_ifp hf c47
        refine x_iload (v := (0 : Int32)) C dX12_counts_124 rfl ?_
        refine x_if_eq (tgt := 147) C dX12_counts_126 (by decide) (fun c48 => ?_) (fun c48 => ?_)
        · have hf := j_ifp hf c48
          refine x_iinc (v := z.2) C dX12_counts_147 rfl ki_1 (by decide) ?_
          refine x_goto (tgt := 18) C dX12_counts_150 (by decide) ?_
          obtain ⟨rfl, rfl⟩ := j_inj2 hf
          exact x_locr hk rfl
        · have hf := j_ifn hf c48
          refine x_iload_n (v := a3) C dX12_counts_129 rfl ?_
          refine x_iload (v := z.2) C dX12_counts_130 rfl ?_
          obtain ⟨q5, e6, hf⟩ := j_bind hf
          refine x_callS (As := [.int a3, .int z.2]) (rest := []) C dX12_counts_132 (m_X12_divisor (l := l) (E := E) (d := d - 1) (by omega) e6) km_X12_divisor lk_X12_278 ks_X12_divisor rfl (by omega) (Nat.le_of_ble_eq_true rfl) (j_le_of (q_X12_divisor e6)) (Or.inr (q_X12_divisor e6)) ?_
          refine x_iload (v := (a0 + (z.2 * z.2)) / ((4 : Int32) * a3)) C dX12_counts_135 rfl ?_
          obtain ⟨q7, e8, hf⟩ := j_bind hf
          refine x_callS (As := [.int q5.1, .int ((a0 + (z.2 * z.2)) / ((4 : Int32) * a3))]) (rest := []) C dX12_counts_137 (m_X12_divisor (l := l) (E := E) (d := d - 1) (by omega) e8) km_X12_divisor lk_X12_278 ks_X12_divisor rfl (by omega) (Nat.le_of_ble_eq_true rfl) (j_le_of (q_X12_divisor e8)) (Or.inr (q_X12_divisor e8)) ?_
          refine x_iconst C dX12_counts_140 ki_1 ?_
          refine x_icmp_ne (tgt := 147) C dX12_counts_141 (by decide) (fun c49 => ?_) (fun c49 => ?_)
          · have hf := j_ifn hf c49
            refine x_iinc (v := z.2) C dX12_counts_147 rfl ki_1 (by decide) ?_
            refine x_goto (tgt := 18) C dX12_counts_150 (by decide) ?_
            obtain ⟨rfl, rfl⟩ := j_inj2 hf
            exact x_locr hk rfl
          · have hf := j_ifp hf c49
            refine x_iinc (v := z.1) C dX12_counts_144 rfl ki_1 (by decide) ?_
            refine x_iinc (v := z.2) C dX12_counts_147 rfl ki_1 (by decide) ?_
            refine x_goto (tgt := 18) C dX12_counts_150 (by decide) ?_
            obtain ⟨rfl, rfl⟩ := j_inj2 hf
            exact x_locr hk rfl
      · have hf := j_ifn hf c47
        refine x_iload_n (v := a1) C dX12_counts_80 rfl ?_
        refine x_if_eq (tgt := 124) C dX12_counts_81 (by decide) (fun c50 => ?_) (fun c50 => ?_)
        · have hf := j_ifp hf c50
          refine x_iload (v := (0 : Int32)) C dX12_counts_124 rfl ?_
          refine x_if_eq (tgt := 147) C dX12_counts_126 (by decide) (fun c51 => ?_) (fun c51 => ?_)
          · have hf := j_ifp hf c51
            refine x_iinc (v := z.2) C dX12_counts_147 rfl ki_1 (by decide) ?_
            refine x_goto (tgt := 18) C dX12_counts_150 (by decide) ?_
            obtain ⟨rfl, rfl⟩ := j_inj2 hf
            exact x_locr hk rfl
          · have hf := j_ifn hf c51
            refine x_iload_n (v := a3) C dX12_counts_129 rfl ?_
            refine x_iload (v := z.2) C dX12_counts_130 rfl ?_
            obtain ⟨q9, e10, hf⟩ := j_bind hf
            refine x_callS (As := [.int a3, .int z.2]) (rest := []) C dX12_counts_132 (m_X12_divisor (l := l) (E := E) (d := d - 1) (by omega) e10) km_X12_divisor lk_X12_278 ks_X12_divisor rfl (by omega) (Nat.le_of_ble_eq_true rfl) (j_le_of (q_X12_divisor e10)) (Or.inr (q_X12_divisor e10)) ?_
            refine x_iload (v := (a0 + (z.2 * z.2)) / ((4 : Int32) * a3)) C dX12_counts_135 rfl ?_
            obtain ⟨q11, e12, hf⟩ := j_bind hf
            refine x_callS (As := [.int q9.1, .int ((a0 + (z.2 * z.2)) / ((4 : Int32) * a3))]) (rest := []) C dX12_counts_137 (m_X12_divisor (l := l) (E := E) (d := d - 1) (by omega) e12) km_X12_divisor lk_X12_278 ks_X12_divisor rfl (by omega) (Nat.le_of_ble_eq_true rfl) (j_le_of (q_X12_divisor e12)) (Or.inr (q_X12_divisor e12)) ?_
            refine x_iconst C dX12_counts_140 ki_1 ?_
            refine x_icmp_ne (tgt := 147) C dX12_counts_141 (by decide) (fun c52 => ?_) (fun c52 => ?_)
            · have hf := j_ifn hf c52
              refine x_iinc (v := z.2) C dX12_counts_147 rfl ki_1 (by decide) ?_
              refine x_goto (tgt := 18) C dX12_counts_150 (by decide) ?_
              obtain ⟨rfl, rfl⟩ := j_inj2 hf
              exact x_locr hk rfl
            · have hf := j_ifp hf c52
              refine x_iinc (v := z.1) C dX12_counts_144 rfl ki_1 (by decide) ?_
              refine x_iinc (v := z.2) C dX12_counts_147 rfl ki_1 (by decide) ?_
              refine x_goto (tgt := 18) C dX12_counts_150 (by decide) ?_
              obtain ⟨rfl, rfl⟩ := j_inj2 hf
              exact x_locr hk rfl
        · have hf := j_ifn hf c50
          refine x_iload_n (v := z.1) C dX12_counts_84 rfl ?_
          refine x_iload_n (v := a3) C dX12_counts_85 rfl ?_
          refine x_iload (v := (a0 + (z.2 * z.2)) / ((4 : Int32) * a3)) C dX12_counts_86 rfl ?_
          refine x_icmp_ne (tgt := 101) C dX12_counts_88 (by decide) (fun c53 => ?_) (fun c53 => ?_)
          · have hf := j_ifn hf c53
            refine x_iload_n (v := a3) C dX12_counts_101 rfl ?_
            refine x_iload (v := z.2) C dX12_counts_102 rfl ?_
            refine x_icmp_ne (tgt := 117) C dX12_counts_104 (by decide) (fun c54 => ?_) (fun c54 => ?_)
            · have hf := j_ifn hf c54
              refine x_bipush C dX12_counts_117 kb_12 ?_
              refine x_iadd C dX12_counts_119 ?_
              refine x_istore_n C dX12_counts_120 (by decide) ?_
              refine x_goto (tgt := 147) C dX12_counts_121 (by decide) ?_
              refine x_iinc (v := z.2) C dX12_counts_147 rfl ki_1 (by decide) ?_
              refine x_goto (tgt := 18) C dX12_counts_150 (by decide) ?_
              obtain ⟨rfl, rfl⟩ := j_inj2 hf
              exact x_locr hk rfl
            · have hf := j_ifp hf c54
              refine x_iload_n (v := a3) C dX12_counts_107 rfl ?_
              refine x_iload (v := (a0 + (z.2 * z.2)) / ((4 : Int32) * a3)) C dX12_counts_108 rfl ?_
              refine x_icmp_ne (tgt := 117) C dX12_counts_110 (by decide) (fun c55 => ?_) (fun c55 => ?_)
              · have hf := j_ifn hf c55
                refine x_bipush C dX12_counts_117 kb_12 ?_
                refine x_iadd C dX12_counts_119 ?_
                refine x_istore_n C dX12_counts_120 (by decide) ?_
                refine x_goto (tgt := 147) C dX12_counts_121 (by decide) ?_
                refine x_iinc (v := z.2) C dX12_counts_147 rfl ki_1 (by decide) ?_
                refine x_goto (tgt := 18) C dX12_counts_150 (by decide) ?_
                obtain ⟨rfl, rfl⟩ := j_inj2 hf
                exact x_locr hk rfl
              · have hf := j_ifp hf c55
                refine x_iconst C dX12_counts_113 ki_4 ?_
                refine x_goto (tgt := 119) C dX12_counts_114 (by decide) ?_
                refine x_iadd C dX12_counts_119 ?_
                refine x_istore_n C dX12_counts_120 (by decide) ?_
                refine x_goto (tgt := 147) C dX12_counts_121 (by decide) ?_
                refine x_iinc (v := z.2) C dX12_counts_147 rfl ki_1 (by decide) ?_
                refine x_goto (tgt := 18) C dX12_counts_150 (by decide) ?_
                obtain ⟨rfl, rfl⟩ := j_inj2 hf
                exact x_locr hk rfl
          · have hf := j_ifp hf c53
            refine x_iload (v := z.2) C dX12_counts_91 rfl ?_
            refine x_if_ne (tgt := 101) C dX12_counts_93 (by decide) (fun c56 => ?_) (fun c56 => ?_)
            · have hf := j_ifn hf c56
              refine x_iload_n (v := a3) C dX12_counts_101 rfl ?_
              refine x_iload (v := z.2) C dX12_counts_102 rfl ?_
              refine x_icmp_ne (tgt := 117) C dX12_counts_104 (by decide) (fun c57 => ?_) (fun c57 => ?_)
              · have hf := j_ifn hf c57
                refine x_bipush C dX12_counts_117 kb_12 ?_
                refine x_iadd C dX12_counts_119 ?_
                refine x_istore_n C dX12_counts_120 (by decide) ?_
                refine x_goto (tgt := 147) C dX12_counts_121 (by decide) ?_
                refine x_iinc (v := z.2) C dX12_counts_147 rfl ki_1 (by decide) ?_
                refine x_goto (tgt := 18) C dX12_counts_150 (by decide) ?_
                obtain ⟨rfl, rfl⟩ := j_inj2 hf
                exact x_locr hk rfl
              · have hf := j_ifp hf c57
                refine x_iload_n (v := a3) C dX12_counts_107 rfl ?_
                refine x_iload (v := (a0 + (z.2 * z.2)) / ((4 : Int32) * a3)) C dX12_counts_108 rfl ?_
                refine x_icmp_ne (tgt := 117) C dX12_counts_110 (by decide) (fun c58 => ?_) (fun c58 => ?_)
                · have hf := j_ifn hf c58
                  refine x_bipush C dX12_counts_117 kb_12 ?_
                  refine x_iadd C dX12_counts_119 ?_
                  refine x_istore_n C dX12_counts_120 (by decide) ?_
                  refine x_goto (tgt := 147) C dX12_counts_121 (by decide) ?_
                  refine x_iinc (v := z.2) C dX12_counts_147 rfl ki_1 (by decide) ?_
                  refine x_goto (tgt := 18) C dX12_counts_150 (by decide) ?_
                  obtain ⟨rfl, rfl⟩ := j_inj2 hf
                  exact x_locr hk rfl
                · have hf := j_ifp hf c58
                  refine x_iconst C dX12_counts_113 ki_4 ?_
                  refine x_goto (tgt := 119) C dX12_counts_114 (by decide) ?_
                  refine x_iadd C dX12_counts_119 ?_
                  refine x_istore_n C dX12_counts_120 (by decide) ?_
                  refine x_goto (tgt := 147) C dX12_counts_121 (by decide) ?_
                  refine x_iinc (v := z.2) C dX12_counts_147 rfl ki_1 (by decide) ?_
                  refine x_goto (tgt := 18) C dX12_counts_150 (by decide) ?_
                  obtain ⟨rfl, rfl⟩ := j_inj2 hf
                  exact x_locr hk rfl
            · have hf := j_ifp hf c56
              refine x_bipush C dX12_counts_96 kb_6 ?_
              refine x_goto (tgt := 119) C dX12_counts_98 (by decide) ?_
              refine x_iadd C dX12_counts_119 ?_
              refine x_istore_n C dX12_counts_120 (by decide) ?_
              refine x_goto (tgt := 147) C dX12_counts_121 (by decide) ?_
              refine x_iinc (v := z.2) C dX12_counts_147 rfl ki_1 (by decide) ?_
              refine x_goto (tgt := 18) C dX12_counts_150 (by decide) ?_
              obtain ⟨rfl, rfl⟩ := j_inj2 hf
              exact x_locr hk rfl
    · have hf := j_ifp hf c46
      refine x_iload (v := (a0 + (z.2 * z.2)) / ((4 : Int32) * a3)) C dX12_counts_51 rfl ?_
      refine x_iload_n (v := a3) C dX12_counts_53 rfl ?_
      refine x_icmp_lt (tgt := 72) C dX12_counts_54 (by decide) (fun c59 => ?_) (fun c59 => ?_)
      · have hf := j_ifp hf c59
        refine x_iconst C dX12_counts_72 ki_0 ?_
        refine x_istore C dX12_counts_73 (by decide) ?_
        refine x_iload (v := (0 : Int32)) C dX12_counts_75 rfl ?_
        refine x_if_eq (tgt := 124) C dX12_counts_77 (by decide) (fun c60 => ?_) (fun c60 => ?_)
        · have hf := j_ifp hf c60
          refine x_iload (v := (0 : Int32)) C dX12_counts_124 rfl ?_
          refine x_if_eq (tgt := 147) C dX12_counts_126 (by decide) (fun c61 => ?_) (fun c61 => ?_)
          · have hf := j_ifp hf c61
            refine x_iinc (v := z.2) C dX12_counts_147 rfl ki_1 (by decide) ?_
            refine x_goto (tgt := 18) C dX12_counts_150 (by decide) ?_
            obtain ⟨rfl, rfl⟩ := j_inj2 hf
            exact x_locr hk rfl
          · have hf := j_ifn hf c61
            refine x_iload_n (v := a3) C dX12_counts_129 rfl ?_
            refine x_iload (v := z.2) C dX12_counts_130 rfl ?_
            obtain ⟨q13, e14, hf⟩ := j_bind hf
            refine x_callS (As := [.int a3, .int z.2]) (rest := []) C dX12_counts_132 (m_X12_divisor (l := l) (E := E) (d := d - 1) (by omega) e14) km_X12_divisor lk_X12_278 ks_X12_divisor rfl (by omega) (Nat.le_of_ble_eq_true rfl) (j_le_of (q_X12_divisor e14)) (Or.inr (q_X12_divisor e14)) ?_
            refine x_iload (v := (a0 + (z.2 * z.2)) / ((4 : Int32) * a3)) C dX12_counts_135 rfl ?_
            obtain ⟨q15, e16, hf⟩ := j_bind hf
            refine x_callS (As := [.int q13.1, .int ((a0 + (z.2 * z.2)) / ((4 : Int32) * a3))]) (rest := []) C dX12_counts_137 (m_X12_divisor (l := l) (E := E) (d := d - 1) (by omega) e16) km_X12_divisor lk_X12_278 ks_X12_divisor rfl (by omega) (Nat.le_of_ble_eq_true rfl) (j_le_of (q_X12_divisor e16)) (Or.inr (q_X12_divisor e16)) ?_
            refine x_iconst C dX12_counts_140 ki_1 ?_
            refine x_icmp_ne (tgt := 147) C dX12_counts_141 (by decide) (fun c62 => ?_) (fun c62 => ?_)
            · have hf := j_ifn hf c62
              refine x_iinc (v := z.2) C dX12_counts_147 rfl ki_1 (by decide) ?_
              refine x_goto (tgt := 18) C dX12_counts_150 (by decide) ?_
              obtain ⟨rfl, rfl⟩ := j_inj2 hf
              exact x_locr hk rfl
            · have hf := j_ifp hf c62
              refine x_iinc (v := z.1) C dX12_counts_144 rfl ki_1 (by decide) ?_
              refine x_iinc (v := z.2) C dX12_counts_147 rfl ki_1 (by decide) ?_
              refine x_goto (tgt := 18) C dX12_counts_150 (by decide) ?_
              obtain ⟨rfl, rfl⟩ := j_inj2 hf
              exact x_locr hk rfl
        · have hf := j_ifn hf c60
          refine x_iload_n (v := a1) C dX12_counts_80 rfl ?_
          refine x_if_eq (tgt := 124) C dX12_counts_81 (by decide) (fun c63 => ?_) (fun c63 => ?_)
          · have hf := j_ifp hf c63
            refine x_iload (v := (0 : Int32)) C dX12_counts_124 rfl ?_
            refine x_if_eq (tgt := 147) C dX12_counts_126 (by decide) (fun c64 => ?_) (fun c64 => ?_)
            · have hf := j_ifp hf c64
              refine x_iinc (v := z.2) C dX12_counts_147 rfl ki_1 (by decide) ?_
              refine x_goto (tgt := 18) C dX12_counts_150 (by decide) ?_
              obtain ⟨rfl, rfl⟩ := j_inj2 hf
              exact x_locr hk rfl
            · have hf := j_ifn hf c64
              refine x_iload_n (v := a3) C dX12_counts_129 rfl ?_
              refine x_iload (v := z.2) C dX12_counts_130 rfl ?_
              obtain ⟨q17, e18, hf⟩ := j_bind hf
              refine x_callS (As := [.int a3, .int z.2]) (rest := []) C dX12_counts_132 (m_X12_divisor (l := l) (E := E) (d := d - 1) (by omega) e18) km_X12_divisor lk_X12_278 ks_X12_divisor rfl (by omega) (Nat.le_of_ble_eq_true rfl) (j_le_of (q_X12_divisor e18)) (Or.inr (q_X12_divisor e18)) ?_
              refine x_iload (v := (a0 + (z.2 * z.2)) / ((4 : Int32) * a3)) C dX12_counts_135 rfl ?_
              obtain ⟨q19, e20, hf⟩ := j_bind hf
              refine x_callS (As := [.int q17.1, .int ((a0 + (z.2 * z.2)) / ((4 : Int32) * a3))]) (rest := []) C dX12_counts_137 (m_X12_divisor (l := l) (E := E) (d := d - 1) (by omega) e20) km_X12_divisor lk_X12_278 ks_X12_divisor rfl (by omega) (Nat.le_of_ble_eq_true rfl) (j_le_of (q_X12_divisor e20)) (Or.inr (q_X12_divisor e20)) ?_
              refine x_iconst C dX12_counts_140 ki_1 ?_
              refine x_icmp_ne (tgt := 147) C dX12_counts_141 (by decide) (fun c65 => ?_) (fun c65 => ?_)
              · have hf := j_ifn hf c65
                refine x_iinc (v := z.2) C dX12_counts_147 rfl ki_1 (by decide) ?_
                refine x_goto (tgt := 18) C dX12_counts_150 (by decide) ?_
                obtain ⟨rfl, rfl⟩ := j_inj2 hf
                exact x_locr hk rfl
              · have hf := j_ifp hf c65
                refine x_iinc (v := z.1) C dX12_counts_144 rfl ki_1 (by decide) ?_
                refine x_iinc (v := z.2) C dX12_counts_147 rfl ki_1 (by decide) ?_
                refine x_goto (tgt := 18) C dX12_counts_150 (by decide) ?_
                obtain ⟨rfl, rfl⟩ := j_inj2 hf
                exact x_locr hk rfl
          · have hf := j_ifn hf c63
            refine x_iload_n (v := z.1) C dX12_counts_84 rfl ?_
            refine x_iload_n (v := a3) C dX12_counts_85 rfl ?_
            refine x_iload (v := (a0 + (z.2 * z.2)) / ((4 : Int32) * a3)) C dX12_counts_86 rfl ?_
            refine x_icmp_ne (tgt := 101) C dX12_counts_88 (by decide) (fun c66 => ?_) (fun c66 => ?_)
            · have hf := j_ifn hf c66
              refine x_iload_n (v := a3) C dX12_counts_101 rfl ?_
              refine x_iload (v := z.2) C dX12_counts_102 rfl ?_
              refine x_icmp_ne (tgt := 117) C dX12_counts_104 (by decide) (fun c67 => ?_) (fun c67 => ?_)
              · have hf := j_ifn hf c67
                refine x_bipush C dX12_counts_117 kb_12 ?_
                refine x_iadd C dX12_counts_119 ?_
                refine x_istore_n C dX12_counts_120 (by decide) ?_
                refine x_goto (tgt := 147) C dX12_counts_121 (by decide) ?_
                refine x_iinc (v := z.2) C dX12_counts_147 rfl ki_1 (by decide) ?_
                refine x_goto (tgt := 18) C dX12_counts_150 (by decide) ?_
                obtain ⟨rfl, rfl⟩ := j_inj2 hf
                exact x_locr hk rfl
              · have hf := j_ifp hf c67
                refine x_iload_n (v := a3) C dX12_counts_107 rfl ?_
                refine x_iload (v := (a0 + (z.2 * z.2)) / ((4 : Int32) * a3)) C dX12_counts_108 rfl ?_
                refine x_icmp_ne (tgt := 117) C dX12_counts_110 (by decide) (fun c68 => ?_) (fun c68 => ?_)
                · have hf := j_ifn hf c68
                  refine x_bipush C dX12_counts_117 kb_12 ?_
                  refine x_iadd C dX12_counts_119 ?_
                  refine x_istore_n C dX12_counts_120 (by decide) ?_
                  refine x_goto (tgt := 147) C dX12_counts_121 (by decide) ?_
                  refine x_iinc (v := z.2) C dX12_counts_147 rfl ki_1 (by decide) ?_
                  refine x_goto (tgt := 18) C dX12_counts_150 (by decide) ?_
                  obtain ⟨rfl, rfl⟩ := j_inj2 hf
                  exact x_locr hk rfl
                · have hf := j_ifp hf c68
                  refine x_iconst C dX12_counts_113 ki_4 ?_
                  refine x_goto (tgt := 119) C dX12_counts_114 (by decide) ?_
                  refine x_iadd C dX12_counts_119 ?_
                  refine x_istore_n C dX12_counts_120 (by decide) ?_
                  refine x_goto (tgt := 147) C dX12_counts_121 (by decide) ?_
                  refine x_iinc (v := z.2) C dX12_counts_147 rfl ki_1 (by decide) ?_
                  refine x_goto (tgt := 18) C dX12_counts_150 (by decide) ?_
                  obtain ⟨rfl, rfl⟩ := j_inj2 hf
                  exact x_locr hk rfl
            · have hf := j_ifp hf c66
              refine x_iload (v := z.2) C dX12_counts_91 rfl ?_
              refine x_if_ne (tgt := 101) C dX12_counts_93 (by decide) (fun c69 => ?_) (fun c69 => ?_)
              · have hf := j_ifn hf c69
                refine x_iload_n (v := a3) C dX12_counts_101 rfl ?_
                refine x_iload (v := z.2) C dX12_counts_102 rfl ?_
                refine x_icmp_ne (tgt := 117) C dX12_counts_104 (by decide) (fun c70 => ?_) (fun c70 => ?_)
                · have hf := j_ifn hf c70
                  refine x_bipush C dX12_counts_117 kb_12 ?_
                  refine x_iadd C dX12_counts_119 ?_
                  refine x_istore_n C dX12_counts_120 (by decide) ?_
                  refine x_goto (tgt := 147) C dX12_counts_121 (by decide) ?_
                  refine x_iinc (v := z.2) C dX12_counts_147 rfl ki_1 (by decide) ?_
                  refine x_goto (tgt := 18) C dX12_counts_150 (by decide) ?_
                  obtain ⟨rfl, rfl⟩ := j_inj2 hf
                  exact x_locr hk rfl
                · have hf := j_ifp hf c70
                  refine x_iload_n (v := a3) C dX12_counts_107 rfl ?_
                  refine x_iload (v := (a0 + (z.2 * z.2)) / ((4 : Int32) * a3)) C dX12_counts_108 rfl ?_
                  refine x_icmp_ne (tgt := 117) C dX12_counts_110 (by decide) (fun c71 => ?_) (fun c71 => ?_)
                  · have hf := j_ifn hf c71
                    refine x_bipush C dX12_counts_117 kb_12 ?_
                    refine x_iadd C dX12_counts_119 ?_
                    refine x_istore_n C dX12_counts_120 (by decide) ?_
                    refine x_goto (tgt := 147) C dX12_counts_121 (by decide) ?_
                    refine x_iinc (v := z.2) C dX12_counts_147 rfl ki_1 (by decide) ?_
                    refine x_goto (tgt := 18) C dX12_counts_150 (by decide) ?_
                    obtain ⟨rfl, rfl⟩ := j_inj2 hf
                    exact x_locr hk rfl
                  · have hf := j_ifp hf c71
                    refine x_iconst C dX12_counts_113 ki_4 ?_
                    refine x_goto (tgt := 119) C dX12_counts_114 (by decide) ?_
                    refine x_iadd C dX12_counts_119 ?_
                    refine x_istore_n C dX12_counts_120 (by decide) ?_
                    refine x_goto (tgt := 147) C dX12_counts_121 (by decide) ?_
                    refine x_iinc (v := z.2) C dX12_counts_147 rfl ki_1 (by decide) ?_
                    refine x_goto (tgt := 18) C dX12_counts_150 (by decide) ?_
                    obtain ⟨rfl, rfl⟩ := j_inj2 hf
                    exact x_locr hk rfl
              · have hf := j_ifp hf c69
                refine x_bipush C dX12_counts_96 kb_6 ?_
                refine x_goto (tgt := 119) C dX12_counts_98 (by decide) ?_
                refine x_iadd C dX12_counts_119 ?_
                refine x_istore_n C dX12_counts_120 (by decide) ?_
                refine x_goto (tgt := 147) C dX12_counts_121 (by decide) ?_
                refine x_iinc (v := z.2) C dX12_counts_147 rfl ki_1 (by decide) ?_
                refine x_goto (tgt := 18) C dX12_counts_150 (by decide) ?_
                obtain ⟨rfl, rfl⟩ := j_inj2 hf
                exact x_locr hk rfl
      · have hf := j_ifn hf c59
        refine x_iload (v := (a0 + (z.2 * z.2)) / ((4 : Int32) * a3)) C dX12_counts_57 rfl ?_
        refine x_iload_n (v := a3) C dX12_counts_59 rfl ?_
        refine x_icmp_gt (tgt := 68) C dX12_counts_60 (by decide) (fun c72 => ?_) (fun c72 => ?_)
        · have hf := j_ifp hf c72
          refine x_iconst C dX12_counts_68 ki_1 ?_
          refine x_goto (tgt := 73) C dX12_counts_69 (by decide) ?_
          refine x_istore C dX12_counts_73 (by decide) ?_
          refine x_iload (v := (1 : Int32)) C dX12_counts_75 rfl ?_
          refine x_if_eq (tgt := 124) C dX12_counts_77 (by decide) (fun c73 => ?_) (fun c73 => ?_)
          · have hf := j_ifp hf c73
            refine x_iload (v := (1 : Int32)) C dX12_counts_124 rfl ?_
            refine x_if_eq (tgt := 147) C dX12_counts_126 (by decide) (fun c74 => ?_) (fun c74 => ?_)
            · have hf := j_ifp hf c74
              refine x_iinc (v := z.2) C dX12_counts_147 rfl ki_1 (by decide) ?_
              refine x_goto (tgt := 18) C dX12_counts_150 (by decide) ?_
              obtain ⟨rfl, rfl⟩ := j_inj2 hf
              exact x_locr hk rfl
            · have hf := j_ifn hf c74
              refine x_iload_n (v := a3) C dX12_counts_129 rfl ?_
              refine x_iload (v := z.2) C dX12_counts_130 rfl ?_
              obtain ⟨q21, e22, hf⟩ := j_bind hf
              refine x_callS (As := [.int a3, .int z.2]) (rest := []) C dX12_counts_132 (m_X12_divisor (l := l) (E := E) (d := d - 1) (by omega) e22) km_X12_divisor lk_X12_278 ks_X12_divisor rfl (by omega) (Nat.le_of_ble_eq_true rfl) (j_le_of (q_X12_divisor e22)) (Or.inr (q_X12_divisor e22)) ?_
              refine x_iload (v := (a0 + (z.2 * z.2)) / ((4 : Int32) * a3)) C dX12_counts_135 rfl ?_
              obtain ⟨q23, e24, hf⟩ := j_bind hf
              refine x_callS (As := [.int q21.1, .int ((a0 + (z.2 * z.2)) / ((4 : Int32) * a3))]) (rest := []) C dX12_counts_137 (m_X12_divisor (l := l) (E := E) (d := d - 1) (by omega) e24) km_X12_divisor lk_X12_278 ks_X12_divisor rfl (by omega) (Nat.le_of_ble_eq_true rfl) (j_le_of (q_X12_divisor e24)) (Or.inr (q_X12_divisor e24)) ?_
              refine x_iconst C dX12_counts_140 ki_1 ?_
              refine x_icmp_ne (tgt := 147) C dX12_counts_141 (by decide) (fun c75 => ?_) (fun c75 => ?_)
              · have hf := j_ifn hf c75
                refine x_iinc (v := z.2) C dX12_counts_147 rfl ki_1 (by decide) ?_
                refine x_goto (tgt := 18) C dX12_counts_150 (by decide) ?_
                obtain ⟨rfl, rfl⟩ := j_inj2 hf
                exact x_locr hk rfl
              · have hf := j_ifp hf c75
                refine x_iinc (v := z.1) C dX12_counts_144 rfl ki_1 (by decide) ?_
                refine x_iinc (v := z.2) C dX12_counts_147 rfl ki_1 (by decide) ?_
                refine x_goto (tgt := 18) C dX12_counts_150 (by decide) ?_
                obtain ⟨rfl, rfl⟩ := j_inj2 hf
                exact x_locr hk rfl
          · have hf := j_ifn hf c73
            refine x_iload_n (v := a1) C dX12_counts_80 rfl ?_
            refine x_if_eq (tgt := 124) C dX12_counts_81 (by decide) (fun c76 => ?_) (fun c76 => ?_)
            · have hf := j_ifp hf c76
              refine x_iload (v := (1 : Int32)) C dX12_counts_124 rfl ?_
              refine x_if_eq (tgt := 147) C dX12_counts_126 (by decide) (fun c77 => ?_) (fun c77 => ?_)
              · have hf := j_ifp hf c77
                refine x_iinc (v := z.2) C dX12_counts_147 rfl ki_1 (by decide) ?_
                refine x_goto (tgt := 18) C dX12_counts_150 (by decide) ?_
                obtain ⟨rfl, rfl⟩ := j_inj2 hf
                exact x_locr hk rfl
              · have hf := j_ifn hf c77
                refine x_iload_n (v := a3) C dX12_counts_129 rfl ?_
                refine x_iload (v := z.2) C dX12_counts_130 rfl ?_
                obtain ⟨q25, e26, hf⟩ := j_bind hf
                refine x_callS (As := [.int a3, .int z.2]) (rest := []) C dX12_counts_132 (m_X12_divisor (l := l) (E := E) (d := d - 1) (by omega) e26) km_X12_divisor lk_X12_278 ks_X12_divisor rfl (by omega) (Nat.le_of_ble_eq_true rfl) (j_le_of (q_X12_divisor e26)) (Or.inr (q_X12_divisor e26)) ?_
                refine x_iload (v := (a0 + (z.2 * z.2)) / ((4 : Int32) * a3)) C dX12_counts_135 rfl ?_
                obtain ⟨q27, e28, hf⟩ := j_bind hf
                refine x_callS (As := [.int q25.1, .int ((a0 + (z.2 * z.2)) / ((4 : Int32) * a3))]) (rest := []) C dX12_counts_137 (m_X12_divisor (l := l) (E := E) (d := d - 1) (by omega) e28) km_X12_divisor lk_X12_278 ks_X12_divisor rfl (by omega) (Nat.le_of_ble_eq_true rfl) (j_le_of (q_X12_divisor e28)) (Or.inr (q_X12_divisor e28)) ?_
                refine x_iconst C dX12_counts_140 ki_1 ?_
                refine x_icmp_ne (tgt := 147) C dX12_counts_141 (by decide) (fun c78 => ?_) (fun c78 => ?_)
                · have hf := j_ifn hf c78
                  refine x_iinc (v := z.2) C dX12_counts_147 rfl ki_1 (by decide) ?_
                  refine x_goto (tgt := 18) C dX12_counts_150 (by decide) ?_
                  obtain ⟨rfl, rfl⟩ := j_inj2 hf
                  exact x_locr hk rfl
                · have hf := j_ifp hf c78
                  refine x_iinc (v := z.1) C dX12_counts_144 rfl ki_1 (by decide) ?_
                  refine x_iinc (v := z.2) C dX12_counts_147 rfl ki_1 (by decide) ?_
                  refine x_goto (tgt := 18) C dX12_counts_150 (by decide) ?_
                  obtain ⟨rfl, rfl⟩ := j_inj2 hf
                  exact x_locr hk rfl
            · have hf := j_ifn hf c76
              refine x_iload_n (v := z.1) C dX12_counts_84 rfl ?_
              refine x_iload_n (v := a3) C dX12_counts_85 rfl ?_
              refine x_iload (v := (a0 + (z.2 * z.2)) / ((4 : Int32) * a3)) C dX12_counts_86 rfl ?_
              refine x_icmp_ne (tgt := 101) C dX12_counts_88 (by decide) (fun c79 => ?_) (fun c79 => ?_)
              · have hf := j_ifn hf c79
                refine x_iload_n (v := a3) C dX12_counts_101 rfl ?_
                refine x_iload (v := z.2) C dX12_counts_102 rfl ?_
                refine x_icmp_ne (tgt := 117) C dX12_counts_104 (by decide) (fun c80 => ?_) (fun c80 => ?_)
                · have hf := j_ifn hf c80
                  refine x_bipush C dX12_counts_117 kb_12 ?_
                  refine x_iadd C dX12_counts_119 ?_
                  refine x_istore_n C dX12_counts_120 (by decide) ?_
                  refine x_goto (tgt := 147) C dX12_counts_121 (by decide) ?_
                  refine x_iinc (v := z.2) C dX12_counts_147 rfl ki_1 (by decide) ?_
                  refine x_goto (tgt := 18) C dX12_counts_150 (by decide) ?_
                  obtain ⟨rfl, rfl⟩ := j_inj2 hf
                  exact x_locr hk rfl
                · have hf := j_ifp hf c80
                  refine x_iload_n (v := a3) C dX12_counts_107 rfl ?_
                  refine x_iload (v := (a0 + (z.2 * z.2)) / ((4 : Int32) * a3)) C dX12_counts_108 rfl ?_
                  refine x_icmp_ne (tgt := 117) C dX12_counts_110 (by decide) (fun c81 => ?_) (fun c81 => ?_)
                  · have hf := j_ifn hf c81
                    refine x_bipush C dX12_counts_117 kb_12 ?_
                    refine x_iadd C dX12_counts_119 ?_
                    refine x_istore_n C dX12_counts_120 (by decide) ?_
                    refine x_goto (tgt := 147) C dX12_counts_121 (by decide) ?_
                    refine x_iinc (v := z.2) C dX12_counts_147 rfl ki_1 (by decide) ?_
                    refine x_goto (tgt := 18) C dX12_counts_150 (by decide) ?_
                    obtain ⟨rfl, rfl⟩ := j_inj2 hf
                    exact x_locr hk rfl
                  · have hf := j_ifp hf c81
                    refine x_iconst C dX12_counts_113 ki_4 ?_
                    refine x_goto (tgt := 119) C dX12_counts_114 (by decide) ?_
                    refine x_iadd C dX12_counts_119 ?_
                    refine x_istore_n C dX12_counts_120 (by decide) ?_
                    refine x_goto (tgt := 147) C dX12_counts_121 (by decide) ?_
                    refine x_iinc (v := z.2) C dX12_counts_147 rfl ki_1 (by decide) ?_
                    refine x_goto (tgt := 18) C dX12_counts_150 (by decide) ?_
                    obtain ⟨rfl, rfl⟩ := j_inj2 hf
                    exact x_locr hk rfl
              · have hf := j_ifp hf c79
                refine x_iload (v := z.2) C dX12_counts_91 rfl ?_
                refine x_if_ne (tgt := 101) C dX12_counts_93 (by decide) (fun c82 => ?_) (fun c82 => ?_)
                · have hf := j_ifn hf c82
                  refine x_iload_n (v := a3) C dX12_counts_101 rfl ?_
                  refine x_iload (v := z.2) C dX12_counts_102 rfl ?_
                  refine x_icmp_ne (tgt := 117) C dX12_counts_104 (by decide) (fun c83 => ?_) (fun c83 => ?_)
                  · have hf := j_ifn hf c83
                    refine x_bipush C dX12_counts_117 kb_12 ?_
                    refine x_iadd C dX12_counts_119 ?_
                    refine x_istore_n C dX12_counts_120 (by decide) ?_
                    refine x_goto (tgt := 147) C dX12_counts_121 (by decide) ?_
                    refine x_iinc (v := z.2) C dX12_counts_147 rfl ki_1 (by decide) ?_
                    refine x_goto (tgt := 18) C dX12_counts_150 (by decide) ?_
                    obtain ⟨rfl, rfl⟩ := j_inj2 hf
                    exact x_locr hk rfl
                  · have hf := j_ifp hf c83
                    refine x_iload_n (v := a3) C dX12_counts_107 rfl ?_
                    refine x_iload (v := (a0 + (z.2 * z.2)) / ((4 : Int32) * a3)) C dX12_counts_108 rfl ?_
                    refine x_icmp_ne (tgt := 117) C dX12_counts_110 (by decide) (fun c84 => ?_) (fun c84 => ?_)
                    · have hf := j_ifn hf c84
                      refine x_bipush C dX12_counts_117 kb_12 ?_
                      refine x_iadd C dX12_counts_119 ?_
                      refine x_istore_n C dX12_counts_120 (by decide) ?_
                      refine x_goto (tgt := 147) C dX12_counts_121 (by decide) ?_
                      refine x_iinc (v := z.2) C dX12_counts_147 rfl ki_1 (by decide) ?_
                      refine x_goto (tgt := 18) C dX12_counts_150 (by decide) ?_
                      obtain ⟨rfl, rfl⟩ := j_inj2 hf
                      exact x_locr hk rfl
                    · have hf := j_ifp hf c84
                      refine x_iconst C dX12_counts_113 ki_4 ?_
                      refine x_goto (tgt := 119) C dX12_counts_114 (by decide) ?_
                      refine x_iadd C dX12_counts_119 ?_
                      refine x_istore_n C dX12_counts_120 (by decide) ?_
                      refine x_goto (tgt := 147) C dX12_counts_121 (by decide) ?_
                      refine x_iinc (v := z.2) C dX12_counts_147 rfl ki_1 (by decide) ?_
                      refine x_goto (tgt := 18) C dX12_counts_150 (by decide) ?_
                      obtain ⟨rfl, rfl⟩ := j_inj2 hf
                      exact x_locr hk rfl
                · have hf := j_ifp hf c82
                  refine x_bipush C dX12_counts_96 kb_6 ?_
                  refine x_goto (tgt := 119) C dX12_counts_98 (by decide) ?_
                  refine x_iadd C dX12_counts_119 ?_
                  refine x_istore_n C dX12_counts_120 (by decide) ?_
                  refine x_goto (tgt := 147) C dX12_counts_121 (by decide) ?_
                  refine x_iinc (v := z.2) C dX12_counts_147 rfl ki_1 (by decide) ?_
                  refine x_goto (tgt := 18) C dX12_counts_150 (by decide) ?_
                  obtain ⟨rfl, rfl⟩ := j_inj2 hf
                  exact x_locr hk rfl
        · have hf := j_ifn hf c72
          refine x_iload (v := z.2) C dX12_counts_63 rfl ?_
          refine x_if_lt (tgt := 72) C dX12_counts_65 (by decide) (fun c85 => ?_) (fun c85 => ?_)
          · have hf := j_ifp hf c85
            refine x_iconst C dX12_counts_72 ki_0 ?_
            refine x_istore C dX12_counts_73 (by decide) ?_
            refine x_iload (v := (0 : Int32)) C dX12_counts_75 rfl ?_
            refine x_if_eq (tgt := 124) C dX12_counts_77 (by decide) (fun c86 => ?_) (fun c86 => ?_)
            · have hf := j_ifp hf c86
              refine x_iload (v := (0 : Int32)) C dX12_counts_124 rfl ?_
              refine x_if_eq (tgt := 147) C dX12_counts_126 (by decide) (fun c87 => ?_) (fun c87 => ?_)
              · have hf := j_ifp hf c87
                refine x_iinc (v := z.2) C dX12_counts_147 rfl ki_1 (by decide) ?_
                refine x_goto (tgt := 18) C dX12_counts_150 (by decide) ?_
                obtain ⟨rfl, rfl⟩ := j_inj2 hf
                exact x_locr hk rfl
              · have hf := j_ifn hf c87
                refine x_iload_n (v := a3) C dX12_counts_129 rfl ?_
                refine x_iload (v := z.2) C dX12_counts_130 rfl ?_
                obtain ⟨q29, e30, hf⟩ := j_bind hf
                refine x_callS (As := [.int a3, .int z.2]) (rest := []) C dX12_counts_132 (m_X12_divisor (l := l) (E := E) (d := d - 1) (by omega) e30) km_X12_divisor lk_X12_278 ks_X12_divisor rfl (by omega) (Nat.le_of_ble_eq_true rfl) (j_le_of (q_X12_divisor e30)) (Or.inr (q_X12_divisor e30)) ?_
                refine x_iload (v := (a0 + (z.2 * z.2)) / ((4 : Int32) * a3)) C dX12_counts_135 rfl ?_
                obtain ⟨q31, e32, hf⟩ := j_bind hf
                refine x_callS (As := [.int q29.1, .int ((a0 + (z.2 * z.2)) / ((4 : Int32) * a3))]) (rest := []) C dX12_counts_137 (m_X12_divisor (l := l) (E := E) (d := d - 1) (by omega) e32) km_X12_divisor lk_X12_278 ks_X12_divisor rfl (by omega) (Nat.le_of_ble_eq_true rfl) (j_le_of (q_X12_divisor e32)) (Or.inr (q_X12_divisor e32)) ?_
                refine x_iconst C dX12_counts_140 ki_1 ?_
                refine x_icmp_ne (tgt := 147) C dX12_counts_141 (by decide) (fun c88 => ?_) (fun c88 => ?_)
                · have hf := j_ifn hf c88
                  refine x_iinc (v := z.2) C dX12_counts_147 rfl ki_1 (by decide) ?_
                  refine x_goto (tgt := 18) C dX12_counts_150 (by decide) ?_
                  obtain ⟨rfl, rfl⟩ := j_inj2 hf
                  exact x_locr hk rfl
                · have hf := j_ifp hf c88
                  refine x_iinc (v := z.1) C dX12_counts_144 rfl ki_1 (by decide) ?_
                  refine x_iinc (v := z.2) C dX12_counts_147 rfl ki_1 (by decide) ?_
                  refine x_goto (tgt := 18) C dX12_counts_150 (by decide) ?_
                  obtain ⟨rfl, rfl⟩ := j_inj2 hf
                  exact x_locr hk rfl
            · have hf := j_ifn hf c86
              refine x_iload_n (v := a1) C dX12_counts_80 rfl ?_
              refine x_if_eq (tgt := 124) C dX12_counts_81 (by decide) (fun c89 => ?_) (fun c89 => ?_)
              · have hf := j_ifp hf c89
                refine x_iload (v := (0 : Int32)) C dX12_counts_124 rfl ?_
                refine x_if_eq (tgt := 147) C dX12_counts_126 (by decide) (fun c90 => ?_) (fun c90 => ?_)
                · have hf := j_ifp hf c90
                  refine x_iinc (v := z.2) C dX12_counts_147 rfl ki_1 (by decide) ?_
                  refine x_goto (tgt := 18) C dX12_counts_150 (by decide) ?_
                  obtain ⟨rfl, rfl⟩ := j_inj2 hf
                  exact x_locr hk rfl
                · have hf := j_ifn hf c90
                  refine x_iload_n (v := a3) C dX12_counts_129 rfl ?_
                  refine x_iload (v := z.2) C dX12_counts_130 rfl ?_
                  obtain ⟨q33, e34, hf⟩ := j_bind hf
                  refine x_callS (As := [.int a3, .int z.2]) (rest := []) C dX12_counts_132 (m_X12_divisor (l := l) (E := E) (d := d - 1) (by omega) e34) km_X12_divisor lk_X12_278 ks_X12_divisor rfl (by omega) (Nat.le_of_ble_eq_true rfl) (j_le_of (q_X12_divisor e34)) (Or.inr (q_X12_divisor e34)) ?_
                  refine x_iload (v := (a0 + (z.2 * z.2)) / ((4 : Int32) * a3)) C dX12_counts_135 rfl ?_
                  obtain ⟨q35, e36, hf⟩ := j_bind hf
                  refine x_callS (As := [.int q33.1, .int ((a0 + (z.2 * z.2)) / ((4 : Int32) * a3))]) (rest := []) C dX12_counts_137 (m_X12_divisor (l := l) (E := E) (d := d - 1) (by omega) e36) km_X12_divisor lk_X12_278 ks_X12_divisor rfl (by omega) (Nat.le_of_ble_eq_true rfl) (j_le_of (q_X12_divisor e36)) (Or.inr (q_X12_divisor e36)) ?_
                  refine x_iconst C dX12_counts_140 ki_1 ?_
                  refine x_icmp_ne (tgt := 147) C dX12_counts_141 (by decide) (fun c91 => ?_) (fun c91 => ?_)
                  · have hf := j_ifn hf c91
                    refine x_iinc (v := z.2) C dX12_counts_147 rfl ki_1 (by decide) ?_
                    refine x_goto (tgt := 18) C dX12_counts_150 (by decide) ?_
                    obtain ⟨rfl, rfl⟩ := j_inj2 hf
                    exact x_locr hk rfl
                  · have hf := j_ifp hf c91
                    refine x_iinc (v := z.1) C dX12_counts_144 rfl ki_1 (by decide) ?_
                    refine x_iinc (v := z.2) C dX12_counts_147 rfl ki_1 (by decide) ?_
                    refine x_goto (tgt := 18) C dX12_counts_150 (by decide) ?_
                    obtain ⟨rfl, rfl⟩ := j_inj2 hf
                    exact x_locr hk rfl
              · have hf := j_ifn hf c89
                refine x_iload_n (v := z.1) C dX12_counts_84 rfl ?_
                refine x_iload_n (v := a3) C dX12_counts_85 rfl ?_
                refine x_iload (v := (a0 + (z.2 * z.2)) / ((4 : Int32) * a3)) C dX12_counts_86 rfl ?_
                refine x_icmp_ne (tgt := 101) C dX12_counts_88 (by decide) (fun c92 => ?_) (fun c92 => ?_)
                · have hf := j_ifn hf c92
                  refine x_iload_n (v := a3) C dX12_counts_101 rfl ?_
                  refine x_iload (v := z.2) C dX12_counts_102 rfl ?_
                  refine x_icmp_ne (tgt := 117) C dX12_counts_104 (by decide) (fun c93 => ?_) (fun c93 => ?_)
                  · have hf := j_ifn hf c93
                    refine x_bipush C dX12_counts_117 kb_12 ?_
                    refine x_iadd C dX12_counts_119 ?_
                    refine x_istore_n C dX12_counts_120 (by decide) ?_
                    refine x_goto (tgt := 147) C dX12_counts_121 (by decide) ?_
                    refine x_iinc (v := z.2) C dX12_counts_147 rfl ki_1 (by decide) ?_
                    refine x_goto (tgt := 18) C dX12_counts_150 (by decide) ?_
                    obtain ⟨rfl, rfl⟩ := j_inj2 hf
                    exact x_locr hk rfl
                  · have hf := j_ifp hf c93
                    refine x_iload_n (v := a3) C dX12_counts_107 rfl ?_
                    refine x_iload (v := (a0 + (z.2 * z.2)) / ((4 : Int32) * a3)) C dX12_counts_108 rfl ?_
                    refine x_icmp_ne (tgt := 117) C dX12_counts_110 (by decide) (fun c94 => ?_) (fun c94 => ?_)
                    · have hf := j_ifn hf c94
                      refine x_bipush C dX12_counts_117 kb_12 ?_
                      refine x_iadd C dX12_counts_119 ?_
                      refine x_istore_n C dX12_counts_120 (by decide) ?_
                      refine x_goto (tgt := 147) C dX12_counts_121 (by decide) ?_
                      refine x_iinc (v := z.2) C dX12_counts_147 rfl ki_1 (by decide) ?_
                      refine x_goto (tgt := 18) C dX12_counts_150 (by decide) ?_
                      obtain ⟨rfl, rfl⟩ := j_inj2 hf
                      exact x_locr hk rfl
                    · have hf := j_ifp hf c94
                      refine x_iconst C dX12_counts_113 ki_4 ?_
                      refine x_goto (tgt := 119) C dX12_counts_114 (by decide) ?_
                      refine x_iadd C dX12_counts_119 ?_
                      refine x_istore_n C dX12_counts_120 (by decide) ?_
                      refine x_goto (tgt := 147) C dX12_counts_121 (by decide) ?_
                      refine x_iinc (v := z.2) C dX12_counts_147 rfl ki_1 (by decide) ?_
                      refine x_goto (tgt := 18) C dX12_counts_150 (by decide) ?_
                      obtain ⟨rfl, rfl⟩ := j_inj2 hf
                      exact x_locr hk rfl
                · have hf := j_ifp hf c92
                  refine x_iload (v := z.2) C dX12_counts_91 rfl ?_
                  refine x_if_ne (tgt := 101) C dX12_counts_93 (by decide) (fun c95 => ?_) (fun c95 => ?_)
                  · have hf := j_ifn hf c95
                    refine x_iload_n (v := a3) C dX12_counts_101 rfl ?_
                    refine x_iload (v := z.2) C dX12_counts_102 rfl ?_
                    refine x_icmp_ne (tgt := 117) C dX12_counts_104 (by decide) (fun c96 => ?_) (fun c96 => ?_)
                    · have hf := j_ifn hf c96
                      refine x_bipush C dX12_counts_117 kb_12 ?_
                      refine x_iadd C dX12_counts_119 ?_
                      refine x_istore_n C dX12_counts_120 (by decide) ?_
                      refine x_goto (tgt := 147) C dX12_counts_121 (by decide) ?_
                      refine x_iinc (v := z.2) C dX12_counts_147 rfl ki_1 (by decide) ?_
                      refine x_goto (tgt := 18) C dX12_counts_150 (by decide) ?_
                      obtain ⟨rfl, rfl⟩ := j_inj2 hf
                      exact x_locr hk rfl
                    · have hf := j_ifp hf c96
                      refine x_iload_n (v := a3) C dX12_counts_107 rfl ?_
                      refine x_iload (v := (a0 + (z.2 * z.2)) / ((4 : Int32) * a3)) C dX12_counts_108 rfl ?_
                      refine x_icmp_ne (tgt := 117) C dX12_counts_110 (by decide) (fun c97 => ?_) (fun c97 => ?_)
                      · have hf := j_ifn hf c97
                        refine x_bipush C dX12_counts_117 kb_12 ?_
                        refine x_iadd C dX12_counts_119 ?_
                        refine x_istore_n C dX12_counts_120 (by decide) ?_
                        refine x_goto (tgt := 147) C dX12_counts_121 (by decide) ?_
                        refine x_iinc (v := z.2) C dX12_counts_147 rfl ki_1 (by decide) ?_
                        refine x_goto (tgt := 18) C dX12_counts_150 (by decide) ?_
                        obtain ⟨rfl, rfl⟩ := j_inj2 hf
                        exact x_locr hk rfl
                      · have hf := j_ifp hf c97
                        refine x_iconst C dX12_counts_113 ki_4 ?_
                        refine x_goto (tgt := 119) C dX12_counts_114 (by decide) ?_
                        refine x_iadd C dX12_counts_119 ?_
                        refine x_istore_n C dX12_counts_120 (by decide) ?_
                        refine x_goto (tgt := 147) C dX12_counts_121 (by decide) ?_
                        refine x_iinc (v := z.2) C dX12_counts_147 rfl ki_1 (by decide) ?_
                        refine x_goto (tgt := 18) C dX12_counts_150 (by decide) ?_
                        obtain ⟨rfl, rfl⟩ := j_inj2 hf
                        exact x_locr hk rfl
                  · have hf := j_ifp hf c95
                    refine x_bipush C dX12_counts_96 kb_6 ?_
                    refine x_goto (tgt := 119) C dX12_counts_98 (by decide) ?_
                    refine x_iadd C dX12_counts_119 ?_
                    refine x_istore_n C dX12_counts_120 (by decide) ?_
                    refine x_goto (tgt := 147) C dX12_counts_121 (by decide) ?_
                    refine x_iinc (v := z.2) C dX12_counts_147 rfl ki_1 (by decide) ?_
                    refine x_goto (tgt := 18) C dX12_counts_150 (by decide) ?_
                    obtain ⟨rfl, rfl⟩ := j_inj2 hf
                    exact x_locr hk rfl
          · have hf := j_ifn hf c85
            refine x_iconst C dX12_counts_68 ki_1 ?_
            refine x_goto (tgt := 73) C dX12_counts_69 (by decide) ?_
            refine x_istore C dX12_counts_73 (by decide) ?_
            refine x_iload (v := (1 : Int32)) C dX12_counts_75 rfl ?_
            refine x_if_eq (tgt := 124) C dX12_counts_77 (by decide) (fun c98 => ?_) (fun c98 => ?_)
            · have hf := j_ifp hf c98
              refine x_iload (v := (1 : Int32)) C dX12_counts_124 rfl ?_
              refine x_if_eq (tgt := 147) C dX12_counts_126 (by decide) (fun c99 => ?_) (fun c99 => ?_)
              · have hf := j_ifp hf c99
                refine x_iinc (v := z.2) C dX12_counts_147 rfl ki_1 (by decide) ?_
                refine x_goto (tgt := 18) C dX12_counts_150 (by decide) ?_
                obtain ⟨rfl, rfl⟩ := j_inj2 hf
                exact x_locr hk rfl
              · have hf := j_ifn hf c99
                refine x_iload_n (v := a3) C dX12_counts_129 rfl ?_
                refine x_iload (v := z.2) C dX12_counts_130 rfl ?_
                obtain ⟨q37, e38, hf⟩ := j_bind hf
                refine x_callS (As := [.int a3, .int z.2]) (rest := []) C dX12_counts_132 (m_X12_divisor (l := l) (E := E) (d := d - 1) (by omega) e38) km_X12_divisor lk_X12_278 ks_X12_divisor rfl (by omega) (Nat.le_of_ble_eq_true rfl) (j_le_of (q_X12_divisor e38)) (Or.inr (q_X12_divisor e38)) ?_
                refine x_iload (v := (a0 + (z.2 * z.2)) / ((4 : Int32) * a3)) C dX12_counts_135 rfl ?_
                obtain ⟨q39, e40, hf⟩ := j_bind hf
                refine x_callS (As := [.int q37.1, .int ((a0 + (z.2 * z.2)) / ((4 : Int32) * a3))]) (rest := []) C dX12_counts_137 (m_X12_divisor (l := l) (E := E) (d := d - 1) (by omega) e40) km_X12_divisor lk_X12_278 ks_X12_divisor rfl (by omega) (Nat.le_of_ble_eq_true rfl) (j_le_of (q_X12_divisor e40)) (Or.inr (q_X12_divisor e40)) ?_
                refine x_iconst C dX12_counts_140 ki_1 ?_
                refine x_icmp_ne (tgt := 147) C dX12_counts_141 (by decide) (fun c100 => ?_) (fun c100 => ?_)
                · have hf := j_ifn hf c100
                  refine x_iinc (v := z.2) C dX12_counts_147 rfl ki_1 (by decide) ?_
                  refine x_goto (tgt := 18) C dX12_counts_150 (by decide) ?_
                  obtain ⟨rfl, rfl⟩ := j_inj2 hf
                  exact x_locr hk rfl
                · have hf := j_ifp hf c100
                  refine x_iinc (v := z.1) C dX12_counts_144 rfl ki_1 (by decide) ?_
                  refine x_iinc (v := z.2) C dX12_counts_147 rfl ki_1 (by decide) ?_
                  refine x_goto (tgt := 18) C dX12_counts_150 (by decide) ?_
                  obtain ⟨rfl, rfl⟩ := j_inj2 hf
                  exact x_locr hk rfl
            · have hf := j_ifn hf c98
              refine x_iload_n (v := a1) C dX12_counts_80 rfl ?_
              refine x_if_eq (tgt := 124) C dX12_counts_81 (by decide) (fun c101 => ?_) (fun c101 => ?_)
              · have hf := j_ifp hf c101
                refine x_iload (v := (1 : Int32)) C dX12_counts_124 rfl ?_
                refine x_if_eq (tgt := 147) C dX12_counts_126 (by decide) (fun c102 => ?_) (fun c102 => ?_)
                · have hf := j_ifp hf c102
                  refine x_iinc (v := z.2) C dX12_counts_147 rfl ki_1 (by decide) ?_
                  refine x_goto (tgt := 18) C dX12_counts_150 (by decide) ?_
                  obtain ⟨rfl, rfl⟩ := j_inj2 hf
                  exact x_locr hk rfl
                · have hf := j_ifn hf c102
                  refine x_iload_n (v := a3) C dX12_counts_129 rfl ?_
                  refine x_iload (v := z.2) C dX12_counts_130 rfl ?_
                  obtain ⟨q41, e42, hf⟩ := j_bind hf
                  refine x_callS (As := [.int a3, .int z.2]) (rest := []) C dX12_counts_132 (m_X12_divisor (l := l) (E := E) (d := d - 1) (by omega) e42) km_X12_divisor lk_X12_278 ks_X12_divisor rfl (by omega) (Nat.le_of_ble_eq_true rfl) (j_le_of (q_X12_divisor e42)) (Or.inr (q_X12_divisor e42)) ?_
                  refine x_iload (v := (a0 + (z.2 * z.2)) / ((4 : Int32) * a3)) C dX12_counts_135 rfl ?_
                  obtain ⟨q43, e44, hf⟩ := j_bind hf
                  refine x_callS (As := [.int q41.1, .int ((a0 + (z.2 * z.2)) / ((4 : Int32) * a3))]) (rest := []) C dX12_counts_137 (m_X12_divisor (l := l) (E := E) (d := d - 1) (by omega) e44) km_X12_divisor lk_X12_278 ks_X12_divisor rfl (by omega) (Nat.le_of_ble_eq_true rfl) (j_le_of (q_X12_divisor e44)) (Or.inr (q_X12_divisor e44)) ?_
                  refine x_iconst C dX12_counts_140 ki_1 ?_
                  refine x_icmp_ne (tgt := 147) C dX12_counts_141 (by decide) (fun c103 => ?_) (fun c103 => ?_)
                  · have hf := j_ifn hf c103
                    refine x_iinc (v := z.2) C dX12_counts_147 rfl ki_1 (by decide) ?_
                    refine x_goto (tgt := 18) C dX12_counts_150 (by decide) ?_
                    obtain ⟨rfl, rfl⟩ := j_inj2 hf
                    exact x_locr hk rfl
                  · have hf := j_ifp hf c103
                    refine x_iinc (v := z.1) C dX12_counts_144 rfl ki_1 (by decide) ?_
                    refine x_iinc (v := z.2) C dX12_counts_147 rfl ki_1 (by decide) ?_
                    refine x_goto (tgt := 18) C dX12_counts_150 (by decide) ?_
                    obtain ⟨rfl, rfl⟩ := j_inj2 hf
                    exact x_locr hk rfl
              · have hf := j_ifn hf c101
                refine x_iload_n (v := z.1) C dX12_counts_84 rfl ?_
                refine x_iload_n (v := a3) C dX12_counts_85 rfl ?_
                refine x_iload (v := (a0 + (z.2 * z.2)) / ((4 : Int32) * a3)) C dX12_counts_86 rfl ?_
                refine x_icmp_ne (tgt := 101) C dX12_counts_88 (by decide) (fun c104 => ?_) (fun c104 => ?_)
                · have hf := j_ifn hf c104
                  refine x_iload_n (v := a3) C dX12_counts_101 rfl ?_
                  refine x_iload (v := z.2) C dX12_counts_102 rfl ?_
                  refine x_icmp_ne (tgt := 117) C dX12_counts_104 (by decide) (fun c105 => ?_) (fun c105 => ?_)
                  · have hf := j_ifn hf c105
                    refine x_bipush C dX12_counts_117 kb_12 ?_
                    refine x_iadd C dX12_counts_119 ?_
                    refine x_istore_n C dX12_counts_120 (by decide) ?_
                    refine x_goto (tgt := 147) C dX12_counts_121 (by decide) ?_
                    refine x_iinc (v := z.2) C dX12_counts_147 rfl ki_1 (by decide) ?_
                    refine x_goto (tgt := 18) C dX12_counts_150 (by decide) ?_
                    obtain ⟨rfl, rfl⟩ := j_inj2 hf
                    exact x_locr hk rfl
                  · have hf := j_ifp hf c105
                    refine x_iload_n (v := a3) C dX12_counts_107 rfl ?_
                    refine x_iload (v := (a0 + (z.2 * z.2)) / ((4 : Int32) * a3)) C dX12_counts_108 rfl ?_
                    refine x_icmp_ne (tgt := 117) C dX12_counts_110 (by decide) (fun c106 => ?_) (fun c106 => ?_)
                    · have hf := j_ifn hf c106
                      refine x_bipush C dX12_counts_117 kb_12 ?_
                      refine x_iadd C dX12_counts_119 ?_
                      refine x_istore_n C dX12_counts_120 (by decide) ?_
                      refine x_goto (tgt := 147) C dX12_counts_121 (by decide) ?_
                      refine x_iinc (v := z.2) C dX12_counts_147 rfl ki_1 (by decide) ?_
                      refine x_goto (tgt := 18) C dX12_counts_150 (by decide) ?_
                      obtain ⟨rfl, rfl⟩ := j_inj2 hf
                      exact x_locr hk rfl
                    · have hf := j_ifp hf c106
                      refine x_iconst C dX12_counts_113 ki_4 ?_
                      refine x_goto (tgt := 119) C dX12_counts_114 (by decide) ?_
                      refine x_iadd C dX12_counts_119 ?_
                      refine x_istore_n C dX12_counts_120 (by decide) ?_
                      refine x_goto (tgt := 147) C dX12_counts_121 (by decide) ?_
                      refine x_iinc (v := z.2) C dX12_counts_147 rfl ki_1 (by decide) ?_
                      refine x_goto (tgt := 18) C dX12_counts_150 (by decide) ?_
                      obtain ⟨rfl, rfl⟩ := j_inj2 hf
                      exact x_locr hk rfl
                · have hf := j_ifp hf c104
                  refine x_iload (v := z.2) C dX12_counts_91 rfl ?_
                  refine x_if_ne (tgt := 101) C dX12_counts_93 (by decide) (fun c107 => ?_) (fun c107 => ?_)
                  · have hf := j_ifn hf c107
                    refine x_iload_n (v := a3) C dX12_counts_101 rfl ?_
                    refine x_iload (v := z.2) C dX12_counts_102 rfl ?_
                    refine x_icmp_ne (tgt := 117) C dX12_counts_104 (by decide) (fun c108 => ?_) (fun c108 => ?_)
                    · have hf := j_ifn hf c108
                      refine x_bipush C dX12_counts_117 kb_12 ?_
                      refine x_iadd C dX12_counts_119 ?_
                      refine x_istore_n C dX12_counts_120 (by decide) ?_
                      refine x_goto (tgt := 147) C dX12_counts_121 (by decide) ?_
                      refine x_iinc (v := z.2) C dX12_counts_147 rfl ki_1 (by decide) ?_
                      refine x_goto (tgt := 18) C dX12_counts_150 (by decide) ?_
                      obtain ⟨rfl, rfl⟩ := j_inj2 hf
                      exact x_locr hk rfl
                    · have hf := j_ifp hf c108
                      refine x_iload_n (v := a3) C dX12_counts_107 rfl ?_
                      refine x_iload (v := (a0 + (z.2 * z.2)) / ((4 : Int32) * a3)) C dX12_counts_108 rfl ?_
                      refine x_icmp_ne (tgt := 117) C dX12_counts_110 (by decide) (fun c109 => ?_) (fun c109 => ?_)
                      · have hf := j_ifn hf c109
                        refine x_bipush C dX12_counts_117 kb_12 ?_
                        refine x_iadd C dX12_counts_119 ?_
                        refine x_istore_n C dX12_counts_120 (by decide) ?_
                        refine x_goto (tgt := 147) C dX12_counts_121 (by decide) ?_
                        refine x_iinc (v := z.2) C dX12_counts_147 rfl ki_1 (by decide) ?_
                        refine x_goto (tgt := 18) C dX12_counts_150 (by decide) ?_
                        obtain ⟨rfl, rfl⟩ := j_inj2 hf
                        exact x_locr hk rfl
                      · have hf := j_ifp hf c109
                        refine x_iconst C dX12_counts_113 ki_4 ?_
                        refine x_goto (tgt := 119) C dX12_counts_114 (by decide) ?_
                        refine x_iadd C dX12_counts_119 ?_
                        refine x_istore_n C dX12_counts_120 (by decide) ?_
                        refine x_goto (tgt := 147) C dX12_counts_121 (by decide) ?_
                        refine x_iinc (v := z.2) C dX12_counts_147 rfl ki_1 (by decide) ?_
                        refine x_goto (tgt := 18) C dX12_counts_150 (by decide) ?_
                        obtain ⟨rfl, rfl⟩ := j_inj2 hf
                        exact x_locr hk rfl
                  · have hf := j_ifp hf c107
                    refine x_bipush C dX12_counts_96 kb_6 ?_
                    refine x_goto (tgt := 119) C dX12_counts_98 (by decide) ?_
                    refine x_iadd C dX12_counts_119 ?_
                    refine x_istore_n C dX12_counts_120 (by decide) ?_
                    refine x_goto (tgt := 147) C dX12_counts_121 (by decide) ?_
                    refine x_iinc (v := z.2) C dX12_counts_147 rfl ki_1 (by decide) ?_
                    refine x_goto (tgt := 18) C dX12_counts_150 (by decide) ?_
                    obtain ⟨rfl, rfl⟩ := j_inj2 hf
                    exact x_locr hk rfl
set_option maxHeartbeats 4000000 in
set_option maxRecDepth 100000 in
theorem s_X12_counts_L4 {p : Program} {l : Launch} {e : Env} {R : Room} {s : State} {m : MethodId} {args : Array Value} {below : List Frame} {meth : Method} {c : Code} {E : JE} {h0 hF : JH} {rF : Option Value} {d : Nat} (C : j_C p s m args meth c R E cX12_counts 7 RX12 h0 hF d) (hret : meth.sig.returnType = (some .int)) (hdd : 1 ≤ d) (a0 : Int32) (a1 : Int32) (z : (Int32 × Int32)) (h : JH) (r : (Int32 × Int32) ⊕ (Int32 × Int32)) (h1 : JH) (hf : f_X12_counts_L4 a0 a1 z h = some (r, h1)) (hk : Sum.elim (fun z => Xw p l e R s m args below meth c E 7 h0 rF hF 4 [(0, .int a0), (1, .int a1), (2, .int z.1), (3, .int z.2)] [] h1) (fun t => Xw p l e R s m args below meth c E 7 h0 rF hF 159 [(0, .int a0), (1, .int a1), (2, .int t.1), (3, .int t.2)] [] h1) r) : Xw p l e R s m args below meth c E 7 h0 rF hF 4 [(0, .int a0), (1, .int a1), (2, .int z.1), (3, .int z.2)] [] h := by
  unfold f_X12_counts_L4 at hf
  refine x_iconst C dX12_counts_4 ki_3 ?_
  refine x_iload_n (v := z.2) C dX12_counts_5 rfl ?_
  refine x_imul C dX12_counts_6 ?_
  refine x_iload_n (v := z.2) C dX12_counts_7 rfl ?_
  refine x_imul C dX12_counts_8 ?_
  refine x_iload_n (v := a0) C dX12_counts_9 rfl ?_
  refine x_icmp_gt (tgt := 159) C dX12_counts_10 (by decide) (fun c3 => ?_) (fun c3 => ?_)
  · have hf := j_ifp hf c3
    obtain ⟨rfl, rfl⟩ := j_inj2 hf
    exact x_locr hk rfl
  · have hf := j_ifn hf c3
    refine x_iconst C dX12_counts_13 ki_1 ?_
    refine x_iload_n (v := z.2) C dX12_counts_14 rfl ?_
    refine x_isub C dX12_counts_15 ?_
    refine x_istore C dX12_counts_16 (by decide) ?_
    obtain ⟨q1, e2, hf⟩ := j_bind hf
    refine x_loc [(0, .int a0), (1, .int a1), (2, .int z.1), (3, .int z.2), (4, .int ((1 : Int32) - z.2))] rfl ?_
    refine x_loop (s_X12_counts_L18 C hret hdd a0 a1 z.2) e2 ?_
    refine x_iinc (v := z.2) C dX12_counts_153 rfl ki_1 (by decide) ?_
    refine x_goto (tgt := 4) C dX12_counts_156 (by decide) ?_
    obtain ⟨rfl, rfl⟩ := j_inj2 hf
    exact x_locr hk rfl
set_option maxHeartbeats 4000000 in
set_option maxRecDepth 100000 in
theorem m_X12_counts {l : Launch} {E : JE} {d : Nat} (hdd : 1 ≤ d) {a0 : Int32} {a1 : Int32} {h : JH} {q : Int32 × JH} (hf : f_X12_counts a0 a1 h = some q) : Con l E d yX12_counts cX12_counts 7 (some .int) [.int a0, .int a1] h (some (.int q.1)) q.2 := by
  refine j_start rfl (Nat.le_of_ble_eq_true rfl) ?_
  intro p e s m args below meth c C hret hnm
  refine x_loc [(0, .int a0), (1, .int a1)] rfl ?_
  unfold f_X12_counts at hf
  refine x_iconst C dX12_counts_0 ki_0 ?_
  refine x_istore_n C dX12_counts_1 (by decide) ?_
  refine x_iconst C dX12_counts_2 ki_1 ?_
  refine x_istore_n C dX12_counts_3 (by decide) ?_
  obtain ⟨q4, e5, hf⟩ := j_bind hf
  refine x_loc [(0, .int a0), (1, .int a1), (2, .int (0 : Int32)), (3, .int (1 : Int32))] rfl ?_
  refine x_loop (s_X12_counts_L4 C hret hdd a0 a1) e5 ?_
  refine x_iload_n (v := q4.1.1) C dX12_counts_159 rfl ?_
  obtain rfl := j_inj hf
  exact x_iret C hret dX12_counts_160
set_option maxHeartbeats 4000000 in
set_option maxRecDepth 100000 in
theorem m_X12_wholeOf {l : Launch} {E : JE} {d : Nat} (hdd : 2 ≤ d) {a0 : Int32} {h : JH} {q : Int32 × JH} (hf : f_X12_wholeOf a0 h = some q) : Con l E d yX12_wholeOf cX12_wholeOf 1 (some .int) [.int a0] h (some (.int q.1)) q.2 := by
  refine j_start rfl (Nat.le_of_ble_eq_true rfl) ?_
  intro p e s m args below meth c C hret hnm
  refine x_loc [(0, .int a0)] rfl ?_
  unfold f_X12_wholeOf at hf
  refine x_iload_n (v := a0) C dX12_wholeOf_0 rfl ?_
  refine x_if_ne (tgt := 8) C dX12_wholeOf_1 (by decide) (fun c5 => ?_) (fun c5 => ?_)
  · have hf := j_ifn hf c5
    refine x_iload_n (v := a0) C dX12_wholeOf_8 rfl ?_
    obtain ⟨q1, e2, hf⟩ := j_bind hf
    refine x_callS (As := [.int a0]) (rest := []) C dX12_wholeOf_9 (m_X12_isDisc (l := l) (E := E) (d := d - 1) (by omega) e2) km_X12_isDisc lk_X12_281 ks_X12_isDisc rfl (by omega) (Nat.le_of_ble_eq_true rfl) (j_le_of (q_X12_isDisc e2)) (Or.inr (q_X12_isDisc e2)) ?_
    refine x_if_eq (tgt := 23) C dX12_wholeOf_12 (by decide) (fun c6 => ?_) (fun c6 => ?_)
    · have hf := j_ifp hf c6
      refine x_iconst C dX12_wholeOf_23 ki_0 ?_
      obtain rfl := j_inj hf
      exact x_iret C hret dX12_wholeOf_24
    · have hf := j_ifn hf c6
      refine x_iload_n (v := a0) C dX12_wholeOf_15 rfl ?_
      refine x_iconst C dX12_wholeOf_16 ki_1 ?_
      obtain ⟨q3, e4, hf⟩ := j_bind hf
      refine x_callS (As := [.int a0, .int (1 : Int32)]) (rest := []) C dX12_wholeOf_17 (m_X12_counts (l := l) (E := E) (d := d - 1) (by omega) e4) km_X12_counts lk_X12_284 ks_X12_counts rfl (by omega) (Nat.le_of_ble_eq_true rfl) (j_le_of (q_X12_counts e4)) (Or.inr (q_X12_counts e4)) ?_
      refine x_goto (tgt := 24) C dX12_wholeOf_20 (by decide) ?_
      obtain rfl := j_inj hf
      exact x_iret C hret dX12_wholeOf_24
  · have hf := j_ifp hf c5
    refine x_iconst C dX12_wholeOf_4 ki_m1 ?_
    refine x_goto (tgt := 24) C dX12_wholeOf_5 (by decide) ?_
    obtain rfl := j_inj hf
    exact x_iret C hret dX12_wholeOf_24
set_option maxHeartbeats 4000000 in
set_option maxRecDepth 100000 in
theorem m_X12_whole {l : Launch} {E : JE} {d : Nat} (hdd : 3 ≤ d) {a0 : Nat} {a1 : Int32} {h : JH} {q : Int32 × JH} (hf : f_X12_whole a0 a1 h = some q) : Con l E d yX12_whole cX12_whole 2 (some .int) [.ref a0, .int a1] h (some (.int q.1)) q.2 := by
  refine j_start rfl (Nat.le_of_ble_eq_true rfl) ?_
  intro p e s m args below meth c C hret hnm
  refine x_loc [(0, .ref a0), (1, .int a1)] rfl ?_
  unfold f_X12_whole at hf
  refine x_aload_n (v := a0) C dX12_whole_0 rfl ?_
  refine x_iload_n (v := a1) C dX12_whole_1 rfl ?_
  refine x_sipush C dX12_whole_2 ks_2000 ?_
  refine x_icmp_le (tgt := 12) C dX12_whole_5 (by decide) (fun c13 => ?_) (fun c13 => ?_)
  · have hf := j_ifp hf c13
    refine x_iconst C dX12_whole_12 ki_0 ?_
    obtain ⟨h1, e2, hf⟩ := j_bind hf
    refine x_put C dX12_whole_13 e2 fp_X12_1 rfl rfl ?_
    refine x_aload_n (v := a0) C dX12_whole_16 rfl ?_
    obtain ⟨v3, e4, hf⟩ := j_bind hf
    refine x_get C dX12_whole_17 (jgI_some e4) fg_X12_1 ?_
    refine x_if_le (tgt := 27) C dX12_whole_20 (by decide) (fun c14 => ?_) (fun c14 => ?_)
    · have hf := j_ifp hf c14
      refine x_iload_n (v := a1) C dX12_whole_27 rfl ?_
      obtain ⟨q5, e6, hf⟩ := j_bind hf
      refine x_callS (As := [.int a1]) (rest := []) C dX12_whole_28 (m_X12_wholeOf (l := l) (E := E) (d := d - 1) (by omega) e6) km_X12_wholeOf lk_X12_288 ks_X12_wholeOf rfl (by omega) (Nat.le_of_ble_eq_true rfl) (j_le_of (q_X12_wholeOf e6)) (Or.inr (q_X12_wholeOf e6)) ?_
      obtain rfl := j_inj hf
      exact x_iret C hret dX12_whole_31
    · have hf := j_ifn hf c14
      refine x_iconst C dX12_whole_23 ki_0 ?_
      refine x_goto (tgt := 31) C dX12_whole_24 (by decide) ?_
      obtain rfl := j_inj hf
      exact x_iret C hret dX12_whole_31
  · have hf := j_ifn hf c13
    refine x_iconst C dX12_whole_8 ki_1 ?_
    refine x_goto (tgt := 13) C dX12_whole_9 (by decide) ?_
    obtain ⟨h7, e8, hf⟩ := j_bind hf
    refine x_put C dX12_whole_13 e8 fp_X12_1 rfl rfl ?_
    refine x_aload_n (v := a0) C dX12_whole_16 rfl ?_
    obtain ⟨v9, e10, hf⟩ := j_bind hf
    refine x_get C dX12_whole_17 (jgI_some e10) fg_X12_1 ?_
    refine x_if_le (tgt := 27) C dX12_whole_20 (by decide) (fun c15 => ?_) (fun c15 => ?_)
    · have hf := j_ifp hf c15
      refine x_iload_n (v := a1) C dX12_whole_27 rfl ?_
      obtain ⟨q11, e12, hf⟩ := j_bind hf
      refine x_callS (As := [.int a1]) (rest := []) C dX12_whole_28 (m_X12_wholeOf (l := l) (E := E) (d := d - 1) (by omega) e12) km_X12_wholeOf lk_X12_288 ks_X12_wholeOf rfl (by omega) (Nat.le_of_ble_eq_true rfl) (j_le_of (q_X12_wholeOf e12)) (Or.inr (q_X12_wholeOf e12)) ?_
      obtain rfl := j_inj hf
      exact x_iret C hret dX12_whole_31
    · have hf := j_ifn hf c15
      refine x_iconst C dX12_whole_23 ki_0 ?_
      refine x_goto (tgt := 31) C dX12_whole_24 (by decide) ?_
      obtain rfl := j_inj hf
      exact x_iret C hret dX12_whole_31
set_option maxHeartbeats 4000000 in
set_option maxRecDepth 100000 in
theorem m_X12_small {l : Launch} {E : JE} {d : Nat} (hdd : 2 ≤ d) {a0 : Nat} {a1 : Int32} {h : JH} {q : Int32 × JH} (hf : f_X12_small a0 a1 h = some q) : Con l E d yX12_small cX12_small 2 (some .int) [.ref a0, .int a1] h (some (.int q.1)) q.2 := by
  refine j_start rfl (Nat.le_of_ble_eq_true rfl) ?_
  intro p e s m args below meth c C hret hnm
  refine x_loc [(0, .ref a0), (1, .int a1)] rfl ?_
  unfold f_X12_small at hf
  refine x_aload_n (v := a0) C dX12_small_0 rfl ?_
  refine x_iconst C dX12_small_1 ki_0 ?_
  obtain ⟨h1, e2, hf⟩ := j_bind hf
  refine x_put C dX12_small_2 e2 fp_X12_1 rfl rfl ?_
  refine x_iload_n (v := a1) C dX12_small_5 rfl ?_
  obtain ⟨q3, e4, hf⟩ := j_bind hf
  refine x_callS (As := [.int a1]) (rest := []) C dX12_small_6 (m_X12_isDisc (l := l) (E := E) (d := d - 1) (by omega) e4) km_X12_isDisc lk_X12_281 ks_X12_isDisc rfl (by omega) (Nat.le_of_ble_eq_true rfl) (j_le_of (q_X12_isDisc e4)) (Or.inr (q_X12_isDisc e4)) ?_
  refine x_if_eq (tgt := 20) C dX12_small_9 (by decide) (fun c7 => ?_) (fun c7 => ?_)
  · have hf := j_ifp hf c7
    refine x_iconst C dX12_small_20 ki_0 ?_
    obtain rfl := j_inj hf
    exact x_iret C hret dX12_small_21
  · have hf := j_ifn hf c7
    refine x_iload_n (v := a1) C dX12_small_12 rfl ?_
    refine x_iconst C dX12_small_13 ki_0 ?_
    obtain ⟨q5, e6, hf⟩ := j_bind hf
    refine x_callS (As := [.int a1, .int (0 : Int32)]) (rest := []) C dX12_small_14 (m_X12_counts (l := l) (E := E) (d := d - 1) (by omega) e6) km_X12_counts lk_X12_284 ks_X12_counts rfl (by omega) (Nat.le_of_ble_eq_true rfl) (j_le_of (q_X12_counts e6)) (Or.inr (q_X12_counts e6)) ?_
    refine x_goto (tgt := 21) C dX12_small_17 (by decide) ?_
    obtain rfl := j_inj hf
    exact x_iret C hret dX12_small_21
set_option maxHeartbeats 4000000 in
set_option maxRecDepth 100000 in
theorem m_X12_times {l : Launch} {E : JE} {d : Nat} (hdd : 0 ≤ d) {a0 : Nat} {a1 : Int64} {a3 : Int64} {h : JH} {q : Int64 × JH} (hf : f_X12_times a0 a1 a3 h = some q) : Con l E d yX12_times cX12_times 9 (some .long) [.ref a0, .long a1, .long a3] h (some (.long q.1)) q.2 := by
  refine j_start rfl (Nat.le_of_ble_eq_true rfl) ?_
  intro p e s m args below meth c C hret hnm
  refine x_loc [(0, .ref a0), (1, .long a1), (3, .long a3)] rfl ?_
  unfold f_X12_times at hf
  refine x_lload_n (v := a1) C dX12_times_0 rfl ?_
  refine x_lload_n (v := a3) C dX12_times_1 rfl ?_
  refine x_lmul C dX12_times_2 ?_
  refine x_lstore C dX12_times_3 (by decide) ?_
  refine x_lload_n (v := a1) C dX12_times_5 rfl ?_
  refine x_lconst C dX12_times_6 kl_0 ?_
  refine x_lcmp C dX12_times_7 ?_
  refine x_if_ne (tgt := 15) C dX12_times_8 (by decide) (fun c41 => ?_) (fun c41 => ?_)
  · have hf := j_ifn hf c41
    refine x_ldc2 C dX12_times_15 cn_X12_291 ?_
    refine x_lload_n (v := a1) C dX12_times_18 rfl ?_
    refine x_lconst C dX12_times_19 kl_0 ?_
    refine x_lcmp C dX12_times_20 ?_
    refine x_if_ge (tgt := 29) C dX12_times_21 (by decide) (fun c42 => ?_) (fun c42 => ?_)
    · have hf := j_ifp hf c42
      refine x_lload_n (v := a1) C dX12_times_29 rfl ?_
      obtain ⟨u1, e2, hf⟩ := j_bind hf
      refine x_ldiv C dX12_times_30 (jnzL_some e2) ?_
      refine x_lstore C dX12_times_31 (by decide) ?_
      refine x_aload_n (v := a0) C dX12_times_33 rfl ?_
      refine x_aload_n (v := a0) C dX12_times_34 rfl ?_
      obtain ⟨v3, e4, hf⟩ := j_bind hf
      refine x_get C dX12_times_35 (jgI_some e4) fg_X12_293 ?_
      refine x_if_ne (tgt := 62) C dX12_times_38 (by decide) (fun c43 => ?_) (fun c43 => ?_)
      · have hf := j_ifn hf c43
        refine x_iconst C dX12_times_62 ki_1 ?_
        refine x_goto (tgt := 67) C dX12_times_63 (by decide) ?_
        obtain ⟨h5, e6, hf⟩ := j_bind hf
        refine x_put C dX12_times_67 e6 fp_X12_293 rfl rfl ?_
        refine x_lload (v := a1 * a3) C dX12_times_70 rfl ?_
        obtain rfl := j_inj hf
        exact x_lret C hret dX12_times_72
      · have hf := j_ifp hf c43
        refine x_lload_n (v := a1) C dX12_times_41 rfl ?_
        refine x_lconst C dX12_times_42 kl_0 ?_
        refine x_lcmp C dX12_times_43 ?_
        refine x_if_eq (tgt := 66) C dX12_times_44 (by decide) (fun c44 => ?_) (fun c44 => ?_)
        · have hf := j_ifp hf c44
          refine x_iconst C dX12_times_66 ki_0 ?_
          obtain ⟨h7, e8, hf⟩ := j_bind hf
          refine x_put C dX12_times_67 e8 fp_X12_293 rfl rfl ?_
          refine x_lload (v := a1 * a3) C dX12_times_70 rfl ?_
          obtain rfl := j_inj hf
          exact x_lret C hret dX12_times_72
        · have hf := j_ifn hf c44
          refine x_lload_n (v := a3) C dX12_times_47 rfl ?_
          refine x_lload (v := (4611686018427387904 : Int64) / a1) C dX12_times_48 rfl ?_
          refine x_lcmp C dX12_times_50 ?_
          refine x_if_gt (tgt := 62) C dX12_times_51 (by decide) (fun c45 => ?_) (fun c45 => ?_)
          · have hf := j_ifp hf c45
            refine x_iconst C dX12_times_62 ki_1 ?_
            refine x_goto (tgt := 67) C dX12_times_63 (by decide) ?_
            obtain ⟨h9, e10, hf⟩ := j_bind hf
            refine x_put C dX12_times_67 e10 fp_X12_293 rfl rfl ?_
            refine x_lload (v := a1 * a3) C dX12_times_70 rfl ?_
            obtain rfl := j_inj hf
            exact x_lret C hret dX12_times_72
          · have hf := j_ifn hf c45
            refine x_lload_n (v := a3) C dX12_times_54 rfl ?_
            refine x_lload (v := (4611686018427387904 : Int64) / a1) C dX12_times_55 rfl ?_
            refine x_lneg C dX12_times_57 ?_
            refine x_lcmp C dX12_times_58 ?_
            refine x_if_ge (tgt := 66) C dX12_times_59 (by decide) (fun c46 => ?_) (fun c46 => ?_)
            · have hf := j_ifp hf c46
              refine x_iconst C dX12_times_66 ki_0 ?_
              obtain ⟨h11, e12, hf⟩ := j_bind hf
              refine x_put C dX12_times_67 e12 fp_X12_293 rfl rfl ?_
              refine x_lload (v := a1 * a3) C dX12_times_70 rfl ?_
              obtain rfl := j_inj hf
              exact x_lret C hret dX12_times_72
            · have hf := j_ifn hf c46
              refine x_iconst C dX12_times_62 ki_1 ?_
              refine x_goto (tgt := 67) C dX12_times_63 (by decide) ?_
              obtain ⟨h13, e14, hf⟩ := j_bind hf
              refine x_put C dX12_times_67 e14 fp_X12_293 rfl rfl ?_
              refine x_lload (v := a1 * a3) C dX12_times_70 rfl ?_
              obtain rfl := j_inj hf
              exact x_lret C hret dX12_times_72
    · have hf := j_ifn hf c42
      refine x_lload_n (v := a1) C dX12_times_24 rfl ?_
      refine x_lneg C dX12_times_25 ?_
      refine x_goto (tgt := 30) C dX12_times_26 (by decide) ?_
      obtain ⟨u15, e16, hf⟩ := j_bind hf
      refine x_ldiv C dX12_times_30 (jnzL_some e16) ?_
      refine x_lstore C dX12_times_31 (by decide) ?_
      refine x_aload_n (v := a0) C dX12_times_33 rfl ?_
      refine x_aload_n (v := a0) C dX12_times_34 rfl ?_
      obtain ⟨v17, e18, hf⟩ := j_bind hf
      refine x_get C dX12_times_35 (jgI_some e18) fg_X12_293 ?_
      refine x_if_ne (tgt := 62) C dX12_times_38 (by decide) (fun c47 => ?_) (fun c47 => ?_)
      · have hf := j_ifn hf c47
        refine x_iconst C dX12_times_62 ki_1 ?_
        refine x_goto (tgt := 67) C dX12_times_63 (by decide) ?_
        obtain ⟨h19, e20, hf⟩ := j_bind hf
        refine x_put C dX12_times_67 e20 fp_X12_293 rfl rfl ?_
        refine x_lload (v := a1 * a3) C dX12_times_70 rfl ?_
        obtain rfl := j_inj hf
        exact x_lret C hret dX12_times_72
      · have hf := j_ifp hf c47
        refine x_lload_n (v := a1) C dX12_times_41 rfl ?_
        refine x_lconst C dX12_times_42 kl_0 ?_
        refine x_lcmp C dX12_times_43 ?_
        refine x_if_eq (tgt := 66) C dX12_times_44 (by decide) (fun c48 => ?_) (fun c48 => ?_)
        · have hf := j_ifp hf c48
          refine x_iconst C dX12_times_66 ki_0 ?_
          obtain ⟨h21, e22, hf⟩ := j_bind hf
          refine x_put C dX12_times_67 e22 fp_X12_293 rfl rfl ?_
          refine x_lload (v := a1 * a3) C dX12_times_70 rfl ?_
          obtain rfl := j_inj hf
          exact x_lret C hret dX12_times_72
        · have hf := j_ifn hf c48
          refine x_lload_n (v := a3) C dX12_times_47 rfl ?_
          refine x_lload (v := (4611686018427387904 : Int64) / (-a1)) C dX12_times_48 rfl ?_
          refine x_lcmp C dX12_times_50 ?_
          refine x_if_gt (tgt := 62) C dX12_times_51 (by decide) (fun c49 => ?_) (fun c49 => ?_)
          · have hf := j_ifp hf c49
            refine x_iconst C dX12_times_62 ki_1 ?_
            refine x_goto (tgt := 67) C dX12_times_63 (by decide) ?_
            obtain ⟨h23, e24, hf⟩ := j_bind hf
            refine x_put C dX12_times_67 e24 fp_X12_293 rfl rfl ?_
            refine x_lload (v := a1 * a3) C dX12_times_70 rfl ?_
            obtain rfl := j_inj hf
            exact x_lret C hret dX12_times_72
          · have hf := j_ifn hf c49
            refine x_lload_n (v := a3) C dX12_times_54 rfl ?_
            refine x_lload (v := (4611686018427387904 : Int64) / (-a1)) C dX12_times_55 rfl ?_
            refine x_lneg C dX12_times_57 ?_
            refine x_lcmp C dX12_times_58 ?_
            refine x_if_ge (tgt := 66) C dX12_times_59 (by decide) (fun c50 => ?_) (fun c50 => ?_)
            · have hf := j_ifp hf c50
              refine x_iconst C dX12_times_66 ki_0 ?_
              obtain ⟨h25, e26, hf⟩ := j_bind hf
              refine x_put C dX12_times_67 e26 fp_X12_293 rfl rfl ?_
              refine x_lload (v := a1 * a3) C dX12_times_70 rfl ?_
              obtain rfl := j_inj hf
              exact x_lret C hret dX12_times_72
            · have hf := j_ifn hf c50
              refine x_iconst C dX12_times_62 ki_1 ?_
              refine x_goto (tgt := 67) C dX12_times_63 (by decide) ?_
              obtain ⟨h27, e28, hf⟩ := j_bind hf
              refine x_put C dX12_times_67 e28 fp_X12_293 rfl rfl ?_
              refine x_lload (v := a1 * a3) C dX12_times_70 rfl ?_
              obtain rfl := j_inj hf
              exact x_lret C hret dX12_times_72
  · have hf := j_ifp hf c41
    refine x_lconst C dX12_times_11 kl_0 ?_
    refine x_goto (tgt := 31) C dX12_times_12 (by decide) ?_
    refine x_lstore C dX12_times_31 (by decide) ?_
    refine x_aload_n (v := a0) C dX12_times_33 rfl ?_
    refine x_aload_n (v := a0) C dX12_times_34 rfl ?_
    obtain ⟨v29, e30, hf⟩ := j_bind hf
    refine x_get C dX12_times_35 (jgI_some e30) fg_X12_293 ?_
    refine x_if_ne (tgt := 62) C dX12_times_38 (by decide) (fun c51 => ?_) (fun c51 => ?_)
    · have hf := j_ifn hf c51
      refine x_iconst C dX12_times_62 ki_1 ?_
      refine x_goto (tgt := 67) C dX12_times_63 (by decide) ?_
      obtain ⟨h31, e32, hf⟩ := j_bind hf
      refine x_put C dX12_times_67 e32 fp_X12_293 rfl rfl ?_
      refine x_lload (v := a1 * a3) C dX12_times_70 rfl ?_
      obtain rfl := j_inj hf
      exact x_lret C hret dX12_times_72
    · have hf := j_ifp hf c51
      refine x_lload_n (v := a1) C dX12_times_41 rfl ?_
      refine x_lconst C dX12_times_42 kl_0 ?_
      refine x_lcmp C dX12_times_43 ?_
      refine x_if_eq (tgt := 66) C dX12_times_44 (by decide) (fun c52 => ?_) (fun c52 => ?_)
      · have hf := j_ifp hf c52
        refine x_iconst C dX12_times_66 ki_0 ?_
        obtain ⟨h33, e34, hf⟩ := j_bind hf
        refine x_put C dX12_times_67 e34 fp_X12_293 rfl rfl ?_
        refine x_lload (v := a1 * a3) C dX12_times_70 rfl ?_
        obtain rfl := j_inj hf
        exact x_lret C hret dX12_times_72
      · have hf := j_ifn hf c52
        refine x_lload_n (v := a3) C dX12_times_47 rfl ?_
        refine x_lload (v := (0 : Int64)) C dX12_times_48 rfl ?_
        refine x_lcmp C dX12_times_50 ?_
        refine x_if_gt (tgt := 62) C dX12_times_51 (by decide) (fun c53 => ?_) (fun c53 => ?_)
        · have hf := j_ifp hf c53
          refine x_iconst C dX12_times_62 ki_1 ?_
          refine x_goto (tgt := 67) C dX12_times_63 (by decide) ?_
          obtain ⟨h35, e36, hf⟩ := j_bind hf
          refine x_put C dX12_times_67 e36 fp_X12_293 rfl rfl ?_
          refine x_lload (v := a1 * a3) C dX12_times_70 rfl ?_
          obtain rfl := j_inj hf
          exact x_lret C hret dX12_times_72
        · have hf := j_ifn hf c53
          refine x_lload_n (v := a3) C dX12_times_54 rfl ?_
          refine x_lload (v := (0 : Int64)) C dX12_times_55 rfl ?_
          refine x_lneg C dX12_times_57 ?_
          refine x_lcmp C dX12_times_58 ?_
          refine x_if_ge (tgt := 66) C dX12_times_59 (by decide) (fun c54 => ?_) (fun c54 => ?_)
          · have hf := j_ifp hf c54
            refine x_iconst C dX12_times_66 ki_0 ?_
            obtain ⟨h37, e38, hf⟩ := j_bind hf
            refine x_put C dX12_times_67 e38 fp_X12_293 rfl rfl ?_
            refine x_lload (v := a1 * a3) C dX12_times_70 rfl ?_
            obtain rfl := j_inj hf
            exact x_lret C hret dX12_times_72
          · have hf := j_ifn hf c54
            refine x_iconst C dX12_times_62 ki_1 ?_
            refine x_goto (tgt := 67) C dX12_times_63 (by decide) ?_
            obtain ⟨h39, e40, hf⟩ := j_bind hf
            refine x_put C dX12_times_67 e40 fp_X12_293 rfl rfl ?_
            refine x_lload (v := a1 * a3) C dX12_times_70 rfl ?_
            obtain rfl := j_inj hf
            exact x_lret C hret dX12_times_72
set_option maxHeartbeats 4000000 in
set_option maxRecDepth 100000 in
theorem m_X12_plus {l : Launch} {E : JE} {d : Nat} (hdd : 0 ≤ d) {a0 : Nat} {a1 : Int64} {a3 : Int64} {h : JH} {q : Int64 × JH} (hf : f_X12_plus a0 a1 a3 h = some q) : Con l E d yX12_plus cX12_plus 7 (some .long) [.ref a0, .long a1, .long a3] h (some (.long q.1)) q.2 := by
  refine j_start rfl (Nat.le_of_ble_eq_true rfl) ?_
  intro p e s m args below meth c C hret hnm
  refine x_loc [(0, .ref a0), (1, .long a1), (3, .long a3)] rfl ?_
  unfold f_X12_plus at hf
  refine x_lload_n (v := a1) C dX12_plus_0 rfl ?_
  refine x_lload_n (v := a3) C dX12_plus_1 rfl ?_
  refine x_ladd C dX12_plus_2 ?_
  refine x_lstore C dX12_plus_3 (by decide) ?_
  refine x_aload_n (v := a0) C dX12_plus_5 rfl ?_
  refine x_aload_n (v := a0) C dX12_plus_6 rfl ?_
  obtain ⟨v1, e2, hf⟩ := j_bind hf
  refine x_get C dX12_plus_7 (jgI_some e2) fg_X12_293 ?_
  refine x_if_ne (tgt := 31) C dX12_plus_10 (by decide) (fun c11 => ?_) (fun c11 => ?_)
  · have hf := j_ifn hf c11
    refine x_iconst C dX12_plus_31 ki_1 ?_
    refine x_goto (tgt := 36) C dX12_plus_32 (by decide) ?_
    obtain ⟨h3, e4, hf⟩ := j_bind hf
    refine x_put C dX12_plus_36 e4 fp_X12_293 rfl rfl ?_
    refine x_lload (v := a1 + a3) C dX12_plus_39 rfl ?_
    obtain rfl := j_inj hf
    exact x_lret C hret dX12_plus_41
  · have hf := j_ifp hf c11
    refine x_lload (v := a1 + a3) C dX12_plus_13 rfl ?_
    refine x_ldc2 C dX12_plus_15 cn_X12_291 ?_
    refine x_lcmp C dX12_plus_18 ?_
    refine x_if_gt (tgt := 31) C dX12_plus_19 (by decide) (fun c12 => ?_) (fun c12 => ?_)
    · have hf := j_ifp hf c12
      refine x_iconst C dX12_plus_31 ki_1 ?_
      refine x_goto (tgt := 36) C dX12_plus_32 (by decide) ?_
      obtain ⟨h5, e6, hf⟩ := j_bind hf
      refine x_put C dX12_plus_36 e6 fp_X12_293 rfl rfl ?_
      refine x_lload (v := a1 + a3) C dX12_plus_39 rfl ?_
      obtain rfl := j_inj hf
      exact x_lret C hret dX12_plus_41
    · have hf := j_ifn hf c12
      refine x_lload (v := a1 + a3) C dX12_plus_22 rfl ?_
      refine x_ldc2 C dX12_plus_24 cn_X12_297 ?_
      refine x_lcmp C dX12_plus_27 ?_
      refine x_if_ge (tgt := 35) C dX12_plus_28 (by decide) (fun c13 => ?_) (fun c13 => ?_)
      · have hf := j_ifp hf c13
        refine x_iconst C dX12_plus_35 ki_0 ?_
        obtain ⟨h7, e8, hf⟩ := j_bind hf
        refine x_put C dX12_plus_36 e8 fp_X12_293 rfl rfl ?_
        refine x_lload (v := a1 + a3) C dX12_plus_39 rfl ?_
        obtain rfl := j_inj hf
        exact x_lret C hret dX12_plus_41
      · have hf := j_ifn hf c13
        refine x_iconst C dX12_plus_31 ki_1 ?_
        refine x_goto (tgt := 36) C dX12_plus_32 (by decide) ?_
        obtain ⟨h9, e10, hf⟩ := j_bind hf
        refine x_put C dX12_plus_36 e10 fp_X12_293 rfl rfl ?_
        refine x_lload (v := a1 + a3) C dX12_plus_39 rfl ?_
        obtain rfl := j_inj hf
        exact x_lret C hret dX12_plus_41
set_option maxHeartbeats 4000000 in
set_option maxRecDepth 100000 in
theorem s_X12_traceOf_L10 {p : Program} {l : Launch} {e : Env} {R : Room} {s : State} {m : MethodId} {args : Array Value} {below : List Frame} {meth : Method} {c : Code} {E : JE} {h0 hF : JH} {rF : Option Value} {d : Nat} (C : j_C p s m args meth c R E cX12_traceOf 14 RX12 h0 hF d) (hret : meth.sig.returnType = (some .long)) (hdd : 3 ≤ d) (a0 : Nat) (a1 : Int32) (a2 : Int32) (a3 : Int64) (z : Int32) (h : JH) (r : Int32 ⊕ Int32) (h1 : JH) (hf : f_X12_traceOf_L10 a0 a1 a2 a3 z h = some (r, h1)) (hk : Sum.elim (fun z => Xw p l e R s m args below meth c E 14 h0 rF hF 10 [(0, .ref a0), (1, .int a1), (2, .int a2), (3, .long a3), (5, .int z)] [] h1) (fun t => Xw p l e R s m args below meth c E 14 h0 rF hF 31 [(0, .ref a0), (1, .int a1), (2, .int a2), (3, .long a3), (5, .int t)] [] h1) r) : Xw p l e R s m args below meth c E 14 h0 rF hF 10 [(0, .ref a0), (1, .int a1), (2, .int a2), (3, .long a3), (5, .int z)] [] h := by
  unfold f_X12_traceOf_L10 at hf
  refine x_iload (v := z) C dX12_traceOf_10 rfl ?_
  refine x_iconst C dX12_traceOf_12 ki_1 ?_
  refine x_iadd C dX12_traceOf_13 ?_
  refine x_iload (v := z) C dX12_traceOf_14 rfl ?_
  refine x_iconst C dX12_traceOf_16 ki_1 ?_
  refine x_iadd C dX12_traceOf_17 ?_
  refine x_imul C dX12_traceOf_18 ?_
  refine x_iconst C dX12_traceOf_19 ki_4 ?_
  refine x_iload_n (v := a2) C dX12_traceOf_20 rfl ?_
  refine x_imul C dX12_traceOf_21 ?_
  refine x_icmp_gt (tgt := 31) C dX12_traceOf_22 (by decide) (fun c3 => ?_) (fun c3 => ?_)
  · have hf := j_ifp hf c3
    obtain ⟨rfl, rfl⟩ := j_inj2 hf
    exact x_locr hk rfl
  · have hf := j_ifn hf c3
    refine x_iinc (v := z) C dX12_traceOf_25 rfl ki_1 (by decide) ?_
    refine x_goto (tgt := 10) C dX12_traceOf_28 (by decide) ?_
    obtain ⟨rfl, rfl⟩ := j_inj2 hf
    exact x_locr hk rfl
set_option maxHeartbeats 4000000 in
set_option maxRecDepth 100000 in
theorem s_X12_traceOf_L61 {p : Program} {l : Launch} {e : Env} {R : Room} {s : State} {m : MethodId} {args : Array Value} {below : List Frame} {meth : Method} {c : Code} {E : JE} {h0 hF : JH} {rF : Option Value} {d : Nat} (C : j_C p s m args meth c R E cX12_traceOf 14 RX12 h0 hF d) (hret : meth.sig.returnType = (some .long)) (hdd : 3 ≤ d) (a0 : Nat) (a1 : Int32) (a2 : Int32) (a3 : Int64) (a5 : Int32) (a6 : Int32) (z : (Int64 × Int64 × Int32)) (h : JH) (r : (Int64 × Int64 × Int32) ⊕ (Int64 × Int64 × Int32)) (h1 : JH) (hf : f_X12_traceOf_L61 a0 a1 a2 a3 a5 a6 z h = some (r, h1)) (hk : Sum.elim (fun z => Xw p l e R s m args below meth c E 14 h0 rF hF 61 [(0, .ref a0), (1, .int a1), (2, .int a2), (3, .long a3), (5, .int a5), (6, .int a6), (7, .long z.1), (9, .long z.2.1), (11, .int z.2.2)] [] h1) (fun t => Xw p l e R s m args below meth c E 14 h0 rF hF 112 [(0, .ref a0), (1, .int a1), (2, .int a2), (3, .long a3), (5, .int a5), (6, .int a6), (7, .long t.1), (9, .long t.2.1), (11, .int t.2.2)] [] h1) r) : Xw p l e R s m args below meth c E 14 h0 rF hF 61 [(0, .ref a0), (1, .int a1), (2, .int a2), (3, .long a3), (5, .int a5), (6, .int a6), (7, .long z.1), (9, .long z.2.1), (11, .int z.2.2)] [] h := by
  unfold f_X12_traceOf_L61 at hf
  refine x_iload (v := z.2.2) C dX12_traceOf_61 rfl ?_
  refine x_iload_n (v := a1) C dX12_traceOf_63 rfl ?_
  refine x_icmp_gt (tgt := 112) C dX12_traceOf_64 (by decide) (fun c22 => ?_) (fun c22 => ?_)
  · have hf := j_ifp hf c22
    obtain ⟨rfl, rfl⟩ := j_inj2 hf
    exact x_locr hk rfl
  · have hf := j_ifn hf c22
    refine x_aload_n (v := a0) C dX12_traceOf_67 rfl ?_
    obtain ⟨v8, e9, hf⟩ := j_bind hf
    refine x_get C dX12_traceOf_68 (jgI_some e9) fg_X12_293 ?_
    refine x_if_ne (tgt := 112) C dX12_traceOf_71 (by decide) (fun c23 => ?_) (fun c23 => ?_)
    · have hf := j_ifn hf c23
      obtain ⟨rfl, rfl⟩ := j_inj2 hf
      exact x_locr hk rfl
    · have hf := j_ifp hf c23
      refine x_aload_n (v := a0) C dX12_traceOf_74 rfl ?_
      refine x_aload_n (v := a0) C dX12_traceOf_75 rfl ?_
      refine x_iload (v := a6) C dX12_traceOf_76 rfl ?_
      refine x_i2l C dX12_traceOf_78 ?_
      refine x_lload (v := z.2.1) C dX12_traceOf_79 rfl ?_
      obtain ⟨u20, e21, hf⟩ := j_bind hf
      obtain ⟨q10, e11, hf⟩ := j_bind hf
      refine x_callV (As := [.long a6.toInt64, .long z.2.1]) (rest := [.ref a0]) C dX12_traceOf_81 (m_X12_times (l := l) (E := E) (d := d - 1) (by omega) e11) km_X12_times lk_X12_299 kv_X12_times (ci := 9) rfl e21 rfl (by omega) (Nat.le_of_ble_eq_true rfl) (j_le_of (q_X12_times e11)) (Or.inr (q_X12_times e11)) ?_
      refine x_aload_n (v := a0) C dX12_traceOf_84 rfl ?_
      refine x_iload_n (v := a2) C dX12_traceOf_85 rfl ?_
      refine x_i2l C dX12_traceOf_86 ?_
      refine x_lload (v := z.1) C dX12_traceOf_87 rfl ?_
      obtain ⟨u18, e19, hf⟩ := j_bind hf
      obtain ⟨q12, e13, hf⟩ := j_bind hf
      refine x_callV (As := [.long a2.toInt64, .long z.1]) (rest := [.long q10.1, .ref a0]) C dX12_traceOf_89 (m_X12_times (l := l) (E := E) (d := d - 1) (by omega) e13) km_X12_times lk_X12_299 kv_X12_times (ci := 9) rfl e19 rfl (by omega) (Nat.le_of_ble_eq_true rfl) (j_le_of (q_X12_times e13)) (Or.inr (q_X12_times e13)) ?_
      refine x_lneg C dX12_traceOf_92 ?_
      obtain ⟨u16, e17, hf⟩ := j_bind hf
      obtain ⟨q14, e15, hf⟩ := j_bind hf
      refine x_callV (As := [.long q10.1, .long (-q12.1)]) (rest := []) C dX12_traceOf_93 (m_X12_plus (l := l) (E := E) (d := d - 1) (by omega) e15) km_X12_plus lk_X12_303 kv_X12_plus (ci := 9) rfl e17 rfl (by omega) (Nat.le_of_ble_eq_true rfl) (j_le_of (q_X12_plus e15)) (Or.inr (q_X12_plus e15)) ?_
      refine x_lstore C dX12_traceOf_96 (by decide) ?_
      refine x_lload (v := z.2.1) C dX12_traceOf_98 rfl ?_
      refine x_lstore C dX12_traceOf_100 (by decide) ?_
      refine x_lload (v := q14.1) C dX12_traceOf_102 rfl ?_
      refine x_lstore C dX12_traceOf_104 (by decide) ?_
      refine x_iinc (v := z.2.2) C dX12_traceOf_106 rfl ki_1 (by decide) ?_
      refine x_goto (tgt := 61) C dX12_traceOf_109 (by decide) ?_
      obtain ⟨rfl, rfl⟩ := j_inj2 hf
      exact x_locr hk rfl
set_option maxHeartbeats 4000000 in
set_option maxRecDepth 100000 in
theorem s_X12_traceOf_L36 {p : Program} {l : Launch} {e : Env} {R : Room} {s : State} {m : MethodId} {args : Array Value} {below : List Frame} {meth : Method} {c : Code} {E : JE} {h0 hF : JH} {rF : Option Value} {d : Nat} (C : j_C p s m args meth c R E cX12_traceOf 14 RX12 h0 hF d) (hret : meth.sig.returnType = (some .long)) (hdd : 3 ≤ d) (a0 : Nat) (a1 : Int32) (a2 : Int32) (a5 : Int32) (z : (Int64 × Int32)) (h : JH) (r : (Int64 × Int32) ⊕ (Int64 × Int32)) (h1 : JH) (hf : f_X12_traceOf_L36 a0 a1 a2 a5 z h = some (r, h1)) (hk : Sum.elim (fun z => Xw p l e R s m args below meth c E 14 h0 rF hF 36 [(0, .ref a0), (1, .int a1), (2, .int a2), (3, .long z.1), (5, .int a5), (6, .int z.2)] [] h1) (fun t => Xw p l e R s m args below meth c E 14 h0 rF hF 154 [(0, .ref a0), (1, .int a1), (2, .int a2), (3, .long t.1), (5, .int a5), (6, .int t.2)] [] h1) r) : Xw p l e R s m args below meth c E 14 h0 rF hF 36 [(0, .ref a0), (1, .int a1), (2, .int a2), (3, .long z.1), (5, .int a5), (6, .int z.2)] [] h := by
  unfold f_X12_traceOf_L36 at hf
  refine x_iload (v := z.2) C dX12_traceOf_36 rfl ?_
  refine x_iload (v := a5) C dX12_traceOf_38 rfl ?_
  refine x_icmp_gt (tgt := 154) C dX12_traceOf_40 (by decide) (fun c22 => ?_) (fun c22 => ?_)
  · have hf := j_ifp hf c22
    obtain ⟨rfl, rfl⟩ := j_inj2 hf
    exact x_locr hk rfl
  · have hf := j_ifn hf c22
    refine x_aload_n (v := a0) C dX12_traceOf_43 rfl ?_
    obtain ⟨v6, e7, hf⟩ := j_bind hf
    refine x_get C dX12_traceOf_44 (jgI_some e7) fg_X12_293 ?_
    refine x_if_ne (tgt := 154) C dX12_traceOf_47 (by decide) (fun c23 => ?_) (fun c23 => ?_)
    · have hf := j_ifn hf c23
      obtain ⟨rfl, rfl⟩ := j_inj2 hf
      exact x_locr hk rfl
    · have hf := j_ifp hf c23
      refine x_lconst C dX12_traceOf_50 kl_1 ?_
      refine x_lstore C dX12_traceOf_51 (by decide) ?_
      refine x_iload (v := z.2) C dX12_traceOf_53 rfl ?_
      refine x_i2l C dX12_traceOf_55 ?_
      refine x_lstore C dX12_traceOf_56 (by decide) ?_
      refine x_iconst C dX12_traceOf_58 ki_4 ?_
      refine x_istore C dX12_traceOf_59 (by decide) ?_
      obtain ⟨q8, e9, hf⟩ := j_bind hf
      refine x_loc [(0, .ref a0), (1, .int a1), (2, .int a2), (3, .long z.1), (5, .int a5), (6, .int z.2), (7, .long (1 : Int64)), (9, .long z.2.toInt64), (11, .int (4 : Int32))] rfl ?_
      refine x_loop (s_X12_traceOf_L61 C hret hdd a0 a1 a2 z.1 a5 z.2) e9 ?_
      refine x_aload_n (v := a0) C dX12_traceOf_112 rfl ?_
      obtain ⟨v10, e11, hf⟩ := j_bind hf
      refine x_get C dX12_traceOf_113 (jgI_some e11) fg_X12_293 ?_
      refine x_if_eq (tgt := 123) C dX12_traceOf_116 (by decide) (fun c24 => ?_) (fun c24 => ?_)
      · have hf := j_ifp hf c24
        refine x_aload_n (v := a0) C dX12_traceOf_123 rfl ?_
        refine x_lload_n (v := z.1) C dX12_traceOf_124 rfl ?_
        refine x_aload_n (v := a0) C dX12_traceOf_125 rfl ?_
        refine x_lload (v := q8.1.2.1) C dX12_traceOf_126 rfl ?_
        refine x_iconst C dX12_traceOf_128 ki_4 ?_
        refine x_iload_n (v := a2) C dX12_traceOf_129 rfl ?_
        refine x_imul C dX12_traceOf_130 ?_
        refine x_iload (v := z.2) C dX12_traceOf_131 rfl ?_
        refine x_iload (v := z.2) C dX12_traceOf_133 rfl ?_
        refine x_imul C dX12_traceOf_135 ?_
        refine x_isub C dX12_traceOf_136 ?_
        obtain ⟨q12, e13, hf⟩ := j_bind hf
        refine x_callS (As := [.int (((4 : Int32) * a2) - (z.2 * z.2))]) (rest := [.long q8.1.2.1, .ref a0, .long z.1, .ref a0]) C dX12_traceOf_137 (m_X12_wholeOf (l := l) (E := E) (d := d - 1) (by omega) e13) km_X12_wholeOf lk_X12_288 ks_X12_wholeOf rfl (by omega) (Nat.le_of_ble_eq_true rfl) (j_le_of (q_X12_wholeOf e13)) (Or.inr (q_X12_wholeOf e13)) ?_
        refine x_i2l C dX12_traceOf_140 ?_
        obtain ⟨u20, e21, hf⟩ := j_bind hf
        obtain ⟨q14, e15, hf⟩ := j_bind hf
        refine x_callV (As := [.long q8.1.2.1, .long q12.1.toInt64]) (rest := [.long z.1, .ref a0]) C dX12_traceOf_141 (m_X12_times (l := l) (E := E) (d := d - 1) (by omega) e15) km_X12_times lk_X12_299 kv_X12_times (ci := 9) rfl e21 rfl (by omega) (Nat.le_of_ble_eq_true rfl) (j_le_of (q_X12_times e15)) (Or.inr (q_X12_times e15)) ?_
        obtain ⟨u18, e19, hf⟩ := j_bind hf
        obtain ⟨q16, e17, hf⟩ := j_bind hf
        refine x_callV (As := [.long z.1, .long q14.1]) (rest := []) C dX12_traceOf_144 (m_X12_plus (l := l) (E := E) (d := d - 1) (by omega) e17) km_X12_plus lk_X12_303 kv_X12_plus (ci := 9) rfl e19 rfl (by omega) (Nat.le_of_ble_eq_true rfl) (j_le_of (q_X12_plus e17)) (Or.inr (q_X12_plus e17)) ?_
        refine x_lstore_n C dX12_traceOf_147 (by decide) ?_
        refine x_iinc (v := z.2) C dX12_traceOf_148 rfl ki_1 (by decide) ?_
        refine x_goto (tgt := 36) C dX12_traceOf_151 (by decide) ?_
        obtain ⟨rfl, rfl⟩ := j_inj2 hf
        exact x_locr hk rfl
      · have hf := j_ifn hf c24
        refine x_lload_n (v := z.1) C dX12_traceOf_119 rfl ?_
        refine x_goto (tgt := 147) C dX12_traceOf_120 (by decide) ?_
        refine x_lstore_n C dX12_traceOf_147 (by decide) ?_
        refine x_iinc (v := z.2) C dX12_traceOf_148 rfl ki_1 (by decide) ?_
        refine x_goto (tgt := 36) C dX12_traceOf_151 (by decide) ?_
        obtain ⟨rfl, rfl⟩ := j_inj2 hf
        exact x_locr hk rfl
set_option maxHeartbeats 4000000 in
set_option maxRecDepth 100000 in
theorem s_X12_traceOf_L203 {p : Program} {l : Launch} {e : Env} {R : Room} {s : State} {m : MethodId} {args : Array Value} {below : List Frame} {meth : Method} {c : Code} {E : JE} {h0 hF : JH} {rF : Option Value} {d : Nat} (C : j_C p s m args meth c R E cX12_traceOf 14 RX12 h0 hF d) (hret : meth.sig.returnType = (some .long)) (hdd : 3 ≤ d) (a0 : Nat) (a1 : Int32) (a2 : Int32) (a3 : Int64) (a6 : Int32) (a7 : Int32) (z : (Int64 × Int32)) (h : JH) (r : (Int64 × Int32) ⊕ (Int64 × Int32)) (h1 : JH) (hf : f_X12_traceOf_L203 a0 a1 a2 a3 a6 a7 z h = some (r, h1)) (hk : Sum.elim (fun z => Xw p l e R s m args below meth c E 14 h0 rF hF 203 [(0, .ref a0), (1, .int a1), (2, .int a2), (3, .long a3), (6, .int a6), (7, .int a7), (8, .long z.1), (10, .int z.2)] [] h1) (fun t => Xw p l e R s m args below meth c E 14 h0 rF hF 233 [(0, .ref a0), (1, .int a1), (2, .int a2), (3, .long a3), (6, .int a6), (7, .int a7), (8, .long t.1), (10, .int t.2)] [] h1) r) : Xw p l e R s m args below meth c E 14 h0 rF hF 203 [(0, .ref a0), (1, .int a1), (2, .int a2), (3, .long a3), (6, .int a6), (7, .int a7), (8, .long z.1), (10, .int z.2)] [] h := by
  unfold f_X12_traceOf_L203 at hf
  refine x_iload (v := z.2) C dX12_traceOf_203 rfl ?_
  refine x_iload_n (v := a1) C dX12_traceOf_205 rfl ?_
  refine x_icmp_ge (tgt := 233) C dX12_traceOf_206 (by decide) (fun c41 => ?_) (fun c41 => ?_)
  · have hf := j_ifp hf c41
    obtain ⟨rfl, rfl⟩ := j_inj2 hf
    exact x_locr hk rfl
  · have hf := j_ifn hf c41
    refine x_aload_n (v := a0) C dX12_traceOf_209 rfl ?_
    obtain ⟨v35, e36, hf⟩ := j_bind hf
    refine x_get C dX12_traceOf_210 (jgI_some e36) fg_X12_293 ?_
    refine x_if_ne (tgt := 233) C dX12_traceOf_213 (by decide) (fun c42 => ?_) (fun c42 => ?_)
    · have hf := j_ifn hf c42
      obtain ⟨rfl, rfl⟩ := j_inj2 hf
      exact x_locr hk rfl
    · have hf := j_ifp hf c42
      refine x_aload_n (v := a0) C dX12_traceOf_216 rfl ?_
      refine x_lload (v := z.1) C dX12_traceOf_217 rfl ?_
      refine x_iload (v := a7) C dX12_traceOf_219 rfl ?_
      refine x_i2l C dX12_traceOf_221 ?_
      obtain ⟨u39, e40, hf⟩ := j_bind hf
      obtain ⟨q37, e38, hf⟩ := j_bind hf
      refine x_callV (As := [.long z.1, .long a7.toInt64]) (rest := []) C dX12_traceOf_222 (m_X12_times (l := l) (E := E) (d := d - 1) (by omega) e38) km_X12_times lk_X12_299 kv_X12_times (ci := 9) rfl e40 rfl (by omega) (Nat.le_of_ble_eq_true rfl) (j_le_of (q_X12_times e38)) (Or.inr (q_X12_times e38)) ?_
      refine x_lstore C dX12_traceOf_225 (by decide) ?_
      refine x_iinc (v := z.2) C dX12_traceOf_227 rfl ki_1 (by decide) ?_
      refine x_goto (tgt := 203) C dX12_traceOf_230 (by decide) ?_
      obtain ⟨rfl, rfl⟩ := j_inj2 hf
      exact x_locr hk rfl
set_option maxHeartbeats 4000000 in
set_option maxRecDepth 100000 in
theorem s_X12_traceOf_L157 {p : Program} {l : Launch} {e : Env} {R : Room} {s : State} {m : MethodId} {args : Array Value} {below : List Frame} {meth : Method} {c : Code} {E : JE} {h0 hF : JH} {rF : Option Value} {d : Nat} (C : j_C p s m args meth c R E cX12_traceOf 14 RX12 h0 hF d) (hret : meth.sig.returnType = (some .long)) (hdd : 3 ≤ d) (a0 : Nat) (a1 : Int32) (a2 : Int32) (z : (Int64 × Int32)) (h : JH) (r : (Int64 × Int32) ⊕ (Int64 × Int32)) (h1 : JH) (hf : f_X12_traceOf_L157 a0 a1 a2 z h = some (r, h1)) (hk : Sum.elim (fun z => Xw p l e R s m args below meth c E 14 h0 rF hF 157 [(0, .ref a0), (1, .int a1), (2, .int a2), (3, .long z.1), (6, .int z.2)] [] h1) (fun t => Xw p l e R s m args below meth c E 14 h0 rF hF 281 [(0, .ref a0), (1, .int a1), (2, .int a2), (3, .long t.1), (6, .int t.2)] [] h1) r) : Xw p l e R s m args below meth c E 14 h0 rF hF 157 [(0, .ref a0), (1, .int a1), (2, .int a2), (3, .long z.1), (6, .int z.2)] [] h := by
  unfold f_X12_traceOf_L157 at hf
  refine x_iload (v := z.2) C dX12_traceOf_157 rfl ?_
  refine x_iload_n (v := a2) C dX12_traceOf_159 rfl ?_
  refine x_icmp_gt (tgt := 281) C dX12_traceOf_160 (by decide) (fun c75 => ?_) (fun c75 => ?_)
  · have hf := j_ifp hf c75
    obtain ⟨rfl, rfl⟩ := j_inj2 hf
    exact x_locr hk rfl
  · have hf := j_ifn hf c75
    refine x_aload_n (v := a0) C dX12_traceOf_163 rfl ?_
    obtain ⟨v27, e28, hf⟩ := j_bind hf
    refine x_get C dX12_traceOf_164 (jgI_some e28) fg_X12_293 ?_
    refine x_if_ne (tgt := 281) C dX12_traceOf_167 (by decide) (fun c76 => ?_) (fun c76 => ?_)
    · have hf := j_ifn hf c76
      obtain ⟨rfl, rfl⟩ := j_inj2 hf
      exact x_locr hk rfl
    · have hf := j_ifp hf c76
      refine x_iload_n (v := a2) C dX12_traceOf_170 rfl ?_
      refine x_iload (v := z.2) C dX12_traceOf_171 rfl ?_
      obtain ⟨u29, e30, hf⟩ := j_bind hf
      refine x_irem C dX12_traceOf_173 (jnz_some e30) ?_
      refine x_if_ne (tgt := 275) C dX12_traceOf_174 (by decide) (fun c77 => ?_) (fun c77 => ?_)
      · have hf := j_ifn hf c77
        refine x_iinc (v := z.2) C dX12_traceOf_275 rfl ki_1 (by decide) ?_
        refine x_goto (tgt := 157) C dX12_traceOf_278 (by decide) ?_
        obtain ⟨rfl, rfl⟩ := j_inj2 hf
        exact x_locr hk rfl
      · have hf := j_ifp hf c77
        refine x_iload (v := z.2) C dX12_traceOf_177 rfl ?_
        refine x_iload_n (v := a2) C dX12_traceOf_179 rfl ?_
        refine x_iload (v := z.2) C dX12_traceOf_180 rfl ?_
        obtain ⟨u31, e32, hf⟩ := j_bind hf
        refine x_idiv C dX12_traceOf_182 (jnz_some e32) ?_
        refine x_icmp_ge (tgt := 191) C dX12_traceOf_183 (by decide) (fun c78 => ?_) (fun c78 => ?_)
        · have hf := j_ifp hf c78
          refine x_iload_n (v := a2) C dX12_traceOf_191 rfl ?_
          refine x_iload (v := z.2) C dX12_traceOf_192 rfl ?_
          obtain ⟨u33, e34, hf⟩ := j_bind hf
          refine x_idiv C dX12_traceOf_194 (jnz_some e34) ?_
          refine x_istore C dX12_traceOf_195 (by decide) ?_
          refine x_lconst C dX12_traceOf_197 kl_1 ?_
          refine x_lstore C dX12_traceOf_198 (by decide) ?_
          refine x_iconst C dX12_traceOf_200 ki_1 ?_
          refine x_istore C dX12_traceOf_201 (by decide) ?_
          obtain ⟨q35, e36, hf⟩ := j_bind hf
          refine x_loc [(0, .ref a0), (1, .int a1), (2, .int a2), (3, .long z.1), (6, .int z.2), (7, .int (a2 / z.2)), (8, .long (1 : Int64)), (10, .int (1 : Int32))] rfl ?_
          refine x_loop (s_X12_traceOf_L203 C hret hdd a0 a1 a2 z.1 z.2 (a2 / z.2)) e36 ?_
          refine x_aload_n (v := a0) C dX12_traceOf_233 rfl ?_
          obtain ⟨v37, e38, hf⟩ := j_bind hf
          refine x_get C dX12_traceOf_234 (jgI_some e38) fg_X12_293 ?_
          refine x_if_eq (tgt := 245) C dX12_traceOf_237 (by decide) (fun c79 => ?_) (fun c79 => ?_)
          · have hf := j_ifp hf c79
            refine x_aload_n (v := a0) C dX12_traceOf_245 rfl ?_
            refine x_lload (v := q35.1.1) C dX12_traceOf_246 rfl ?_
            refine x_ldc2 C dX12_traceOf_248 cn_X12_306 ?_
            obtain ⟨u47, e48, hf⟩ := j_bind hf
            obtain ⟨q39, e40, hf⟩ := j_bind hf
            refine x_callV (As := [.long q35.1.1, .long (12 : Int64)]) (rest := []) C dX12_traceOf_251 (m_X12_times (l := l) (E := E) (d := d - 1) (by omega) e40) km_X12_times lk_X12_299 kv_X12_times (ci := 9) rfl e48 rfl (by omega) (Nat.le_of_ble_eq_true rfl) (j_le_of (q_X12_times e40)) (Or.inr (q_X12_times e40)) ?_
            refine x_lstore C dX12_traceOf_254 (by decide) ?_
            refine x_aload_n (v := a0) C dX12_traceOf_256 rfl ?_
            obtain ⟨v41, e42, hf⟩ := j_bind hf
            refine x_get C dX12_traceOf_257 (jgI_some e42) fg_X12_293 ?_
            refine x_if_eq (tgt := 267) C dX12_traceOf_260 (by decide) (fun c80 => ?_) (fun c80 => ?_)
            · have hf := j_ifp hf c80
              refine x_aload_n (v := a0) C dX12_traceOf_267 rfl ?_
              refine x_lload_n (v := z.1) C dX12_traceOf_268 rfl ?_
              refine x_lload (v := q39.1) C dX12_traceOf_269 rfl ?_
              obtain ⟨u45, e46, hf⟩ := j_bind hf
              obtain ⟨q43, e44, hf⟩ := j_bind hf
              refine x_callV (As := [.long z.1, .long q39.1]) (rest := []) C dX12_traceOf_271 (m_X12_plus (l := l) (E := E) (d := d - 1) (by omega) e44) km_X12_plus lk_X12_303 kv_X12_plus (ci := 9) rfl e46 rfl (by omega) (Nat.le_of_ble_eq_true rfl) (j_le_of (q_X12_plus e44)) (Or.inr (q_X12_plus e44)) ?_
              refine x_lstore_n C dX12_traceOf_274 (by decide) ?_
              refine x_iinc (v := z.2) C dX12_traceOf_275 rfl ki_1 (by decide) ?_
              refine x_goto (tgt := 157) C dX12_traceOf_278 (by decide) ?_
              obtain ⟨rfl, rfl⟩ := j_inj2 hf
              exact x_locr hk rfl
            · have hf := j_ifn hf c80
              refine x_lload_n (v := z.1) C dX12_traceOf_263 rfl ?_
              refine x_goto (tgt := 274) C dX12_traceOf_264 (by decide) ?_
              refine x_lstore_n C dX12_traceOf_274 (by decide) ?_
              refine x_iinc (v := z.2) C dX12_traceOf_275 rfl ki_1 (by decide) ?_
              refine x_goto (tgt := 157) C dX12_traceOf_278 (by decide) ?_
              obtain ⟨rfl, rfl⟩ := j_inj2 hf
              exact x_locr hk rfl
          · have hf := j_ifn hf c79
            refine x_lload (v := q35.1.1) C dX12_traceOf_240 rfl ?_
            refine x_goto (tgt := 254) C dX12_traceOf_242 (by decide) ?_
            refine x_lstore C dX12_traceOf_254 (by decide) ?_
            refine x_aload_n (v := a0) C dX12_traceOf_256 rfl ?_
            obtain ⟨v49, e50, hf⟩ := j_bind hf
            refine x_get C dX12_traceOf_257 (jgI_some e50) fg_X12_293 ?_
            refine x_if_eq (tgt := 267) C dX12_traceOf_260 (by decide) (fun c81 => ?_) (fun c81 => ?_)
            · have hf := j_ifp hf c81
              refine x_aload_n (v := a0) C dX12_traceOf_267 rfl ?_
              refine x_lload_n (v := z.1) C dX12_traceOf_268 rfl ?_
              refine x_lload (v := q35.1.1) C dX12_traceOf_269 rfl ?_
              obtain ⟨u53, e54, hf⟩ := j_bind hf
              obtain ⟨q51, e52, hf⟩ := j_bind hf
              refine x_callV (As := [.long z.1, .long q35.1.1]) (rest := []) C dX12_traceOf_271 (m_X12_plus (l := l) (E := E) (d := d - 1) (by omega) e52) km_X12_plus lk_X12_303 kv_X12_plus (ci := 9) rfl e54 rfl (by omega) (Nat.le_of_ble_eq_true rfl) (j_le_of (q_X12_plus e52)) (Or.inr (q_X12_plus e52)) ?_
              refine x_lstore_n C dX12_traceOf_274 (by decide) ?_
              refine x_iinc (v := z.2) C dX12_traceOf_275 rfl ki_1 (by decide) ?_
              refine x_goto (tgt := 157) C dX12_traceOf_278 (by decide) ?_
              obtain ⟨rfl, rfl⟩ := j_inj2 hf
              exact x_locr hk rfl
            · have hf := j_ifn hf c81
              refine x_lload_n (v := z.1) C dX12_traceOf_263 rfl ?_
              refine x_goto (tgt := 274) C dX12_traceOf_264 (by decide) ?_
              refine x_lstore_n C dX12_traceOf_274 (by decide) ?_
              refine x_iinc (v := z.2) C dX12_traceOf_275 rfl ki_1 (by decide) ?_
              refine x_goto (tgt := 157) C dX12_traceOf_278 (by decide) ?_
              obtain ⟨rfl, rfl⟩ := j_inj2 hf
              exact x_locr hk rfl
        · have hf := j_ifn hf c78
          refine x_iload (v := z.2) C dX12_traceOf_186 rfl ?_
          refine x_goto (tgt := 195) C dX12_traceOf_188 (by decide) ?_
          refine x_istore C dX12_traceOf_195 (by decide) ?_
          refine x_lconst C dX12_traceOf_197 kl_1 ?_
          refine x_lstore C dX12_traceOf_198 (by decide) ?_
          refine x_iconst C dX12_traceOf_200 ki_1 ?_
          refine x_istore C dX12_traceOf_201 (by decide) ?_
          obtain ⟨q55, e56, hf⟩ := j_bind hf
          refine x_loc [(0, .ref a0), (1, .int a1), (2, .int a2), (3, .long z.1), (6, .int z.2), (7, .int z.2), (8, .long (1 : Int64)), (10, .int (1 : Int32))] rfl ?_
          refine x_loop (s_X12_traceOf_L203 C hret hdd a0 a1 a2 z.1 z.2 z.2) e56 ?_
          refine x_aload_n (v := a0) C dX12_traceOf_233 rfl ?_
          obtain ⟨v57, e58, hf⟩ := j_bind hf
          refine x_get C dX12_traceOf_234 (jgI_some e58) fg_X12_293 ?_
          refine x_if_eq (tgt := 245) C dX12_traceOf_237 (by decide) (fun c82 => ?_) (fun c82 => ?_)
          · have hf := j_ifp hf c82
            refine x_aload_n (v := a0) C dX12_traceOf_245 rfl ?_
            refine x_lload (v := q55.1.1) C dX12_traceOf_246 rfl ?_
            refine x_ldc2 C dX12_traceOf_248 cn_X12_306 ?_
            obtain ⟨u67, e68, hf⟩ := j_bind hf
            obtain ⟨q59, e60, hf⟩ := j_bind hf
            refine x_callV (As := [.long q55.1.1, .long (12 : Int64)]) (rest := []) C dX12_traceOf_251 (m_X12_times (l := l) (E := E) (d := d - 1) (by omega) e60) km_X12_times lk_X12_299 kv_X12_times (ci := 9) rfl e68 rfl (by omega) (Nat.le_of_ble_eq_true rfl) (j_le_of (q_X12_times e60)) (Or.inr (q_X12_times e60)) ?_
            refine x_lstore C dX12_traceOf_254 (by decide) ?_
            refine x_aload_n (v := a0) C dX12_traceOf_256 rfl ?_
            obtain ⟨v61, e62, hf⟩ := j_bind hf
            refine x_get C dX12_traceOf_257 (jgI_some e62) fg_X12_293 ?_
            refine x_if_eq (tgt := 267) C dX12_traceOf_260 (by decide) (fun c83 => ?_) (fun c83 => ?_)
            · have hf := j_ifp hf c83
              refine x_aload_n (v := a0) C dX12_traceOf_267 rfl ?_
              refine x_lload_n (v := z.1) C dX12_traceOf_268 rfl ?_
              refine x_lload (v := q59.1) C dX12_traceOf_269 rfl ?_
              obtain ⟨u65, e66, hf⟩ := j_bind hf
              obtain ⟨q63, e64, hf⟩ := j_bind hf
              refine x_callV (As := [.long z.1, .long q59.1]) (rest := []) C dX12_traceOf_271 (m_X12_plus (l := l) (E := E) (d := d - 1) (by omega) e64) km_X12_plus lk_X12_303 kv_X12_plus (ci := 9) rfl e66 rfl (by omega) (Nat.le_of_ble_eq_true rfl) (j_le_of (q_X12_plus e64)) (Or.inr (q_X12_plus e64)) ?_
              refine x_lstore_n C dX12_traceOf_274 (by decide) ?_
              refine x_iinc (v := z.2) C dX12_traceOf_275 rfl ki_1 (by decide) ?_
              refine x_goto (tgt := 157) C dX12_traceOf_278 (by decide) ?_
              obtain ⟨rfl, rfl⟩ := j_inj2 hf
              exact x_locr hk rfl
            · have hf := j_ifn hf c83
              refine x_lload_n (v := z.1) C dX12_traceOf_263 rfl ?_
              refine x_goto (tgt := 274) C dX12_traceOf_264 (by decide) ?_
              refine x_lstore_n C dX12_traceOf_274 (by decide) ?_
              refine x_iinc (v := z.2) C dX12_traceOf_275 rfl ki_1 (by decide) ?_
              refine x_goto (tgt := 157) C dX12_traceOf_278 (by decide) ?_
              obtain ⟨rfl, rfl⟩ := j_inj2 hf
              exact x_locr hk rfl
          · have hf := j_ifn hf c82
            refine x_lload (v := q55.1.1) C dX12_traceOf_240 rfl ?_
            refine x_goto (tgt := 254) C dX12_traceOf_242 (by decide) ?_
            refine x_lstore C dX12_traceOf_254 (by decide) ?_
            refine x_aload_n (v := a0) C dX12_traceOf_256 rfl ?_
            obtain ⟨v69, e70, hf⟩ := j_bind hf
            refine x_get C dX12_traceOf_257 (jgI_some e70) fg_X12_293 ?_
            refine x_if_eq (tgt := 267) C dX12_traceOf_260 (by decide) (fun c84 => ?_) (fun c84 => ?_)
            · have hf := j_ifp hf c84
              refine x_aload_n (v := a0) C dX12_traceOf_267 rfl ?_
              refine x_lload_n (v := z.1) C dX12_traceOf_268 rfl ?_
              refine x_lload (v := q55.1.1) C dX12_traceOf_269 rfl ?_
              obtain ⟨u73, e74, hf⟩ := j_bind hf
              obtain ⟨q71, e72, hf⟩ := j_bind hf
              refine x_callV (As := [.long z.1, .long q55.1.1]) (rest := []) C dX12_traceOf_271 (m_X12_plus (l := l) (E := E) (d := d - 1) (by omega) e72) km_X12_plus lk_X12_303 kv_X12_plus (ci := 9) rfl e74 rfl (by omega) (Nat.le_of_ble_eq_true rfl) (j_le_of (q_X12_plus e72)) (Or.inr (q_X12_plus e72)) ?_
              refine x_lstore_n C dX12_traceOf_274 (by decide) ?_
              refine x_iinc (v := z.2) C dX12_traceOf_275 rfl ki_1 (by decide) ?_
              refine x_goto (tgt := 157) C dX12_traceOf_278 (by decide) ?_
              obtain ⟨rfl, rfl⟩ := j_inj2 hf
              exact x_locr hk rfl
            · have hf := j_ifn hf c84
              refine x_lload_n (v := z.1) C dX12_traceOf_263 rfl ?_
              refine x_goto (tgt := 274) C dX12_traceOf_264 (by decide) ?_
              refine x_lstore_n C dX12_traceOf_274 (by decide) ?_
              refine x_iinc (v := z.2) C dX12_traceOf_275 rfl ki_1 (by decide) ?_
              refine x_goto (tgt := 157) C dX12_traceOf_278 (by decide) ?_
              obtain ⟨rfl, rfl⟩ := j_inj2 hf
              exact x_locr hk rfl
set_option maxHeartbeats 4000000 in
set_option maxRecDepth 100000 in
theorem m_X12_traceOf {l : Launch} {E : JE} {d : Nat} (hdd : 3 ≤ d) {a0 : Nat} {a1 : Int32} {a2 : Int32} {h : JH} {q : Int64 × JH} (hf : f_X12_traceOf a0 a1 a2 h = some q) : Con l E d yX12_traceOf cX12_traceOf 14 (some .long) [.ref a0, .int a1, .int a2] h (some (.long q.1)) q.2 := by
  refine j_start rfl (Nat.le_of_ble_eq_true rfl) ?_
  intro p e s m args below meth c C hret hnm
  refine x_loc [(0, .ref a0), (1, .int a1), (2, .int a2)] rfl ?_
  unfold f_X12_traceOf at hf
  refine x_aload_n (v := a0) C dX12_traceOf_0 rfl ?_
  refine x_iconst C dX12_traceOf_1 ki_0 ?_
  obtain ⟨h1, e2, hf⟩ := j_bind hf
  refine x_put C dX12_traceOf_2 e2 fp_X12_293 rfl rfl ?_
  refine x_lconst C dX12_traceOf_5 kl_0 ?_
  refine x_lstore_n C dX12_traceOf_6 (by decide) ?_
  refine x_iconst C dX12_traceOf_7 ki_0 ?_
  refine x_istore C dX12_traceOf_8 (by decide) ?_
  obtain ⟨q4, e5, hf⟩ := j_bind hf
  refine x_loc [(0, .ref a0), (1, .int a1), (2, .int a2), (3, .long (0 : Int64)), (5, .int (0 : Int32))] rfl ?_
  refine x_loop (s_X12_traceOf_L10 C hret hdd a0 a1 a2 (0 : Int64)) e5 ?_
  refine x_iload (v := q4.1) C dX12_traceOf_31 rfl ?_
  refine x_ineg C dX12_traceOf_33 ?_
  refine x_istore C dX12_traceOf_34 (by decide) ?_
  obtain ⟨q25, e26, hf⟩ := j_bind hf
  refine x_loc [(0, .ref a0), (1, .int a1), (2, .int a2), (3, .long (0 : Int64)), (5, .int q4.1), (6, .int (-q4.1))] rfl ?_
  refine x_loop (s_X12_traceOf_L36 C hret hdd a0 a1 a2 q4.1) e26 ?_
  refine x_iconst C dX12_traceOf_154 ki_1 ?_
  refine x_istore C dX12_traceOf_155 (by decide) ?_
  obtain ⟨q85, e86, hf⟩ := j_bind hf
  refine x_loc [(0, .ref a0), (1, .int a1), (2, .int a2), (3, .long q25.1.1), (6, .int (1 : Int32))] rfl ?_
  refine x_loop (s_X12_traceOf_L157 C hret hdd a0 a1 a2) e86 ?_
  refine x_lload_n (v := q85.1.1) C dX12_traceOf_281 rfl ?_
  refine x_lneg C dX12_traceOf_282 ?_
  refine x_ldc2 C dX12_traceOf_283 cn_X12_308 ?_
  refine x_ldiv C dX12_traceOf_286 (by decide) ?_
  obtain rfl := j_inj hf
  exact x_lret C hret dX12_traceOf_287
set_option maxHeartbeats 4000000 in
set_option maxRecDepth 100000 in
theorem m_X12_isTraced {l : Launch} {E : JE} {d : Nat} (hdd : 1 ≤ d) {a0 : Int32} {a1 : Int32} {h : JH} {q : Int32 × JH} (hf : f_X12_isTraced a0 a1 h = some q) : Con l E d yX12_isTraced cX12_isTraced 2 (some .boolean) [.int a0, .int a1] h (some (.int q.1)) q.2 := by
  refine j_start rfl (Nat.le_of_ble_eq_true rfl) ?_
  intro p e s m args below meth c C hret hnm
  refine x_loc [(0, .int a0), (1, .int a1)] rfl ?_
  unfold f_X12_isTraced at hf
  refine x_iload_n (v := a0) C dX12_isTraced_0 rfl ?_
  refine x_iconst C dX12_isTraced_1 ki_4 ?_
  refine x_bipush C dX12_isTraced_2 kb_60 ?_
  obtain ⟨q1, e2, hf⟩ := j_bind hf
  refine x_callS (As := [.int a0, .int (4 : Int32), .int (60 : Int32)]) (rest := []) C dX12_isTraced_4 (m_X12_within (l := l) (E := E) (d := d - 1) (by omega) e2) km_X12_within lk_X12_45 ks_X12_within rfl (by omega) (Nat.le_of_ble_eq_true rfl) (j_le_of (q_X12_within e2)) (Or.inr (q_X12_within e2)) ?_
  refine x_if_eq (tgt := 30) C dX12_isTraced_7 (by decide) (fun c5 => ?_) (fun c5 => ?_)
  · have hf := j_ifp hf c5
    refine x_iconst C dX12_isTraced_30 ki_0 ?_
    obtain rfl := j_inj hf
    exact x_zret C hret (Or.inl rfl) dX12_isTraced_31
  · have hf := j_ifn hf c5
    refine x_iload_n (v := a0) C dX12_isTraced_10 rfl ?_
    refine x_iconst C dX12_isTraced_11 ki_2 ?_
    refine x_irem C dX12_isTraced_12 (by decide) ?_
    refine x_if_ne (tgt := 30) C dX12_isTraced_13 (by decide) (fun c6 => ?_) (fun c6 => ?_)
    · have hf := j_ifn hf c6
      refine x_iconst C dX12_isTraced_30 ki_0 ?_
      obtain rfl := j_inj hf
      exact x_zret C hret (Or.inl rfl) dX12_isTraced_31
    · have hf := j_ifp hf c6
      refine x_iload_n (v := a1) C dX12_isTraced_16 rfl ?_
      refine x_iconst C dX12_isTraced_17 ki_1 ?_
      refine x_bipush C dX12_isTraced_18 kb_60 ?_
      obtain ⟨q3, e4, hf⟩ := j_bind hf
      refine x_callS (As := [.int a1, .int (1 : Int32), .int (60 : Int32)]) (rest := []) C dX12_isTraced_20 (m_X12_within (l := l) (E := E) (d := d - 1) (by omega) e4) km_X12_within lk_X12_45 ks_X12_within rfl (by omega) (Nat.le_of_ble_eq_true rfl) (j_le_of (q_X12_within e4)) (Or.inr (q_X12_within e4)) ?_
      refine x_if_eq (tgt := 30) C dX12_isTraced_23 (by decide) (fun c7 => ?_) (fun c7 => ?_)
      · have hf := j_ifp hf c7
        refine x_iconst C dX12_isTraced_30 ki_0 ?_
        obtain rfl := j_inj hf
        exact x_zret C hret (Or.inl rfl) dX12_isTraced_31
      · have hf := j_ifn hf c7
        refine x_iconst C dX12_isTraced_26 ki_1 ?_
        refine x_goto (tgt := 31) C dX12_isTraced_27 (by decide) ?_
        obtain rfl := j_inj hf
        exact x_zret C hret (Or.inr rfl) dX12_isTraced_31
