set_option maxHeartbeats 4000000 in
set_option maxRecDepth 100000 in
theorem s_X7_makeAlone_L65 {p : Program} {l : Launch} {e : Env} {R : Room} {s : State} {m : MethodId} {args : Array Value} {below : List Frame} {meth : Method} {c : Code} {E : JE} {h0 hF : JH} {rF : Option Value} {d : Nat} (C : j_C p s m args meth c R E cX7_makeAlone 8 RX7 h0 hF d) (hret : meth.sig.returnType = none) (hdd : 2 ≤ d) (a0 : Nat) (a3 : Nat) (a4 : Int32) (a5 : Int32) (a6 : Int32) (z : Int32) (h : JH) (r : Int32 ⊕ Int32) (h1 : JH) (hf : f_X7_makeAlone_L65 a0 a3 a4 a5 a6 z h = some (r, h1)) (hk : Sum.elim (fun z => Xw p l e R s m args below meth c E 8 h0 rF hF 65 [(0, .ref a0), (3, .ref a3), (4, .int a4), (5, .int a5), (6, .int a6), (7, .int z)] [] h1) (fun t => Xw p l e R s m args below meth c E 8 h0 rF hF 93 [(0, .ref a0), (3, .ref a3), (4, .int a4), (5, .int a5), (6, .int a6), (7, .int t)] [] h1) r) : Xw p l e R s m args below meth c E 8 h0 rF hF 65 [(0, .ref a0), (3, .ref a3), (4, .int a4), (5, .int a5), (6, .int a6), (7, .int z)] [] h := by
  unfold f_X7_makeAlone_L65 at hf
  refine x_iload (v := z) C dX7_makeAlone_65 rfl ?_
  refine x_aload_n (v := a0) C dX7_makeAlone_67 rfl ?_
  obtain ⟨v23, e24, hf⟩ := j_bind hf
  refine x_get C dX7_makeAlone_68 (jgI_some e24) fg_X7_34 ?_
  refine x_icmp_gt (tgt := 93) C dX7_makeAlone_71 (by decide) (fun c29 => ?_) (fun c29 => ?_)
  · have hf := j_ifp hf c29
    obtain ⟨rfl, rfl⟩ := j_inj2 hf
    exact x_locr hk rfl
  · have hf := j_ifn hf c29
    refine x_aload_n (v := a3) C dX7_makeAlone_74 rfl ?_
    refine x_iload (v := z) C dX7_makeAlone_75 rfl ?_
    refine x_dup2 C dX7_makeAlone_77 rfl rfl ?_
    obtain ⟨v25, e26, hf⟩ := j_bind hf
    refine x_iald C dX7_makeAlone_78 e26 ?_
    refine x_iload (v := a6) C dX7_makeAlone_79 rfl ?_
    refine x_iadd C dX7_makeAlone_81 ?_
    obtain ⟨h27, e28, hf⟩ := j_bind hf
    refine x_iast C dX7_makeAlone_82 e28 ?_
    refine x_iload (v := z) C dX7_makeAlone_83 rfl ?_
    refine x_iload (v := a5) C dX7_makeAlone_85 rfl ?_
    refine x_iadd C dX7_makeAlone_87 ?_
    refine x_istore C dX7_makeAlone_88 (by decide) ?_
    refine x_goto (tgt := 65) C dX7_makeAlone_90 (by decide) ?_
    obtain ⟨rfl, rfl⟩ := j_inj2 hf
    exact x_locr hk rfl
set_option maxHeartbeats 4000000 in
set_option maxRecDepth 100000 in
theorem s_X7_makeAlone_L35 {p : Program} {l : Launch} {e : Env} {R : Room} {s : State} {m : MethodId} {args : Array Value} {below : List Frame} {meth : Method} {c : Code} {E : JE} {h0 hF : JH} {rF : Option Value} {d : Nat} (C : j_C p s m args meth c R E cX7_makeAlone 8 RX7 h0 hF d) (hret : meth.sig.returnType = none) (hdd : 2 ≤ d) (a0 : Nat) (a3 : Nat) (a4 : Int32) (z : Int32) (h : JH) (r : Int32 ⊕ Int32) (h1 : JH) (hf : f_X7_makeAlone_L35 a0 a3 a4 z h = some (r, h1)) (hk : Sum.elim (fun z => Xw p l e R s m args below meth c E 8 h0 rF hF 35 [(0, .ref a0), (3, .ref a3), (4, .int a4), (5, .int z)] [] h1) (fun t => Xw p l e R s m args below meth c E 8 h0 rF hF 99 [(0, .ref a0), (3, .ref a3), (4, .int a4), (5, .int t)] [] h1) r) : Xw p l e R s m args below meth c E 8 h0 rF hF 35 [(0, .ref a0), (3, .ref a3), (4, .int a4), (5, .int z)] [] h := by
  unfold f_X7_makeAlone_L35 at hf
  refine x_iload (v := z) C dX7_makeAlone_35 rfl ?_
  refine x_aload_n (v := a0) C dX7_makeAlone_37 rfl ?_
  obtain ⟨v15, e16, hf⟩ := j_bind hf
  refine x_get C dX7_makeAlone_38 (jgI_some e16) fg_X7_34 ?_
  refine x_icmp_gt (tgt := 99) C dX7_makeAlone_41 (by decide) (fun c25 => ?_) (fun c25 => ?_)
  · have hf := j_ifp hf c25
    obtain ⟨rfl, rfl⟩ := j_inj2 hf
    exact x_locr hk rfl
  · have hf := j_ifn hf c25
    refine x_iload (v := z) C dX7_makeAlone_44 rfl ?_
    refine x_aload_n (v := a0) C dX7_makeAlone_46 rfl ?_
    obtain ⟨v17, e18, hf⟩ := j_bind hf
    refine x_get C dX7_makeAlone_47 (jgI_some e18) fg_X7_20 ?_
    refine x_iconst C dX7_makeAlone_50 ki_1 ?_
    refine x_isub C dX7_makeAlone_51 ?_
    refine x_aload_n (v := a0) C dX7_makeAlone_52 rfl ?_
    obtain ⟨v19, e20, hf⟩ := j_bind hf
    refine x_get C dX7_makeAlone_53 (jgI_some e20) fg_X7_31 ?_
    obtain ⟨q21, e22, hf⟩ := j_bind hf
    refine x_callS (As := [.int z, .int (v17 - (1 : Int32)), .int v19]) (rest := []) C dX7_makeAlone_56 (m_X4_power (l := l) (E := E) (d := d - 1) (by omega) e22) km_X4_power lk_X7_57 ks_X4_power rfl (by omega) (Nat.le_of_ble_eq_true rfl) (j_le_of (q_X4_power e22)) (Or.inr (q_X4_power e22)) ?_
    refine x_istore C dX7_makeAlone_59 (by decide) ?_
    refine x_iload (v := z) C dX7_makeAlone_61 rfl ?_
    refine x_istore C dX7_makeAlone_63 (by decide) ?_
    obtain ⟨q23, e24, hf⟩ := j_bind hf
    refine x_loc [(0, .ref a0), (3, .ref a3), (4, .int a4), (5, .int z), (6, .int q21.1), (7, .int z)] rfl ?_
    refine x_loop (s_X7_makeAlone_L65 C hret hdd a0 a3 a4 z q21.1) e24 ?_
    refine x_iinc (v := z) C dX7_makeAlone_93 rfl ki_1 (by decide) ?_
    refine x_goto (tgt := 35) C dX7_makeAlone_96 (by decide) ?_
    obtain ⟨rfl, rfl⟩ := j_inj2 hf
    exact x_locr hk rfl
set_option maxHeartbeats 4000000 in
set_option maxRecDepth 100000 in
theorem s_X7_makeAlone_L102 {p : Program} {l : Launch} {e : Env} {R : Room} {s : State} {m : MethodId} {args : Array Value} {below : List Frame} {meth : Method} {c : Code} {E : JE} {h0 hF : JH} {rF : Option Value} {d : Nat} (C : j_C p s m args meth c R E cX7_makeAlone 8 RX7 h0 hF d) (hret : meth.sig.returnType = none) (hdd : 2 ≤ d) (a0 : Nat) (a3 : Nat) (a4 : Int32) (z : Int32) (h : JH) (r : Int32 ⊕ Int32) (h1 : JH) (hf : f_X7_makeAlone_L102 a0 a3 a4 z h = some (r, h1)) (hk : Sum.elim (fun z => Xw p l e R s m args below meth c E 8 h0 rF hF 102 [(0, .ref a0), (3, .ref a3), (4, .int a4), (5, .int z)] [] h1) (fun t => Xw p l e R s m args below meth c E 8 h0 rF hF 137 [(0, .ref a0), (3, .ref a3), (4, .int a4), (5, .int t)] [] h1) r) : Xw p l e R s m args below meth c E 8 h0 rF hF 102 [(0, .ref a0), (3, .ref a3), (4, .int a4), (5, .int z)] [] h := by
  unfold f_X7_makeAlone_L102 at hf
  refine x_iload (v := z) C dX7_makeAlone_102 rfl ?_
  refine x_aload_n (v := a0) C dX7_makeAlone_104 rfl ?_
  obtain ⟨v28, e29, hf⟩ := j_bind hf
  refine x_get C dX7_makeAlone_105 (jgI_some e29) fg_X7_34 ?_
  refine x_icmp_gt (tgt := 137) C dX7_makeAlone_108 (by decide) (fun c38 => ?_) (fun c38 => ?_)
  · have hf := j_ifp hf c38
    obtain ⟨rfl, rfl⟩ := j_inj2 hf
    exact x_locr hk rfl
  · have hf := j_ifn hf c38
    refine x_aload_n (v := a3) C dX7_makeAlone_111 rfl ?_
    refine x_iload (v := z) C dX7_makeAlone_112 rfl ?_
    refine x_aload_n (v := a3) C dX7_makeAlone_114 rfl ?_
    refine x_iload (v := z) C dX7_makeAlone_115 rfl ?_
    obtain ⟨v30, e31, hf⟩ := j_bind hf
    refine x_iald C dX7_makeAlone_117 e31 ?_
    refine x_i2l C dX7_makeAlone_118 ?_
    refine x_iload (v := a4) C dX7_makeAlone_119 rfl ?_
    refine x_i2l C dX7_makeAlone_121 ?_
    refine x_lmul C dX7_makeAlone_122 ?_
    refine x_aload_n (v := a0) C dX7_makeAlone_123 rfl ?_
    obtain ⟨v32, e33, hf⟩ := j_bind hf
    refine x_get C dX7_makeAlone_124 (jgI_some e33) fg_X7_31 ?_
    obtain ⟨q34, e35, hf⟩ := j_bind hf
    refine x_callS (As := [.long (v30.toInt64 * a4.toInt64), .int v32]) (rest := [.int z, .ref a3]) C dX7_makeAlone_127 (m_X4_of (l := l) (E := E) (d := d - 1) (by omega) e35) km_X4_of lk_X7_51 ks_X4_of rfl (by omega) (Nat.le_of_ble_eq_true rfl) (j_le_of (q_X4_of e35)) (Or.inr (q_X4_of e35)) ?_
    obtain ⟨h36, e37, hf⟩ := j_bind hf
    refine x_iast C dX7_makeAlone_130 e37 ?_
    refine x_iinc (v := z) C dX7_makeAlone_131 rfl ki_1 (by decide) ?_
    refine x_goto (tgt := 102) C dX7_makeAlone_134 (by decide) ?_
    obtain ⟨rfl, rfl⟩ := j_inj2 hf
    exact x_locr hk rfl
set_option maxHeartbeats 4000000 in
set_option maxRecDepth 100000 in
theorem m_X7_makeAlone {l : Launch} {E : JE} {d : Nat} (hdd : 2 ≤ d) {a0 : Nat} {a1 : Int32} {a2 : Int32} {h : JH} {q : Unit × JH} (hf : f_X7_makeAlone a0 a1 a2 h = some q) : Con l E d yX7_makeAlone cX7_makeAlone 8 none [.ref a0, .int a1, .int a2] h (none) q.2 := by
  refine j_start rfl (Nat.le_of_ble_eq_true rfl) ?_
  intro p e s m args below meth c C hret hnm
  refine x_loc [(0, .ref a0), (1, .int a1), (2, .int a2)] rfl ?_
  unfold f_X7_makeAlone at hf
  refine x_aload_n (v := a0) C dX7_makeAlone_0 rfl ?_
  refine x_iload_n (v := a1) C dX7_makeAlone_1 rfl ?_
  refine x_iload_n (v := a2) C dX7_makeAlone_2 rfl ?_
  obtain ⟨u45, e46, hf⟩ := j_bind hf
  obtain ⟨q1, e2, hf⟩ := j_bind hf
  have hle : j_le q1.2 q.2 := by
    obtain ⟨v3, e4, hf⟩ := j_bind hf
    obtain ⟨v5, e6, hf⟩ := j_bind hf
    obtain ⟨q7, e8, hf⟩ := j_bind hf
    refine j_le_trans (j_le_of ((q_J7_fill_53178 e8))) ?_
    obtain ⟨u43, e44, hf⟩ := j_bind hf
    obtain ⟨q9, e10, hf⟩ := j_bind hf
    refine j_le_trans (j_le_of ((q_X7_factorOfSums e10))) ?_
    obtain ⟨v11, e12, hf⟩ := j_bind hf
    obtain ⟨q13, e14, hf⟩ := j_bind hf
    refine j_le_trans (j_le_of ((q_X4_of e14))) ?_
    obtain ⟨q26, e27, hf⟩ := j_bind hf
    refine j_le_trans (j_le_of ((jloop_eq (fun _ _ _ _ q => q_X7_makeAlone_L35 q) e27))) ?_
    obtain ⟨q39, e40, hf⟩ := j_bind hf
    refine j_le_trans (j_le_of ((jloop_eq (fun _ _ _ _ q => q_X7_makeAlone_L102 q) e40))) ?_
    obtain ⟨h41, e42, hf⟩ := j_bind hf
    refine j_le_trans (j_le_of (jsI_n e42)) ?_
    obtain rfl := j_inj hf
    exact j_le_refl _
  refine x_callV (As := [.int a1, .int a2]) (rest := []) C dX7_makeAlone_3 (m_X7_begin (l := l) (E := E) (d := d - 1) (by omega) e2) km_X7_begin lk_X7_37 kv_X7_begin (ci := 5) rfl e46 rfl (by omega) (Nat.le_of_ble_eq_true rfl) (n_X7_begin e2) (Or.inl hle) ?_
  refine x_aload_n (v := a0) C dX7_makeAlone_6 rfl ?_
  obtain ⟨v3, e4, hf⟩ := j_bind hf
  refine x_get C dX7_makeAlone_7 (jgR_some e4) fg_X7_11 ?_
  refine x_iconst C dX7_makeAlone_10 ki_0 ?_
  obtain ⟨v5, e6, hf⟩ := j_bind hf
  refine x_aald C dX7_makeAlone_11 e6 ?_
  refine x_astore_n C dX7_makeAlone_12 (by decide) ?_
  refine x_aload_n (v := v5) C dX7_makeAlone_13 rfl ?_
  refine x_iconst C dX7_makeAlone_14 ki_0 ?_
  obtain ⟨q7, e8, hf⟩ := j_bind hf
  refine x_callS (As := [.ref v5, .int (0 : Int32)]) (rest := []) C dX7_makeAlone_15 (m_J7_fill_53178 (l := l) (E := E) (d := d - 1) (by omega) e8) km_J7_fill_53178 lk_X7_41 ks_J7_fill_53178 rfl (by omega) (Nat.le_of_ble_eq_true rfl) (j_le_of (q_J7_fill_53178 e8)) (Or.inr (q_J7_fill_53178 e8)) ?_
  refine x_aload_n (v := a0) C dX7_makeAlone_18 rfl ?_
  obtain ⟨u43, e44, hf⟩ := j_bind hf
  obtain ⟨q9, e10, hf⟩ := j_bind hf
  refine x_callV (As := []) (rest := []) C dX7_makeAlone_19 (m_X7_factorOfSums (l := l) (E := E) (d := d - 1) (by omega) e10) km_X7_factorOfSums lk_X7_47 kv_X7_factorOfSums (ci := 5) rfl e44 rfl (by omega) (Nat.le_of_ble_eq_true rfl) (j_le_of (q_X7_factorOfSums e10)) (Or.inr (q_X7_factorOfSums e10)) ?_
  refine x_i2l C dX7_makeAlone_22 ?_
  refine x_aload_n (v := a0) C dX7_makeAlone_23 rfl ?_
  obtain ⟨v11, e12, hf⟩ := j_bind hf
  refine x_get C dX7_makeAlone_24 (jgI_some e12) fg_X7_31 ?_
  obtain ⟨q13, e14, hf⟩ := j_bind hf
  refine x_callS (As := [.long q9.1.toInt64, .int v11]) (rest := []) C dX7_makeAlone_27 (m_X4_of (l := l) (E := E) (d := d - 1) (by omega) e14) km_X4_of lk_X7_51 ks_X4_of rfl (by omega) (Nat.le_of_ble_eq_true rfl) (j_le_of (q_X4_of e14)) (Or.inr (q_X4_of e14)) ?_
  refine x_istore C dX7_makeAlone_30 (by decide) ?_
  refine x_iconst C dX7_makeAlone_32 ki_1 ?_
  refine x_istore C dX7_makeAlone_33 (by decide) ?_
  obtain ⟨q26, e27, hf⟩ := j_bind hf
  refine x_loc [(0, .ref a0), (3, .ref v5), (4, .int q13.1), (5, .int (1 : Int32))] rfl ?_
  refine x_loop (s_X7_makeAlone_L35 C hret hdd a0 v5 q13.1) e27 ?_
  refine x_iconst C dX7_makeAlone_99 ki_1 ?_
  refine x_istore C dX7_makeAlone_100 (by decide) ?_
  obtain ⟨q39, e40, hf⟩ := j_bind hf
  refine x_loc [(0, .ref a0), (3, .ref v5), (4, .int q13.1), (5, .int (1 : Int32))] rfl ?_
  refine x_loop (s_X7_makeAlone_L102 C hret hdd a0 v5 q13.1) e40 ?_
  refine x_aload_n (v := v5) C dX7_makeAlone_137 rfl ?_
  refine x_iconst C dX7_makeAlone_138 ki_0 ?_
  refine x_iconst C dX7_makeAlone_139 ki_1 ?_
  obtain ⟨h41, e42, hf⟩ := j_bind hf
  refine x_iast C dX7_makeAlone_140 e42 ?_
  obtain rfl := j_inj hf
  exact x_vret C hret dX7_makeAlone_141
set_option maxHeartbeats 4000000 in
set_option maxRecDepth 100000 in
theorem s_X7_multiply_L18 {p : Program} {l : Launch} {e : Env} {R : Room} {s : State} {m : MethodId} {args : Array Value} {below : List Frame} {meth : Method} {c : Code} {E : JE} {h0 hF : JH} {rF : Option Value} {d : Nat} (C : j_C p s m args meth c R E cX7_multiply 8 RX7 h0 hF d) (hret : meth.sig.returnType = none) (hdd : 1 ≤ d) (a0 : Nat) (a1 : Nat) (a2 : Nat) (a3 : Nat) (a4 : Int32) (z : (Int64 × Int32)) (h : JH) (r : (Int64 × Int32) ⊕ (Int64 × Int32)) (h1 : JH) (hf : f_X7_multiply_L18 a0 a1 a2 a3 a4 z h = some (r, h1)) (hk : Sum.elim (fun z => Xw p l e R s m args below meth c E 8 h0 rF hF 18 [(0, .ref a0), (1, .ref a1), (2, .ref a2), (3, .ref a3), (4, .int a4), (5, .long z.1), (7, .int z.2)] [] h1) (fun t => Xw p l e R s m args below meth c E 8 h0 rF hF 50 [(0, .ref a0), (1, .ref a1), (2, .ref a2), (3, .ref a3), (4, .int a4), (5, .long t.1), (7, .int t.2)] [] h1) r) : Xw p l e R s m args below meth c E 8 h0 rF hF 18 [(0, .ref a0), (1, .ref a1), (2, .ref a2), (3, .ref a3), (4, .int a4), (5, .long z.1), (7, .int z.2)] [] h := by
  unfold f_X7_multiply_L18 at hf
  refine x_iload (v := z.2) C dX7_multiply_18 rfl ?_
  refine x_iload (v := a4) C dX7_multiply_20 rfl ?_
  refine x_icmp_gt (tgt := 50) C dX7_multiply_22 (by decide) (fun c7 => ?_) (fun c7 => ?_)
  · have hf := j_ifp hf c7
    obtain ⟨rfl, rfl⟩ := j_inj2 hf
    exact x_locr hk rfl
  · have hf := j_ifn hf c7
    refine x_lload (v := z.1) C dX7_multiply_25 rfl ?_
    refine x_aload_n (v := a2) C dX7_multiply_27 rfl ?_
    refine x_iload (v := z.2) C dX7_multiply_28 rfl ?_
    obtain ⟨v3, e4, hf⟩ := j_bind hf
    refine x_iald C dX7_multiply_30 e4 ?_
    refine x_i2l C dX7_multiply_31 ?_
    refine x_aload_n (v := a3) C dX7_multiply_32 rfl ?_
    refine x_iload (v := a4) C dX7_multiply_33 rfl ?_
    refine x_iload (v := z.2) C dX7_multiply_35 rfl ?_
    refine x_isub C dX7_multiply_37 ?_
    obtain ⟨v5, e6, hf⟩ := j_bind hf
    refine x_iald C dX7_multiply_38 e6 ?_
    refine x_i2l C dX7_multiply_39 ?_
    refine x_lmul C dX7_multiply_40 ?_
    refine x_ladd C dX7_multiply_41 ?_
    refine x_lstore C dX7_multiply_42 (by decide) ?_
    refine x_iinc (v := z.2) C dX7_multiply_44 rfl ki_1 (by decide) ?_
    refine x_goto (tgt := 18) C dX7_multiply_47 (by decide) ?_
    obtain ⟨rfl, rfl⟩ := j_inj2 hf
    exact x_locr hk rfl
set_option maxHeartbeats 4000000 in
set_option maxRecDepth 100000 in
theorem s_X7_multiply_L3 {p : Program} {l : Launch} {e : Env} {R : Room} {s : State} {m : MethodId} {args : Array Value} {below : List Frame} {meth : Method} {c : Code} {E : JE} {h0 hF : JH} {rF : Option Value} {d : Nat} (C : j_C p s m args meth c R E cX7_multiply 8 RX7 h0 hF d) (hret : meth.sig.returnType = none) (hdd : 1 ≤ d) (a0 : Nat) (a1 : Nat) (a2 : Nat) (a3 : Nat) (z : Int32) (h : JH) (r : Int32 ⊕ Int32) (h1 : JH) (hf : f_X7_multiply_L3 a0 a1 a2 a3 z h = some (r, h1)) (hk : Sum.elim (fun z => Xw p l e R s m args below meth c E 8 h0 rF hF 3 [(0, .ref a0), (1, .ref a1), (2, .ref a2), (3, .ref a3), (4, .int z)] [] h1) (fun t => Xw p l e R s m args below meth c E 8 h0 rF hF 69 [(0, .ref a0), (1, .ref a1), (2, .ref a2), (3, .ref a3), (4, .int t)] [] h1) r) : Xw p l e R s m args below meth c E 8 h0 rF hF 3 [(0, .ref a0), (1, .ref a1), (2, .ref a2), (3, .ref a3), (4, .int z)] [] h := by
  unfold f_X7_multiply_L3 at hf
  refine x_iload (v := z) C dX7_multiply_3 rfl ?_
  refine x_aload_n (v := a0) C dX7_multiply_5 rfl ?_
  obtain ⟨v1, e2, hf⟩ := j_bind hf
  refine x_get C dX7_multiply_6 (jgI_some e2) fg_X7_34 ?_
  refine x_icmp_gt (tgt := 69) C dX7_multiply_9 (by decide) (fun c11 => ?_) (fun c11 => ?_)
  · have hf := j_ifp hf c11
    obtain ⟨rfl, rfl⟩ := j_inj2 hf
    exact x_locr hk rfl
  · have hf := j_ifn hf c11
    refine x_lconst C dX7_multiply_12 kl_0 ?_
    refine x_lstore C dX7_multiply_13 (by decide) ?_
    refine x_iconst C dX7_multiply_15 ki_0 ?_
    refine x_istore C dX7_multiply_16 (by decide) ?_
    obtain ⟨q3, e4, hf⟩ := j_bind hf
    refine x_loc [(0, .ref a0), (1, .ref a1), (2, .ref a2), (3, .ref a3), (4, .int z), (5, .long (0 : Int64)), (7, .int (0 : Int32))] rfl ?_
    refine x_loop (s_X7_multiply_L18 C hret hdd a0 a1 a2 a3 z) e4 ?_
    refine x_aload_n (v := a1) C dX7_multiply_50 rfl ?_
    refine x_iload (v := z) C dX7_multiply_51 rfl ?_
    refine x_lload (v := q3.1.1) C dX7_multiply_53 rfl ?_
    refine x_aload_n (v := a0) C dX7_multiply_55 rfl ?_
    obtain ⟨v5, e6, hf⟩ := j_bind hf
    refine x_get C dX7_multiply_56 (jgI_some e6) fg_X7_31 ?_
    obtain ⟨q7, e8, hf⟩ := j_bind hf
    refine x_callS (As := [.long q3.1.1, .int v5]) (rest := [.int z, .ref a1]) C dX7_multiply_59 (m_X4_of (l := l) (E := E) (d := d - 1) (by omega) e8) km_X4_of lk_X7_51 ks_X4_of rfl (by omega) (Nat.le_of_ble_eq_true rfl) (j_le_of (q_X4_of e8)) (Or.inr (q_X4_of e8)) ?_
    obtain ⟨h9, e10, hf⟩ := j_bind hf
    refine x_iast C dX7_multiply_62 e10 ?_
    refine x_iinc (v := z) C dX7_multiply_63 rfl ki_1 (by decide) ?_
    refine x_goto (tgt := 3) C dX7_multiply_66 (by decide) ?_
    obtain ⟨rfl, rfl⟩ := j_inj2 hf
    exact x_locr hk rfl
set_option maxHeartbeats 4000000 in
set_option maxRecDepth 100000 in
theorem m_X7_multiply {l : Launch} {E : JE} {d : Nat} (hdd : 1 ≤ d) {a0 : Nat} {a1 : Nat} {a2 : Nat} {a3 : Nat} {h : JH} {q : Unit × JH} (hf : f_X7_multiply a0 a1 a2 a3 h = some q) : Con l E d yX7_multiply cX7_multiply 8 none [.ref a0, .ref a1, .ref a2, .ref a3] h (none) q.2 := by
  refine j_start rfl (Nat.le_of_ble_eq_true rfl) ?_
  intro p e s m args below meth c C hret hnm
  refine x_loc [(0, .ref a0), (1, .ref a1), (2, .ref a2), (3, .ref a3)] rfl ?_
  unfold f_X7_multiply at hf
  refine x_iconst C dX7_multiply_0 ki_0 ?_
  refine x_istore C dX7_multiply_1 (by decide) ?_
  obtain ⟨q12, e13, hf⟩ := j_bind hf
  refine x_loc [(0, .ref a0), (1, .ref a1), (2, .ref a2), (3, .ref a3), (4, .int (0 : Int32))] rfl ?_
  refine x_loop (s_X7_multiply_L3 C hret hdd a0 a1 a2 a3) e13 ?_
  obtain rfl := j_inj hf
  exact x_vret C hret dX7_multiply_69
set_option maxHeartbeats 4000000 in
set_option maxRecDepth 100000 in
theorem s_X7_subtract_L3 {p : Program} {l : Launch} {e : Env} {R : Room} {s : State} {m : MethodId} {args : Array Value} {below : List Frame} {meth : Method} {c : Code} {E : JE} {h0 hF : JH} {rF : Option Value} {d : Nat} (C : j_C p s m args meth c R E cX7_subtract 5 RX7 h0 hF d) (hret : meth.sig.returnType = none) (hdd : 1 ≤ d) (a0 : Nat) (a1 : Nat) (a2 : Nat) (a3 : Int32) (z : Int32) (h : JH) (r : Int32 ⊕ Int32) (h1 : JH) (hf : f_X7_subtract_L3 a0 a1 a2 a3 z h = some (r, h1)) (hk : Sum.elim (fun z => Xw p l e R s m args below meth c E 5 h0 rF hF 3 [(0, .ref a0), (1, .ref a1), (2, .ref a2), (3, .int a3), (4, .int z)] [] h1) (fun t => Xw p l e R s m args below meth c E 5 h0 rF hF 43 [(0, .ref a0), (1, .ref a1), (2, .ref a2), (3, .int a3), (4, .int t)] [] h1) r) : Xw p l e R s m args below meth c E 5 h0 rF hF 3 [(0, .ref a0), (1, .ref a1), (2, .ref a2), (3, .int a3), (4, .int z)] [] h := by
  unfold f_X7_subtract_L3 at hf
  refine x_iload (v := z) C dX7_subtract_3 rfl ?_
  refine x_aload_n (v := a0) C dX7_subtract_5 rfl ?_
  obtain ⟨v1, e2, hf⟩ := j_bind hf
  refine x_get C dX7_subtract_6 (jgI_some e2) fg_X7_34 ?_
  refine x_icmp_gt (tgt := 43) C dX7_subtract_9 (by decide) (fun c13 => ?_) (fun c13 => ?_)
  · have hf := j_ifp hf c13
    obtain ⟨rfl, rfl⟩ := j_inj2 hf
    exact x_locr hk rfl
  · have hf := j_ifn hf c13
    refine x_aload_n (v := a1) C dX7_subtract_12 rfl ?_
    refine x_iload (v := z) C dX7_subtract_13 rfl ?_
    refine x_aload_n (v := a1) C dX7_subtract_15 rfl ?_
    refine x_iload (v := z) C dX7_subtract_16 rfl ?_
    obtain ⟨v3, e4, hf⟩ := j_bind hf
    refine x_iald C dX7_subtract_18 e4 ?_
    refine x_i2l C dX7_subtract_19 ?_
    refine x_iload_n (v := a3) C dX7_subtract_20 rfl ?_
    refine x_i2l C dX7_subtract_21 ?_
    refine x_aload_n (v := a2) C dX7_subtract_22 rfl ?_
    refine x_iload (v := z) C dX7_subtract_23 rfl ?_
    obtain ⟨v5, e6, hf⟩ := j_bind hf
    refine x_iald C dX7_subtract_25 e6 ?_
    refine x_i2l C dX7_subtract_26 ?_
    refine x_lmul C dX7_subtract_27 ?_
    refine x_lsub C dX7_subtract_28 ?_
    refine x_aload_n (v := a0) C dX7_subtract_29 rfl ?_
    obtain ⟨v7, e8, hf⟩ := j_bind hf
    refine x_get C dX7_subtract_30 (jgI_some e8) fg_X7_31 ?_
    obtain ⟨q9, e10, hf⟩ := j_bind hf
    refine x_callS (As := [.long (v3.toInt64 - (a3.toInt64 * v5.toInt64)), .int v7]) (rest := [.int z, .ref a1]) C dX7_subtract_33 (m_X4_of (l := l) (E := E) (d := d - 1) (by omega) e10) km_X4_of lk_X7_51 ks_X4_of rfl (by omega) (Nat.le_of_ble_eq_true rfl) (j_le_of (q_X4_of e10)) (Or.inr (q_X4_of e10)) ?_
    obtain ⟨h11, e12, hf⟩ := j_bind hf
    refine x_iast C dX7_subtract_36 e12 ?_
    refine x_iinc (v := z) C dX7_subtract_37 rfl ki_1 (by decide) ?_
    refine x_goto (tgt := 3) C dX7_subtract_40 (by decide) ?_
    obtain ⟨rfl, rfl⟩ := j_inj2 hf
    exact x_locr hk rfl
set_option maxHeartbeats 4000000 in
set_option maxRecDepth 100000 in
theorem m_X7_subtract {l : Launch} {E : JE} {d : Nat} (hdd : 1 ≤ d) {a0 : Nat} {a1 : Nat} {a2 : Nat} {a3 : Int32} {h : JH} {q : Unit × JH} (hf : f_X7_subtract a0 a1 a2 a3 h = some q) : Con l E d yX7_subtract cX7_subtract 5 none [.ref a0, .ref a1, .ref a2, .int a3] h (none) q.2 := by
  refine j_start rfl (Nat.le_of_ble_eq_true rfl) ?_
  intro p e s m args below meth c C hret hnm
  refine x_loc [(0, .ref a0), (1, .ref a1), (2, .ref a2), (3, .int a3)] rfl ?_
  unfold f_X7_subtract at hf
  refine x_iconst C dX7_subtract_0 ki_0 ?_
  refine x_istore C dX7_subtract_1 (by decide) ?_
  obtain ⟨q14, e15, hf⟩ := j_bind hf
  refine x_loc [(0, .ref a0), (1, .ref a1), (2, .ref a2), (3, .int a3), (4, .int (0 : Int32))] rfl ?_
  refine x_loop (s_X7_subtract_L3 C hret hdd a0 a1 a2 a3) e15 ?_
  obtain rfl := j_inj hf
  exact x_vret C hret dX7_subtract_43
set_option maxHeartbeats 4000000 in
set_option maxRecDepth 100000 in
theorem s_X7_reduce_L15 {p : Program} {l : Launch} {e : Env} {R : Room} {s : State} {m : MethodId} {args : Array Value} {below : List Frame} {meth : Method} {c : Code} {E : JE} {h0 hF : JH} {rF : Option Value} {d : Nat} (C : j_C p s m args meth c R E cX7_reduce 3 RX7 h0 hF d) (hret : meth.sig.returnType = none) (hdd : 2 ≤ d) (a0 : Nat) (a1 : Int32) (z : Int32) (h : JH) (r : Int32 ⊕ Int32) (h1 : JH) (hf : f_X7_reduce_L15 a0 a1 z h = some (r, h1)) (hk : Sum.elim (fun z => Xw p l e R s m args below meth c E 3 h0 rF hF 15 [(0, .ref a0), (1, .int a1), (2, .int z)] [] h1) (fun t => Xw p l e R s m args below meth c E 3 h0 rF hF 53 [(0, .ref a0), (1, .int a1), (2, .int t)] [] h1) r) : Xw p l e R s m args below meth c E 3 h0 rF hF 15 [(0, .ref a0), (1, .int a1), (2, .int z)] [] h := by
  unfold f_X7_reduce_L15 at hf
  refine x_iload_n (v := z) C dX7_reduce_15 rfl ?_
  refine x_aload_n (v := a0) C dX7_reduce_16 rfl ?_
  obtain ⟨v3, e4, hf⟩ := j_bind hf
  refine x_get C dX7_reduce_17 (jgI_some e4) fg_X7_28 ?_
  refine x_icmp_ge (tgt := 53) C dX7_reduce_20 (by decide) (fun c23 => ?_) (fun c23 => ?_)
  · have hf := j_ifp hf c23
    obtain ⟨rfl, rfl⟩ := j_inj2 hf
    exact x_locr hk rfl
  · have hf := j_ifn hf c23
    refine x_aload_n (v := a0) C dX7_reduce_23 rfl ?_
    refine x_aload_n (v := a0) C dX7_reduce_24 rfl ?_
    obtain ⟨v5, e6, hf⟩ := j_bind hf
    refine x_get C dX7_reduce_25 (jgR_some e6) fg_X7_11 ?_
    refine x_iload_n (v := a1) C dX7_reduce_28 rfl ?_
    obtain ⟨v7, e8, hf⟩ := j_bind hf
    refine x_aald C dX7_reduce_29 e8 ?_
    refine x_aload_n (v := a0) C dX7_reduce_30 rfl ?_
    obtain ⟨v9, e10, hf⟩ := j_bind hf
    refine x_get C dX7_reduce_31 (jgR_some e10) fg_X7_11 ?_
    refine x_iload_n (v := z) C dX7_reduce_34 rfl ?_
    obtain ⟨v11, e12, hf⟩ := j_bind hf
    refine x_aald C dX7_reduce_35 e12 ?_
    refine x_aload_n (v := a0) C dX7_reduce_36 rfl ?_
    obtain ⟨v13, e14, hf⟩ := j_bind hf
    refine x_get C dX7_reduce_37 (jgR_some e14) fg_X7_11 ?_
    refine x_iload_n (v := a1) C dX7_reduce_40 rfl ?_
    obtain ⟨v15, e16, hf⟩ := j_bind hf
    refine x_aald C dX7_reduce_41 e16 ?_
    refine x_iload_n (v := z) C dX7_reduce_42 rfl ?_
    obtain ⟨v17, e18, hf⟩ := j_bind hf
    refine x_iald C dX7_reduce_43 e18 ?_
    obtain ⟨u21, e22, hf⟩ := j_bind hf
    obtain ⟨q19, e20, hf⟩ := j_bind hf
    refine x_callV (As := [.ref v7, .ref v11, .int v17]) (rest := []) C dX7_reduce_44 (m_X7_subtract (l := l) (E := E) (d := d - 1) (by omega) e20) km_X7_subtract lk_X7_71 kv_X7_subtract (ci := 5) rfl e22 rfl (by omega) (Nat.le_of_ble_eq_true rfl) (j_le_of (q_X7_subtract e20)) (Or.inr (q_X7_subtract e20)) ?_
    refine x_iinc (v := z) C dX7_reduce_47 rfl ki_1 (by decide) ?_
    refine x_goto (tgt := 15) C dX7_reduce_50 (by decide) ?_
    obtain ⟨rfl, rfl⟩ := j_inj2 hf
    exact x_locr hk rfl
set_option maxHeartbeats 4000000 in
set_option maxRecDepth 100000 in
theorem s_X7_reduce_L7 {p : Program} {l : Launch} {e : Env} {R : Room} {s : State} {m : MethodId} {args : Array Value} {below : List Frame} {meth : Method} {c : Code} {E : JE} {h0 hF : JH} {rF : Option Value} {d : Nat} (C : j_C p s m args meth c R E cX7_reduce 3 RX7 h0 hF d) (hret : meth.sig.returnType = none) (hdd : 2 ≤ d) (a0 : Nat) (z : Int32) (h : JH) (r : Int32 ⊕ Int32) (h1 : JH) (hf : f_X7_reduce_L7 a0 z h = some (r, h1)) (hk : Sum.elim (fun z => Xw p l e R s m args below meth c E 3 h0 rF hF 7 [(0, .ref a0), (1, .int z)] [] h1) (fun t => Xw p l e R s m args below meth c E 3 h0 rF hF 59 [(0, .ref a0), (1, .int t)] [] h1) r) : Xw p l e R s m args below meth c E 3 h0 rF hF 7 [(0, .ref a0), (1, .int z)] [] h := by
  unfold f_X7_reduce_L7 at hf
  refine x_iload_n (v := z) C dX7_reduce_7 rfl ?_
  refine x_if_lt (tgt := 59) C dX7_reduce_8 (by decide) (fun c5 => ?_) (fun c5 => ?_)
  · have hf := j_ifp hf c5
    obtain ⟨rfl, rfl⟩ := j_inj2 hf
    exact x_locr hk rfl
  · have hf := j_ifn hf c5
    refine x_iload_n (v := z) C dX7_reduce_11 rfl ?_
    refine x_iconst C dX7_reduce_12 ki_1 ?_
    refine x_iadd C dX7_reduce_13 ?_
    refine x_istore_n C dX7_reduce_14 (by decide) ?_
    obtain ⟨q3, e4, hf⟩ := j_bind hf
    refine x_loc [(0, .ref a0), (1, .int z), (2, .int (z + (1 : Int32)))] rfl ?_
    refine x_loop (s_X7_reduce_L15 C hret hdd a0 z) e4 ?_
    refine x_iinc (v := z) C dX7_reduce_53 rfl ki_m1 (by decide) ?_
    refine x_goto (tgt := 7) C dX7_reduce_56 (by decide) ?_
    obtain ⟨rfl, rfl⟩ := j_inj2 hf
    exact x_locr hk rfl
set_option maxHeartbeats 4000000 in
set_option maxRecDepth 100000 in
theorem m_X7_reduce {l : Launch} {E : JE} {d : Nat} (hdd : 2 ≤ d) {a0 : Nat} {h : JH} {q : Unit × JH} (hf : f_X7_reduce a0 h = some q) : Con l E d yX7_reduce cX7_reduce 3 none [.ref a0] h (none) q.2 := by
  refine j_start rfl (Nat.le_of_ble_eq_true rfl) ?_
  intro p e s m args below meth c C hret hnm
  refine x_loc [(0, .ref a0)] rfl ?_
  unfold f_X7_reduce at hf
  refine x_aload_n (v := a0) C dX7_reduce_0 rfl ?_
  obtain ⟨v1, e2, hf⟩ := j_bind hf
  refine x_get C dX7_reduce_1 (jgI_some e2) fg_X7_28 ?_
  refine x_iconst C dX7_reduce_4 ki_2 ?_
  refine x_isub C dX7_reduce_5 ?_
  refine x_istore_n C dX7_reduce_6 (by decide) ?_
  obtain ⟨q6, e7, hf⟩ := j_bind hf
  refine x_loc [(0, .ref a0), (1, .int (v1 - (2 : Int32)))] rfl ?_
  refine x_loop (s_X7_reduce_L7 C hret hdd a0) e7 ?_
  obtain rfl := j_inj hf
  exact x_vret C hret dX7_reduce_59
set_option maxHeartbeats 4000000 in
set_option maxRecDepth 100000 in
theorem s_X7_makeTwelve_L78 {p : Program} {l : Launch} {e : Env} {R : Room} {s : State} {m : MethodId} {args : Array Value} {below : List Frame} {meth : Method} {c : Code} {E : JE} {h0 hF : JH} {rF : Option Value} {d : Nat} (C : j_C p s m args meth c R E cX7_makeTwelve 9 RX7 h0 hF d) (hret : meth.sig.returnType = none) (hdd : 3 ≤ d) (a0 : Nat) (a5 : Nat) (a6 : Nat) (a7 : Int32) (z : Int32) (h : JH) (r : Int32 ⊕ Int32) (h1 : JH) (hf : f_X7_makeTwelve_L78 a0 a5 a6 a7 z h = some (r, h1)) (hk : Sum.elim (fun z => Xw p l e R s m args below meth c E 9 h0 rF hF 78 [(0, .ref a0), (5, .ref a5), (6, .ref a6), (7, .int a7), (8, .int z)] [] h1) (fun t => Xw p l e R s m args below meth c E 9 h0 rF hF 121 [(0, .ref a0), (5, .ref a5), (6, .ref a6), (7, .int a7), (8, .int t)] [] h1) r) : Xw p l e R s m args below meth c E 9 h0 rF hF 78 [(0, .ref a0), (5, .ref a5), (6, .ref a6), (7, .int a7), (8, .int z)] [] h := by
  unfold f_X7_makeTwelve_L78 at hf
  refine x_iload (v := z) C dX7_makeTwelve_78 rfl ?_
  refine x_aload_n (v := a0) C dX7_makeTwelve_80 rfl ?_
  obtain ⟨v37, e38, hf⟩ := j_bind hf
  refine x_get C dX7_makeTwelve_81 (jgI_some e38) fg_X7_34 ?_
  refine x_icmp_gt (tgt := 121) C dX7_makeTwelve_84 (by decide) (fun c49 => ?_) (fun c49 => ?_)
  · have hf := j_ifp hf c49
    obtain ⟨rfl, rfl⟩ := j_inj2 hf
    exact x_locr hk rfl
  · have hf := j_ifn hf c49
    refine x_aload (v := a6) C dX7_makeTwelve_87 rfl ?_
    refine x_iload (v := z) C dX7_makeTwelve_89 rfl ?_
    refine x_aload (v := a5) C dX7_makeTwelve_91 rfl ?_
    refine x_iload (v := z) C dX7_makeTwelve_93 rfl ?_
    obtain ⟨v39, e40, hf⟩ := j_bind hf
    refine x_iald C dX7_makeTwelve_95 e40 ?_
    refine x_aload (v := a6) C dX7_makeTwelve_96 rfl ?_
    refine x_iload (v := z) C dX7_makeTwelve_98 rfl ?_
    obtain ⟨v41, e42, hf⟩ := j_bind hf
    refine x_iald C dX7_makeTwelve_100 e42 ?_
    refine x_isub C dX7_makeTwelve_101 ?_
    refine x_i2l C dX7_makeTwelve_102 ?_
    refine x_iload (v := a7) C dX7_makeTwelve_103 rfl ?_
    refine x_i2l C dX7_makeTwelve_105 ?_
    refine x_lmul C dX7_makeTwelve_106 ?_
    refine x_aload_n (v := a0) C dX7_makeTwelve_107 rfl ?_
    obtain ⟨v43, e44, hf⟩ := j_bind hf
    refine x_get C dX7_makeTwelve_108 (jgI_some e44) fg_X7_31 ?_
    obtain ⟨q45, e46, hf⟩ := j_bind hf
    refine x_callS (As := [.long (((v39 - v41).toInt64) * a7.toInt64), .int v43]) (rest := [.int z, .ref a6]) C dX7_makeTwelve_111 (m_X4_of (l := l) (E := E) (d := d - 1) (by omega) e46) km_X4_of lk_X7_51 ks_X4_of rfl (by omega) (Nat.le_of_ble_eq_true rfl) (j_le_of (q_X4_of e46)) (Or.inr (q_X4_of e46)) ?_
    obtain ⟨h47, e48, hf⟩ := j_bind hf
    refine x_iast C dX7_makeTwelve_114 e48 ?_
    refine x_iinc (v := z) C dX7_makeTwelve_115 rfl ki_1 (by decide) ?_
    refine x_goto (tgt := 78) C dX7_makeTwelve_118 (by decide) ?_
    obtain ⟨rfl, rfl⟩ := j_inj2 hf
    exact x_locr hk rfl
set_option maxHeartbeats 4000000 in
set_option maxRecDepth 100000 in
theorem m_X7_makeTwelve {l : Launch} {E : JE} {d : Nat} (hdd : 3 ≤ d) {a0 : Nat} {a1 : Nat} {a2 : Nat} {a3 : Nat} {a4 : Int32} {h : JH} {q : Unit × JH} (hf : f_X7_makeTwelve a0 a1 a2 a3 a4 h = some q) : Con l E d yX7_makeTwelve cX7_makeTwelve 9 none [.ref a0, .ref a1, .ref a2, .ref a3, .int a4] h (none) q.2 := by
  refine j_start rfl (Nat.le_of_ble_eq_true rfl) ?_
  intro p e s m args below meth c C hret hnm
  refine x_loc [(0, .ref a0), (1, .ref a1), (2, .ref a2), (3, .ref a3), (4, .int a4)] rfl ?_
  unfold f_X7_makeTwelve at hf
  refine x_aload_n (v := a0) C dX7_makeTwelve_0 rfl ?_
  refine x_aload_n (v := a1) C dX7_makeTwelve_1 rfl ?_
  obtain ⟨v1, e2, hf⟩ := j_bind hf
  refine x_get C dX7_makeTwelve_2 (jgI_some e2) fg_X7_31 ?_
  refine x_iload (v := a4) C dX7_makeTwelve_5 rfl ?_
  obtain ⟨u60, e61, hf⟩ := j_bind hf
  obtain ⟨q3, e4, hf⟩ := j_bind hf
  have hle : j_le q3.2 q.2 := by
    obtain ⟨v5, e6, hf⟩ := j_bind hf
    obtain ⟨v7, e8, hf⟩ := j_bind hf
    obtain ⟨v9, e10, hf⟩ := j_bind hf
    obtain ⟨v11, e12, hf⟩ := j_bind hf
    obtain ⟨v13, e14, hf⟩ := j_bind hf
    obtain ⟨v15, e16, hf⟩ := j_bind hf
    obtain ⟨v17, e18, hf⟩ := j_bind hf
    obtain ⟨v19, e20, hf⟩ := j_bind hf
    obtain ⟨u58, e59, hf⟩ := j_bind hf
    obtain ⟨q21, e22, hf⟩ := j_bind hf
    refine j_le_trans (j_le_of ((q_X7_multiply e22))) ?_
    obtain ⟨v23, e24, hf⟩ := j_bind hf
    obtain ⟨v25, e26, hf⟩ := j_bind hf
    obtain ⟨v27, e28, hf⟩ := j_bind hf
    obtain ⟨v29, e30, hf⟩ := j_bind hf
    obtain ⟨u56, e57, hf⟩ := j_bind hf
    obtain ⟨q31, e32, hf⟩ := j_bind hf
    refine j_le_trans (j_le_of ((q_X7_multiply e32))) ?_
    obtain ⟨v33, e34, hf⟩ := j_bind hf
    obtain ⟨q35, e36, hf⟩ := j_bind hf
    refine j_le_trans (j_le_of ((q_X4_divide e36))) ?_
    obtain ⟨q50, e51, hf⟩ := j_bind hf
    refine j_le_trans (j_le_of ((jloop_eq (fun _ _ _ _ q => q_X7_makeTwelve_L78 q) e51))) ?_
    obtain ⟨u54, e55, hf⟩ := j_bind hf
    obtain ⟨q52, e53, hf⟩ := j_bind hf
    refine j_le_trans (j_le_of ((q_X7_reduce e53))) ?_
    obtain rfl := j_inj hf
    exact j_le_refl _
  refine x_callV (As := [.int v1, .int a4]) (rest := []) C dX7_makeTwelve_7 (m_X7_begin (l := l) (E := E) (d := d - 1) (by omega) e4) km_X7_begin lk_X7_37 kv_X7_begin (ci := 5) rfl e61 rfl (by omega) (Nat.le_of_ble_eq_true rfl) (n_X7_begin e4) (Or.inl hle) ?_
  refine x_aload_n (v := a0) C dX7_makeTwelve_10 rfl ?_
  obtain ⟨v5, e6, hf⟩ := j_bind hf
  refine x_get C dX7_makeTwelve_11 (jgR_some e6) fg_X7_11 ?_
  refine x_iconst C dX7_makeTwelve_14 ki_0 ?_
  obtain ⟨v7, e8, hf⟩ := j_bind hf
  refine x_aald C dX7_makeTwelve_15 e8 ?_
  refine x_astore C dX7_makeTwelve_16 (by decide) ?_
  refine x_aload_n (v := a0) C dX7_makeTwelve_18 rfl ?_
  obtain ⟨v9, e10, hf⟩ := j_bind hf
  refine x_get C dX7_makeTwelve_19 (jgR_some e10) fg_X7_11 ?_
  refine x_iconst C dX7_makeTwelve_22 ki_1 ?_
  obtain ⟨v11, e12, hf⟩ := j_bind hf
  refine x_aald C dX7_makeTwelve_23 e12 ?_
  refine x_astore C dX7_makeTwelve_24 (by decide) ?_
  refine x_aload_n (v := a0) C dX7_makeTwelve_26 rfl ?_
  refine x_aload (v := v7) C dX7_makeTwelve_27 rfl ?_
  refine x_aload_n (v := a1) C dX7_makeTwelve_29 rfl ?_
  obtain ⟨v13, e14, hf⟩ := j_bind hf
  refine x_get C dX7_makeTwelve_30 (jgR_some e14) fg_X7_11 ?_
  refine x_iconst C dX7_makeTwelve_33 ki_0 ?_
  obtain ⟨v15, e16, hf⟩ := j_bind hf
  refine x_aald C dX7_makeTwelve_34 e16 ?_
  refine x_aload_n (v := a3) C dX7_makeTwelve_35 rfl ?_
  obtain ⟨v17, e18, hf⟩ := j_bind hf
  refine x_get C dX7_makeTwelve_36 (jgR_some e18) fg_X7_11 ?_
  refine x_iconst C dX7_makeTwelve_39 ki_0 ?_
  obtain ⟨v19, e20, hf⟩ := j_bind hf
  refine x_aald C dX7_makeTwelve_40 e20 ?_
  obtain ⟨u58, e59, hf⟩ := j_bind hf
  obtain ⟨q21, e22, hf⟩ := j_bind hf
  refine x_callV (As := [.ref v7, .ref v15, .ref v19]) (rest := []) C dX7_makeTwelve_41 (m_X7_multiply (l := l) (E := E) (d := d - 1) (by omega) e22) km_X7_multiply lk_X7_61 kv_X7_multiply (ci := 5) rfl e59 rfl (by omega) (Nat.le_of_ble_eq_true rfl) (j_le_of (q_X7_multiply e22)) (Or.inr (q_X7_multiply e22)) ?_
  refine x_aload_n (v := a0) C dX7_makeTwelve_44 rfl ?_
  refine x_aload (v := v11) C dX7_makeTwelve_45 rfl ?_
  refine x_aload_n (v := a2) C dX7_makeTwelve_47 rfl ?_
  obtain ⟨v23, e24, hf⟩ := j_bind hf
  refine x_get C dX7_makeTwelve_48 (jgR_some e24) fg_X7_11 ?_
  refine x_iconst C dX7_makeTwelve_51 ki_0 ?_
  obtain ⟨v25, e26, hf⟩ := j_bind hf
  refine x_aald C dX7_makeTwelve_52 e26 ?_
  refine x_aload_n (v := a2) C dX7_makeTwelve_53 rfl ?_
  obtain ⟨v27, e28, hf⟩ := j_bind hf
  refine x_get C dX7_makeTwelve_54 (jgR_some e28) fg_X7_11 ?_
  refine x_iconst C dX7_makeTwelve_57 ki_0 ?_
  obtain ⟨v29, e30, hf⟩ := j_bind hf
  refine x_aald C dX7_makeTwelve_58 e30 ?_
  obtain ⟨u56, e57, hf⟩ := j_bind hf
  obtain ⟨q31, e32, hf⟩ := j_bind hf
  refine x_callV (As := [.ref v11, .ref v25, .ref v29]) (rest := []) C dX7_makeTwelve_59 (m_X7_multiply (l := l) (E := E) (d := d - 1) (by omega) e32) km_X7_multiply lk_X7_61 kv_X7_multiply (ci := 5) rfl e57 rfl (by omega) (Nat.le_of_ble_eq_true rfl) (j_le_of (q_X7_multiply e32)) (Or.inr (q_X7_multiply e32)) ?_
  refine x_iconst C dX7_makeTwelve_62 ki_1 ?_
  refine x_sipush C dX7_makeTwelve_63 ks_1728 ?_
  refine x_aload_n (v := a0) C dX7_makeTwelve_66 rfl ?_
  obtain ⟨v33, e34, hf⟩ := j_bind hf
  refine x_get C dX7_makeTwelve_67 (jgI_some e34) fg_X7_31 ?_
  obtain ⟨q35, e36, hf⟩ := j_bind hf
  refine x_callS (As := [.int (1 : Int32), .int (1728 : Int32), .int v33]) (rest := []) C dX7_makeTwelve_70 (m_X4_divide (l := l) (E := E) (d := d - 1) (by omega) e36) km_X4_divide lk_X7_65 ks_X4_divide rfl (by omega) (Nat.le_of_ble_eq_true rfl) (j_le_of (q_X4_divide e36)) (Or.inr (q_X4_divide e36)) ?_
  refine x_istore C dX7_makeTwelve_73 (by decide) ?_
  refine x_iconst C dX7_makeTwelve_75 ki_0 ?_
  refine x_istore C dX7_makeTwelve_76 (by decide) ?_
  obtain ⟨q50, e51, hf⟩ := j_bind hf
  refine x_loc [(0, .ref a0), (5, .ref v7), (6, .ref v11), (7, .int q35.1), (8, .int (0 : Int32))] rfl ?_
  refine x_loop (s_X7_makeTwelve_L78 C hret hdd a0 v7 v11 q35.1) e51 ?_
  refine x_aload_n (v := a0) C dX7_makeTwelve_121 rfl ?_
  obtain ⟨u54, e55, hf⟩ := j_bind hf
  obtain ⟨q52, e53, hf⟩ := j_bind hf
  refine x_callV (As := []) (rest := []) C dX7_makeTwelve_122 (m_X7_reduce (l := l) (E := E) (d := d - 1) (by omega) e53) km_X7_reduce lk_X7_68 kv_X7_reduce (ci := 5) rfl e55 rfl (by omega) (Nat.le_of_ble_eq_true rfl) (j_le_of (q_X7_reduce e53)) (Or.inr (q_X7_reduce e53)) ?_
  obtain rfl := j_inj hf
  exact x_vret C hret dX7_makeTwelve_125
set_option maxHeartbeats 4000000 in
set_option maxRecDepth 100000 in
theorem s_X7_makeFrom_L34 {p : Program} {l : Launch} {e : Env} {R : Room} {s : State} {m : MethodId} {args : Array Value} {below : List Frame} {meth : Method} {c : Code} {E : JE} {h0 hF : JH} {rF : Option Value} {d : Nat} (C : j_C p s m args meth c R E cX7_makeFrom 5 RX7 h0 hF d) (hret : meth.sig.returnType = none) (hdd : 3 ≤ d) (a0 : Nat) (a1 : Nat) (a2 : Nat) (z : Int32) (h : JH) (r : Int32 ⊕ Int32) (h1 : JH) (hf : f_X7_makeFrom_L34 a0 a1 a2 z h = some (r, h1)) (hk : Sum.elim (fun z => Xw p l e R s m args below meth c E 5 h0 rF hF 34 [(0, .ref a0), (1, .ref a1), (2, .ref a2), (4, .int z)] [] h1) (fun t => Xw p l e R s m args below meth c E 5 h0 rF hF 75 [(0, .ref a0), (1, .ref a1), (2, .ref a2), (4, .int t)] [] h1) r) : Xw p l e R s m args below meth c E 5 h0 rF hF 34 [(0, .ref a0), (1, .ref a1), (2, .ref a2), (4, .int z)] [] h := by
  unfold f_X7_makeFrom_L34 at hf
  refine x_iload (v := z) C dX7_makeFrom_34 rfl ?_
  refine x_aload_n (v := a0) C dX7_makeFrom_36 rfl ?_
  obtain ⟨v19, e20, hf⟩ := j_bind hf
  refine x_get C dX7_makeFrom_37 (jgI_some e20) fg_X7_28 ?_
  refine x_icmp_ge (tgt := 75) C dX7_makeFrom_40 (by decide) (fun c37 => ?_) (fun c37 => ?_)
  · have hf := j_ifp hf c37
    obtain ⟨rfl, rfl⟩ := j_inj2 hf
    exact x_locr hk rfl
  · have hf := j_ifn hf c37
    refine x_aload_n (v := a0) C dX7_makeFrom_43 rfl ?_
    refine x_aload_n (v := a0) C dX7_makeFrom_44 rfl ?_
    obtain ⟨v21, e22, hf⟩ := j_bind hf
    refine x_get C dX7_makeFrom_45 (jgR_some e22) fg_X7_11 ?_
    refine x_iload (v := z) C dX7_makeFrom_48 rfl ?_
    obtain ⟨v23, e24, hf⟩ := j_bind hf
    refine x_aald C dX7_makeFrom_50 e24 ?_
    refine x_aload_n (v := a1) C dX7_makeFrom_51 rfl ?_
    obtain ⟨v25, e26, hf⟩ := j_bind hf
    refine x_get C dX7_makeFrom_52 (jgR_some e26) fg_X7_11 ?_
    refine x_iload (v := z) C dX7_makeFrom_55 rfl ?_
    refine x_iconst C dX7_makeFrom_57 ki_1 ?_
    refine x_isub C dX7_makeFrom_58 ?_
    obtain ⟨v27, e28, hf⟩ := j_bind hf
    refine x_aald C dX7_makeFrom_59 e28 ?_
    refine x_aload_n (v := a2) C dX7_makeFrom_60 rfl ?_
    obtain ⟨v29, e30, hf⟩ := j_bind hf
    refine x_get C dX7_makeFrom_61 (jgR_some e30) fg_X7_11 ?_
    refine x_iconst C dX7_makeFrom_64 ki_1 ?_
    obtain ⟨v31, e32, hf⟩ := j_bind hf
    refine x_aald C dX7_makeFrom_65 e32 ?_
    obtain ⟨u35, e36, hf⟩ := j_bind hf
    obtain ⟨q33, e34, hf⟩ := j_bind hf
    refine x_callV (As := [.ref v23, .ref v27, .ref v31]) (rest := []) C dX7_makeFrom_66 (m_X7_multiply (l := l) (E := E) (d := d - 1) (by omega) e34) km_X7_multiply lk_X7_61 kv_X7_multiply (ci := 5) rfl e36 rfl (by omega) (Nat.le_of_ble_eq_true rfl) (j_le_of (q_X7_multiply e34)) (Or.inr (q_X7_multiply e34)) ?_
    refine x_iinc (v := z) C dX7_makeFrom_69 rfl ki_1 (by decide) ?_
    refine x_goto (tgt := 34) C dX7_makeFrom_72 (by decide) ?_
    obtain ⟨rfl, rfl⟩ := j_inj2 hf
    exact x_locr hk rfl
set_option maxHeartbeats 4000000 in
set_option maxRecDepth 100000 in
theorem m_X7_makeFrom {l : Launch} {E : JE} {d : Nat} (hdd : 3 ≤ d) {a0 : Nat} {a1 : Nat} {a2 : Nat} {a3 : Int32} {h : JH} {q : Unit × JH} (hf : f_X7_makeFrom a0 a1 a2 a3 h = some q) : Con l E d yX7_makeFrom cX7_makeFrom 5 none [.ref a0, .ref a1, .ref a2, .int a3] h (none) q.2 := by
  refine j_start rfl (Nat.le_of_ble_eq_true rfl) ?_
  intro p e s m args below meth c C hret hnm
  refine x_loc [(0, .ref a0), (1, .ref a1), (2, .ref a2), (3, .int a3)] rfl ?_
  unfold f_X7_makeFrom at hf
  refine x_aload_n (v := a0) C dX7_makeFrom_0 rfl ?_
  refine x_aload_n (v := a2) C dX7_makeFrom_1 rfl ?_
  obtain ⟨v1, e2, hf⟩ := j_bind hf
  refine x_get C dX7_makeFrom_2 (jgI_some e2) fg_X7_31 ?_
  refine x_iload_n (v := a3) C dX7_makeFrom_5 rfl ?_
  obtain ⟨u46, e47, hf⟩ := j_bind hf
  obtain ⟨q3, e4, hf⟩ := j_bind hf
  have hle : j_le q3.2 q.2 := by
    obtain ⟨v5, e6, hf⟩ := j_bind hf
    obtain ⟨v7, e8, hf⟩ := j_bind hf
    obtain ⟨v9, e10, hf⟩ := j_bind hf
    obtain ⟨v11, e12, hf⟩ := j_bind hf
    obtain ⟨v13, e14, hf⟩ := j_bind hf
    obtain ⟨v15, e16, hf⟩ := j_bind hf
    obtain ⟨u44, e45, hf⟩ := j_bind hf
    obtain ⟨q17, e18, hf⟩ := j_bind hf
    refine j_le_trans (j_le_of ((q_X7_multiply e18))) ?_
    obtain ⟨q38, e39, hf⟩ := j_bind hf
    refine j_le_trans (j_le_of ((jloop_eq (fun _ _ _ _ q => q_X7_makeFrom_L34 q) e39))) ?_
    obtain ⟨u42, e43, hf⟩ := j_bind hf
    obtain ⟨q40, e41, hf⟩ := j_bind hf
    refine j_le_trans (j_le_of ((q_X7_reduce e41))) ?_
    obtain rfl := j_inj hf
    exact j_le_refl _
  refine x_callV (As := [.int v1, .int a3]) (rest := []) C dX7_makeFrom_6 (m_X7_begin (l := l) (E := E) (d := d - 1) (by omega) e4) km_X7_begin lk_X7_37 kv_X7_begin (ci := 5) rfl e47 rfl (by omega) (Nat.le_of_ble_eq_true rfl) (n_X7_begin e4) (Or.inl hle) ?_
  refine x_aload_n (v := a0) C dX7_makeFrom_9 rfl ?_
  refine x_aload_n (v := a0) C dX7_makeFrom_10 rfl ?_
  obtain ⟨v5, e6, hf⟩ := j_bind hf
  refine x_get C dX7_makeFrom_11 (jgR_some e6) fg_X7_11 ?_
  refine x_iconst C dX7_makeFrom_14 ki_0 ?_
  obtain ⟨v7, e8, hf⟩ := j_bind hf
  refine x_aald C dX7_makeFrom_15 e8 ?_
  refine x_aload_n (v := a1) C dX7_makeFrom_16 rfl ?_
  obtain ⟨v9, e10, hf⟩ := j_bind hf
  refine x_get C dX7_makeFrom_17 (jgR_some e10) fg_X7_11 ?_
  refine x_iconst C dX7_makeFrom_20 ki_0 ?_
  obtain ⟨v11, e12, hf⟩ := j_bind hf
  refine x_aald C dX7_makeFrom_21 e12 ?_
  refine x_aload_n (v := a2) C dX7_makeFrom_22 rfl ?_
  obtain ⟨v13, e14, hf⟩ := j_bind hf
  refine x_get C dX7_makeFrom_23 (jgR_some e14) fg_X7_11 ?_
  refine x_iconst C dX7_makeFrom_26 ki_0 ?_
  obtain ⟨v15, e16, hf⟩ := j_bind hf
  refine x_aald C dX7_makeFrom_27 e16 ?_
  obtain ⟨u44, e45, hf⟩ := j_bind hf
  obtain ⟨q17, e18, hf⟩ := j_bind hf
  refine x_callV (As := [.ref v7, .ref v11, .ref v15]) (rest := []) C dX7_makeFrom_28 (m_X7_multiply (l := l) (E := E) (d := d - 1) (by omega) e18) km_X7_multiply lk_X7_61 kv_X7_multiply (ci := 5) rfl e45 rfl (by omega) (Nat.le_of_ble_eq_true rfl) (j_le_of (q_X7_multiply e18)) (Or.inr (q_X7_multiply e18)) ?_
  refine x_iconst C dX7_makeFrom_31 ki_1 ?_
  refine x_istore C dX7_makeFrom_32 (by decide) ?_
  obtain ⟨q38, e39, hf⟩ := j_bind hf
  refine x_loc [(0, .ref a0), (1, .ref a1), (2, .ref a2), (4, .int (1 : Int32))] rfl ?_
  refine x_loop (s_X7_makeFrom_L34 C hret hdd a0 a1 a2) e39 ?_
  refine x_aload_n (v := a0) C dX7_makeFrom_75 rfl ?_
  obtain ⟨u42, e43, hf⟩ := j_bind hf
  obtain ⟨q40, e41, hf⟩ := j_bind hf
  refine x_callV (As := []) (rest := []) C dX7_makeFrom_76 (m_X7_reduce (l := l) (E := E) (d := d - 1) (by omega) e41) km_X7_reduce lk_X7_68 kv_X7_reduce (ci := 5) rfl e43 rfl (by omega) (Nat.le_of_ble_eq_true rfl) (j_le_of (q_X7_reduce e41)) (Or.inr (q_X7_reduce e41)) ?_
  obtain rfl := j_inj hf
  exact x_vret C hret dX7_makeFrom_79
set_option maxHeartbeats 4000000 in
set_option maxRecDepth 100000 in
theorem s_X7_complete_L13 {p : Program} {l : Launch} {e : Env} {R : Room} {s : State} {m : MethodId} {args : Array Value} {below : List Frame} {meth : Method} {c : Code} {E : JE} {h0 hF : JH} {rF : Option Value} {d : Nat} (C : j_C p s m args meth c R E cX7_complete 3 RX7 h0 hF d) (hret : meth.sig.returnType = none) (hdd : 2 ≤ d) (a0 : Nat) (a1 : Nat) (z : Int32) (h : JH) (r : Int32 ⊕ Int32) (h1 : JH) (hf : f_X7_complete_L13 a0 a1 z h = some (r, h1)) (hk : Sum.elim (fun z => Xw p l e R s m args below meth c E 3 h0 rF hF 13 [(0, .ref a0), (1, .ref a1), (2, .int z)] [] h1) (fun t => Xw p l e R s m args below meth c E 3 h0 rF hF 40 [(0, .ref a0), (1, .ref a1), (2, .int t)] [] h1) r) : Xw p l e R s m args below meth c E 3 h0 rF hF 13 [(0, .ref a0), (1, .ref a1), (2, .int z)] [] h := by
  unfold f_X7_complete_L13 at hf
  refine x_iload_n (v := z) C dX7_complete_13 rfl ?_
  refine x_bipush C dX7_complete_14 kb_6 ?_
  refine x_icmp_ge (tgt := 40) C dX7_complete_16 (by decide) (fun c17 => ?_) (fun c17 => ?_)
  · have hf := j_ifp hf c17
    obtain ⟨rfl, rfl⟩ := j_inj2 hf
    exact x_locr hk rfl
  · have hf := j_ifn hf c17
    refine x_aload_n (v := a1) C dX7_complete_19 rfl ?_
    obtain ⟨v7, e8, hf⟩ := j_bind hf
    refine x_get C dX7_complete_20 (jgR_some e8) fg_X7_78 ?_
    refine x_iload_n (v := z) C dX7_complete_23 rfl ?_
    refine x_aload_n (v := a0) C dX7_complete_24 rfl ?_
    refine x_aload_n (v := a1) C dX7_complete_25 rfl ?_
    obtain ⟨v9, e10, hf⟩ := j_bind hf
    refine x_get C dX7_complete_26 (jgR_some e10) fg_X7_78 ?_
    refine x_iload_n (v := z) C dX7_complete_29 rfl ?_
    obtain ⟨u15, e16, hf⟩ := j_bind hf
    obtain ⟨q11, e12, hf⟩ := j_bind hf
    refine x_callV (As := [.ref v9, .int z]) (rest := [.int z, .ref v7]) C dX7_complete_30 (m_X7_expand (l := l) (E := E) (d := d - 1) (by omega) e12) km_X7_expand lk_X7_81 kv_X7_expand (ci := 5) rfl e16 rfl (by omega) (Nat.le_of_ble_eq_true rfl) (j_le_of (q_X7_expand e12)) (Or.inr (q_X7_expand e12)) ?_
    obtain ⟨h13, e14, hf⟩ := j_bind hf
    refine x_iast C dX7_complete_33 e14 ?_
    refine x_iinc (v := z) C dX7_complete_34 rfl ki_1 (by decide) ?_
    refine x_goto (tgt := 13) C dX7_complete_37 (by decide) ?_
    obtain ⟨rfl, rfl⟩ := j_inj2 hf
    exact x_locr hk rfl
set_option maxHeartbeats 4000000 in
set_option maxRecDepth 100000 in
theorem m_X7_complete {l : Launch} {E : JE} {d : Nat} (hdd : 2 ≤ d) {a0 : Nat} {a1 : Nat} {h : JH} {q : Unit × JH} (hf : f_X7_complete a0 a1 h = some q) : Con l E d yX7_complete cX7_complete 3 none [.ref a0, .ref a1] h (none) q.2 := by
  refine j_start rfl (Nat.le_of_ble_eq_true rfl) ?_
  intro p e s m args below meth c C hret hnm
  refine x_loc [(0, .ref a0), (1, .ref a1)] rfl ?_
  unfold f_X7_complete at hf
  refine x_aload_n (v := a1) C dX7_complete_0 rfl ?_
  refine x_aload_n (v := a0) C dX7_complete_1 rfl ?_
  obtain ⟨v1, e2, hf⟩ := j_bind hf
  refine x_get C dX7_complete_2 (jgI_some e2) fg_X7_20 ?_
  obtain ⟨h3, e4, hf⟩ := j_bind hf
  refine x_put C dX7_complete_5 e4 fp_X7_75 rfl rfl ?_
  refine x_aload_n (v := a0) C dX7_complete_8 rfl ?_
  obtain ⟨v5, e6, hf⟩ := j_bind hf
  refine x_get C dX7_complete_9 (jgI_some e6) fg_X7_28 ?_
  refine x_istore_n C dX7_complete_12 (by decide) ?_
  obtain ⟨q18, e19, hf⟩ := j_bind hf
  refine x_loc [(0, .ref a0), (1, .ref a1), (2, .int v5)] rfl ?_
  refine x_loop (s_X7_complete_L13 C hret hdd a0 a1) e19 ?_
  obtain rfl := j_inj hf
  exact x_vret C hret dX7_complete_40
set_option maxHeartbeats 4000000 in
set_option maxRecDepth 100000 in
theorem s_X8_init_L15 {p : Program} {l : Launch} {e : Env} {R : Room} {s : State} {m : MethodId} {args : Array Value} {below : List Frame} {meth : Method} {c : Code} {E : JE} {h0 hF : JH} {rF : Option Value} {d : Nat} (C : j_C p s m args meth c R E cX8_init 2 RX8 h0 hF d) (hret : meth.sig.returnType = none) (hin : meth.name = "<init>") (hdd : 2 ≤ d) (a0 : Nat) (z : Int32) (h : JH) (r : Int32 ⊕ Int32) (h1 : JH) (hf : f_X8_init_L15 a0 z h = some (r, h1)) (hleF : j_le h1 hF) (hk : Sum.elim (fun z => Xw p l e R s m args below meth c E 2 h0 rF hF 15 [(0, .ref a0), (1, .int z)] [] h1) (fun t => Xw p l e R s m args below meth c E 2 h0 rF hF 46 [(0, .ref a0), (1, .int t)] [] h1) r) : Xw p l e R s m args below meth c E 2 h0 rF hF 15 [(0, .ref a0), (1, .int z)] [] h := by
  unfold f_X8_init_L15 at hf
  refine x_iload_n (v := z) C dX8_init_15 rfl ?_
  refine x_aload_n (v := a0) C dX8_init_16 rfl ?_
  obtain ⟨v5, e6, hf⟩ := j_bind hf
  refine x_get C dX8_init_17 (jgR_some e6) fg_X8_11 ?_
  obtain ⟨v7, e8, hf⟩ := j_bind hf
  refine x_alen C dX8_init_20 e8 ?_
  refine x_icmp_ge (tgt := 46) C dX8_init_21 (by decide) (fun c17 => ?_) (fun c17 => ?_)
  · have hf := j_ifp hf c17
    obtain ⟨rfl, rfl⟩ := j_inj2 hf
    exact x_locr hk rfl
  · have hf := j_ifn hf c17
    refine x_aload_n (v := a0) C dX8_init_24 rfl ?_
    obtain ⟨v9, e10, hf⟩ := j_bind hf
    refine x_get C dX8_init_25 (jgR_some e10) fg_X8_11 ?_
    refine x_iload_n (v := z) C dX8_init_28 rfl ?_
    obtain ⟨q11, e12, hf⟩ := j_bind hf
    have hle : j_le q11.2 hF := by
      obtain ⟨q13, e14, hf⟩ := j_bind hf
      refine j_le_trans (n_X7_init e14) ?_
      obtain ⟨h15, e16, hf⟩ := j_bind hf
      refine j_le_trans (j_le_of (jsR_n e16)) ?_
      obtain ⟨rfl, rfl⟩ := j_inj2 hf
      exact hleF
    refine x_new C dX8_init_29 nc_X8_9 e12 hle ?_
    refine x_dup C dX8_init_32 rfl ?_
    refine x_iconst C dX8_init_33 ki_2 ?_
    refine x_iload_n (v := z) C dX8_init_34 rfl ?_
    refine x_imul C dX8_init_35 ?_
    obtain ⟨q13, e14, hf⟩ := j_bind hf
    have hle : j_le q13.2 hF := by
      obtain ⟨h15, e16, hf⟩ := j_bind hf
      refine j_le_trans (j_le_of (jsR_n e16)) ?_
      obtain ⟨rfl, rfl⟩ := j_inj2 hf
      exact hleF
    refine x_callI (As := [.int ((2 : Int32) * z)]) (rest := [.ref q11.1, .int z, .ref v9]) C dX8_init_36 (m_X7_init (l := l) (E := E) (d := d - 1) (by omega) e14) km_X7_init lk_X8_17 ki_X7_init rfl (by omega) (Nat.le_of_ble_eq_true rfl) (n_X7_init e14) (Or.inl hle) ?_
    obtain ⟨h15, e16, hf⟩ := j_bind hf
    refine x_aast C dX8_init_39 e16 ?_
    refine x_iinc (v := z) C dX8_init_40 rfl ki_1 (by decide) ?_
    refine x_goto (tgt := 15) C dX8_init_43 (by decide) ?_
    obtain ⟨rfl, rfl⟩ := j_inj2 hf
    exact x_locr hk rfl
set_option maxHeartbeats 4000000 in
set_option maxRecDepth 100000 in
theorem m_X8_init {l : Launch} {E : JE} {d : Nat} (hdd : 2 ≤ d) {a0 : Nat} {h : JH} {q : Unit × JH} (hf : f_X8_init a0 h = some q) : Con l E d yX8_init cX8_init 2 none [.ref a0] h (none) q.2 := by
  refine j_start rfl (Nat.le_of_ble_eq_true rfl) ?_
  intro p e s m args below meth c C hret hnm
  have hin : meth.name = "<init>" := hnm
  refine x_loc [(0, .ref a0)] rfl ?_
  unfold f_X8_init at hf
  refine x_aload_n (v := a0) C dX8_init_0 rfl ?_
  refine x_objInit C dX8_init_1 ⟨lk_X8_3, w_obj⟩ (by omega) (Nat.le_of_ble_eq_true rfl) ?_
  refine x_aload_n (v := a0) C dX8_init_4 rfl ?_
  refine x_bipush C dX8_init_5 kb_31 ?_
  obtain ⟨q1, e2, hf⟩ := j_bind hf
  have hle : j_le q1.2 q.2 := by
    obtain ⟨h3, e4, hf⟩ := j_bind hf
    refine j_le_trans (j_le_of (jput_n e4)) ?_
    obtain ⟨q18, e19, hf⟩ := j_bind hf
    refine j_le_trans ((jloop_le (fun _ _ _ _ q => n_X8_init_L15 q) e19)) ?_
    obtain rfl := j_inj hf
    exact j_le_refl _
  refine x_newq (q := q1.1) (h1 := q1.2) C dX8_init_7 (by decide) wc_X8_9 wo_X7 e2 hle ?_
  obtain ⟨h3, e4, hf⟩ := j_bind hf
  refine x_putF C hin dX8_init_10 e4 fp_X8_11 rfl rfl ?_
  refine x_iconst C dX8_init_13 ki_0 ?_
  refine x_istore_n C dX8_init_14 (by decide) ?_
  obtain ⟨q18, e19, hf⟩ := j_bind hf
  have hle : j_le q18.2 q.2 := by
    obtain rfl := j_inj hf
    exact j_le_refl _
  refine x_loc [(0, .ref a0), (1, .int (0 : Int32))] rfl ?_
  refine x_loopA (s_X8_init_L15 C hret hin hdd a0) (fun _ _ _ _ q => n_X8_init_L15 q) e19 hle ?_
  obtain rfl := j_inj hf
  exact x_vret C hret dX8_init_46
set_option maxHeartbeats 4000000 in
set_option maxRecDepth 100000 in
theorem m_X8_makeAlone {l : Launch} {E : JE} {d : Nat} (hdd : 3 ≤ d) {a0 : Nat} {a1 : Int32} {a2 : Int32} {a3 : Int32} {h : JH} {q : Unit × JH} (hf : f_X8_makeAlone a0 a1 a2 a3 h = some q) : Con l E d yX8_makeAlone cX8_makeAlone 4 none [.ref a0, .int a1, .int a2, .int a3] h (none) q.2 := by
  refine j_start rfl (Nat.le_of_ble_eq_true rfl) ?_
  intro p e s m args below meth c C hret hnm
  refine x_loc [(0, .ref a0), (1, .int a1), (2, .int a2), (3, .int a3)] rfl ?_
  unfold f_X8_makeAlone at hf
  refine x_aload_n (v := a0) C dX8_makeAlone_0 rfl ?_
  obtain ⟨v1, e2, hf⟩ := j_bind hf
  refine x_get C dX8_makeAlone_1 (jgR_some e2) fg_X8_11 ?_
  refine x_iload_n (v := a1) C dX8_makeAlone_4 rfl ?_
  refine x_iconst C dX8_makeAlone_5 ki_2 ?_
  refine x_idiv C dX8_makeAlone_6 (by decide) ?_
  obtain ⟨v3, e4, hf⟩ := j_bind hf
  refine x_aald C dX8_makeAlone_7 e4 ?_
  refine x_iload_n (v := a2) C dX8_makeAlone_8 rfl ?_
  refine x_iload_n (v := a3) C dX8_makeAlone_9 rfl ?_
  obtain ⟨u15, e16, hf⟩ := j_bind hf
  obtain ⟨q5, e6, hf⟩ := j_bind hf
  refine x_callV (As := [.int a2, .int a3]) (rest := []) C dX8_makeAlone_10 (m_X7_isReady (l := l) (E := E) (d := d - 1) (by omega) e6) km_X7_isReady lk_X8_20 kv_X7_isReady (ci := 5) rfl e16 rfl (by omega) (Nat.le_of_ble_eq_true rfl) (j_le_of (q_X7_isReady e6)) (Or.inr (q_X7_isReady e6)) ?_
  refine x_if_ne (tgt := 29) C dX8_makeAlone_13 (by decide) (fun c17 => ?_) (fun c17 => ?_)
  · have hf := j_ifn hf c17
    obtain rfl := j_inj hf
    exact x_vret C hret dX8_makeAlone_29
  · have hf := j_ifp hf c17
    refine x_aload_n (v := a0) C dX8_makeAlone_16 rfl ?_
    obtain ⟨v7, e8, hf⟩ := j_bind hf
    refine x_get C dX8_makeAlone_17 (jgR_some e8) fg_X8_11 ?_
    refine x_iload_n (v := a1) C dX8_makeAlone_20 rfl ?_
    refine x_iconst C dX8_makeAlone_21 ki_2 ?_
    refine x_idiv C dX8_makeAlone_22 (by decide) ?_
    obtain ⟨v9, e10, hf⟩ := j_bind hf
    refine x_aald C dX8_makeAlone_23 e10 ?_
    refine x_iload_n (v := a2) C dX8_makeAlone_24 rfl ?_
    refine x_iload_n (v := a3) C dX8_makeAlone_25 rfl ?_
    obtain ⟨u13, e14, hf⟩ := j_bind hf
    obtain ⟨q11, e12, hf⟩ := j_bind hf
    have hle : j_le q11.2 q.2 := by
      obtain rfl := j_inj hf
      exact j_le_refl _
    refine x_callV (As := [.int a2, .int a3]) (rest := []) C dX8_makeAlone_26 (m_X7_makeAlone (l := l) (E := E) (d := d - 1) (by omega) e12) km_X7_makeAlone lk_X8_36 kv_X7_makeAlone (ci := 5) rfl e14 rfl (by omega) (Nat.le_of_ble_eq_true rfl) (n_X7_makeAlone e12) (Or.inl hle) ?_
    obtain rfl := j_inj hf
    exact x_vret C hret dX8_makeAlone_29
set_option maxHeartbeats 4000000 in
set_option maxRecDepth 100000 in
theorem m_X8_makeTwelve {l : Launch} {E : JE} {d : Nat} (hdd : 4 ≤ d) {a0 : Nat} {a1 : Int32} {a2 : Int32} {h : JH} {q : Unit × JH} (hf : f_X8_makeTwelve a0 a1 a2 h = some q) : Con l E d yX8_makeTwelve cX8_makeTwelve 3 none [.ref a0, .int a1, .int a2] h (none) q.2 := by
  refine j_start rfl (Nat.le_of_ble_eq_true rfl) ?_
  intro p e s m args below meth c C hret hnm
  refine x_loc [(0, .ref a0), (1, .int a1), (2, .int a2)] rfl ?_
  unfold f_X8_makeTwelve at hf
  refine x_aload_n (v := a0) C dX8_makeTwelve_0 rfl ?_
  obtain ⟨v1, e2, hf⟩ := j_bind hf
  refine x_get C dX8_makeTwelve_1 (jgR_some e2) fg_X8_11 ?_
  refine x_bipush C dX8_makeTwelve_4 kb_6 ?_
  obtain ⟨v3, e4, hf⟩ := j_bind hf
  refine x_aald C dX8_makeTwelve_6 e4 ?_
  refine x_iload_n (v := a1) C dX8_makeTwelve_7 rfl ?_
  refine x_iload_n (v := a2) C dX8_makeTwelve_8 rfl ?_
  obtain ⟨u39, e40, hf⟩ := j_bind hf
  obtain ⟨q5, e6, hf⟩ := j_bind hf
  refine x_callV (As := [.int a1, .int a2]) (rest := []) C dX8_makeTwelve_9 (m_X7_isReady (l := l) (E := E) (d := d - 1) (by omega) e6) km_X7_isReady lk_X8_20 kv_X7_isReady (ci := 5) rfl e40 rfl (by omega) (Nat.le_of_ble_eq_true rfl) (j_le_of (q_X7_isReady e6)) (Or.inr (q_X7_isReady e6)) ?_
  refine x_if_ne (tgt := 67) C dX8_makeTwelve_12 (by decide) (fun c41 => ?_) (fun c41 => ?_)
  · have hf := j_ifn hf c41
    obtain rfl := j_inj hf
    exact x_vret C hret dX8_makeTwelve_67
  · have hf := j_ifp hf c41
    refine x_aload_n (v := a0) C dX8_makeTwelve_15 rfl ?_
    refine x_iconst C dX8_makeTwelve_16 ki_4 ?_
    refine x_iload_n (v := a1) C dX8_makeTwelve_17 rfl ?_
    refine x_iload_n (v := a2) C dX8_makeTwelve_18 rfl ?_
    obtain ⟨u37, e38, hf⟩ := j_bind hf
    obtain ⟨q7, e8, hf⟩ := j_bind hf
    have hle : j_le q7.2 q.2 := by
      obtain ⟨u35, e36, hf⟩ := j_bind hf
      obtain ⟨q9, e10, hf⟩ := j_bind hf
      refine j_le_trans (n_X8_makeAlone e10) ?_
      obtain ⟨u33, e34, hf⟩ := j_bind hf
      obtain ⟨q11, e12, hf⟩ := j_bind hf
      refine j_le_trans (n_X8_makeAlone e12) ?_
      obtain ⟨v13, e14, hf⟩ := j_bind hf
      obtain ⟨v15, e16, hf⟩ := j_bind hf
      obtain ⟨v17, e18, hf⟩ := j_bind hf
      obtain ⟨v19, e20, hf⟩ := j_bind hf
      obtain ⟨v21, e22, hf⟩ := j_bind hf
      obtain ⟨v23, e24, hf⟩ := j_bind hf
      obtain ⟨v25, e26, hf⟩ := j_bind hf
      obtain ⟨v27, e28, hf⟩ := j_bind hf
      obtain ⟨u31, e32, hf⟩ := j_bind hf
      obtain ⟨q29, e30, hf⟩ := j_bind hf
      refine j_le_trans (n_X7_makeTwelve e30) ?_
      obtain rfl := j_inj hf
      exact j_le_refl _
    refine x_callV (As := [.int (4 : Int32), .int a1, .int a2]) (rest := []) C dX8_makeTwelve_19 (m_X8_makeAlone (l := l) (E := E) (d := d - 1) (by omega) e8) km_X8_makeAlone lk_X8_24 kv_X8_makeAlone (ci := 6) rfl e38 rfl (by omega) (Nat.le_of_ble_eq_true rfl) (n_X8_makeAlone e8) (Or.inl hle) ?_
    refine x_aload_n (v := a0) C dX8_makeTwelve_22 rfl ?_
    refine x_bipush C dX8_makeTwelve_23 kb_6 ?_
    refine x_iload_n (v := a1) C dX8_makeTwelve_25 rfl ?_
    refine x_iload_n (v := a2) C dX8_makeTwelve_26 rfl ?_
    obtain ⟨u35, e36, hf⟩ := j_bind hf
    obtain ⟨q9, e10, hf⟩ := j_bind hf
    have hle : j_le q9.2 q.2 := by
      obtain ⟨u33, e34, hf⟩ := j_bind hf
      obtain ⟨q11, e12, hf⟩ := j_bind hf
      refine j_le_trans (n_X8_makeAlone e12) ?_
      obtain ⟨v13, e14, hf⟩ := j_bind hf
      obtain ⟨v15, e16, hf⟩ := j_bind hf
      obtain ⟨v17, e18, hf⟩ := j_bind hf
      obtain ⟨v19, e20, hf⟩ := j_bind hf
      obtain ⟨v21, e22, hf⟩ := j_bind hf
      obtain ⟨v23, e24, hf⟩ := j_bind hf
      obtain ⟨v25, e26, hf⟩ := j_bind hf
      obtain ⟨v27, e28, hf⟩ := j_bind hf
      obtain ⟨u31, e32, hf⟩ := j_bind hf
      obtain ⟨q29, e30, hf⟩ := j_bind hf
      refine j_le_trans (n_X7_makeTwelve e30) ?_
      obtain rfl := j_inj hf
      exact j_le_refl _
    refine x_callV (As := [.int (6 : Int32), .int a1, .int a2]) (rest := []) C dX8_makeTwelve_27 (m_X8_makeAlone (l := l) (E := E) (d := d - 1) (by omega) e10) km_X8_makeAlone lk_X8_24 kv_X8_makeAlone (ci := 6) rfl e36 rfl (by omega) (Nat.le_of_ble_eq_true rfl) (n_X8_makeAlone e10) (Or.inl hle) ?_
    refine x_aload_n (v := a0) C dX8_makeTwelve_30 rfl ?_
    refine x_bipush C dX8_makeTwelve_31 kb_8 ?_
    refine x_iload_n (v := a1) C dX8_makeTwelve_33 rfl ?_
    refine x_iload_n (v := a2) C dX8_makeTwelve_34 rfl ?_
    obtain ⟨u33, e34, hf⟩ := j_bind hf
    obtain ⟨q11, e12, hf⟩ := j_bind hf
    have hle : j_le q11.2 q.2 := by
      obtain ⟨v13, e14, hf⟩ := j_bind hf
      obtain ⟨v15, e16, hf⟩ := j_bind hf
      obtain ⟨v17, e18, hf⟩ := j_bind hf
      obtain ⟨v19, e20, hf⟩ := j_bind hf
      obtain ⟨v21, e22, hf⟩ := j_bind hf
      obtain ⟨v23, e24, hf⟩ := j_bind hf
      obtain ⟨v25, e26, hf⟩ := j_bind hf
      obtain ⟨v27, e28, hf⟩ := j_bind hf
      obtain ⟨u31, e32, hf⟩ := j_bind hf
      obtain ⟨q29, e30, hf⟩ := j_bind hf
      refine j_le_trans (n_X7_makeTwelve e30) ?_
      obtain rfl := j_inj hf
      exact j_le_refl _
    refine x_callV (As := [.int (8 : Int32), .int a1, .int a2]) (rest := []) C dX8_makeTwelve_35 (m_X8_makeAlone (l := l) (E := E) (d := d - 1) (by omega) e12) km_X8_makeAlone lk_X8_24 kv_X8_makeAlone (ci := 6) rfl e34 rfl (by omega) (Nat.le_of_ble_eq_true rfl) (n_X8_makeAlone e12) (Or.inl hle) ?_
    refine x_aload_n (v := a0) C dX8_makeTwelve_38 rfl ?_
    obtain ⟨v13, e14, hf⟩ := j_bind hf
    refine x_get C dX8_makeTwelve_39 (jgR_some e14) fg_X8_11 ?_
    refine x_bipush C dX8_makeTwelve_42 kb_6 ?_
    obtain ⟨v15, e16, hf⟩ := j_bind hf
    refine x_aald C dX8_makeTwelve_44 e16 ?_
    refine x_aload_n (v := a0) C dX8_makeTwelve_45 rfl ?_
    obtain ⟨v17, e18, hf⟩ := j_bind hf
    refine x_get C dX8_makeTwelve_46 (jgR_some e18) fg_X8_11 ?_
    refine x_iconst C dX8_makeTwelve_49 ki_2 ?_
    obtain ⟨v19, e20, hf⟩ := j_bind hf
    refine x_aald C dX8_makeTwelve_50 e20 ?_
    refine x_aload_n (v := a0) C dX8_makeTwelve_51 rfl ?_
    obtain ⟨v21, e22, hf⟩ := j_bind hf
    refine x_get C dX8_makeTwelve_52 (jgR_some e22) fg_X8_11 ?_
    refine x_iconst C dX8_makeTwelve_55 ki_3 ?_
    obtain ⟨v23, e24, hf⟩ := j_bind hf
    refine x_aald C dX8_makeTwelve_56 e24 ?_
    refine x_aload_n (v := a0) C dX8_makeTwelve_57 rfl ?_
    obtain ⟨v25, e26, hf⟩ := j_bind hf
    refine x_get C dX8_makeTwelve_58 (jgR_some e26) fg_X8_11 ?_
    refine x_iconst C dX8_makeTwelve_61 ki_4 ?_
    obtain ⟨v27, e28, hf⟩ := j_bind hf
    refine x_aald C dX8_makeTwelve_62 e28 ?_
    refine x_iload_n (v := a2) C dX8_makeTwelve_63 rfl ?_
    obtain ⟨u31, e32, hf⟩ := j_bind hf
    obtain ⟨q29, e30, hf⟩ := j_bind hf
    have hle : j_le q29.2 q.2 := by
      obtain rfl := j_inj hf
      exact j_le_refl _
    refine x_callV (As := [.ref v19, .ref v23, .ref v27, .int a2]) (rest := []) C dX8_makeTwelve_64 (m_X7_makeTwelve (l := l) (E := E) (d := d - 1) (by omega) e30) km_X7_makeTwelve lk_X8_38 kv_X7_makeTwelve (ci := 5) rfl e32 rfl (by omega) (Nat.le_of_ble_eq_true rfl) (n_X7_makeTwelve e30) (Or.inl hle) ?_
    obtain rfl := j_inj hf
    exact x_vret C hret dX8_makeTwelve_67
set_option maxHeartbeats 4000000 in
set_option maxRecDepth 100000 in
theorem s_X8_ready_L94 {p : Program} {l : Launch} {e : Env} {R : Room} {s : State} {m : MethodId} {args : Array Value} {below : List Frame} {meth : Method} {c : Code} {E : JE} {h0 hF : JH} {rF : Option Value} {d : Nat} (C : j_C p s m args meth c R E cX8_ready 8 RX8 h0 hF d) (hret : meth.sig.returnType = (some (.object "HeckeSeries$Space"))) (hdd : 5 ≤ d) (a0 : Nat) (a1 : Int32) (a2 : Int32) (a4 : Nat) (a5 : Int32) (z : Int32) (h : JH) (r : Int32 ⊕ Int32) (h1 : JH) (hf : f_X8_ready_L94 a0 a1 a2 a4 a5 z h = some (r, h1)) (hleF : j_le h1 hF) (hk : Sum.elim (fun z => Xw p l e R s m args below meth c E 8 h0 rF hF 94 [(0, .ref a0), (1, .int a1), (2, .int a2), (4, .ref a4), (5, .int a5), (7, .int z)] [] h1) (fun t => Xw p l e R s m args below meth c E 8 h0 rF hF 157 [(0, .ref a0), (1, .int a1), (2, .int a2), (4, .ref a4), (5, .int a5), (7, .int t)] [] h1) r) : Xw p l e R s m args below meth c E 8 h0 rF hF 94 [(0, .ref a0), (1, .int a1), (2, .int a2), (4, .ref a4), (5, .int a5), (7, .int z)] [] h := by
  unfold f_X8_ready_L94 at hf
  refine x_iload (v := z) C dX8_ready_94 rfl ?_
  refine x_iload_n (v := a1) C dX8_ready_96 rfl ?_
  refine x_icmp_gt (tgt := 157) C dX8_ready_97 (by decide) (fun c31 => ?_) (fun c31 => ?_)
  · have hf := j_ifp hf c31
    obtain ⟨rfl, rfl⟩ := j_inj2 hf
    exact x_locr hk rfl
  · have hf := j_ifn hf c31
    refine x_aload_n (v := a0) C dX8_ready_100 rfl ?_
    obtain ⟨v7, e8, hf⟩ := j_bind hf
    refine x_get C dX8_ready_101 (jgR_some e8) fg_X8_11 ?_
    refine x_iload (v := z) C dX8_ready_104 rfl ?_
    refine x_iconst C dX8_ready_106 ki_2 ?_
    refine x_idiv C dX8_ready_107 (by decide) ?_
    obtain ⟨v9, e10, hf⟩ := j_bind hf
    refine x_aald C dX8_ready_108 e10 ?_
    refine x_iload_n (v := a2) C dX8_ready_109 rfl ?_
    refine x_iload (v := a5) C dX8_ready_110 rfl ?_
    obtain ⟨u29, e30, hf⟩ := j_bind hf
    obtain ⟨q11, e12, hf⟩ := j_bind hf
    refine x_callV (As := [.int a2, .int a5]) (rest := []) C dX8_ready_112 (m_X7_isReady (l := l) (E := E) (d := d - 1) (by omega) e12) km_X7_isReady lk_X8_20 kv_X7_isReady (ci := 5) rfl e30 rfl (by omega) (Nat.le_of_ble_eq_true rfl) (j_le_of (q_X7_isReady e12)) (Or.inr (q_X7_isReady e12)) ?_
    refine x_if_ne (tgt := 151) C dX8_ready_115 (by decide) (fun c32 => ?_) (fun c32 => ?_)
    · have hf := j_ifn hf c32
      refine x_iinc (v := z) C dX8_ready_151 rfl ki_12 (by decide) ?_
      refine x_goto (tgt := 94) C dX8_ready_154 (by decide) ?_
      obtain ⟨rfl, rfl⟩ := j_inj2 hf
      exact x_locr hk rfl
    · have hf := j_ifp hf c32
      refine x_aload_n (v := a0) C dX8_ready_118 rfl ?_
      obtain ⟨v13, e14, hf⟩ := j_bind hf
      refine x_get C dX8_ready_119 (jgR_some e14) fg_X8_11 ?_
      refine x_iload (v := z) C dX8_ready_122 rfl ?_
      refine x_iconst C dX8_ready_124 ki_2 ?_
      refine x_idiv C dX8_ready_125 (by decide) ?_
      obtain ⟨v15, e16, hf⟩ := j_bind hf
      refine x_aald C dX8_ready_126 e16 ?_
      refine x_aload_n (v := a0) C dX8_ready_127 rfl ?_
      obtain ⟨v17, e18, hf⟩ := j_bind hf
      refine x_get C dX8_ready_128 (jgR_some e18) fg_X8_11 ?_
      refine x_iload (v := z) C dX8_ready_131 rfl ?_
      refine x_bipush C dX8_ready_133 kb_12 ?_
      refine x_isub C dX8_ready_135 ?_
      refine x_iconst C dX8_ready_136 ki_2 ?_
      refine x_idiv C dX8_ready_137 (by decide) ?_
      obtain ⟨v19, e20, hf⟩ := j_bind hf
      refine x_aald C dX8_ready_138 e20 ?_
      refine x_aload_n (v := a0) C dX8_ready_139 rfl ?_
      obtain ⟨v21, e22, hf⟩ := j_bind hf
      refine x_get C dX8_ready_140 (jgR_some e22) fg_X8_11 ?_
      refine x_bipush C dX8_ready_143 kb_6 ?_
      obtain ⟨v23, e24, hf⟩ := j_bind hf
      refine x_aald C dX8_ready_145 e24 ?_
      refine x_iload (v := a5) C dX8_ready_146 rfl ?_
      obtain ⟨u27, e28, hf⟩ := j_bind hf
      obtain ⟨q25, e26, hf⟩ := j_bind hf
      have hle : j_le q25.2 hF := by
        obtain ⟨rfl, rfl⟩ := j_inj2 hf
        exact hleF
      refine x_callV (As := [.ref v19, .ref v23, .int a5]) (rest := []) C dX8_ready_148 (m_X7_makeFrom (l := l) (E := E) (d := d - 1) (by omega) e26) km_X7_makeFrom lk_X8_32 kv_X7_makeFrom (ci := 5) rfl e28 rfl (by omega) (Nat.le_of_ble_eq_true rfl) (n_X7_makeFrom e26) (Or.inl hle) ?_
      refine x_iinc (v := z) C dX8_ready_151 rfl ki_12 (by decide) ?_
      refine x_goto (tgt := 94) C dX8_ready_154 (by decide) ?_
      obtain ⟨rfl, rfl⟩ := j_inj2 hf
      exact x_locr hk rfl
set_option maxHeartbeats 4000000 in
set_option maxRecDepth 100000 in
theorem m_X8_ready {l : Launch} {E : JE} {d : Nat} (hdd : 5 ≤ d) {a0 : Nat} {a1 : Int32} {a2 : Int32} {a3 : Int32} {h : JH} {q : Nat × JH} (hf : f_X8_ready a0 a1 a2 a3 h = some q) : Con l E d yX8_ready cX8_ready 8 (some (.object "HeckeSeries$Space")) [.ref a0, .int a1, .int a2, .int a3] h (some (.ref q.1)) q.2 := by
  refine j_start rfl (Nat.le_of_ble_eq_true rfl) ?_
  intro p e s m args below meth c C hret hnm
  refine x_loc [(0, .ref a0), (1, .int a1), (2, .int a2), (3, .int a3)] rfl ?_
  unfold f_X8_ready at hf
  refine x_aload_n (v := a0) C dX8_ready_0 rfl ?_
  obtain ⟨v1, e2, hf⟩ := j_bind hf
  refine x_get C dX8_ready_1 (jgR_some e2) fg_X8_11 ?_
  refine x_iload_n (v := a1) C dX8_ready_4 rfl ?_
  refine x_iconst C dX8_ready_5 ki_2 ?_
  refine x_idiv C dX8_ready_6 (by decide) ?_
  obtain ⟨v3, e4, hf⟩ := j_bind hf
  refine x_aald C dX8_ready_7 e4 ?_
  refine x_astore C dX8_ready_8 (by decide) ?_
  refine x_iload_n (v := a3) C dX8_ready_10 rfl ?_
  refine x_bipush C dX8_ready_11 kb_36 ?_
  refine x_icmp_gt (tgt := 21) C dX8_ready_13 (by decide) (fun c119 => ?_) (fun c119 => ?_)
  · have hf := j_ifp hf c119
    refine x_sipush C dX8_ready_21 ks_180 ?_
    refine x_istore C dX8_ready_24 (by decide) ?_
    refine x_aload (v := v3) C dX8_ready_26 rfl ?_
    refine x_iload_n (v := a2) C dX8_ready_28 rfl ?_
    refine x_iload (v := (180 : Int32)) C dX8_ready_29 rfl ?_
    obtain ⟨u73, e74, hf⟩ := j_bind hf
    obtain ⟨q5, e6, hf⟩ := j_bind hf
    refine x_callV (As := [.int a2, .int (180 : Int32)]) (rest := []) C dX8_ready_31 (m_X7_isReady (l := l) (E := E) (d := d - 1) (by omega) e6) km_X7_isReady lk_X8_20 kv_X7_isReady (ci := 5) rfl e74 rfl (by omega) (Nat.le_of_ble_eq_true rfl) (j_le_of (q_X7_isReady e6)) (Or.inr (q_X7_isReady e6)) ?_
    refine x_if_eq (tgt := 40) C dX8_ready_34 (by decide) (fun c120 => ?_) (fun c120 => ?_)
    · have hf := j_ifp hf c120
      refine x_iload_n (v := a1) C dX8_ready_40 rfl ?_
      refine x_bipush C dX8_ready_41 kb_12 ?_
      refine x_irem C dX8_ready_43 (by decide) ?_
      refine x_iconst C dX8_ready_44 ki_2 ?_
      refine x_icmp_ne (tgt := 53) C dX8_ready_45 (by decide) (fun c121 => ?_) (fun c121 => ?_)
      · have hf := j_ifn hf c121
        refine x_iload_n (v := a1) C dX8_ready_53 rfl ?_
        refine x_bipush C dX8_ready_54 kb_12 ?_
        refine x_irem C dX8_ready_56 (by decide) ?_
        refine x_istore C dX8_ready_57 (by decide) ?_
        refine x_iload (v := jrem a1 (12 : Int32)) C dX8_ready_59 rfl ?_
        refine x_iload_n (v := a1) C dX8_ready_61 rfl ?_
        refine x_icmp_gt (tgt := 74) C dX8_ready_62 (by decide) (fun c122 => ?_) (fun c122 => ?_)
        · have hf := j_ifp hf c122
          refine x_iload (v := jrem a1 (12 : Int32)) C dX8_ready_74 rfl ?_
          refine x_iload_n (v := a1) C dX8_ready_76 rfl ?_
          refine x_icmp_ge (tgt := 87) C dX8_ready_77 (by decide) (fun c123 => ?_) (fun c123 => ?_)
          · have hf := j_ifp hf c123
            refine x_iload (v := jrem a1 (12 : Int32)) C dX8_ready_87 rfl ?_
            refine x_bipush C dX8_ready_89 kb_12 ?_
            refine x_iadd C dX8_ready_91 ?_
            refine x_istore C dX8_ready_92 (by decide) ?_
            obtain ⟨q33, e34, hf⟩ := j_bind hf
            have hle : j_le q33.2 q.2 := by
              obtain rfl := j_inj hf
              exact j_le_refl _
            refine x_loc [(0, .ref a0), (1, .int a1), (2, .int a2), (4, .ref v3), (5, .int (180 : Int32)), (7, .int ((jrem a1 (12 : Int32)) + (12 : Int32)))] rfl ?_
            refine x_loopA (s_X8_ready_L94 C hret hdd a0 a1 a2 v3 (180 : Int32)) (fun _ _ _ _ q => n_X8_ready_L94 q) e34 hle ?_
            refine x_aload (v := v3) C dX8_ready_157 rfl ?_
            obtain rfl := j_inj hf
            exact x_aret C hret (Or.inl ⟨_, rfl⟩) dX8_ready_159
          · have hf := j_ifn hf c123
            refine x_aload_n (v := a0) C dX8_ready_80 rfl ?_
            refine x_iload_n (v := a2) C dX8_ready_81 rfl ?_
            refine x_iload (v := (180 : Int32)) C dX8_ready_82 rfl ?_
            obtain ⟨u39, e40, hf⟩ := j_bind hf
            obtain ⟨q35, e36, hf⟩ := j_bind hf
            have hle : j_le q35.2 q.2 := by
              obtain ⟨q37, e38, hf⟩ := j_bind hf
              refine j_le_trans ((jloop_le (fun _ _ _ _ q => n_X8_ready_L94 q) e38)) ?_
              obtain rfl := j_inj hf
              exact j_le_refl _
            refine x_callV (As := [.int a2, .int (180 : Int32)]) (rest := []) C dX8_ready_84 (m_X8_makeTwelve (l := l) (E := E) (d := d - 1) (by omega) e36) km_X8_makeTwelve lk_X8_28 kv_X8_makeTwelve (ci := 6) rfl e40 rfl (by omega) (Nat.le_of_ble_eq_true rfl) (n_X8_makeTwelve e36) (Or.inl hle) ?_
            refine x_iload (v := jrem a1 (12 : Int32)) C dX8_ready_87 rfl ?_
            refine x_bipush C dX8_ready_89 kb_12 ?_
            refine x_iadd C dX8_ready_91 ?_
            refine x_istore C dX8_ready_92 (by decide) ?_
            obtain ⟨q37, e38, hf⟩ := j_bind hf
            have hle : j_le q37.2 q.2 := by
              obtain rfl := j_inj hf
              exact j_le_refl _
            refine x_loc [(0, .ref a0), (1, .int a1), (2, .int a2), (4, .ref v3), (5, .int (180 : Int32)), (7, .int ((jrem a1 (12 : Int32)) + (12 : Int32)))] rfl ?_
            refine x_loopA (s_X8_ready_L94 C hret hdd a0 a1 a2 v3 (180 : Int32)) (fun _ _ _ _ q => n_X8_ready_L94 q) e38 hle ?_
            refine x_aload (v := v3) C dX8_ready_157 rfl ?_
            obtain rfl := j_inj hf
            exact x_aret C hret (Or.inl ⟨_, rfl⟩) dX8_ready_159
        · have hf := j_ifn hf c122
          refine x_aload_n (v := a0) C dX8_ready_65 rfl ?_
          refine x_iload (v := jrem a1 (12 : Int32)) C dX8_ready_66 rfl ?_
          refine x_iload_n (v := a2) C dX8_ready_68 rfl ?_
          refine x_iload (v := (180 : Int32)) C dX8_ready_69 rfl ?_
          obtain ⟨u51, e52, hf⟩ := j_bind hf
          obtain ⟨q41, e42, hf⟩ := j_bind hf
          have hle : j_le q41.2 q.2 := by
            rcases j_ite hf with hf | hf
            ·
              obtain ⟨q43, e44, hf⟩ := j_bind hf
              refine j_le_trans ((jloop_le (fun _ _ _ _ q => n_X8_ready_L94 q) e44)) ?_
              obtain rfl := j_inj hf
              exact j_le_refl _
            ·
              obtain ⟨u49, e50, hf⟩ := j_bind hf
              obtain ⟨q45, e46, hf⟩ := j_bind hf
              refine j_le_trans (n_X8_makeTwelve e46) ?_
              obtain ⟨q47, e48, hf⟩ := j_bind hf
              refine j_le_trans ((jloop_le (fun _ _ _ _ q => n_X8_ready_L94 q) e48)) ?_
              obtain rfl := j_inj hf
              exact j_le_refl _
          refine x_callV (As := [.int (jrem a1 (12 : Int32)), .int a2, .int (180 : Int32)]) (rest := []) C dX8_ready_71 (m_X8_makeAlone (l := l) (E := E) (d := d - 1) (by omega) e42) km_X8_makeAlone lk_X8_24 kv_X8_makeAlone (ci := 6) rfl e52 rfl (by omega) (Nat.le_of_ble_eq_true rfl) (n_X8_makeAlone e42) (Or.inl hle) ?_
          refine x_iload (v := jrem a1 (12 : Int32)) C dX8_ready_74 rfl ?_
          refine x_iload_n (v := a1) C dX8_ready_76 rfl ?_
          refine x_icmp_ge (tgt := 87) C dX8_ready_77 (by decide) (fun c124 => ?_) (fun c124 => ?_)
          · have hf := j_ifp hf c124
            refine x_iload (v := jrem a1 (12 : Int32)) C dX8_ready_87 rfl ?_
            refine x_bipush C dX8_ready_89 kb_12 ?_
            refine x_iadd C dX8_ready_91 ?_
            refine x_istore C dX8_ready_92 (by decide) ?_
            obtain ⟨q43, e44, hf⟩ := j_bind hf
            have hle : j_le q43.2 q.2 := by
              obtain rfl := j_inj hf
              exact j_le_refl _
            refine x_loc [(0, .ref a0), (1, .int a1), (2, .int a2), (4, .ref v3), (5, .int (180 : Int32)), (7, .int ((jrem a1 (12 : Int32)) + (12 : Int32)))] rfl ?_
            refine x_loopA (s_X8_ready_L94 C hret hdd a0 a1 a2 v3 (180 : Int32)) (fun _ _ _ _ q => n_X8_ready_L94 q) e44 hle ?_
            refine x_aload (v := v3) C dX8_ready_157 rfl ?_
            obtain rfl := j_inj hf
            exact x_aret C hret (Or.inl ⟨_, rfl⟩) dX8_ready_159
          · have hf := j_ifn hf c124
            refine x_aload_n (v := a0) C dX8_ready_80 rfl ?_
            refine x_iload_n (v := a2) C dX8_ready_81 rfl ?_
            refine x_iload (v := (180 : Int32)) C dX8_ready_82 rfl ?_
            obtain ⟨u49, e50, hf⟩ := j_bind hf
            obtain ⟨q45, e46, hf⟩ := j_bind hf
            have hle : j_le q45.2 q.2 := by
              obtain ⟨q47, e48, hf⟩ := j_bind hf
              refine j_le_trans ((jloop_le (fun _ _ _ _ q => n_X8_ready_L94 q) e48)) ?_
              obtain rfl := j_inj hf
              exact j_le_refl _
            refine x_callV (As := [.int a2, .int (180 : Int32)]) (rest := []) C dX8_ready_84 (m_X8_makeTwelve (l := l) (E := E) (d := d - 1) (by omega) e46) km_X8_makeTwelve lk_X8_28 kv_X8_makeTwelve (ci := 6) rfl e50 rfl (by omega) (Nat.le_of_ble_eq_true rfl) (n_X8_makeTwelve e46) (Or.inl hle) ?_
            refine x_iload (v := jrem a1 (12 : Int32)) C dX8_ready_87 rfl ?_
            refine x_bipush C dX8_ready_89 kb_12 ?_
            refine x_iadd C dX8_ready_91 ?_
            refine x_istore C dX8_ready_92 (by decide) ?_
            obtain ⟨q47, e48, hf⟩ := j_bind hf
            have hle : j_le q47.2 q.2 := by
              obtain rfl := j_inj hf
              exact j_le_refl _
            refine x_loc [(0, .ref a0), (1, .int a1), (2, .int a2), (4, .ref v3), (5, .int (180 : Int32)), (7, .int ((jrem a1 (12 : Int32)) + (12 : Int32)))] rfl ?_
            refine x_loopA (s_X8_ready_L94 C hret hdd a0 a1 a2 v3 (180 : Int32)) (fun _ _ _ _ q => n_X8_ready_L94 q) e48 hle ?_
            refine x_aload (v := v3) C dX8_ready_157 rfl ?_
            obtain rfl := j_inj hf
            exact x_aret C hret (Or.inl ⟨_, rfl⟩) dX8_ready_159
      · have hf := j_ifp hf c121
        refine x_bipush C dX8_ready_48 kb_14 ?_
        refine x_goto (tgt := 57) C dX8_ready_50 (by decide) ?_
        refine x_istore C dX8_ready_57 (by decide) ?_
        refine x_iload (v := (14 : Int32)) C dX8_ready_59 rfl ?_
        refine x_iload_n (v := a1) C dX8_ready_61 rfl ?_
        refine x_icmp_gt (tgt := 74) C dX8_ready_62 (by decide) (fun c125 => ?_) (fun c125 => ?_)
        · have hf := j_ifp hf c125
          refine x_iload (v := (14 : Int32)) C dX8_ready_74 rfl ?_
          refine x_iload_n (v := a1) C dX8_ready_76 rfl ?_
          refine x_icmp_ge (tgt := 87) C dX8_ready_77 (by decide) (fun c126 => ?_) (fun c126 => ?_)
          · have hf := j_ifp hf c126
            refine x_iload (v := (14 : Int32)) C dX8_ready_87 rfl ?_
            refine x_bipush C dX8_ready_89 kb_12 ?_
            refine x_iadd C dX8_ready_91 ?_
            refine x_istore C dX8_ready_92 (by decide) ?_
            obtain ⟨q53, e54, hf⟩ := j_bind hf
            have hle : j_le q53.2 q.2 := by
              obtain rfl := j_inj hf
              exact j_le_refl _
            refine x_loc [(0, .ref a0), (1, .int a1), (2, .int a2), (4, .ref v3), (5, .int (180 : Int32)), (7, .int ((14 : Int32) + (12 : Int32)))] rfl ?_
            refine x_loopA (s_X8_ready_L94 C hret hdd a0 a1 a2 v3 (180 : Int32)) (fun _ _ _ _ q => n_X8_ready_L94 q) e54 hle ?_
            refine x_aload (v := v3) C dX8_ready_157 rfl ?_
            obtain rfl := j_inj hf
            exact x_aret C hret (Or.inl ⟨_, rfl⟩) dX8_ready_159
          · have hf := j_ifn hf c126
            refine x_aload_n (v := a0) C dX8_ready_80 rfl ?_
            refine x_iload_n (v := a2) C dX8_ready_81 rfl ?_
            refine x_iload (v := (180 : Int32)) C dX8_ready_82 rfl ?_
            obtain ⟨u59, e60, hf⟩ := j_bind hf
            obtain ⟨q55, e56, hf⟩ := j_bind hf
            have hle : j_le q55.2 q.2 := by
              obtain ⟨q57, e58, hf⟩ := j_bind hf
              refine j_le_trans ((jloop_le (fun _ _ _ _ q => n_X8_ready_L94 q) e58)) ?_
              obtain rfl := j_inj hf
              exact j_le_refl _
            refine x_callV (As := [.int a2, .int (180 : Int32)]) (rest := []) C dX8_ready_84 (m_X8_makeTwelve (l := l) (E := E) (d := d - 1) (by omega) e56) km_X8_makeTwelve lk_X8_28 kv_X8_makeTwelve (ci := 6) rfl e60 rfl (by omega) (Nat.le_of_ble_eq_true rfl) (n_X8_makeTwelve e56) (Or.inl hle) ?_
            refine x_iload (v := (14 : Int32)) C dX8_ready_87 rfl ?_
            refine x_bipush C dX8_ready_89 kb_12 ?_
            refine x_iadd C dX8_ready_91 ?_
            refine x_istore C dX8_ready_92 (by decide) ?_
            obtain ⟨q57, e58, hf⟩ := j_bind hf
            have hle : j_le q57.2 q.2 := by
              obtain rfl := j_inj hf
              exact j_le_refl _
            refine x_loc [(0, .ref a0), (1, .int a1), (2, .int a2), (4, .ref v3), (5, .int (180 : Int32)), (7, .int ((14 : Int32) + (12 : Int32)))] rfl ?_
            refine x_loopA (s_X8_ready_L94 C hret hdd a0 a1 a2 v3 (180 : Int32)) (fun _ _ _ _ q => n_X8_ready_L94 q) e58 hle ?_
            refine x_aload (v := v3) C dX8_ready_157 rfl ?_
            obtain rfl := j_inj hf
            exact x_aret C hret (Or.inl ⟨_, rfl⟩) dX8_ready_159
        · have hf := j_ifn hf c125
          refine x_aload_n (v := a0) C dX8_ready_65 rfl ?_
          refine x_iload (v := (14 : Int32)) C dX8_ready_66 rfl ?_
          refine x_iload_n (v := a2) C dX8_ready_68 rfl ?_
          refine x_iload (v := (180 : Int32)) C dX8_ready_69 rfl ?_
          obtain ⟨u71, e72, hf⟩ := j_bind hf
          obtain ⟨q61, e62, hf⟩ := j_bind hf
          have hle : j_le q61.2 q.2 := by
            rcases j_ite hf with hf | hf
            ·
              obtain ⟨q63, e64, hf⟩ := j_bind hf
              refine j_le_trans ((jloop_le (fun _ _ _ _ q => n_X8_ready_L94 q) e64)) ?_
              obtain rfl := j_inj hf
              exact j_le_refl _
            ·
              obtain ⟨u69, e70, hf⟩ := j_bind hf
              obtain ⟨q65, e66, hf⟩ := j_bind hf
              refine j_le_trans (n_X8_makeTwelve e66) ?_
              obtain ⟨q67, e68, hf⟩ := j_bind hf
              refine j_le_trans ((jloop_le (fun _ _ _ _ q => n_X8_ready_L94 q) e68)) ?_
              obtain rfl := j_inj hf
              exact j_le_refl _
          refine x_callV (As := [.int (14 : Int32), .int a2, .int (180 : Int32)]) (rest := []) C dX8_ready_71 (m_X8_makeAlone (l := l) (E := E) (d := d - 1) (by omega) e62) km_X8_makeAlone lk_X8_24 kv_X8_makeAlone (ci := 6) rfl e72 rfl (by omega) (Nat.le_of_ble_eq_true rfl) (n_X8_makeAlone e62) (Or.inl hle) ?_
          refine x_iload (v := (14 : Int32)) C dX8_ready_74 rfl ?_
          refine x_iload_n (v := a1) C dX8_ready_76 rfl ?_
          refine x_icmp_ge (tgt := 87) C dX8_ready_77 (by decide) (fun c127 => ?_) (fun c127 => ?_)
          · have hf := j_ifp hf c127
            refine x_iload (v := (14 : Int32)) C dX8_ready_87 rfl ?_
            refine x_bipush C dX8_ready_89 kb_12 ?_
            refine x_iadd C dX8_ready_91 ?_
            refine x_istore C dX8_ready_92 (by decide) ?_
            obtain ⟨q63, e64, hf⟩ := j_bind hf
            have hle : j_le q63.2 q.2 := by
              obtain rfl := j_inj hf
              exact j_le_refl _
            refine x_loc [(0, .ref a0), (1, .int a1), (2, .int a2), (4, .ref v3), (5, .int (180 : Int32)), (7, .int ((14 : Int32) + (12 : Int32)))] rfl ?_
            refine x_loopA (s_X8_ready_L94 C hret hdd a0 a1 a2 v3 (180 : Int32)) (fun _ _ _ _ q => n_X8_ready_L94 q) e64 hle ?_
            refine x_aload (v := v3) C dX8_ready_157 rfl ?_
            obtain rfl := j_inj hf
            exact x_aret C hret (Or.inl ⟨_, rfl⟩) dX8_ready_159
          · have hf := j_ifn hf c127
            refine x_aload_n (v := a0) C dX8_ready_80 rfl ?_
            refine x_iload_n (v := a2) C dX8_ready_81 rfl ?_
            refine x_iload (v := (180 : Int32)) C dX8_ready_82 rfl ?_
            obtain ⟨u69, e70, hf⟩ := j_bind hf
            obtain ⟨q65, e66, hf⟩ := j_bind hf
            have hle : j_le q65.2 q.2 := by
              obtain ⟨q67, e68, hf⟩ := j_bind hf
              refine j_le_trans ((jloop_le (fun _ _ _ _ q => n_X8_ready_L94 q) e68)) ?_
              obtain rfl := j_inj hf
              exact j_le_refl _
            refine x_callV (As := [.int a2, .int (180 : Int32)]) (rest := []) C dX8_ready_84 (m_X8_makeTwelve (l := l) (E := E) (d := d - 1) (by omega) e66) km_X8_makeTwelve lk_X8_28 kv_X8_makeTwelve (ci := 6) rfl e70 rfl (by omega) (Nat.le_of_ble_eq_true rfl) (n_X8_makeTwelve e66) (Or.inl hle) ?_
            refine x_iload (v := (14 : Int32)) C dX8_ready_87 rfl ?_
            refine x_bipush C dX8_ready_89 kb_12 ?_
            refine x_iadd C dX8_ready_91 ?_
            refine x_istore C dX8_ready_92 (by decide) ?_
            obtain ⟨q67, e68, hf⟩ := j_bind hf
            have hle : j_le q67.2 q.2 := by
              obtain rfl := j_inj hf
              exact j_le_refl _
            refine x_loc [(0, .ref a0), (1, .int a1), (2, .int a2), (4, .ref v3), (5, .int (180 : Int32)), (7, .int ((14 : Int32) + (12 : Int32)))] rfl ?_
            refine x_loopA (s_X8_ready_L94 C hret hdd a0 a1 a2 v3 (180 : Int32)) (fun _ _ _ _ q => n_X8_ready_L94 q) e68 hle ?_
            refine x_aload (v := v3) C dX8_ready_157 rfl ?_
            obtain rfl := j_inj hf
            exact x_aret C hret (Or.inl ⟨_, rfl⟩) dX8_ready_159
    · have hf := j_ifn hf c120
      refine x_aload (v := v3) C dX8_ready_37 rfl ?_
      obtain rfl := j_inj hf
      exact x_aret C hret (Or.inl ⟨_, rfl⟩) dX8_ready_39
  · have hf := j_ifn hf c119
    refine x_bipush C dX8_ready_16 kb_36 ?_
    refine x_goto (tgt := 24) C dX8_ready_18 (by decide) ?_
    refine x_istore C dX8_ready_24 (by decide) ?_
    refine x_aload (v := v3) C dX8_ready_26 rfl ?_
    refine x_iload_n (v := a2) C dX8_ready_28 rfl ?_
    refine x_iload (v := (36 : Int32)) C dX8_ready_29 rfl ?_
    obtain ⟨u117, e118, hf⟩ := j_bind hf
    obtain ⟨q75, e76, hf⟩ := j_bind hf
    refine x_callV (As := [.int a2, .int (36 : Int32)]) (rest := []) C dX8_ready_31 (m_X7_isReady (l := l) (E := E) (d := d - 1) (by omega) e76) km_X7_isReady lk_X8_20 kv_X7_isReady (ci := 5) rfl e118 rfl (by omega) (Nat.le_of_ble_eq_true rfl) (j_le_of (q_X7_isReady e76)) (Or.inr (q_X7_isReady e76)) ?_
    refine x_if_eq (tgt := 40) C dX8_ready_34 (by decide) (fun c128 => ?_) (fun c128 => ?_)
    · have hf := j_ifp hf c128
      refine x_iload_n (v := a1) C dX8_ready_40 rfl ?_
      refine x_bipush C dX8_ready_41 kb_12 ?_
      refine x_irem C dX8_ready_43 (by decide) ?_
      refine x_iconst C dX8_ready_44 ki_2 ?_
      refine x_icmp_ne (tgt := 53) C dX8_ready_45 (by decide) (fun c129 => ?_) (fun c129 => ?_)
      · have hf := j_ifn hf c129
        refine x_iload_n (v := a1) C dX8_ready_53 rfl ?_
        refine x_bipush C dX8_ready_54 kb_12 ?_
        refine x_irem C dX8_ready_56 (by decide) ?_
        refine x_istore C dX8_ready_57 (by decide) ?_
        refine x_iload (v := jrem a1 (12 : Int32)) C dX8_ready_59 rfl ?_
        refine x_iload_n (v := a1) C dX8_ready_61 rfl ?_
        refine x_icmp_gt (tgt := 74) C dX8_ready_62 (by decide) (fun c130 => ?_) (fun c130 => ?_)
        · have hf := j_ifp hf c130
          refine x_iload (v := jrem a1 (12 : Int32)) C dX8_ready_74 rfl ?_
          refine x_iload_n (v := a1) C dX8_ready_76 rfl ?_
          refine x_icmp_ge (tgt := 87) C dX8_ready_77 (by decide) (fun c131 => ?_) (fun c131 => ?_)
          · have hf := j_ifp hf c131
            refine x_iload (v := jrem a1 (12 : Int32)) C dX8_ready_87 rfl ?_
            refine x_bipush C dX8_ready_89 kb_12 ?_
            refine x_iadd C dX8_ready_91 ?_
            refine x_istore C dX8_ready_92 (by decide) ?_
            obtain ⟨q77, e78, hf⟩ := j_bind hf
            have hle : j_le q77.2 q.2 := by
              obtain rfl := j_inj hf
              exact j_le_refl _
            refine x_loc [(0, .ref a0), (1, .int a1), (2, .int a2), (4, .ref v3), (5, .int (36 : Int32)), (7, .int ((jrem a1 (12 : Int32)) + (12 : Int32)))] rfl ?_
            refine x_loopA (s_X8_ready_L94 C hret hdd a0 a1 a2 v3 (36 : Int32)) (fun _ _ _ _ q => n_X8_ready_L94 q) e78 hle ?_
            refine x_aload (v := v3) C dX8_ready_157 rfl ?_
            obtain rfl := j_inj hf
            exact x_aret C hret (Or.inl ⟨_, rfl⟩) dX8_ready_159
          · have hf := j_ifn hf c131
            refine x_aload_n (v := a0) C dX8_ready_80 rfl ?_
            refine x_iload_n (v := a2) C dX8_ready_81 rfl ?_
            refine x_iload (v := (36 : Int32)) C dX8_ready_82 rfl ?_
            obtain ⟨u83, e84, hf⟩ := j_bind hf
            obtain ⟨q79, e80, hf⟩ := j_bind hf
            have hle : j_le q79.2 q.2 := by
              obtain ⟨q81, e82, hf⟩ := j_bind hf
              refine j_le_trans ((jloop_le (fun _ _ _ _ q => n_X8_ready_L94 q) e82)) ?_
              obtain rfl := j_inj hf
              exact j_le_refl _
            refine x_callV (As := [.int a2, .int (36 : Int32)]) (rest := []) C dX8_ready_84 (m_X8_makeTwelve (l := l) (E := E) (d := d - 1) (by omega) e80) km_X8_makeTwelve lk_X8_28 kv_X8_makeTwelve (ci := 6) rfl e84 rfl (by omega) (Nat.le_of_ble_eq_true rfl) (n_X8_makeTwelve e80) (Or.inl hle) ?_
            refine x_iload (v := jrem a1 (12 : Int32)) C dX8_ready_87 rfl ?_
            refine x_bipush C dX8_ready_89 kb_12 ?_
            refine x_iadd C dX8_ready_91 ?_
            refine x_istore C dX8_ready_92 (by decide) ?_
            obtain ⟨q81, e82, hf⟩ := j_bind hf
            have hle : j_le q81.2 q.2 := by
              obtain rfl := j_inj hf
              exact j_le_refl _
            refine x_loc [(0, .ref a0), (1, .int a1), (2, .int a2), (4, .ref v3), (5, .int (36 : Int32)), (7, .int ((jrem a1 (12 : Int32)) + (12 : Int32)))] rfl ?_
            refine x_loopA (s_X8_ready_L94 C hret hdd a0 a1 a2 v3 (36 : Int32)) (fun _ _ _ _ q => n_X8_ready_L94 q) e82 hle ?_
            refine x_aload (v := v3) C dX8_ready_157 rfl ?_
            obtain rfl := j_inj hf
            exact x_aret C hret (Or.inl ⟨_, rfl⟩) dX8_ready_159
        · have hf := j_ifn hf c130
          refine x_aload_n (v := a0) C dX8_ready_65 rfl ?_
          refine x_iload (v := jrem a1 (12 : Int32)) C dX8_ready_66 rfl ?_
          refine x_iload_n (v := a2) C dX8_ready_68 rfl ?_
          refine x_iload (v := (36 : Int32)) C dX8_ready_69 rfl ?_
          obtain ⟨u95, e96, hf⟩ := j_bind hf
          obtain ⟨q85, e86, hf⟩ := j_bind hf
          have hle : j_le q85.2 q.2 := by
            rcases j_ite hf with hf | hf
            ·
              obtain ⟨q87, e88, hf⟩ := j_bind hf
              refine j_le_trans ((jloop_le (fun _ _ _ _ q => n_X8_ready_L94 q) e88)) ?_
              obtain rfl := j_inj hf
              exact j_le_refl _
            ·
              obtain ⟨u93, e94, hf⟩ := j_bind hf
              obtain ⟨q89, e90, hf⟩ := j_bind hf
              refine j_le_trans (n_X8_makeTwelve e90) ?_
              obtain ⟨q91, e92, hf⟩ := j_bind hf
              refine j_le_trans ((jloop_le (fun _ _ _ _ q => n_X8_ready_L94 q) e92)) ?_
              obtain rfl := j_inj hf
              exact j_le_refl _
          refine x_callV (As := [.int (jrem a1 (12 : Int32)), .int a2, .int (36 : Int32)]) (rest := []) C dX8_ready_71 (m_X8_makeAlone (l := l) (E := E) (d := d - 1) (by omega) e86) km_X8_makeAlone lk_X8_24 kv_X8_makeAlone (ci := 6) rfl e96 rfl (by omega) (Nat.le_of_ble_eq_true rfl) (n_X8_makeAlone e86) (Or.inl hle) ?_
          refine x_iload (v := jrem a1 (12 : Int32)) C dX8_ready_74 rfl ?_
          refine x_iload_n (v := a1) C dX8_ready_76 rfl ?_
          refine x_icmp_ge (tgt := 87) C dX8_ready_77 (by decide) (fun c132 => ?_) (fun c132 => ?_)
          · have hf := j_ifp hf c132
            refine x_iload (v := jrem a1 (12 : Int32)) C dX8_ready_87 rfl ?_
            refine x_bipush C dX8_ready_89 kb_12 ?_
            refine x_iadd C dX8_ready_91 ?_
            refine x_istore C dX8_ready_92 (by decide) ?_
            obtain ⟨q87, e88, hf⟩ := j_bind hf
            have hle : j_le q87.2 q.2 := by
              obtain rfl := j_inj hf
              exact j_le_refl _
            refine x_loc [(0, .ref a0), (1, .int a1), (2, .int a2), (4, .ref v3), (5, .int (36 : Int32)), (7, .int ((jrem a1 (12 : Int32)) + (12 : Int32)))] rfl ?_
            refine x_loopA (s_X8_ready_L94 C hret hdd a0 a1 a2 v3 (36 : Int32)) (fun _ _ _ _ q => n_X8_ready_L94 q) e88 hle ?_
            refine x_aload (v := v3) C dX8_ready_157 rfl ?_
            obtain rfl := j_inj hf
            exact x_aret C hret (Or.inl ⟨_, rfl⟩) dX8_ready_159
          · have hf := j_ifn hf c132
            refine x_aload_n (v := a0) C dX8_ready_80 rfl ?_
            refine x_iload_n (v := a2) C dX8_ready_81 rfl ?_
            refine x_iload (v := (36 : Int32)) C dX8_ready_82 rfl ?_
            obtain ⟨u93, e94, hf⟩ := j_bind hf
            obtain ⟨q89, e90, hf⟩ := j_bind hf
            have hle : j_le q89.2 q.2 := by
              obtain ⟨q91, e92, hf⟩ := j_bind hf
              refine j_le_trans ((jloop_le (fun _ _ _ _ q => n_X8_ready_L94 q) e92)) ?_
              obtain rfl := j_inj hf
              exact j_le_refl _
            refine x_callV (As := [.int a2, .int (36 : Int32)]) (rest := []) C dX8_ready_84 (m_X8_makeTwelve (l := l) (E := E) (d := d - 1) (by omega) e90) km_X8_makeTwelve lk_X8_28 kv_X8_makeTwelve (ci := 6) rfl e94 rfl (by omega) (Nat.le_of_ble_eq_true rfl) (n_X8_makeTwelve e90) (Or.inl hle) ?_
            refine x_iload (v := jrem a1 (12 : Int32)) C dX8_ready_87 rfl ?_
            refine x_bipush C dX8_ready_89 kb_12 ?_
            refine x_iadd C dX8_ready_91 ?_
            refine x_istore C dX8_ready_92 (by decide) ?_
            obtain ⟨q91, e92, hf⟩ := j_bind hf
            have hle : j_le q91.2 q.2 := by
              obtain rfl := j_inj hf
              exact j_le_refl _
            refine x_loc [(0, .ref a0), (1, .int a1), (2, .int a2), (4, .ref v3), (5, .int (36 : Int32)), (7, .int ((jrem a1 (12 : Int32)) + (12 : Int32)))] rfl ?_
            refine x_loopA (s_X8_ready_L94 C hret hdd a0 a1 a2 v3 (36 : Int32)) (fun _ _ _ _ q => n_X8_ready_L94 q) e92 hle ?_
            refine x_aload (v := v3) C dX8_ready_157 rfl ?_
            obtain rfl := j_inj hf
            exact x_aret C hret (Or.inl ⟨_, rfl⟩) dX8_ready_159
      · have hf := j_ifp hf c129
        refine x_bipush C dX8_ready_48 kb_14 ?_
        refine x_goto (tgt := 57) C dX8_ready_50 (by decide) ?_
        refine x_istore C dX8_ready_57 (by decide) ?_
        refine x_iload (v := (14 : Int32)) C dX8_ready_59 rfl ?_
        refine x_iload_n (v := a1) C dX8_ready_61 rfl ?_
        refine x_icmp_gt (tgt := 74) C dX8_ready_62 (by decide) (fun c133 => ?_) (fun c133 => ?_)
        · have hf := j_ifp hf c133
          refine x_iload (v := (14 : Int32)) C dX8_ready_74 rfl ?_
          refine x_iload_n (v := a1) C dX8_ready_76 rfl ?_
          refine x_icmp_ge (tgt := 87) C dX8_ready_77 (by decide) (fun c134 => ?_) (fun c134 => ?_)
          · have hf := j_ifp hf c134
            refine x_iload (v := (14 : Int32)) C dX8_ready_87 rfl ?_
            refine x_bipush C dX8_ready_89 kb_12 ?_
            refine x_iadd C dX8_ready_91 ?_
            refine x_istore C dX8_ready_92 (by decide) ?_
            obtain ⟨q97, e98, hf⟩ := j_bind hf
            have hle : j_le q97.2 q.2 := by
              obtain rfl := j_inj hf
              exact j_le_refl _
            refine x_loc [(0, .ref a0), (1, .int a1), (2, .int a2), (4, .ref v3), (5, .int (36 : Int32)), (7, .int ((14 : Int32) + (12 : Int32)))] rfl ?_
            refine x_loopA (s_X8_ready_L94 C hret hdd a0 a1 a2 v3 (36 : Int32)) (fun _ _ _ _ q => n_X8_ready_L94 q) e98 hle ?_
            refine x_aload (v := v3) C dX8_ready_157 rfl ?_
            obtain rfl := j_inj hf
            exact x_aret C hret (Or.inl ⟨_, rfl⟩) dX8_ready_159
          · have hf := j_ifn hf c134
            refine x_aload_n (v := a0) C dX8_ready_80 rfl ?_
            refine x_iload_n (v := a2) C dX8_ready_81 rfl ?_
            refine x_iload (v := (36 : Int32)) C dX8_ready_82 rfl ?_
            obtain ⟨u103, e104, hf⟩ := j_bind hf
            obtain ⟨q99, e100, hf⟩ := j_bind hf
            have hle : j_le q99.2 q.2 := by
              obtain ⟨q101, e102, hf⟩ := j_bind hf
              refine j_le_trans ((jloop_le (fun _ _ _ _ q => n_X8_ready_L94 q) e102)) ?_
              obtain rfl := j_inj hf
              exact j_le_refl _
            refine x_callV (As := [.int a2, .int (36 : Int32)]) (rest := []) C dX8_ready_84 (m_X8_makeTwelve (l := l) (E := E) (d := d - 1) (by omega) e100) km_X8_makeTwelve lk_X8_28 kv_X8_makeTwelve (ci := 6) rfl e104 rfl (by omega) (Nat.le_of_ble_eq_true rfl) (n_X8_makeTwelve e100) (Or.inl hle) ?_
            refine x_iload (v := (14 : Int32)) C dX8_ready_87 rfl ?_
            refine x_bipush C dX8_ready_89 kb_12 ?_
            refine x_iadd C dX8_ready_91 ?_
            refine x_istore C dX8_ready_92 (by decide) ?_
            obtain ⟨q101, e102, hf⟩ := j_bind hf
            have hle : j_le q101.2 q.2 := by
              obtain rfl := j_inj hf
              exact j_le_refl _
            refine x_loc [(0, .ref a0), (1, .int a1), (2, .int a2), (4, .ref v3), (5, .int (36 : Int32)), (7, .int ((14 : Int32) + (12 : Int32)))] rfl ?_
            refine x_loopA (s_X8_ready_L94 C hret hdd a0 a1 a2 v3 (36 : Int32)) (fun _ _ _ _ q => n_X8_ready_L94 q) e102 hle ?_
            refine x_aload (v := v3) C dX8_ready_157 rfl ?_
            obtain rfl := j_inj hf
            exact x_aret C hret (Or.inl ⟨_, rfl⟩) dX8_ready_159
        · have hf := j_ifn hf c133
          refine x_aload_n (v := a0) C dX8_ready_65 rfl ?_
          refine x_iload (v := (14 : Int32)) C dX8_ready_66 rfl ?_
          refine x_iload_n (v := a2) C dX8_ready_68 rfl ?_
          refine x_iload (v := (36 : Int32)) C dX8_ready_69 rfl ?_
          obtain ⟨u115, e116, hf⟩ := j_bind hf
          obtain ⟨q105, e106, hf⟩ := j_bind hf
          have hle : j_le q105.2 q.2 := by
            rcases j_ite hf with hf | hf
            ·
              obtain ⟨q107, e108, hf⟩ := j_bind hf
              refine j_le_trans ((jloop_le (fun _ _ _ _ q => n_X8_ready_L94 q) e108)) ?_
              obtain rfl := j_inj hf
              exact j_le_refl _
            ·
              obtain ⟨u113, e114, hf⟩ := j_bind hf
              obtain ⟨q109, e110, hf⟩ := j_bind hf
              refine j_le_trans (n_X8_makeTwelve e110) ?_
              obtain ⟨q111, e112, hf⟩ := j_bind hf
              refine j_le_trans ((jloop_le (fun _ _ _ _ q => n_X8_ready_L94 q) e112)) ?_
              obtain rfl := j_inj hf
              exact j_le_refl _
          refine x_callV (As := [.int (14 : Int32), .int a2, .int (36 : Int32)]) (rest := []) C dX8_ready_71 (m_X8_makeAlone (l := l) (E := E) (d := d - 1) (by omega) e106) km_X8_makeAlone lk_X8_24 kv_X8_makeAlone (ci := 6) rfl e116 rfl (by omega) (Nat.le_of_ble_eq_true rfl) (n_X8_makeAlone e106) (Or.inl hle) ?_
          refine x_iload (v := (14 : Int32)) C dX8_ready_74 rfl ?_
          refine x_iload_n (v := a1) C dX8_ready_76 rfl ?_
          refine x_icmp_ge (tgt := 87) C dX8_ready_77 (by decide) (fun c135 => ?_) (fun c135 => ?_)
          · have hf := j_ifp hf c135
            refine x_iload (v := (14 : Int32)) C dX8_ready_87 rfl ?_
            refine x_bipush C dX8_ready_89 kb_12 ?_
            refine x_iadd C dX8_ready_91 ?_
            refine x_istore C dX8_ready_92 (by decide) ?_
            obtain ⟨q107, e108, hf⟩ := j_bind hf
            have hle : j_le q107.2 q.2 := by
              obtain rfl := j_inj hf
              exact j_le_refl _
            refine x_loc [(0, .ref a0), (1, .int a1), (2, .int a2), (4, .ref v3), (5, .int (36 : Int32)), (7, .int ((14 : Int32) + (12 : Int32)))] rfl ?_
            refine x_loopA (s_X8_ready_L94 C hret hdd a0 a1 a2 v3 (36 : Int32)) (fun _ _ _ _ q => n_X8_ready_L94 q) e108 hle ?_
            refine x_aload (v := v3) C dX8_ready_157 rfl ?_
            obtain rfl := j_inj hf
            exact x_aret C hret (Or.inl ⟨_, rfl⟩) dX8_ready_159
          · have hf := j_ifn hf c135
            refine x_aload_n (v := a0) C dX8_ready_80 rfl ?_
            refine x_iload_n (v := a2) C dX8_ready_81 rfl ?_
            refine x_iload (v := (36 : Int32)) C dX8_ready_82 rfl ?_
            obtain ⟨u113, e114, hf⟩ := j_bind hf
            obtain ⟨q109, e110, hf⟩ := j_bind hf
            have hle : j_le q109.2 q.2 := by
              obtain ⟨q111, e112, hf⟩ := j_bind hf
              refine j_le_trans ((jloop_le (fun _ _ _ _ q => n_X8_ready_L94 q) e112)) ?_
              obtain rfl := j_inj hf
              exact j_le_refl _
            refine x_callV (As := [.int a2, .int (36 : Int32)]) (rest := []) C dX8_ready_84 (m_X8_makeTwelve (l := l) (E := E) (d := d - 1) (by omega) e110) km_X8_makeTwelve lk_X8_28 kv_X8_makeTwelve (ci := 6) rfl e114 rfl (by omega) (Nat.le_of_ble_eq_true rfl) (n_X8_makeTwelve e110) (Or.inl hle) ?_
            refine x_iload (v := (14 : Int32)) C dX8_ready_87 rfl ?_
            refine x_bipush C dX8_ready_89 kb_12 ?_
            refine x_iadd C dX8_ready_91 ?_
            refine x_istore C dX8_ready_92 (by decide) ?_
            obtain ⟨q111, e112, hf⟩ := j_bind hf
            have hle : j_le q111.2 q.2 := by
              obtain rfl := j_inj hf
              exact j_le_refl _
            refine x_loc [(0, .ref a0), (1, .int a1), (2, .int a2), (4, .ref v3), (5, .int (36 : Int32)), (7, .int ((14 : Int32) + (12 : Int32)))] rfl ?_
            refine x_loopA (s_X8_ready_L94 C hret hdd a0 a1 a2 v3 (36 : Int32)) (fun _ _ _ _ q => n_X8_ready_L94 q) e112 hle ?_
            refine x_aload (v := v3) C dX8_ready_157 rfl ?_
            obtain rfl := j_inj hf
            exact x_aret C hret (Or.inl ⟨_, rfl⟩) dX8_ready_159
    · have hf := j_ifn hf c128
      refine x_aload (v := v3) C dX8_ready_37 rfl ?_
      obtain rfl := j_inj hf
      exact x_aret C hret (Or.inl ⟨_, rfl⟩) dX8_ready_39
set_option maxHeartbeats 4000000 in
set_option maxRecDepth 100000 in
theorem m_X11_isWeight {l : Launch} {E : JE} {d : Nat} (hdd : 0 ≤ d) {a0 : Int32} {h : JH} {q : Int32 × JH} (hf : f_X11_isWeight a0 h = some q) : Con l E d yX11_isWeight cX11_isWeight 1 (some .boolean) [.int a0] h (some (.int q.1)) q.2 := by
  refine j_start rfl (Nat.le_of_ble_eq_true rfl) ?_
  intro p e s m args below meth c C hret hnm
  refine x_loc [(0, .int a0)] rfl ?_
  unfold f_X11_isWeight at hf
  refine x_iload_n (v := a0) C dX11_isWeight_0 rfl ?_
  refine x_if_lt (tgt := 20) C dX11_isWeight_1 (by decide) (fun c1 => ?_) (fun c1 => ?_)
  · have hf := j_ifp hf c1
    refine x_iconst C dX11_isWeight_20 ki_0 ?_
    obtain rfl := j_inj hf
    exact x_zret C hret (Or.inl rfl) dX11_isWeight_21
  · have hf := j_ifn hf c1
    refine x_iload_n (v := a0) C dX11_isWeight_4 rfl ?_
    refine x_bipush C dX11_isWeight_5 kb_60 ?_
    refine x_icmp_gt (tgt := 20) C dX11_isWeight_7 (by decide) (fun c2 => ?_) (fun c2 => ?_)
    · have hf := j_ifp hf c2
      refine x_iconst C dX11_isWeight_20 ki_0 ?_
      obtain rfl := j_inj hf
      exact x_zret C hret (Or.inl rfl) dX11_isWeight_21
    · have hf := j_ifn hf c2
      refine x_iload_n (v := a0) C dX11_isWeight_10 rfl ?_
      refine x_iconst C dX11_isWeight_11 ki_2 ?_
      refine x_irem C dX11_isWeight_12 (by decide) ?_
      refine x_if_ne (tgt := 20) C dX11_isWeight_13 (by decide) (fun c3 => ?_) (fun c3 => ?_)
      · have hf := j_ifn hf c3
        refine x_iconst C dX11_isWeight_20 ki_0 ?_
        obtain rfl := j_inj hf
        exact x_zret C hret (Or.inl rfl) dX11_isWeight_21
      · have hf := j_ifp hf c3
        refine x_iconst C dX11_isWeight_16 ki_1 ?_
        refine x_goto (tgt := 21) C dX11_isWeight_17 (by decide) ?_
        obtain rfl := j_inj hf
        exact x_zret C hret (Or.inr rfl) dX11_isWeight_21
set_option maxHeartbeats 4000000 in
set_option maxRecDepth 100000 in
theorem m_X10_isAsked {l : Launch} {E : JE} {d : Nat} (hdd : 1 ≤ d) {a0 : Int32} {a1 : Int32} {h : JH} {q : Int32 × JH} (hf : f_X10_isAsked a0 a1 h = some q) : Con l E d yX10_isAsked cX10_isAsked 2 (some .boolean) [.int a0, .int a1] h (some (.int q.1)) q.2 := by
  refine j_start rfl (Nat.le_of_ble_eq_true rfl) ?_
  intro p e s m args below meth c C hret hnm
  refine x_loc [(0, .int a0), (1, .int a1)] rfl ?_
  unfold f_X10_isAsked at hf
  refine x_iload_n (v := a0) C dX10_isAsked_0 rfl ?_
  obtain ⟨q1, e2, hf⟩ := j_bind hf
  refine x_callSN (As := [.int a0]) (rest := []) C dX10_isAsked_1 (m_X11_isWeight (l := l) (E := E) (d := d - 1) (by omega) e2) km_X11_isWeight lk_X10_9 ks_X11_isWeight rfl (by omega) (Nat.le_of_ble_eq_true rfl) (j_le_of (q_X11_isWeight e2)) (Or.inr (q_X11_isWeight e2)) ?_
  refine x_if_eq (tgt := 27) C dX10_isAsked_4 (by decide) (fun c3 => ?_) (fun c3 => ?_)
  · have hf := j_ifp hf c3
    refine x_iconst C dX10_isAsked_27 ki_0 ?_
    obtain rfl := j_inj hf
    exact x_zret C hret (Or.inl rfl) dX10_isAsked_28
  · have hf := j_ifn hf c3
    refine x_iload_n (v := a0) C dX10_isAsked_7 rfl ?_
    refine x_iconst C dX10_isAsked_8 ki_4 ?_
    refine x_icmp_lt (tgt := 27) C dX10_isAsked_9 (by decide) (fun c4 => ?_) (fun c4 => ?_)
    · have hf := j_ifp hf c4
      refine x_iconst C dX10_isAsked_27 ki_0 ?_
      obtain rfl := j_inj hf
      exact x_zret C hret (Or.inl rfl) dX10_isAsked_28
    · have hf := j_ifn hf c4
      refine x_iload_n (v := a1) C dX10_isAsked_12 rfl ?_
      refine x_iconst C dX10_isAsked_13 ki_1 ?_
      refine x_icmp_lt (tgt := 27) C dX10_isAsked_14 (by decide) (fun c5 => ?_) (fun c5 => ?_)
      · have hf := j_ifp hf c5
        refine x_iconst C dX10_isAsked_27 ki_0 ?_
        obtain rfl := j_inj hf
        exact x_zret C hret (Or.inl rfl) dX10_isAsked_28
      · have hf := j_ifn hf c5
        refine x_iload_n (v := a1) C dX10_isAsked_17 rfl ?_
        refine x_bipush C dX10_isAsked_18 kb_60 ?_
        refine x_icmp_gt (tgt := 27) C dX10_isAsked_20 (by decide) (fun c6 => ?_) (fun c6 => ?_)
        · have hf := j_ifp hf c6
          refine x_iconst C dX10_isAsked_27 ki_0 ?_
          obtain rfl := j_inj hf
          exact x_zret C hret (Or.inl rfl) dX10_isAsked_28
        · have hf := j_ifn hf c6
          refine x_iconst C dX10_isAsked_23 ki_1 ?_
          refine x_goto (tgt := 28) C dX10_isAsked_24 (by decide) ?_
          obtain rfl := j_inj hf
          exact x_zret C hret (Or.inr rfl) dX10_isAsked_28
set_option maxHeartbeats 4000000 in
set_option maxRecDepth 100000 in
theorem m_X10_add {l : Launch} {E : JE} {d : Nat} (hdd : 0 ≤ d) {a0 : Int64} {a2 : Int64} {h : JH} {q : Int64 × JH} (hf : f_X10_add a0 a2 h = some q) : Con l E d yX10_add cX10_add 4 (some .long) [.long a0, .long a2] h (some (.long q.1)) q.2 := by
  refine j_start rfl (Nat.le_of_ble_eq_true rfl) ?_
  intro p e s m args below meth c C hret hnm
  refine x_loc [(0, .long a0), (2, .long a2)] rfl ?_
  unfold f_X10_add at hf
  refine x_lload_n (v := a0) C dX10_add_0 rfl ?_
  refine x_ldc2 C dX10_add_1 cn_X10_49 ?_
  refine x_lcmp C dX10_add_4 ?_
  refine x_if_eq (tgt := 16) C dX10_add_5 (by decide) (fun c1 => ?_) (fun c1 => ?_)
  · have hf := j_ifp hf c1
    refine x_ldc2 C dX10_add_16 cn_X10_49 ?_
    obtain rfl := j_inj hf
    exact x_lret C hret dX10_add_19
  · have hf := j_ifn hf c1
    refine x_lload_n (v := a2) C dX10_add_8 rfl ?_
    refine x_ldc2 C dX10_add_9 cn_X10_49 ?_
    refine x_lcmp C dX10_add_12 ?_
    refine x_if_ne (tgt := 20) C dX10_add_13 (by decide) (fun c2 => ?_) (fun c2 => ?_)
    · have hf := j_ifn hf c2
      refine x_lload_n (v := a0) C dX10_add_20 rfl ?_
      refine x_lload_n (v := a2) C dX10_add_21 rfl ?_
      refine x_ladd C dX10_add_22 ?_
      refine x_ldc2 C dX10_add_23 cn_X10_53 ?_
      refine x_lcmp C dX10_add_26 ?_
      refine x_if_gt (tgt := 40) C dX10_add_27 (by decide) (fun c3 => ?_) (fun c3 => ?_)
      · have hf := j_ifp hf c3
        refine x_ldc2 C dX10_add_40 cn_X10_49 ?_
        refine x_goto (tgt := 49) C dX10_add_43 (by decide) ?_
        obtain rfl := j_inj hf
        exact x_lret C hret dX10_add_49
      · have hf := j_ifn hf c3
        refine x_lload_n (v := a0) C dX10_add_30 rfl ?_
        refine x_lload_n (v := a2) C dX10_add_31 rfl ?_
        refine x_ladd C dX10_add_32 ?_
        refine x_ldc2 C dX10_add_33 cn_X10_55 ?_
        refine x_lcmp C dX10_add_36 ?_
        refine x_if_ge (tgt := 46) C dX10_add_37 (by decide) (fun c4 => ?_) (fun c4 => ?_)
        · have hf := j_ifp hf c4
          refine x_lload_n (v := a0) C dX10_add_46 rfl ?_
          refine x_lload_n (v := a2) C dX10_add_47 rfl ?_
          refine x_ladd C dX10_add_48 ?_
          obtain rfl := j_inj hf
          exact x_lret C hret dX10_add_49
        · have hf := j_ifn hf c4
          refine x_ldc2 C dX10_add_40 cn_X10_49 ?_
          refine x_goto (tgt := 49) C dX10_add_43 (by decide) ?_
          obtain rfl := j_inj hf
          exact x_lret C hret dX10_add_49
    · have hf := j_ifp hf c2
      refine x_ldc2 C dX10_add_16 cn_X10_49 ?_
      obtain rfl := j_inj hf
      exact x_lret C hret dX10_add_19
set_option maxHeartbeats 4000000 in
set_option maxRecDepth 100000 in
theorem m_X10_multiply {l : Launch} {E : JE} {d : Nat} (hdd : 1 ≤ d) {a0 : Int64} {a2 : Int64} {h : JH} {q : Int64 × JH} (hf : f_X10_multiply a0 a2 h = some q) : Con l E d yX10_multiply cX10_multiply 4 (some .long) [.long a0, .long a2] h (some (.long q.1)) q.2 := by
  refine j_start rfl (Nat.le_of_ble_eq_true rfl) ?_
  intro p e s m args below meth c C hret hnm
  refine x_loc [(0, .long a0), (2, .long a2)] rfl ?_
  unfold f_X10_multiply at hf
  refine x_lload_n (v := a0) C dX10_multiply_0 rfl ?_
  refine x_ldc2 C dX10_multiply_1 cn_X10_49 ?_
  refine x_lcmp C dX10_multiply_4 ?_
  refine x_if_eq (tgt := 16) C dX10_multiply_5 (by decide) (fun c3 => ?_) (fun c3 => ?_)
  · have hf := j_ifp hf c3
    refine x_ldc2 C dX10_multiply_16 cn_X10_49 ?_
    obtain rfl := j_inj hf
    exact x_lret C hret dX10_multiply_19
  · have hf := j_ifn hf c3
    refine x_lload_n (v := a2) C dX10_multiply_8 rfl ?_
    refine x_ldc2 C dX10_multiply_9 cn_X10_49 ?_
    refine x_lcmp C dX10_multiply_12 ?_
    refine x_if_ne (tgt := 20) C dX10_multiply_13 (by decide) (fun c4 => ?_) (fun c4 => ?_)
    · have hf := j_ifn hf c4
      refine x_lload_n (v := a2) C dX10_multiply_20 rfl ?_
      refine x_lconst C dX10_multiply_21 kl_0 ?_
      refine x_lcmp C dX10_multiply_22 ?_
      refine x_if_ne (tgt := 28) C dX10_multiply_23 (by decide) (fun c5 => ?_) (fun c5 => ?_)
      · have hf := j_ifn hf c5
        refine x_lload_n (v := a0) C dX10_multiply_28 rfl ?_
        refine x_mabs C dX10_multiply_29 ⟨lk_X10_57, w_abs⟩ (by omega) (Nat.le_of_ble_eq_true rfl) ?_
        refine x_ldc2 C dX10_multiply_32 cn_X10_53 ?_
        refine x_lload_n (v := a2) C dX10_multiply_35 rfl ?_
        refine x_mabs C dX10_multiply_36 ⟨lk_X10_57, w_abs⟩ (by omega) (Nat.le_of_ble_eq_true rfl) ?_
        obtain ⟨u1, e2, hf⟩ := j_bind hf
        refine x_ldiv C dX10_multiply_39 (jnzL_some e2) ?_
        refine x_lcmp C dX10_multiply_40 ?_
        refine x_if_le (tgt := 50) C dX10_multiply_41 (by decide) (fun c6 => ?_) (fun c6 => ?_)
        · have hf := j_ifp hf c6
          refine x_lload_n (v := a0) C dX10_multiply_50 rfl ?_
          refine x_lload_n (v := a2) C dX10_multiply_51 rfl ?_
          refine x_lmul C dX10_multiply_52 ?_
          obtain rfl := j_inj hf
          exact x_lret C hret dX10_multiply_53
        · have hf := j_ifn hf c6
          refine x_ldc2 C dX10_multiply_44 cn_X10_49 ?_
          refine x_goto (tgt := 53) C dX10_multiply_47 (by decide) ?_
          obtain rfl := j_inj hf
          exact x_lret C hret dX10_multiply_53
      · have hf := j_ifp hf c5
        refine x_lconst C dX10_multiply_26 kl_0 ?_
        obtain rfl := j_inj hf
        exact x_lret C hret dX10_multiply_27
    · have hf := j_ifp hf c4
      refine x_ldc2 C dX10_multiply_16 cn_X10_49 ?_
      obtain rfl := j_inj hf
      exact x_lret C hret dX10_multiply_19
set_option maxHeartbeats 4000000 in
set_option maxRecDepth 100000 in
theorem s_X10_exactPower_L5 {p : Program} {l : Launch} {e : Env} {R : Room} {s : State} {m : MethodId} {args : Array Value} {below : List Frame} {meth : Method} {c : Code} {E : JE} {h0 hF : JH} {rF : Option Value} {d : Nat} (C : j_C p s m args meth c R E cX10_exactPower 5 RX10 h0 hF d) (hret : meth.sig.returnType = (some .long)) (hdd : 2 ≤ d) (a0 : Int32) (a1 : Int32) (z : (Int64 × Int32)) (h : JH) (r : (Int64 × Int32) ⊕ (Int64 × Int32)) (h1 : JH) (hf : f_X10_exactPower_L5 a0 a1 z h = some (r, h1)) (hk : Sum.elim (fun z => Xw p l e R s m args below meth c E 5 h0 rF hF 5 [(0, .int a0), (1, .int a1), (2, .long z.1), (4, .int z.2)] [] h1) (fun t => Xw p l e R s m args below meth c E 5 h0 rF hF 24 [(0, .int a0), (1, .int a1), (2, .long t.1), (4, .int t.2)] [] h1) r) : Xw p l e R s m args below meth c E 5 h0 rF hF 5 [(0, .int a0), (1, .int a1), (2, .long z.1), (4, .int z.2)] [] h := by
  unfold f_X10_exactPower_L5 at hf
  refine x_iload (v := z.2) C dX10_exactPower_5 rfl ?_
  refine x_iload_n (v := a1) C dX10_exactPower_7 rfl ?_
  refine x_icmp_ge (tgt := 24) C dX10_exactPower_8 (by decide) (fun c3 => ?_) (fun c3 => ?_)
  · have hf := j_ifp hf c3
    obtain ⟨rfl, rfl⟩ := j_inj2 hf
    exact x_locr hk rfl
  · have hf := j_ifn hf c3
    refine x_lload_n (v := z.1) C dX10_exactPower_11 rfl ?_
    refine x_iload_n (v := a0) C dX10_exactPower_12 rfl ?_
    refine x_i2l C dX10_exactPower_13 ?_
    obtain ⟨q1, e2, hf⟩ := j_bind hf
    refine x_callS (As := [.long z.1, .long a0.toInt64]) (rest := []) C dX10_exactPower_14 (m_X10_multiply (l := l) (E := E) (d := d - 1) (by omega) e2) km_X10_multiply lk_X10_30 ks_X10_multiply rfl (by omega) (Nat.le_of_ble_eq_true rfl) (j_le_of (q_X10_multiply e2)) (Or.inr (q_X10_multiply e2)) ?_
    refine x_lstore_n C dX10_exactPower_17 (by decide) ?_
    refine x_iinc (v := z.2) C dX10_exactPower_18 rfl ki_1 (by decide) ?_
    refine x_goto (tgt := 5) C dX10_exactPower_21 (by decide) ?_
    obtain ⟨rfl, rfl⟩ := j_inj2 hf
    exact x_locr hk rfl
set_option maxHeartbeats 4000000 in
set_option maxRecDepth 100000 in
theorem m_X10_exactPower {l : Launch} {E : JE} {d : Nat} (hdd : 2 ≤ d) {a0 : Int32} {a1 : Int32} {h : JH} {q : Int64 × JH} (hf : f_X10_exactPower a0 a1 h = some q) : Con l E d yX10_exactPower cX10_exactPower 5 (some .long) [.int a0, .int a1] h (some (.long q.1)) q.2 := by
  refine j_start rfl (Nat.le_of_ble_eq_true rfl) ?_
  intro p e s m args below meth c C hret hnm
  refine x_loc [(0, .int a0), (1, .int a1)] rfl ?_
  unfold f_X10_exactPower at hf
  refine x_lconst C dX10_exactPower_0 kl_1 ?_
  refine x_lstore_n C dX10_exactPower_1 (by decide) ?_
  refine x_iconst C dX10_exactPower_2 ki_0 ?_
  refine x_istore C dX10_exactPower_3 (by decide) ?_
  obtain ⟨q4, e5, hf⟩ := j_bind hf
  refine x_loc [(0, .int a0), (1, .int a1), (2, .long (1 : Int64)), (4, .int (0 : Int32))] rfl ?_
  refine x_loop (s_X10_exactPower_L5 C hret hdd a0 a1) e5 ?_
  refine x_lload_n (v := q4.1.1) C dX10_exactPower_24 rfl ?_
  obtain rfl := j_inj hf
  exact x_lret C hret dX10_exactPower_25
set_option maxHeartbeats 4000000 in
set_option maxRecDepth 100000 in
theorem s_X10_exactQ_L9 {p : Program} {l : Launch} {e : Env} {R : Room} {s : State} {m : MethodId} {args : Array Value} {below : List Frame} {meth : Method} {c : Code} {E : JE} {h0 hF : JH} {rF : Option Value} {d : Nat} (C : j_C p s m args meth c R E cX10_exactQ 10 RX10 h0 hF d) (hret : meth.sig.returnType = (some .long)) (hdd : 2 ≤ d) (a0 : Int32) (a1 : Int32) (a2 : Int32) (z : (Int64 × Int64 × Int32)) (h : JH) (r : (Int64 × Int64 × Int32) ⊕ (Int64 × Int64 × Int32)) (h1 : JH) (hf : f_X10_exactQ_L9 a0 a1 a2 z h = some (r, h1)) (hk : Sum.elim (fun z => Xw p l e R s m args below meth c E 10 h0 rF hF 9 [(0, .int a0), (1, .int a1), (2, .int a2), (3, .long z.1), (5, .long z.2.1), (7, .int z.2.2)] [] h1) (fun t => Xw p l e R s m args below meth c E 10 h0 rF hF 47 [(0, .int a0), (1, .int a1), (2, .int a2), (3, .long t.1), (5, .long t.2.1), (7, .int t.2.2)] [] h1) r) : Xw p l e R s m args below meth c E 10 h0 rF hF 9 [(0, .int a0), (1, .int a1), (2, .int a2), (3, .long z.1), (5, .long z.2.1), (7, .int z.2.2)] [] h := by
  unfold f_X10_exactQ_L9 at hf
  refine x_iload (v := z.2.2) C dX10_exactQ_9 rfl ?_
  refine x_iload_n (v := a0) C dX10_exactQ_11 rfl ?_
  refine x_icmp_gt (tgt := 47) C dX10_exactQ_12 (by decide) (fun c7 => ?_) (fun c7 => ?_)
  · have hf := j_ifp hf c7
    obtain ⟨rfl, rfl⟩ := j_inj2 hf
    exact x_locr hk rfl
  · have hf := j_ifn hf c7
    refine x_iload_n (v := a1) C dX10_exactQ_15 rfl ?_
    refine x_i2l C dX10_exactQ_16 ?_
    refine x_lload (v := z.2.1) C dX10_exactQ_17 rfl ?_
    obtain ⟨q1, e2, hf⟩ := j_bind hf
    refine x_callS (As := [.long a1.toInt64, .long z.2.1]) (rest := []) C dX10_exactQ_19 (m_X10_multiply (l := l) (E := E) (d := d - 1) (by omega) e2) km_X10_multiply lk_X10_30 ks_X10_multiply rfl (by omega) (Nat.le_of_ble_eq_true rfl) (j_le_of (q_X10_multiply e2)) (Or.inr (q_X10_multiply e2)) ?_
    refine x_iload_n (v := a2) C dX10_exactQ_22 rfl ?_
    refine x_ineg C dX10_exactQ_23 ?_
    refine x_i2l C dX10_exactQ_24 ?_
    refine x_lload_n (v := z.1) C dX10_exactQ_25 rfl ?_
    obtain ⟨q3, e4, hf⟩ := j_bind hf
    refine x_callS (As := [.long ((-a2).toInt64), .long z.1]) (rest := [.long q1.1]) C dX10_exactQ_26 (m_X10_multiply (l := l) (E := E) (d := d - 1) (by omega) e4) km_X10_multiply lk_X10_30 ks_X10_multiply rfl (by omega) (Nat.le_of_ble_eq_true rfl) (j_le_of (q_X10_multiply e4)) (Or.inr (q_X10_multiply e4)) ?_
    obtain ⟨q5, e6, hf⟩ := j_bind hf
    refine x_callS (As := [.long q1.1, .long q3.1]) (rest := []) C dX10_exactQ_29 (m_X10_add (l := l) (E := E) (d := d - 1) (by omega) e6) km_X10_add lk_X10_34 ks_X10_add rfl (by omega) (Nat.le_of_ble_eq_true rfl) (j_le_of (q_X10_add e6)) (Or.inr (q_X10_add e6)) ?_
    refine x_lstore C dX10_exactQ_32 (by decide) ?_
    refine x_lload (v := z.2.1) C dX10_exactQ_34 rfl ?_
    refine x_lstore_n C dX10_exactQ_36 (by decide) ?_
    refine x_lload (v := q5.1) C dX10_exactQ_37 rfl ?_
    refine x_lstore C dX10_exactQ_39 (by decide) ?_
    refine x_iinc (v := z.2.2) C dX10_exactQ_41 rfl ki_1 (by decide) ?_
    refine x_goto (tgt := 9) C dX10_exactQ_44 (by decide) ?_
    obtain ⟨rfl, rfl⟩ := j_inj2 hf
    exact x_locr hk rfl
set_option maxHeartbeats 4000000 in
set_option maxRecDepth 100000 in
theorem m_X10_exactQ {l : Launch} {E : JE} {d : Nat} (hdd : 2 ≤ d) {a0 : Int32} {a1 : Int32} {a2 : Int32} {h : JH} {q : Int64 × JH} (hf : f_X10_exactQ a0 a1 a2 h = some q) : Con l E d yX10_exactQ cX10_exactQ 10 (some .long) [.int a0, .int a1, .int a2] h (some (.long q.1)) q.2 := by
  refine j_start rfl (Nat.le_of_ble_eq_true rfl) ?_
  intro p e s m args below meth c C hret hnm
  refine x_loc [(0, .int a0), (1, .int a1), (2, .int a2)] rfl ?_
  unfold f_X10_exactQ at hf
  refine x_lconst C dX10_exactQ_0 kl_1 ?_
  refine x_lstore_n C dX10_exactQ_1 (by decide) ?_
  refine x_iload_n (v := a1) C dX10_exactQ_2 rfl ?_
  refine x_i2l C dX10_exactQ_3 ?_
  refine x_lstore C dX10_exactQ_4 (by decide) ?_
  refine x_iconst C dX10_exactQ_6 ki_4 ?_
  refine x_istore C dX10_exactQ_7 (by decide) ?_
  obtain ⟨q8, e9, hf⟩ := j_bind hf
  refine x_loc [(0, .int a0), (1, .int a1), (2, .int a2), (3, .long (1 : Int64)), (5, .long a1.toInt64), (7, .int (4 : Int32))] rfl ?_
  refine x_loop (s_X10_exactQ_L9 C hret hdd a0 a1 a2) e9 ?_
  refine x_lload (v := q8.1.2.1) C dX10_exactQ_47 rfl ?_
  obtain rfl := j_inj hf
  exact x_lret C hret dX10_exactQ_49
set_option maxHeartbeats 4000000 in
set_option maxRecDepth 100000 in
theorem s_X10_reachOf_L4 {p : Program} {l : Launch} {e : Env} {R : Room} {s : State} {m : MethodId} {args : Array Value} {below : List Frame} {meth : Method} {c : Code} {E : JE} {h0 hF : JH} {rF : Option Value} {d : Nat} (C : j_C p s m args meth c R E cX10_reachOf 3 RX10 h0 hF d) (hret : meth.sig.returnType = (some .int)) (hdd : 0 ≤ d) (a0 : Int32) (z : (Int32 × Int32)) (h : JH) (r : (Int32 × Int32) ⊕ (Int32 × Int32)) (h1 : JH) (hf : f_X10_reachOf_L4 a0 z h = some (r, h1)) (hk : Sum.elim (fun z => Xw p l e R s m args below meth c E 3 h0 rF hF 4 [(0, .int a0), (1, .int z.1), (2, .int z.2)] [] h1) (fun t => Xw p l e R s m args below meth c E 3 h0 rF hF 21 [(0, .int a0), (1, .int t.1), (2, .int t.2)] [] h1) r) : Xw p l e R s m args below meth c E 3 h0 rF hF 4 [(0, .int a0), (1, .int z.1), (2, .int z.2)] [] h := by
  unfold f_X10_reachOf_L4 at hf
  refine x_iload_n (v := z.2) C dX10_reachOf_4 rfl ?_
  refine x_iload_n (v := z.2) C dX10_reachOf_5 rfl ?_
  refine x_imul C dX10_reachOf_6 ?_
  refine x_iconst C dX10_reachOf_7 ki_4 ?_
  refine x_iload_n (v := a0) C dX10_reachOf_8 rfl ?_
  refine x_imul C dX10_reachOf_9 ?_
  refine x_icmp_gt (tgt := 21) C dX10_reachOf_10 (by decide) (fun c1 => ?_) (fun c1 => ?_)
  · have hf := j_ifp hf c1
    obtain ⟨rfl, rfl⟩ := j_inj2 hf
    exact x_locr hk rfl
  · have hf := j_ifn hf c1
    refine x_iload_n (v := z.2) C dX10_reachOf_13 rfl ?_
    refine x_istore_n C dX10_reachOf_14 (by decide) ?_
    refine x_iinc (v := z.2) C dX10_reachOf_15 rfl ki_1 (by decide) ?_
    refine x_goto (tgt := 4) C dX10_reachOf_18 (by decide) ?_
    obtain ⟨rfl, rfl⟩ := j_inj2 hf
    exact x_locr hk rfl
set_option maxHeartbeats 4000000 in
set_option maxRecDepth 100000 in
theorem m_X10_reachOf {l : Launch} {E : JE} {d : Nat} (hdd : 0 ≤ d) {a0 : Int32} {h : JH} {q : Int32 × JH} (hf : f_X10_reachOf a0 h = some q) : Con l E d yX10_reachOf cX10_reachOf 3 (some .int) [.int a0] h (some (.int q.1)) q.2 := by
  refine j_start rfl (Nat.le_of_ble_eq_true rfl) ?_
  intro p e s m args below meth c C hret hnm
  refine x_loc [(0, .int a0)] rfl ?_
  unfold f_X10_reachOf at hf
  refine x_iconst C dX10_reachOf_0 ki_0 ?_
  refine x_istore_n C dX10_reachOf_1 (by decide) ?_
  refine x_iconst C dX10_reachOf_2 ki_1 ?_
  refine x_istore_n C dX10_reachOf_3 (by decide) ?_
  obtain ⟨q2, e3, hf⟩ := j_bind hf
  refine x_loc [(0, .int a0), (1, .int (0 : Int32)), (2, .int (1 : Int32))] rfl ?_
  refine x_loop (s_X10_reachOf_L4 C hret hdd a0) e3 ?_
  refine x_iload_n (v := q2.1.1) C dX10_reachOf_21 rfl ?_
  obtain rfl := j_inj hf
  exact x_iret C hret dX10_reachOf_22
set_option maxHeartbeats 4000000 in
set_option maxRecDepth 100000 in
theorem s_X10_exact_L13 {p : Program} {l : Launch} {e : Env} {R : Room} {s : State} {m : MethodId} {args : Array Value} {below : List Frame} {meth : Method} {c : Code} {E : JE} {h0 hF : JH} {rF : Option Value} {d : Nat} (C : j_C p s m args meth c R E cX10_exact 8 RX10 h0 hF d) (hret : meth.sig.returnType = (some .long)) (hdd : 3 ≤ d) (a0 : Int32) (a1 : Int32) (a4 : Int32) (z : (Int64 × Int32)) (h : JH) (r : (Int64 × Int32) ⊕ (Int64 × Int32)) (h1 : JH) (hf : f_X10_exact_L13 a0 a1 a4 z h = some (r, h1)) (hk : Sum.elim (fun z => Xw p l e R s m args below meth c E 8 h0 rF hF 13 [(0, .int a0), (1, .int a1), (2, .long z.1), (4, .int a4), (5, .int z.2)] [] h1) (fun t => Xw p l e R s m args below meth c E 8 h0 rF hF 58 [(0, .int a0), (1, .int a1), (2, .long t.1), (4, .int a4), (5, .int t.2)] [] h1) r) : Xw p l e R s m args below meth c E 8 h0 rF hF 13 [(0, .int a0), (1, .int a1), (2, .long z.1), (4, .int a4), (5, .int z.2)] [] h := by
  unfold f_X10_exact_L13 at hf
  refine x_iload (v := z.2) C dX10_exact_13 rfl ?_
  refine x_iload (v := a4) C dX10_exact_15 rfl ?_
  refine x_icmp_gt (tgt := 58) C dX10_exact_17 (by decide) (fun c11 => ?_) (fun c11 => ?_)
  · have hf := j_ifp hf c11
    obtain ⟨rfl, rfl⟩ := j_inj2 hf
    exact x_locr hk rfl
  · have hf := j_ifn hf c11
    refine x_iconst C dX10_exact_20 ki_4 ?_
    refine x_iload_n (v := a1) C dX10_exact_21 rfl ?_
    refine x_imul C dX10_exact_22 ?_
    refine x_iload (v := z.2) C dX10_exact_23 rfl ?_
    refine x_iload (v := z.2) C dX10_exact_25 rfl ?_
    refine x_imul C dX10_exact_27 ?_
    refine x_isub C dX10_exact_28 ?_
    obtain ⟨q3, e4, hf⟩ := j_bind hf
    refine x_callS (As := [.int (((4 : Int32) * a1) - (z.2 * z.2))]) (rest := []) C dX10_exact_29 (m_X1_inTwelfths (l := l) (E := E) (d := d - 1) (by omega) e4) km_X1_inTwelfths lk_X10_21 ks_X1_inTwelfths rfl (by omega) (Nat.le_of_ble_eq_true rfl) (j_le_of (q_X1_inTwelfths e4)) (Or.inr (q_X1_inTwelfths e4)) ?_
    refine x_i2l C dX10_exact_32 ?_
    refine x_lstore C dX10_exact_33 (by decide) ?_
    refine x_lload_n (v := z.1) C dX10_exact_35 rfl ?_
    refine x_iload_n (v := a0) C dX10_exact_36 rfl ?_
    refine x_iload (v := z.2) C dX10_exact_37 rfl ?_
    refine x_iload_n (v := a1) C dX10_exact_39 rfl ?_
    obtain ⟨q5, e6, hf⟩ := j_bind hf
    refine x_callS (As := [.int a0, .int z.2, .int a1]) (rest := [.long z.1]) C dX10_exact_40 (m_X10_exactQ (l := l) (E := E) (d := d - 1) (by omega) e6) km_X10_exactQ lk_X10_26 ks_X10_exactQ rfl (by omega) (Nat.le_of_ble_eq_true rfl) (j_le_of (q_X10_exactQ e6)) (Or.inr (q_X10_exactQ e6)) ?_
    refine x_lload (v := q3.1.toInt64) C dX10_exact_43 rfl ?_
    obtain ⟨q7, e8, hf⟩ := j_bind hf
    refine x_callS (As := [.long q5.1, .long q3.1.toInt64]) (rest := [.long z.1]) C dX10_exact_45 (m_X10_multiply (l := l) (E := E) (d := d - 1) (by omega) e8) km_X10_multiply lk_X10_30 ks_X10_multiply rfl (by omega) (Nat.le_of_ble_eq_true rfl) (j_le_of (q_X10_multiply e8)) (Or.inr (q_X10_multiply e8)) ?_
    obtain ⟨q9, e10, hf⟩ := j_bind hf
    refine x_callS (As := [.long z.1, .long q7.1]) (rest := []) C dX10_exact_48 (m_X10_add (l := l) (E := E) (d := d - 1) (by omega) e10) km_X10_add lk_X10_34 ks_X10_add rfl (by omega) (Nat.le_of_ble_eq_true rfl) (j_le_of (q_X10_add e10)) (Or.inr (q_X10_add e10)) ?_
    refine x_lstore_n C dX10_exact_51 (by decide) ?_
    refine x_iinc (v := z.2) C dX10_exact_52 rfl ki_1 (by decide) ?_
    refine x_goto (tgt := 13) C dX10_exact_55 (by decide) ?_
    obtain ⟨rfl, rfl⟩ := j_inj2 hf
    exact x_locr hk rfl
set_option maxHeartbeats 4000000 in
set_option maxRecDepth 100000 in
theorem s_X10_exact_L61 {p : Program} {l : Launch} {e : Env} {R : Room} {s : State} {m : MethodId} {args : Array Value} {below : List Frame} {meth : Method} {c : Code} {E : JE} {h0 hF : JH} {rF : Option Value} {d : Nat} (C : j_C p s m args meth c R E cX10_exact 8 RX10 h0 hF d) (hret : meth.sig.returnType = (some .long)) (hdd : 3 ≤ d) (a0 : Int32) (a1 : Int32) (z : (Int64 × Int32)) (h : JH) (r : (Int64 × Int32) ⊕ (Int64 × Int32)) (h1 : JH) (hf : f_X10_exact_L61 a0 a1 z h = some (r, h1)) (hk : Sum.elim (fun z => Xw p l e R s m args below meth c E 8 h0 rF hF 61 [(0, .int a0), (1, .int a1), (2, .long z.1), (5, .int z.2)] [] h1) (fun t => Xw p l e R s m args below meth c E 8 h0 rF hF 106 [(0, .int a0), (1, .int a1), (2, .long t.1), (5, .int t.2)] [] h1) r) : Xw p l e R s m args below meth c E 8 h0 rF hF 61 [(0, .int a0), (1, .int a1), (2, .long z.1), (5, .int z.2)] [] h := by
  unfold f_X10_exact_L61 at hf
  refine x_iload (v := z.2) C dX10_exact_61 rfl ?_
  refine x_iload_n (v := a1) C dX10_exact_63 rfl ?_
  refine x_icmp_gt (tgt := 106) C dX10_exact_64 (by decide) (fun c24 => ?_) (fun c24 => ?_)
  · have hf := j_ifp hf c24
    obtain ⟨rfl, rfl⟩ := j_inj2 hf
    exact x_locr hk rfl
  · have hf := j_ifn hf c24
    refine x_iload_n (v := a1) C dX10_exact_67 rfl ?_
    refine x_iload (v := z.2) C dX10_exact_68 rfl ?_
    obtain ⟨u14, e15, hf⟩ := j_bind hf
    refine x_irem C dX10_exact_70 (jnz_some e15) ?_
    refine x_if_ne (tgt := 100) C dX10_exact_71 (by decide) (fun c25 => ?_) (fun c25 => ?_)
    · have hf := j_ifn hf c25
      refine x_iinc (v := z.2) C dX10_exact_100 rfl ki_1 (by decide) ?_
      refine x_goto (tgt := 61) C dX10_exact_103 (by decide) ?_
      obtain ⟨rfl, rfl⟩ := j_inj2 hf
      exact x_locr hk rfl
    · have hf := j_ifp hf c25
      refine x_lload_n (v := z.1) C dX10_exact_74 rfl ?_
      refine x_iload (v := z.2) C dX10_exact_75 rfl ?_
      refine x_iload_n (v := a1) C dX10_exact_77 rfl ?_
      refine x_iload (v := z.2) C dX10_exact_78 rfl ?_
      obtain ⟨u16, e17, hf⟩ := j_bind hf
      refine x_idiv C dX10_exact_80 (jnz_some e17) ?_
      refine x_mmin C dX10_exact_81 ⟨lk_X10_37, w_min⟩ (by omega) (Nat.le_of_ble_eq_true rfl) ?_
      refine x_iload_n (v := a0) C dX10_exact_84 rfl ?_
      refine x_iconst C dX10_exact_85 ki_1 ?_
      refine x_isub C dX10_exact_86 ?_
      obtain ⟨q18, e19, hf⟩ := j_bind hf
      refine x_callS (As := [.int (if (a1 / z.2) < z.2 then (a1 / z.2) else z.2), .int (a0 - (1 : Int32))]) (rest := [.long z.1]) C dX10_exact_87 (m_X10_exactPower (l := l) (E := E) (d := d - 1) (by omega) e19) km_X10_exactPower lk_X10_43 ks_X10_exactPower rfl (by omega) (Nat.le_of_ble_eq_true rfl) (j_le_of (q_X10_exactPower e19)) (Or.inr (q_X10_exactPower e19)) ?_
      refine x_ldc2 C dX10_exact_90 cn_X10_47 ?_
      obtain ⟨q20, e21, hf⟩ := j_bind hf
      refine x_callS (As := [.long q18.1, .long (12 : Int64)]) (rest := [.long z.1]) C dX10_exact_93 (m_X10_multiply (l := l) (E := E) (d := d - 1) (by omega) e21) km_X10_multiply lk_X10_30 ks_X10_multiply rfl (by omega) (Nat.le_of_ble_eq_true rfl) (j_le_of (q_X10_multiply e21)) (Or.inr (q_X10_multiply e21)) ?_
      obtain ⟨q22, e23, hf⟩ := j_bind hf
      refine x_callS (As := [.long z.1, .long q20.1]) (rest := []) C dX10_exact_96 (m_X10_add (l := l) (E := E) (d := d - 1) (by omega) e23) km_X10_add lk_X10_34 ks_X10_add rfl (by omega) (Nat.le_of_ble_eq_true rfl) (j_le_of (q_X10_add e23)) (Or.inr (q_X10_add e23)) ?_
      refine x_lstore_n C dX10_exact_99 (by decide) ?_
      refine x_iinc (v := z.2) C dX10_exact_100 rfl ki_1 (by decide) ?_
      refine x_goto (tgt := 61) C dX10_exact_103 (by decide) ?_
      obtain ⟨rfl, rfl⟩ := j_inj2 hf
      exact x_locr hk rfl
set_option maxHeartbeats 4000000 in
set_option maxRecDepth 100000 in
theorem m_X10_exact {l : Launch} {E : JE} {d : Nat} (hdd : 3 ≤ d) {a0 : Int32} {a1 : Int32} {h : JH} {q : Int64 × JH} (hf : f_X10_exact a0 a1 h = some q) : Con l E d yX10_exact cX10_exact 8 (some .long) [.int a0, .int a1] h (some (.long q.1)) q.2 := by
  refine j_start rfl (Nat.le_of_ble_eq_true rfl) ?_
  intro p e s m args below meth c C hret hnm
  refine x_loc [(0, .int a0), (1, .int a1)] rfl ?_
  unfold f_X10_exact at hf
  refine x_lconst C dX10_exact_0 kl_0 ?_
  refine x_lstore_n C dX10_exact_1 (by decide) ?_
  refine x_iload_n (v := a1) C dX10_exact_2 rfl ?_
  obtain ⟨q1, e2, hf⟩ := j_bind hf
  refine x_callS (As := [.int a1]) (rest := []) C dX10_exact_3 (m_X10_reachOf (l := l) (E := E) (d := d - 1) (by omega) e2) km_X10_reachOf lk_X10_17 ks_X10_reachOf rfl (by omega) (Nat.le_of_ble_eq_true rfl) (j_le_of (q_X10_reachOf e2)) (Or.inr (q_X10_reachOf e2)) ?_
  refine x_istore C dX10_exact_6 (by decide) ?_
  refine x_iload (v := q1.1) C dX10_exact_8 rfl ?_
  refine x_ineg C dX10_exact_10 ?_
  refine x_istore C dX10_exact_11 (by decide) ?_
  obtain ⟨q12, e13, hf⟩ := j_bind hf
  refine x_loc [(0, .int a0), (1, .int a1), (2, .long (0 : Int64)), (4, .int q1.1), (5, .int (-q1.1))] rfl ?_
  refine x_loop (s_X10_exact_L13 C hret hdd a0 a1 q1.1) e13 ?_
  refine x_iconst C dX10_exact_58 ki_1 ?_
  refine x_istore C dX10_exact_59 (by decide) ?_
  obtain ⟨q26, e27, hf⟩ := j_bind hf
  refine x_loc [(0, .int a0), (1, .int a1), (2, .long q12.1.1), (5, .int (1 : Int32))] rfl ?_
  refine x_loop (s_X10_exact_L61 C hret hdd a0 a1) e27 ?_
  refine x_lload_n (v := q26.1.1) C dX10_exact_106 rfl ?_
  refine x_ldc2 C dX10_exact_107 cn_X10_49 ?_
  refine x_lcmp C dX10_exact_110 ?_
  refine x_if_ne (tgt := 120) C dX10_exact_111 (by decide) (fun c28 => ?_) (fun c28 => ?_)
  · have hf := j_ifn hf c28
    refine x_lload_n (v := q26.1.1) C dX10_exact_120 rfl ?_
    refine x_lneg C dX10_exact_121 ?_
    refine x_ldc2 C dX10_exact_122 cn_X10_51 ?_
    refine x_ldiv C dX10_exact_125 (by decide) ?_
    obtain rfl := j_inj hf
    exact x_lret C hret dX10_exact_126
  · have hf := j_ifp hf c28
    refine x_ldc2 C dX10_exact_114 cn_X10_49 ?_
    refine x_goto (tgt := 126) C dX10_exact_117 (by decide) ?_
    obtain rfl := j_inj hf
    exact x_lret C hret dX10_exact_126
