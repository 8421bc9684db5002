set_option maxHeartbeats 4000000 in
set_option maxRecDepth 100000 in
theorem s_X10_leftQ_L14 {p : Program} {l : Launch} {e : Env} {R : Room} {s : State} {m : MethodId} {args : Array Value} {below : List Frame} {meth : Method} {c : Code} {E : JE} {h0 hF : JH} {rF : Option Value} {d : Nat} (C : j_C p s m args meth c R E cX10_leftQ 8 RX10 h0 hF d) (hret : meth.sig.returnType = (some .int)) (hdd : 1 ≤ d) (a0 : Int32) (a1 : Int32) (a2 : Int32) (a3 : Int32) (z : (Int32 × Int32 × Int32)) (h : JH) (r : (Int32 × Int32 × Int32) ⊕ (Int32 × Int32 × Int32)) (h1 : JH) (hf : f_X10_leftQ_L14 a0 a1 a2 a3 z h = some (r, h1)) (hk : Sum.elim (fun z => Xw p l e R s m args below meth c E 8 h0 rF hF 14 [(0, .int a0), (1, .int a1), (2, .int a2), (3, .int a3), (4, .int z.1), (5, .int z.2.1), (6, .int z.2.2)] [] h1) (fun t => Xw p l e R s m args below meth c E 8 h0 rF hF 53 [(0, .int a0), (1, .int a1), (2, .int a2), (3, .int a3), (4, .int t.1), (5, .int t.2.1), (6, .int t.2.2)] [] h1) r) : Xw p l e R s m args below meth c E 8 h0 rF hF 14 [(0, .int a0), (1, .int a1), (2, .int a2), (3, .int a3), (4, .int z.1), (5, .int z.2.1), (6, .int z.2.2)] [] h := by
  unfold f_X10_leftQ_L14 at hf
  refine x_iload (v := z.2.2) C dX10_leftQ_14 rfl ?_
  refine x_iload_n (v := a0) C dX10_leftQ_16 rfl ?_
  refine x_icmp_gt (tgt := 53) C dX10_leftQ_17 (by decide) (fun c5 => ?_) (fun c5 => ?_)
  · have hf := j_ifp hf c5
    obtain ⟨rfl, rfl⟩ := j_inj2 hf
    exact x_locr hk rfl
  · have hf := j_ifn hf c5
    refine x_iload_n (v := a1) C dX10_leftQ_20 rfl ?_
    refine x_i2l C dX10_leftQ_21 ?_
    refine x_iload (v := z.2.1) C dX10_leftQ_22 rfl ?_
    refine x_i2l C dX10_leftQ_24 ?_
    refine x_lmul C dX10_leftQ_25 ?_
    refine x_iload_n (v := a2) C dX10_leftQ_26 rfl ?_
    refine x_i2l C dX10_leftQ_27 ?_
    refine x_iload (v := z.1) C dX10_leftQ_28 rfl ?_
    refine x_i2l C dX10_leftQ_30 ?_
    refine x_lmul C dX10_leftQ_31 ?_
    refine x_lsub C dX10_leftQ_32 ?_
    refine x_iload_n (v := a3) C dX10_leftQ_33 rfl ?_
    obtain ⟨q3, e4, hf⟩ := j_bind hf
    refine x_callS (As := [.long ((a1.toInt64 * z.2.1.toInt64) - (a2.toInt64 * z.1.toInt64)), .int a3]) (rest := []) C dX10_leftQ_34 (m_X4_of (l := l) (E := E) (d := d - 1) (by omega) e4) km_X4_of lk_X10_71 ks_X4_of rfl (by omega) (Nat.le_of_ble_eq_true rfl) (j_le_of (q_X4_of e4)) (Or.inr (q_X4_of e4)) ?_
    refine x_istore C dX10_leftQ_37 (by decide) ?_
    refine x_iload (v := z.2.1) C dX10_leftQ_39 rfl ?_
    refine x_istore C dX10_leftQ_41 (by decide) ?_
    refine x_iload (v := q3.1) C dX10_leftQ_43 rfl ?_
    refine x_istore C dX10_leftQ_45 (by decide) ?_
    refine x_iinc (v := z.2.2) C dX10_leftQ_47 rfl ki_1 (by decide) ?_
    refine x_goto (tgt := 14) C dX10_leftQ_50 (by decide) ?_
    obtain ⟨rfl, rfl⟩ := j_inj2 hf
    exact x_locr hk rfl
set_option maxHeartbeats 4000000 in
set_option maxRecDepth 100000 in
theorem m_X10_leftQ {l : Launch} {E : JE} {d : Nat} (hdd : 1 ≤ d) {a0 : Int32} {a1 : Int32} {a2 : Int32} {a3 : Int32} {h : JH} {q : Int32 × JH} (hf : f_X10_leftQ a0 a1 a2 a3 h = some q) : Con l E d yX10_leftQ cX10_leftQ 8 (some .int) [.int a0, .int a1, .int a2, .int a3] h (some (.int q.1)) q.2 := by
  refine j_start rfl (Nat.le_of_ble_eq_true rfl) ?_
  intro p e s m args below meth c C hret hnm
  refine x_loc [(0, .int a0), (1, .int a1), (2, .int a2), (3, .int a3)] rfl ?_
  unfold f_X10_leftQ at hf
  refine x_iconst C dX10_leftQ_0 ki_1 ?_
  refine x_istore C dX10_leftQ_1 (by decide) ?_
  refine x_iload_n (v := a1) C dX10_leftQ_3 rfl ?_
  refine x_i2l C dX10_leftQ_4 ?_
  refine x_iload_n (v := a3) C dX10_leftQ_5 rfl ?_
  obtain ⟨q1, e2, hf⟩ := j_bind hf
  refine x_callS (As := [.long a1.toInt64, .int a3]) (rest := []) C dX10_leftQ_6 (m_X4_of (l := l) (E := E) (d := d - 1) (by omega) e2) km_X4_of lk_X10_71 ks_X4_of rfl (by omega) (Nat.le_of_ble_eq_true rfl) (j_le_of (q_X4_of e2)) (Or.inr (q_X4_of e2)) ?_
  refine x_istore C dX10_leftQ_9 (by decide) ?_
  refine x_iconst C dX10_leftQ_11 ki_4 ?_
  refine x_istore C dX10_leftQ_12 (by decide) ?_
  obtain ⟨q6, e7, hf⟩ := j_bind hf
  refine x_loc [(0, .int a0), (1, .int a1), (2, .int a2), (3, .int a3), (4, .int (1 : Int32)), (5, .int q1.1), (6, .int (4 : Int32))] rfl ?_
  refine x_loop (s_X10_leftQ_L14 C hret hdd a0 a1 a2 a3) e7 ?_
  refine x_iload (v := q6.1.2.1) C dX10_leftQ_53 rfl ?_
  obtain rfl := j_inj hf
  exact x_iret C hret dX10_leftQ_55
set_option maxHeartbeats 4000000 in
set_option maxRecDepth 100000 in
theorem s_X10_left_L13 {p : Program} {l : Launch} {e : Env} {R : Room} {s : State} {m : MethodId} {args : Array Value} {below : List Frame} {meth : Method} {c : Code} {E : JE} {h0 hF : JH} {rF : Option Value} {d : Nat} (C : j_C p s m args meth c R E cX10_left 7 RX10 h0 hF d) (hret : meth.sig.returnType = (some .int)) (hdd : 3 ≤ d) (a0 : Int32) (a1 : Int32) (a2 : Int32) (a5 : Int32) (z : (Int64 × Int32)) (h : JH) (r : (Int64 × Int32) ⊕ (Int64 × Int32)) (h1 : JH) (hf : f_X10_left_L13 a0 a1 a2 a5 z h = some (r, h1)) (hk : Sum.elim (fun z => Xw p l e R s m args below meth c E 7 h0 rF hF 13 [(0, .int a0), (1, .int a1), (2, .int a2), (3, .long z.1), (5, .int a5), (6, .int z.2)] [] h1) (fun t => Xw p l e R s m args below meth c E 7 h0 rF hF 52 [(0, .int a0), (1, .int a1), (2, .int a2), (3, .long t.1), (5, .int a5), (6, .int t.2)] [] h1) r) : Xw p l e R s m args below meth c E 7 h0 rF hF 13 [(0, .int a0), (1, .int a1), (2, .int a2), (3, .long z.1), (5, .int a5), (6, .int z.2)] [] h := by
  unfold f_X10_left_L13 at hf
  refine x_iload (v := z.2) C dX10_left_13 rfl ?_
  refine x_iload (v := a5) C dX10_left_15 rfl ?_
  refine x_icmp_gt (tgt := 52) C dX10_left_17 (by decide) (fun c7 => ?_) (fun c7 => ?_)
  · have hf := j_ifp hf c7
    obtain ⟨rfl, rfl⟩ := j_inj2 hf
    exact x_locr hk rfl
  · have hf := j_ifn hf c7
    refine x_lload_n (v := z.1) C dX10_left_20 rfl ?_
    refine x_iload_n (v := a0) C dX10_left_21 rfl ?_
    refine x_iload (v := z.2) C dX10_left_22 rfl ?_
    refine x_iload_n (v := a1) C dX10_left_24 rfl ?_
    refine x_iload_n (v := a2) C dX10_left_25 rfl ?_
    obtain ⟨q3, e4, hf⟩ := j_bind hf
    refine x_callS (As := [.int a0, .int z.2, .int a1, .int a2]) (rest := [.long z.1]) C dX10_left_26 (m_X10_leftQ (l := l) (E := E) (d := d - 1) (by omega) e4) km_X10_leftQ lk_X10_61 ks_X10_leftQ rfl (by omega) (Nat.le_of_ble_eq_true rfl) (j_le_of (q_X10_leftQ e4)) (Or.inr (q_X10_leftQ e4)) ?_
    refine x_i2l C dX10_left_29 ?_
    refine x_iconst C dX10_left_30 ki_4 ?_
    refine x_iload_n (v := a1) C dX10_left_31 rfl ?_
    refine x_imul C dX10_left_32 ?_
    refine x_iload (v := z.2) C dX10_left_33 rfl ?_
    refine x_iload (v := z.2) C dX10_left_35 rfl ?_
    refine x_imul C dX10_left_37 ?_
    refine x_isub C dX10_left_38 ?_
    obtain ⟨q5, e6, hf⟩ := j_bind hf
    refine x_callS (As := [.int (((4 : Int32) * a1) - (z.2 * z.2))]) (rest := [.long q3.1.toInt64, .long z.1]) C dX10_left_39 (m_X1_inTwelfths (l := l) (E := E) (d := d - 1) (by omega) e6) km_X1_inTwelfths lk_X10_21 ks_X1_inTwelfths rfl (by omega) (Nat.le_of_ble_eq_true rfl) (j_le_of (q_X1_inTwelfths e6)) (Or.inr (q_X1_inTwelfths e6)) ?_
    refine x_i2l C dX10_left_42 ?_
    refine x_lmul C dX10_left_43 ?_
    refine x_ladd C dX10_left_44 ?_
    refine x_lstore_n C dX10_left_45 (by decide) ?_
    refine x_iinc (v := z.2) C dX10_left_46 rfl ki_1 (by decide) ?_
    refine x_goto (tgt := 13) C dX10_left_49 (by decide) ?_
    obtain ⟨rfl, rfl⟩ := j_inj2 hf
    exact x_locr hk rfl
set_option maxHeartbeats 4000000 in
set_option maxRecDepth 100000 in
theorem s_X10_left_L55 {p : Program} {l : Launch} {e : Env} {R : Room} {s : State} {m : MethodId} {args : Array Value} {below : List Frame} {meth : Method} {c : Code} {E : JE} {h0 hF : JH} {rF : Option Value} {d : Nat} (C : j_C p s m args meth c R E cX10_left 7 RX10 h0 hF d) (hret : meth.sig.returnType = (some .int)) (hdd : 3 ≤ d) (a0 : Int32) (a1 : Int32) (a2 : Int32) (z : (Int64 × Int32)) (h : JH) (r : (Int64 × Int32) ⊕ (Int64 × Int32)) (h1 : JH) (hf : f_X10_left_L55 a0 a1 a2 z h = some (r, h1)) (hk : Sum.elim (fun z => Xw p l e R s m args below meth c E 7 h0 rF hF 55 [(0, .int a0), (1, .int a1), (2, .int a2), (3, .long z.1), (6, .int z.2)] [] h1) (fun t => Xw p l e R s m args below meth c E 7 h0 rF hF 98 [(0, .int a0), (1, .int a1), (2, .int a2), (3, .long t.1), (6, .int t.2)] [] h1) r) : Xw p l e R s m args below meth c E 7 h0 rF hF 55 [(0, .int a0), (1, .int a1), (2, .int a2), (3, .long z.1), (6, .int z.2)] [] h := by
  unfold f_X10_left_L55 at hf
  refine x_iload (v := z.2) C dX10_left_55 rfl ?_
  refine x_iload_n (v := a1) C dX10_left_57 rfl ?_
  refine x_icmp_gt (tgt := 98) C dX10_left_58 (by decide) (fun c16 => ?_) (fun c16 => ?_)
  · have hf := j_ifp hf c16
    obtain ⟨rfl, rfl⟩ := j_inj2 hf
    exact x_locr hk rfl
  · have hf := j_ifn hf c16
    refine x_iload_n (v := a1) C dX10_left_61 rfl ?_
    refine x_iload (v := z.2) C dX10_left_62 rfl ?_
    obtain ⟨u10, e11, hf⟩ := j_bind hf
    refine x_irem C dX10_left_64 (jnz_some e11) ?_
    refine x_if_ne (tgt := 92) C dX10_left_65 (by decide) (fun c17 => ?_) (fun c17 => ?_)
    · have hf := j_ifn hf c17
      refine x_iinc (v := z.2) C dX10_left_92 rfl ki_1 (by decide) ?_
      refine x_goto (tgt := 55) C dX10_left_95 (by decide) ?_
      obtain ⟨rfl, rfl⟩ := j_inj2 hf
      exact x_locr hk rfl
    · have hf := j_ifp hf c17
      refine x_lload_n (v := z.1) C dX10_left_68 rfl ?_
      refine x_ldc2 C dX10_left_69 cn_X10_47 ?_
      refine x_iload (v := z.2) C dX10_left_72 rfl ?_
      refine x_iload_n (v := a1) C dX10_left_74 rfl ?_
      refine x_iload (v := z.2) C dX10_left_75 rfl ?_
      obtain ⟨u12, e13, hf⟩ := j_bind hf
      refine x_idiv C dX10_left_77 (jnz_some e13) ?_
      refine x_mmin C dX10_left_78 ⟨lk_X10_37, w_min⟩ (by omega) (Nat.le_of_ble_eq_true rfl) ?_
      refine x_iload_n (v := a0) C dX10_left_81 rfl ?_
      refine x_iconst C dX10_left_82 ki_1 ?_
      refine x_isub C dX10_left_83 ?_
      refine x_iload_n (v := a2) C dX10_left_84 rfl ?_
      obtain ⟨q14, e15, hf⟩ := j_bind hf
      refine x_callS (As := [.int (if (a1 / z.2) < z.2 then (a1 / z.2) else z.2), .int (a0 - (1 : Int32)), .int a2]) (rest := [.long (12 : Int64), .long z.1]) C dX10_left_85 (m_X4_power (l := l) (E := E) (d := d - 1) (by omega) e15) km_X4_power lk_X10_65 ks_X4_power rfl (by omega) (Nat.le_of_ble_eq_true rfl) (j_le_of (q_X4_power e15)) (Or.inr (q_X4_power e15)) ?_
      refine x_i2l C dX10_left_88 ?_
      refine x_lmul C dX10_left_89 ?_
      refine x_ladd C dX10_left_90 ?_
      refine x_lstore_n C dX10_left_91 (by decide) ?_
      refine x_iinc (v := z.2) C dX10_left_92 rfl ki_1 (by decide) ?_
      refine x_goto (tgt := 55) C dX10_left_95 (by decide) ?_
      obtain ⟨rfl, rfl⟩ := j_inj2 hf
      exact x_locr hk rfl
set_option maxHeartbeats 4000000 in
set_option maxRecDepth 100000 in
theorem m_X10_left {l : Launch} {E : JE} {d : Nat} (hdd : 3 ≤ d) {a0 : Int32} {a1 : Int32} {a2 : Int32} {h : JH} {q : Int32 × JH} (hf : f_X10_left a0 a1 a2 h = some q) : Con l E d yX10_left cX10_left 7 (some .int) [.int a0, .int a1, .int a2] h (some (.int q.1)) q.2 := by
  refine j_start rfl (Nat.le_of_ble_eq_true rfl) ?_
  intro p e s m args below meth c C hret hnm
  refine x_loc [(0, .int a0), (1, .int a1), (2, .int a2)] rfl ?_
  unfold f_X10_left at hf
  refine x_lconst C dX10_left_0 kl_0 ?_
  refine x_lstore_n C dX10_left_1 (by decide) ?_
  refine x_iload_n (v := a1) C dX10_left_2 rfl ?_
  obtain ⟨q1, e2, hf⟩ := j_bind hf
  refine x_callS (As := [.int a1]) (rest := []) C dX10_left_3 (m_X10_reachOf (l := l) (E := E) (d := d - 1) (by omega) e2) km_X10_reachOf lk_X10_17 ks_X10_reachOf rfl (by omega) (Nat.le_of_ble_eq_true rfl) (j_le_of (q_X10_reachOf e2)) (Or.inr (q_X10_reachOf e2)) ?_
  refine x_istore C dX10_left_6 (by decide) ?_
  refine x_iload (v := q1.1) C dX10_left_8 rfl ?_
  refine x_ineg C dX10_left_10 ?_
  refine x_istore C dX10_left_11 (by decide) ?_
  obtain ⟨q8, e9, hf⟩ := j_bind hf
  refine x_loc [(0, .int a0), (1, .int a1), (2, .int a2), (3, .long (0 : Int64)), (5, .int q1.1), (6, .int (-q1.1))] rfl ?_
  refine x_loop (s_X10_left_L13 C hret hdd a0 a1 a2 q1.1) e9 ?_
  refine x_iconst C dX10_left_52 ki_1 ?_
  refine x_istore C dX10_left_53 (by decide) ?_
  obtain ⟨q18, e19, hf⟩ := j_bind hf
  refine x_loc [(0, .int a0), (1, .int a1), (2, .int a2), (3, .long q8.1.1), (6, .int (1 : Int32))] rfl ?_
  refine x_loop (s_X10_left_L55 C hret hdd a0 a1 a2) e19 ?_
  refine x_lload_n (v := q18.1.1) C dX10_left_98 rfl ?_
  refine x_lneg C dX10_left_99 ?_
  refine x_iload_n (v := a2) C dX10_left_100 rfl ?_
  obtain ⟨q20, e21, hf⟩ := j_bind hf
  refine x_callS (As := [.long (-q18.1.1), .int a2]) (rest := []) C dX10_left_101 (m_X4_of (l := l) (E := E) (d := d - 1) (by omega) e21) km_X4_of lk_X10_71 ks_X4_of rfl (by omega) (Nat.le_of_ble_eq_true rfl) (j_le_of (q_X4_of e21)) (Or.inr (q_X4_of e21)) ?_
  refine x_bipush C dX10_left_104 kb_24 ?_
  refine x_iload_n (v := a2) C dX10_left_106 rfl ?_
  obtain ⟨q22, e23, hf⟩ := j_bind hf
  refine x_callS (As := [.int q20.1, .int (24 : Int32), .int a2]) (rest := []) C dX10_left_107 (m_X4_divide (l := l) (E := E) (d := d - 1) (by omega) e23) km_X4_divide lk_X10_75 ks_X4_divide rfl (by omega) (Nat.le_of_ble_eq_true rfl) (j_le_of (q_X4_divide e23)) (Or.inr (q_X4_divide e23)) ?_
  obtain rfl := j_inj hf
  exact x_iret C hret dX10_left_110
set_option maxHeartbeats 4000000 in
set_option maxRecDepth 100000 in
theorem s_X10_shareOf_L19 {p : Program} {l : Launch} {e : Env} {R : Room} {s : State} {m : MethodId} {args : Array Value} {below : List Frame} {meth : Method} {c : Code} {E : JE} {h0 hF : JH} {rF : Option Value} {d : Nat} (C : j_C p s m args meth c R E cX10_shareOf 8 RX10 h0 hF d) (hret : meth.sig.returnType = (some .float)) (hdd : 2 ≤ d) (a0 : Int64) (a2 : Int32) (a3 : Int32) (a4 : Int32) (z : (UInt32 × Int32)) (h : JH) (r : (UInt32 × Int32) ⊕ (UInt32 × Int32)) (h1 : JH) (hf : f_X10_shareOf_L19 a0 a2 a3 a4 z h = some (r, h1)) (hk : Sum.elim (fun z => Xw p l e R s m args below meth c E 8 h0 rF hF 19 [(0, .long a0), (2, .int a2), (3, .int a3), (4, .int a4), (5, .float z.1), (6, .int z.2)] [] h1) (fun t => Xw p l e R s m args below meth c E 8 h0 rF hF 42 [(0, .long a0), (2, .int a2), (3, .int a3), (4, .int a4), (5, .float t.1), (6, .int t.2)] [] h1) r) : Xw p l e R s m args below meth c E 8 h0 rF hF 19 [(0, .long a0), (2, .int a2), (3, .int a3), (4, .int a4), (5, .float z.1), (6, .int z.2)] [] h := by
  unfold f_X10_shareOf_L19 at hf
  refine x_iload (v := z.2) C dX10_shareOf_19 rfl ?_
  refine x_iload_n (v := a2) C dX10_shareOf_21 rfl ?_
  refine x_iconst C dX10_shareOf_22 ki_2 ?_
  refine x_isub C dX10_shareOf_23 ?_
  refine x_iconst C dX10_shareOf_24 ki_2 ?_
  refine x_idiv C dX10_shareOf_25 (by decide) ?_
  refine x_icmp_ge (tgt := 42) C dX10_shareOf_26 (by decide) (fun c5 => ?_) (fun c5 => ?_)
  · have hf := j_ifp hf c5
    obtain ⟨rfl, rfl⟩ := j_inj2 hf
    exact x_locr hk rfl
  · have hf := j_ifn hf c5
    refine x_fload (v := z.1) C dX10_shareOf_29 rfl ?_
    refine x_iload_n (v := a3) C dX10_shareOf_31 rfl ?_
    refine x_i2f C dX10_shareOf_32 ?_
    obtain ⟨u3, e4, hf⟩ := j_bind hf
    refine x_fmul C dX10_shareOf_33 (jnn_some e4) ?_
    refine x_fstore C dX10_shareOf_34 (by decide) ?_
    refine x_iinc (v := z.2) C dX10_shareOf_36 rfl ki_1 (by decide) ?_
    refine x_goto (tgt := 19) C dX10_shareOf_39 (by decide) ?_
    obtain ⟨rfl, rfl⟩ := j_inj2 hf
    exact x_locr hk rfl
set_option maxHeartbeats 4000000 in
set_option maxRecDepth 100000 in
theorem s_X10_shareOf_L49 {p : Program} {l : Launch} {e : Env} {R : Room} {s : State} {m : MethodId} {args : Array Value} {below : List Frame} {meth : Method} {c : Code} {E : JE} {h0 hF : JH} {rF : Option Value} {d : Nat} (C : j_C p s m args meth c R E cX10_shareOf 8 RX10 h0 hF d) (hret : meth.sig.returnType = (some .float)) (hdd : 2 ≤ d) (a0 : Int64) (a3 : Int32) (a4 : Int32) (a5 : UInt32) (z : (UInt32 × Int32)) (h : JH) (r : (UInt32 × Int32) ⊕ (UInt32 × Int32)) (h1 : JH) (hf : f_X10_shareOf_L49 a0 a3 a4 a5 z h = some (r, h1)) (hk : Sum.elim (fun z => Xw p l e R s m args below meth c E 8 h0 rF hF 49 [(0, .long a0), (3, .int a3), (4, .int a4), (5, .float a5), (6, .float z.1), (7, .int z.2)] [] h1) (fun t => Xw p l e R s m args below meth c E 8 h0 rF hF 74 [(0, .long a0), (3, .int a3), (4, .int a4), (5, .float a5), (6, .float t.1), (7, .int t.2)] [] h1) r) : Xw p l e R s m args below meth c E 8 h0 rF hF 49 [(0, .long a0), (3, .int a3), (4, .int a4), (5, .float a5), (6, .float z.1), (7, .int z.2)] [] h := by
  unfold f_X10_shareOf_L49 at hf
  refine x_iload (v := z.2) C dX10_shareOf_49 rfl ?_
  refine x_bipush C dX10_shareOf_51 kb_20 ?_
  refine x_icmp_ge (tgt := 74) C dX10_shareOf_53 (by decide) (fun c14 => ?_) (fun c14 => ?_)
  · have hf := j_ifp hf c14
    obtain ⟨rfl, rfl⟩ := j_inj2 hf
    exact x_locr hk rfl
  · have hf := j_ifn hf c14
    refine x_fload (v := z.1) C dX10_shareOf_56 rfl ?_
    refine x_iload_n (v := a3) C dX10_shareOf_58 rfl ?_
    refine x_i2f C dX10_shareOf_59 ?_
    refine x_fload (v := z.1) C dX10_shareOf_60 rfl ?_
    obtain ⟨u8, e9, hf⟩ := j_bind hf
    refine x_fdiv C dX10_shareOf_62 (jnn_some e9) ?_
    obtain ⟨u10, e11, hf⟩ := j_bind hf
    refine x_fadd C dX10_shareOf_63 (jnn_some e11) ?_
    refine x_fconst2 C dX10_shareOf_64 ?_
    obtain ⟨u12, e13, hf⟩ := j_bind hf
    refine x_fdiv C dX10_shareOf_65 (jnn_some e13) ?_
    refine x_fstore C dX10_shareOf_66 (by decide) ?_
    refine x_iinc (v := z.2) C dX10_shareOf_68 rfl ki_1 (by decide) ?_
    refine x_goto (tgt := 49) C dX10_shareOf_71 (by decide) ?_
    obtain ⟨rfl, rfl⟩ := j_inj2 hf
    exact x_locr hk rfl
set_option maxHeartbeats 4000000 in
set_option maxRecDepth 100000 in
theorem m_X10_shareOf {l : Launch} {E : JE} {d : Nat} (hdd : 2 ≤ d) {a0 : Int64} {a2 : Int32} {a3 : Int32} {h : JH} {q : UInt32 × JH} (hf : f_X10_shareOf a0 a2 a3 h = some q) : Con l E d yX10_shareOf cX10_shareOf 8 (some .float) [.long a0, .int a2, .int a3] h (some (.float q.1)) q.2 := by
  refine j_start rfl (Nat.le_of_ble_eq_true rfl) ?_
  intro p e s m args below meth c C hret hnm
  refine x_loc [(0, .long a0), (2, .int a2), (3, .int a3)] rfl ?_
  unfold f_X10_shareOf at hf
  refine x_iload_n (v := a2) C dX10_shareOf_0 rfl ?_
  obtain ⟨q1, e2, hf⟩ := j_bind hf
  refine x_callSN (As := [.int a2]) (rest := []) C dX10_shareOf_1 (m_X11_cuspsOf (l := l) (E := E) (d := d - 1) (by omega) e2) km_X11_cuspsOf lk_X10_78 ks_X11_cuspsOf rfl (by omega) (Nat.le_of_ble_eq_true rfl) (j_le_of (q_X11_cuspsOf e2)) (Or.inr (q_X11_cuspsOf e2)) ?_
  refine x_istore C dX10_shareOf_4 (by decide) ?_
  refine x_iload (v := q1.1) C dX10_shareOf_6 rfl ?_
  refine x_if_ne (tgt := 13) C dX10_shareOf_8 (by decide) (fun c25 => ?_) (fun c25 => ?_)
  · have hf := j_ifn hf c25
    refine x_fconst1 C dX10_shareOf_13 ?_
    refine x_fstore C dX10_shareOf_14 (by decide) ?_
    refine x_iconst C dX10_shareOf_16 ki_0 ?_
    refine x_istore C dX10_shareOf_17 (by decide) ?_
    obtain ⟨q6, e7, hf⟩ := j_bind hf
    refine x_loc [(0, .long a0), (2, .int a2), (3, .int a3), (4, .int q1.1), (5, .float FP.fconst1), (6, .int (0 : Int32))] rfl ?_
    refine x_loop (s_X10_shareOf_L19 C hret hdd a0 a2 a3 q1.1) e7 ?_
    refine x_iload_n (v := a3) C dX10_shareOf_42 rfl ?_
    refine x_i2f C dX10_shareOf_43 ?_
    refine x_fstore C dX10_shareOf_44 (by decide) ?_
    refine x_iconst C dX10_shareOf_46 ki_0 ?_
    refine x_istore C dX10_shareOf_47 (by decide) ?_
    obtain ⟨q15, e16, hf⟩ := j_bind hf
    refine x_loc [(0, .long a0), (3, .int a3), (4, .int q1.1), (5, .float q6.1.1), (6, .float (FP.i2f a3)), (7, .int (0 : Int32))] rfl ?_
    refine x_loop (s_X10_shareOf_L49 C hret hdd a0 a3 q1.1 q6.1.1) e16 ?_
    refine x_fload (v := q6.1.1) C dX10_shareOf_74 rfl ?_
    refine x_fload (v := q15.1.1) C dX10_shareOf_76 rfl ?_
    obtain ⟨u17, e18, hf⟩ := j_bind hf
    refine x_fmul C dX10_shareOf_78 (jnn_some e18) ?_
    refine x_fstore C dX10_shareOf_79 (by decide) ?_
    refine x_lload_n (v := a0) C dX10_shareOf_81 rfl ?_
    refine x_l2f C dX10_shareOf_82 ?_
    refine x_fconst2 C dX10_shareOf_83 ?_
    refine x_fload (v := FP.fmul q6.1.1 q15.1.1) C dX10_shareOf_84 rfl ?_
    obtain ⟨u19, e20, hf⟩ := j_bind hf
    refine x_fmul C dX10_shareOf_86 (jnn_some e20) ?_
    refine x_iload (v := q1.1) C dX10_shareOf_87 rfl ?_
    refine x_i2f C dX10_shareOf_89 ?_
    obtain ⟨u21, e22, hf⟩ := j_bind hf
    refine x_fmul C dX10_shareOf_90 (jnn_some e22) ?_
    obtain ⟨u23, e24, hf⟩ := j_bind hf
    refine x_fdiv C dX10_shareOf_91 (jnn_some e24) ?_
    obtain rfl := j_inj hf
    exact x_fret C hret dX10_shareOf_92
  · have hf := j_ifp hf c25
    refine x_fconst0 C dX10_shareOf_11 ?_
    obtain rfl := j_inj hf
    exact x_fret C hret dX10_shareOf_12
set_option maxHeartbeats 4000000 in
set_option maxRecDepth 100000 in
theorem s_X10_bitsOf_L27 {p : Program} {l : Launch} {e : Env} {R : Room} {s : State} {m : MethodId} {args : Array Value} {below : List Frame} {meth : Method} {c : Code} {E : JE} {h0 hF : JH} {rF : Option Value} {d : Nat} (C : j_C p s m args meth c R E cX10_bitsOf 4 RX10 h0 hF d) (hret : meth.sig.returnType = (some .int)) (hdd : 0 ≤ d) (a0 : UInt32) (z : (UInt32 × Int32 × Int32)) (h : JH) (r : (UInt32 × Int32 × Int32) ⊕ (UInt32 × Int32 × Int32)) (h1 : JH) (hf : f_X10_bitsOf_L27 a0 z h = some (r, h1)) (hk : Sum.elim (fun z => Xw p l e R s m args below meth c E 4 h0 rF hF 27 [(0, .float a0), (1, .float z.1), (2, .int z.2.1), (3, .int z.2.2)] [] h1) (fun t => Xw p l e R s m args below meth c E 4 h0 rF hF 54 [(0, .float a0), (1, .float t.1), (2, .int t.2.1), (3, .int t.2.2)] [] h1) r) : Xw p l e R s m args below meth c E 4 h0 rF hF 27 [(0, .float a0), (1, .float z.1), (2, .int z.2.1), (3, .int z.2.2)] [] h := by
  unfold f_X10_bitsOf_L27 at hf
  refine x_iload_n (v := z.2.2) C dX10_bitsOf_27 rfl ?_
  refine x_sipush C dX10_bitsOf_28 ks_150 ?_
  refine x_icmp_ge (tgt := 54) C dX10_bitsOf_31 (by decide) (fun c3 => ?_) (fun c3 => ?_)
  · have hf := j_ifp hf c3
    obtain ⟨rfl, rfl⟩ := j_inj2 hf
    exact x_locr hk rfl
  · have hf := j_ifn hf c3
    refine x_fload_n (v := z.1) C dX10_bitsOf_34 rfl ?_
    refine x_ldcf C dX10_bitsOf_35 cn_X10_81 ?_
    refine x_fcmp C dX10_bitsOf_37 ?_
    refine x_if_ge (tgt := 54) C dX10_bitsOf_38 (by decide) (fun c4 => ?_) (fun c4 => ?_)
    · have hf := j_ifp hf c4
      obtain ⟨rfl, rfl⟩ := j_inj2 hf
      exact x_locr hk rfl
    · have hf := j_ifn hf c4
      refine x_fload_n (v := z.1) C dX10_bitsOf_41 rfl ?_
      refine x_fconst2 C dX10_bitsOf_42 ?_
      obtain ⟨u1, e2, hf⟩ := j_bind hf
      refine x_fmul C dX10_bitsOf_43 (jnn_some e2) ?_
      refine x_fstore_n C dX10_bitsOf_44 (by decide) ?_
      refine x_iinc (v := z.2.1) C dX10_bitsOf_45 rfl ki_m1 (by decide) ?_
      refine x_iinc (v := z.2.2) C dX10_bitsOf_48 rfl ki_1 (by decide) ?_
      refine x_goto (tgt := 27) C dX10_bitsOf_51 (by decide) ?_
      obtain ⟨rfl, rfl⟩ := j_inj2 hf
      exact x_locr hk rfl
set_option maxHeartbeats 4000000 in
set_option maxRecDepth 100000 in
theorem m_X10_bitsOf {l : Launch} {E : JE} {d : Nat} (hdd : 0 ≤ d) {a0 : UInt32} {h : JH} {q : Int32 × JH} (hf : f_X10_bitsOf a0 h = some q) : Con l E d yX10_bitsOf cX10_bitsOf 4 (some .int) [.float a0] h (some (.int q.1)) q.2 := by
  refine j_start rfl (Nat.le_of_ble_eq_true rfl) ?_
  intro p e s m args below meth c C hret hnm
  refine x_loc [(0, .float a0)] rfl ?_
  unfold f_X10_bitsOf at hf
  refine x_fload_n (v := a0) C dX10_bitsOf_0 rfl ?_
  refine x_fconst0 C dX10_bitsOf_1 ?_
  refine x_fcmp C dX10_bitsOf_2 ?_
  refine x_if_ne (tgt := 8) C dX10_bitsOf_3 (by decide) (fun c9 => ?_) (fun c9 => ?_)
  · have hf := j_ifn hf c9
    refine x_fload_n (v := a0) C dX10_bitsOf_8 rfl ?_
    refine x_fconst0 C dX10_bitsOf_9 ?_
    refine x_fcmp C dX10_bitsOf_10 ?_
    refine x_if_ge (tgt := 19) C dX10_bitsOf_11 (by decide) (fun c10 => ?_) (fun c10 => ?_)
    · have hf := j_ifp hf c10
      refine x_fload_n (v := a0) C dX10_bitsOf_19 rfl ?_
      refine x_fstore_n C dX10_bitsOf_20 (by decide) ?_
      refine x_sipush C dX10_bitsOf_21 ks_150 ?_
      refine x_istore_n C dX10_bitsOf_24 (by decide) ?_
      refine x_iconst C dX10_bitsOf_25 ki_0 ?_
      refine x_istore_n C dX10_bitsOf_26 (by decide) ?_
      obtain ⟨q5, e6, hf⟩ := j_bind hf
      refine x_loc [(0, .float a0), (1, .float a0), (2, .int (150 : Int32)), (3, .int (0 : Int32))] rfl ?_
      refine x_loop (s_X10_bitsOf_L27 C hret hdd a0) e6 ?_
      refine x_fload_n (v := a0) C dX10_bitsOf_54 rfl ?_
      refine x_fconst0 C dX10_bitsOf_55 ?_
      refine x_fcmp C dX10_bitsOf_56 ?_
      refine x_if_ge (tgt := 65) C dX10_bitsOf_57 (by decide) (fun c11 => ?_) (fun c11 => ?_)
      · have hf := j_ifp hf c11
        refine x_iconst C dX10_bitsOf_65 ki_0 ?_
        refine x_istore_n C dX10_bitsOf_66 (by decide) ?_
        refine x_iload_n (v := (0 : Int32)) C dX10_bitsOf_67 rfl ?_
        refine x_iload_n (v := q5.1.2.1) C dX10_bitsOf_68 rfl ?_
        refine x_bipush C dX10_bitsOf_69 kb_23 ?_
        refine x_ishl C dX10_bitsOf_71 ?_
        refine x_ior C dX10_bitsOf_72 ?_
        refine x_fload_n (v := q5.1.1) C dX10_bitsOf_73 rfl ?_
        refine x_f2i C dX10_bitsOf_74 ?_
        refine x_ldc C dX10_bitsOf_75 cn_X10_85 ?_
        refine x_isub C dX10_bitsOf_77 ?_
        refine x_ior C dX10_bitsOf_78 ?_
        obtain rfl := j_inj hf
        exact x_iret C hret dX10_bitsOf_79
      · have hf := j_ifn hf c11
        refine x_ldc C dX10_bitsOf_60 cn_X10_84 ?_
        refine x_goto (tgt := 66) C dX10_bitsOf_62 (by decide) ?_
        refine x_istore_n C dX10_bitsOf_66 (by decide) ?_
        refine x_iload_n (v := (-2147483648 : Int32)) C dX10_bitsOf_67 rfl ?_
        refine x_iload_n (v := q5.1.2.1) C dX10_bitsOf_68 rfl ?_
        refine x_bipush C dX10_bitsOf_69 kb_23 ?_
        refine x_ishl C dX10_bitsOf_71 ?_
        refine x_ior C dX10_bitsOf_72 ?_
        refine x_fload_n (v := q5.1.1) C dX10_bitsOf_73 rfl ?_
        refine x_f2i C dX10_bitsOf_74 ?_
        refine x_ldc C dX10_bitsOf_75 cn_X10_85 ?_
        refine x_isub C dX10_bitsOf_77 ?_
        refine x_ior C dX10_bitsOf_78 ?_
        obtain rfl := j_inj hf
        exact x_iret C hret dX10_bitsOf_79
    · have hf := j_ifn hf c10
      refine x_fload_n (v := a0) C dX10_bitsOf_14 rfl ?_
      refine x_fneg C dX10_bitsOf_15 ?_
      refine x_goto (tgt := 20) C dX10_bitsOf_16 (by decide) ?_
      refine x_fstore_n C dX10_bitsOf_20 (by decide) ?_
      refine x_sipush C dX10_bitsOf_21 ks_150 ?_
      refine x_istore_n C dX10_bitsOf_24 (by decide) ?_
      refine x_iconst C dX10_bitsOf_25 ki_0 ?_
      refine x_istore_n C dX10_bitsOf_26 (by decide) ?_
      obtain ⟨q7, e8, hf⟩ := j_bind hf
      refine x_loc [(0, .float a0), (1, .float (FP.fneg a0)), (2, .int (150 : Int32)), (3, .int (0 : Int32))] rfl ?_
      refine x_loop (s_X10_bitsOf_L27 C hret hdd a0) e8 ?_
      refine x_fload_n (v := a0) C dX10_bitsOf_54 rfl ?_
      refine x_fconst0 C dX10_bitsOf_55 ?_
      refine x_fcmp C dX10_bitsOf_56 ?_
      refine x_if_ge (tgt := 65) C dX10_bitsOf_57 (by decide) (fun c12 => ?_) (fun c12 => ?_)
      · have hf := j_ifp hf c12
        refine x_iconst C dX10_bitsOf_65 ki_0 ?_
        refine x_istore_n C dX10_bitsOf_66 (by decide) ?_
        refine x_iload_n (v := (0 : Int32)) C dX10_bitsOf_67 rfl ?_
        refine x_iload_n (v := q7.1.2.1) C dX10_bitsOf_68 rfl ?_
        refine x_bipush C dX10_bitsOf_69 kb_23 ?_
        refine x_ishl C dX10_bitsOf_71 ?_
        refine x_ior C dX10_bitsOf_72 ?_
        refine x_fload_n (v := q7.1.1) C dX10_bitsOf_73 rfl ?_
        refine x_f2i C dX10_bitsOf_74 ?_
        refine x_ldc C dX10_bitsOf_75 cn_X10_85 ?_
        refine x_isub C dX10_bitsOf_77 ?_
        refine x_ior C dX10_bitsOf_78 ?_
        obtain rfl := j_inj hf
        exact x_iret C hret dX10_bitsOf_79
      · have hf := j_ifn hf c12
        refine x_ldc C dX10_bitsOf_60 cn_X10_84 ?_
        refine x_goto (tgt := 66) C dX10_bitsOf_62 (by decide) ?_
        refine x_istore_n C dX10_bitsOf_66 (by decide) ?_
        refine x_iload_n (v := (-2147483648 : Int32)) C dX10_bitsOf_67 rfl ?_
        refine x_iload_n (v := q7.1.2.1) C dX10_bitsOf_68 rfl ?_
        refine x_bipush C dX10_bitsOf_69 kb_23 ?_
        refine x_ishl C dX10_bitsOf_71 ?_
        refine x_ior C dX10_bitsOf_72 ?_
        refine x_fload_n (v := q7.1.1) C dX10_bitsOf_73 rfl ?_
        refine x_f2i C dX10_bitsOf_74 ?_
        refine x_ldc C dX10_bitsOf_75 cn_X10_85 ?_
        refine x_isub C dX10_bitsOf_77 ?_
        refine x_ior C dX10_bitsOf_78 ?_
        obtain rfl := j_inj hf
        exact x_iret C hret dX10_bitsOf_79
  · have hf := j_ifp hf c9
    refine x_iconst C dX10_bitsOf_6 ki_0 ?_
    obtain rfl := j_inj hf
    exact x_iret C hret dX10_bitsOf_7
set_option maxHeartbeats 4000000 in
set_option maxRecDepth 100000 in
theorem s_X11_forget_L2 {p : Program} {l : Launch} {e : Env} {R : Room} {s : State} {m : MethodId} {args : Array Value} {below : List Frame} {meth : Method} {c : Code} {E : JE} {h0 hF : JH} {rF : Option Value} {d : Nat} (C : j_C p s m args meth c R E cX11_forget 2 RX11 h0 hF d) (hret : meth.sig.returnType = none) (hdd : 2 ≤ d) (a0 : Nat) (z : Int32) (h : JH) (r : Int32 ⊕ Int32) (h1 : JH) (hf : f_X11_forget_L2 a0 z h = some (r, h1)) (hk : Sum.elim (fun z => Xw p l e R s m args below meth c E 2 h0 rF hF 2 [(0, .ref a0), (1, .int z)] [] h1) (fun t => Xw p l e R s m args below meth c E 2 h0 rF hF 23 [(0, .ref a0), (1, .int t)] [] h1) r) : Xw p l e R s m args below meth c E 2 h0 rF hF 2 [(0, .ref a0), (1, .int z)] [] h := by
  unfold f_X11_forget_L2 at hf
  refine x_iload_n (v := z) C dX11_forget_2 rfl ?_
  refine x_iconst C dX11_forget_3 ki_4 ?_
  refine x_icmp_ge (tgt := 23) C dX11_forget_4 (by decide) (fun c9 => ?_) (fun c9 => ?_)
  · have hf := j_ifp hf c9
    obtain ⟨rfl, rfl⟩ := j_inj2 hf
    exact x_locr hk rfl
  · have hf := j_ifn hf c9
    refine x_aload_n (v := a0) C dX11_forget_7 rfl ?_
    obtain ⟨v1, e2, hf⟩ := j_bind hf
    refine x_get C dX11_forget_8 (jgR_some e2) fg_X11_25 ?_
    refine x_iload_n (v := z) C dX11_forget_11 rfl ?_
    obtain ⟨v3, e4, hf⟩ := j_bind hf
    refine x_aald C dX11_forget_12 e4 ?_
    refine x_iconst C dX11_forget_13 ki_1 ?_
    obtain ⟨u7, e8, hf⟩ := j_bind hf
    obtain ⟨q5, e6, hf⟩ := j_bind hf
    refine x_callV (As := [.int (1 : Int32)]) (rest := []) C dX11_forget_14 (m_X2_setNumber (l := l) (E := E) (d := d - 1) (by omega) e6) km_X2_setNumber lk_X11_115 kv_X2_setNumber (ci := 1) rfl e8 rfl (by omega) (Nat.le_of_ble_eq_true rfl) (j_le_of (q_X2_setNumber e6)) (Or.inr (q_X2_setNumber e6)) ?_
    refine x_iinc (v := z) C dX11_forget_17 rfl ki_1 (by decide) ?_
    refine x_goto (tgt := 2) C dX11_forget_20 (by decide) ?_
    obtain ⟨rfl, rfl⟩ := j_inj2 hf
    exact x_locr hk rfl
set_option maxHeartbeats 4000000 in
set_option maxRecDepth 100000 in
theorem s_X11_forget_L25 {p : Program} {l : Launch} {e : Env} {R : Room} {s : State} {m : MethodId} {args : Array Value} {below : List Frame} {meth : Method} {c : Code} {E : JE} {h0 hF : JH} {rF : Option Value} {d : Nat} (C : j_C p s m args meth c R E cX11_forget 2 RX11 h0 hF d) (hret : meth.sig.returnType = none) (hdd : 2 ≤ d) (a0 : Nat) (z : Int32) (h : JH) (r : Int32 ⊕ Int32) (h1 : JH) (hf : f_X11_forget_L25 a0 z h = some (r, h1)) (hk : Sum.elim (fun z => Xw p l e R s m args below meth c E 2 h0 rF hF 25 [(0, .ref a0), (1, .int z)] [] h1) (fun t => Xw p l e R s m args below meth c E 2 h0 rF hF 45 [(0, .ref a0), (1, .int t)] [] h1) r) : Xw p l e R s m args below meth c E 2 h0 rF hF 25 [(0, .ref a0), (1, .int z)] [] h := by
  unfold f_X11_forget_L25 at hf
  refine x_iload_n (v := z) C dX11_forget_25 rfl ?_
  refine x_iconst C dX11_forget_26 ki_2 ?_
  refine x_icmp_ge (tgt := 45) C dX11_forget_27 (by decide) (fun c20 => ?_) (fun c20 => ?_)
  · have hf := j_ifp hf c20
    obtain ⟨rfl, rfl⟩ := j_inj2 hf
    exact x_locr hk rfl
  · have hf := j_ifn hf c20
    refine x_aload_n (v := a0) C dX11_forget_30 rfl ?_
    obtain ⟨v12, e13, hf⟩ := j_bind hf
    refine x_get C dX11_forget_31 (jgR_some e13) fg_X11_32 ?_
    refine x_iload_n (v := z) C dX11_forget_34 rfl ?_
    obtain ⟨v14, e15, hf⟩ := j_bind hf
    refine x_aald C dX11_forget_35 e15 ?_
    obtain ⟨u18, e19, hf⟩ := j_bind hf
    obtain ⟨q16, e17, hf⟩ := j_bind hf
    refine x_callV (As := []) (rest := []) C dX11_forget_36 (m_X6_empty (l := l) (E := E) (d := d - 1) (by omega) e17) km_X6_empty lk_X11_118 kv_X6_empty (ci := 4) rfl e19 rfl (by omega) (Nat.le_of_ble_eq_true rfl) (j_le_of (q_X6_empty e17)) (Or.inr (q_X6_empty e17)) ?_
    refine x_iinc (v := z) C dX11_forget_39 rfl ki_1 (by decide) ?_
    refine x_goto (tgt := 25) C dX11_forget_42 (by decide) ?_
    obtain ⟨rfl, rfl⟩ := j_inj2 hf
    exact x_locr hk rfl
set_option maxHeartbeats 4000000 in
set_option maxRecDepth 100000 in
theorem s_X11_forget_L47 {p : Program} {l : Launch} {e : Env} {R : Room} {s : State} {m : MethodId} {args : Array Value} {below : List Frame} {meth : Method} {c : Code} {E : JE} {h0 hF : JH} {rF : Option Value} {d : Nat} (C : j_C p s m args meth c R E cX11_forget 2 RX11 h0 hF d) (hret : meth.sig.returnType = none) (hdd : 2 ≤ d) (a0 : Nat) (z : Int32) (h : JH) (r : Int32 ⊕ Int32) (h1 : JH) (hf : f_X11_forget_L47 a0 z h = some (r, h1)) (hk : Sum.elim (fun z => Xw p l e R s m args below meth c E 2 h0 rF hF 47 [(0, .ref a0), (1, .int z)] [] h1) (fun t => Xw p l e R s m args below meth c E 2 h0 rF hF 68 [(0, .ref a0), (1, .int t)] [] h1) r) : Xw p l e R s m args below meth c E 2 h0 rF hF 47 [(0, .ref a0), (1, .int z)] [] h := by
  unfold f_X11_forget_L47 at hf
  refine x_iload_n (v := z) C dX11_forget_47 rfl ?_
  refine x_iconst C dX11_forget_48 ki_2 ?_
  refine x_icmp_ge (tgt := 68) C dX11_forget_49 (by decide) (fun c29 => ?_) (fun c29 => ?_)
  · have hf := j_ifp hf c29
    obtain ⟨rfl, rfl⟩ := j_inj2 hf
    exact x_locr hk rfl
  · have hf := j_ifn hf c29
    refine x_aload_n (v := a0) C dX11_forget_52 rfl ?_
    obtain ⟨v23, e24, hf⟩ := j_bind hf
    refine x_get C dX11_forget_53 (jgR_some e24) fg_X11_38 ?_
    refine x_iload_n (v := z) C dX11_forget_56 rfl ?_
    obtain ⟨v25, e26, hf⟩ := j_bind hf
    refine x_aald C dX11_forget_57 e26 ?_
    refine x_iconst C dX11_forget_58 ki_0 ?_
    obtain ⟨h27, e28, hf⟩ := j_bind hf
    refine x_put C dX11_forget_59 e28 fp_X11_121 rfl rfl ?_
    refine x_iinc (v := z) C dX11_forget_62 rfl ki_1 (by decide) ?_
    refine x_goto (tgt := 47) C dX11_forget_65 (by decide) ?_
    obtain ⟨rfl, rfl⟩ := j_inj2 hf
    exact x_locr hk rfl
set_option maxHeartbeats 4000000 in
set_option maxRecDepth 100000 in
theorem m_X11_forget {l : Launch} {E : JE} {d : Nat} (hdd : 2 ≤ d) {a0 : Nat} {h : JH} {q : Unit × JH} (hf : f_X11_forget a0 h = some q) : Con l E d yX11_forget cX11_forget 2 none [.ref a0] h (none) q.2 := by
  refine j_start rfl (Nat.le_of_ble_eq_true rfl) ?_
  intro p e s m args below meth c C hret hnm
  refine x_loc [(0, .ref a0)] rfl ?_
  unfold f_X11_forget at hf
  refine x_iconst C dX11_forget_0 ki_0 ?_
  refine x_istore_n C dX11_forget_1 (by decide) ?_
  obtain ⟨q10, e11, hf⟩ := j_bind hf
  refine x_loc [(0, .ref a0), (1, .int (0 : Int32))] rfl ?_
  refine x_loop (s_X11_forget_L2 C hret hdd a0) e11 ?_
  refine x_iconst C dX11_forget_23 ki_0 ?_
  refine x_istore_n C dX11_forget_24 (by decide) ?_
  obtain ⟨q21, e22, hf⟩ := j_bind hf
  refine x_loc [(0, .ref a0), (1, .int (0 : Int32))] rfl ?_
  refine x_loop (s_X11_forget_L25 C hret hdd a0) e22 ?_
  refine x_iconst C dX11_forget_45 ki_0 ?_
  refine x_istore_n C dX11_forget_46 (by decide) ?_
  obtain ⟨q30, e31, hf⟩ := j_bind hf
  refine x_loc [(0, .ref a0), (1, .int (0 : Int32))] rfl ?_
  refine x_loop (s_X11_forget_L47 C hret hdd a0) e31 ?_
  obtain rfl := j_inj hf
  exact x_vret C hret dX11_forget_68
set_option maxHeartbeats 4000000 in
set_option maxRecDepth 100000 in
theorem s_X11_init_L106 {p : Program} {l : Launch} {e : Env} {R : Room} {s : State} {m : MethodId} {args : Array Value} {below : List Frame} {meth : Method} {c : Code} {E : JE} {h0 hF : JH} {rF : Option Value} {d : Nat} (C : j_C p s m args meth c R E cX11_init 2 RX11 h0 hF d) (hret : meth.sig.returnType = none) (hin : meth.name = "<init>") (hdd : 4 ≤ d) (a0 : Nat) (z : Int32) (h : JH) (r : Int32 ⊕ Int32) (h1 : JH) (hf : f_X11_init_L106 a0 z h = some (r, h1)) (hleF : j_le h1 hF) (hk : Sum.elim (fun z => Xw p l e R s m args below meth c E 2 h0 rF hF 106 [(0, .ref a0), (1, .int z)] [] h1) (fun t => Xw p l e R s m args below meth c E 2 h0 rF hF 130 [(0, .ref a0), (1, .int t)] [] h1) r) : Xw p l e R s m args below meth c E 2 h0 rF hF 106 [(0, .ref a0), (1, .int z)] [] h := by
  unfold f_X11_init_L106 at hf
  refine x_iload_n (v := z) C dX11_init_106 rfl ?_
  refine x_iconst C dX11_init_107 ki_2 ?_
  refine x_icmp_ge (tgt := 130) C dX11_init_108 (by decide) (fun c59 => ?_) (fun c59 => ?_)
  · have hf := j_ifp hf c59
    obtain ⟨rfl, rfl⟩ := j_inj2 hf
    exact x_locr hk rfl
  · have hf := j_ifn hf c59
    refine x_aload_n (v := a0) C dX11_init_111 rfl ?_
    obtain ⟨v51, e52, hf⟩ := j_bind hf
    refine x_get C dX11_init_112 (jgR_some e52) fg_X11_38 ?_
    refine x_iload_n (v := z) C dX11_init_115 rfl ?_
    obtain ⟨q53, e54, hf⟩ := j_bind hf
    have hle : j_le q53.2 hF := by
      obtain ⟨q55, e56, hf⟩ := j_bind hf
      refine j_le_trans (n_X3_init e56) ?_
      obtain ⟨h57, e58, hf⟩ := j_bind hf
      refine j_le_trans (j_le_of (jsR_n e58)) ?_
      obtain ⟨rfl, rfl⟩ := j_inj2 hf
      exact hleF
    refine x_new C dX11_init_116 nc_X11_36 e54 hle ?_
    refine x_dup C dX11_init_119 rfl ?_
    obtain ⟨q55, e56, hf⟩ := j_bind hf
    have hle : j_le q55.2 hF := by
      obtain ⟨h57, e58, hf⟩ := j_bind hf
      refine j_le_trans (j_le_of (jsR_n e58)) ?_
      obtain ⟨rfl, rfl⟩ := j_inj2 hf
      exact hleF
    refine x_callIN (As := []) (rest := [.ref q53.1, .int z, .ref v51]) C dX11_init_120 (m_X3_init (l := l) (E := E) (d := d - 1) (by omega) e56) km_X3_init lk_X11_74 ki_X3_init rfl (by omega) (Nat.le_of_ble_eq_true rfl) (n_X3_init e56) (Or.inl hle) ?_
    obtain ⟨h57, e58, hf⟩ := j_bind hf
    refine x_aast C dX11_init_123 e58 ?_
    refine x_iinc (v := z) C dX11_init_124 rfl ki_1 (by decide) ?_
    refine x_goto (tgt := 106) C dX11_init_127 (by decide) ?_
    obtain ⟨rfl, rfl⟩ := j_inj2 hf
    exact x_locr hk rfl
set_option maxHeartbeats 4000000 in
set_option maxRecDepth 100000 in
theorem m_X11_init {l : Launch} {E : JE} {d : Nat} (hdd : 4 ≤ d) {a0 : Nat} {h : JH} {q : Unit × JH} (hf : f_X11_init a0 h = some q) : Con l E d yX11_init cX11_init 2 none [.ref a0] h (none) q.2 := by
  refine j_start rfl (Nat.le_of_ble_eq_true rfl) ?_
  intro p e s m args below meth c C hret hnm
  have hin : meth.name = "<init>" := hnm
  refine x_loc [(0, .ref a0)] rfl ?_
  unfold f_X11_init at hf
  refine x_aload_n (v := a0) C dX11_init_0 rfl ?_
  refine x_objInit C dX11_init_1 ⟨lk_X11_1, w_obj⟩ (by omega) (Nat.le_of_ble_eq_true rfl) ?_
  refine x_aload_n (v := a0) C dX11_init_4 rfl ?_
  refine x_sipush C dX11_init_5 ks_600 ?_
  obtain ⟨q1, e2, hf⟩ := j_bind hf
  have hle : j_le q1.2 q.2 := by
    obtain ⟨h3, e4, hf⟩ := j_bind hf
    refine j_le_trans (j_le_of (jput_n e4)) ?_
    obtain ⟨h5, e6, hf⟩ := j_bind hf
    refine j_le_trans (j_le_of (jput_n e6)) ?_
    obtain ⟨q7, e8, hf⟩ := j_bind hf
    refine j_le_trans (n_X11_newForms e8) ?_
    obtain ⟨h9, e10, hf⟩ := j_bind hf
    refine j_le_trans (j_le_of (jput_n e10)) ?_
    obtain ⟨q11, e12, hf⟩ := j_bind hf
    refine j_le_trans (n_X11_newForms e12) ?_
    obtain ⟨h13, e14, hf⟩ := j_bind hf
    refine j_le_trans (j_le_of (jput_n e14)) ?_
    obtain ⟨q15, e16, hf⟩ := j_bind hf
    refine j_le_trans (n_X11_newShelves e16) ?_
    obtain ⟨h17, e18, hf⟩ := j_bind hf
    refine j_le_trans (j_le_of (jput_n e18)) ?_
    obtain ⟨q19, e20, hf⟩ := j_bind hf
    refine j_le_trans (jnA_le e20) ?_
    obtain ⟨h21, e22, hf⟩ := j_bind hf
    refine j_le_trans (j_le_of (jput_n e22)) ?_
    obtain ⟨q23, e24, hf⟩ := j_bind hf
    refine j_le_trans (jnO_le e24) ?_
    obtain ⟨q25, e26, hf⟩ := j_bind hf
    refine j_le_trans (n_X8_init e26) ?_
    obtain ⟨h27, e28, hf⟩ := j_bind hf
    refine j_le_trans (j_le_of (jput_n e28)) ?_
    obtain ⟨q29, e30, hf⟩ := j_bind hf
    refine j_le_trans (jnO_le e30) ?_
    obtain ⟨q31, e32, hf⟩ := j_bind hf
    refine j_le_trans (n_X5_init e32) ?_
    obtain ⟨h33, e34, hf⟩ := j_bind hf
    refine j_le_trans (j_le_of (jput_n e34)) ?_
    obtain ⟨q35, e36, hf⟩ := j_bind hf
    refine j_le_trans (jnO_le e36) ?_
    obtain ⟨q37, e38, hf⟩ := j_bind hf
    refine j_le_trans (n_X0_init e38) ?_
    obtain ⟨h39, e40, hf⟩ := j_bind hf
    refine j_le_trans (j_le_of (jput_n e40)) ?_
    obtain ⟨q41, e42, hf⟩ := j_bind hf
    refine j_le_trans (jnO_le e42) ?_
    obtain ⟨q43, e44, hf⟩ := j_bind hf
    refine j_le_trans (n_X2_init e44) ?_
    obtain ⟨h45, e46, hf⟩ := j_bind hf
    refine j_le_trans (j_le_of (jput_n e46)) ?_
    obtain ⟨q47, e48, hf⟩ := j_bind hf
    refine j_le_trans (jnA_le e48) ?_
    obtain ⟨h49, e50, hf⟩ := j_bind hf
    refine j_le_trans (j_le_of (jput_n e50)) ?_
    obtain ⟨q60, e61, hf⟩ := j_bind hf
    refine j_le_trans ((jloop_le (fun _ _ _ _ q => n_X11_init_L106 q) e61)) ?_
    obtain ⟨v62, e63, hf⟩ := j_bind hf
    obtain ⟨v64, e65, hf⟩ := j_bind hf
    obtain ⟨h66, e67, hf⟩ := j_bind hf
    refine j_le_trans (j_le_of (jput_n e67)) ?_
    obtain ⟨u70, e71, hf⟩ := j_bind hf
    obtain ⟨q68, e69, hf⟩ := j_bind hf
    refine j_le_trans (j_le_of ((q_X11_forget e69))) ?_
    obtain rfl := j_inj hf
    exact j_le_refl _
  refine x_newa (q := q1.1) (h1 := q1.2) C dX11_init_8 rfl (by decide) (by decide) (fun q => q) wi_byte e2 hle ?_
  obtain ⟨h3, e4, hf⟩ := j_bind hf
  refine x_putF C hin dX11_init_10 e4 fp_X11_9 rfl rfl ?_
  refine x_aload_n (v := a0) C dX11_init_13 rfl ?_
  refine x_sipush C dX11_init_14 ks_1009 ?_
  obtain ⟨h5, e6, hf⟩ := j_bind hf
  refine x_put C dX11_init_17 e6 fp_X11_13 rfl rfl ?_
  refine x_aload_n (v := a0) C dX11_init_20 rfl ?_
  refine x_bipush C dX11_init_21 kb_6 ?_
  obtain ⟨q7, e8, hf⟩ := j_bind hf
  have hle : j_le q7.2 q.2 := by
    obtain ⟨h9, e10, hf⟩ := j_bind hf
    refine j_le_trans (j_le_of (jput_n e10)) ?_
    obtain ⟨q11, e12, hf⟩ := j_bind hf
    refine j_le_trans (n_X11_newForms e12) ?_
    obtain ⟨h13, e14, hf⟩ := j_bind hf
    refine j_le_trans (j_le_of (jput_n e14)) ?_
    obtain ⟨q15, e16, hf⟩ := j_bind hf
    refine j_le_trans (n_X11_newShelves e16) ?_
    obtain ⟨h17, e18, hf⟩ := j_bind hf
    refine j_le_trans (j_le_of (jput_n e18)) ?_
    obtain ⟨q19, e20, hf⟩ := j_bind hf
    refine j_le_trans (jnA_le e20) ?_
    obtain ⟨h21, e22, hf⟩ := j_bind hf
    refine j_le_trans (j_le_of (jput_n e22)) ?_
    obtain ⟨q23, e24, hf⟩ := j_bind hf
    refine j_le_trans (jnO_le e24) ?_
    obtain ⟨q25, e26, hf⟩ := j_bind hf
    refine j_le_trans (n_X8_init e26) ?_
    obtain ⟨h27, e28, hf⟩ := j_bind hf
    refine j_le_trans (j_le_of (jput_n e28)) ?_
    obtain ⟨q29, e30, hf⟩ := j_bind hf
    refine j_le_trans (jnO_le e30) ?_
    obtain ⟨q31, e32, hf⟩ := j_bind hf
    refine j_le_trans (n_X5_init e32) ?_
    obtain ⟨h33, e34, hf⟩ := j_bind hf
    refine j_le_trans (j_le_of (jput_n e34)) ?_
    obtain ⟨q35, e36, hf⟩ := j_bind hf
    refine j_le_trans (jnO_le e36) ?_
    obtain ⟨q37, e38, hf⟩ := j_bind hf
    refine j_le_trans (n_X0_init e38) ?_
    obtain ⟨h39, e40, hf⟩ := j_bind hf
    refine j_le_trans (j_le_of (jput_n e40)) ?_
    obtain ⟨q41, e42, hf⟩ := j_bind hf
    refine j_le_trans (jnO_le e42) ?_
    obtain ⟨q43, e44, hf⟩ := j_bind hf
    refine j_le_trans (n_X2_init e44) ?_
    obtain ⟨h45, e46, hf⟩ := j_bind hf
    refine j_le_trans (j_le_of (jput_n e46)) ?_
    obtain ⟨q47, e48, hf⟩ := j_bind hf
    refine j_le_trans (jnA_le e48) ?_
    obtain ⟨h49, e50, hf⟩ := j_bind hf
    refine j_le_trans (j_le_of (jput_n e50)) ?_
    obtain ⟨q60, e61, hf⟩ := j_bind hf
    refine j_le_trans ((jloop_le (fun _ _ _ _ q => n_X11_init_L106 q) e61)) ?_
    obtain ⟨v62, e63, hf⟩ := j_bind hf
    obtain ⟨v64, e65, hf⟩ := j_bind hf
    obtain ⟨h66, e67, hf⟩ := j_bind hf
    refine j_le_trans (j_le_of (jput_n e67)) ?_
    obtain ⟨u70, e71, hf⟩ := j_bind hf
    obtain ⟨q68, e69, hf⟩ := j_bind hf
    refine j_le_trans (j_le_of ((q_X11_forget e69))) ?_
    obtain rfl := j_inj hf
    exact j_le_refl _
  refine x_callS (As := [.int (6 : Int32)]) (rest := [.ref a0]) C dX11_init_23 (m_X11_newForms (l := l) (E := E) (d := d - 1) (by omega) e8) km_X11_newForms lk_X11_17 ks_X11_newForms rfl (by omega) (Nat.le_of_ble_eq_true rfl) (n_X11_newForms e8) (Or.inl hle) ?_
  obtain ⟨h9, e10, hf⟩ := j_bind hf
  refine x_putF C hin dX11_init_26 e10 fp_X11_21 rfl rfl ?_
  refine x_aload_n (v := a0) C dX11_init_29 rfl ?_
  refine x_iconst C dX11_init_30 ki_4 ?_
  obtain ⟨q11, e12, hf⟩ := j_bind hf
  have hle : j_le q11.2 q.2 := by
    obtain ⟨h13, e14, hf⟩ := j_bind hf
    refine j_le_trans (j_le_of (jput_n e14)) ?_
    obtain ⟨q15, e16, hf⟩ := j_bind hf
    refine j_le_trans (n_X11_newShelves e16) ?_
    obtain ⟨h17, e18, hf⟩ := j_bind hf
    refine j_le_trans (j_le_of (jput_n e18)) ?_
    obtain ⟨q19, e20, hf⟩ := j_bind hf
    refine j_le_trans (jnA_le e20) ?_
    obtain ⟨h21, e22, hf⟩ := j_bind hf
    refine j_le_trans (j_le_of (jput_n e22)) ?_
    obtain ⟨q23, e24, hf⟩ := j_bind hf
    refine j_le_trans (jnO_le e24) ?_
    obtain ⟨q25, e26, hf⟩ := j_bind hf
    refine j_le_trans (n_X8_init e26) ?_
    obtain ⟨h27, e28, hf⟩ := j_bind hf
    refine j_le_trans (j_le_of (jput_n e28)) ?_
    obtain ⟨q29, e30, hf⟩ := j_bind hf
    refine j_le_trans (jnO_le e30) ?_
    obtain ⟨q31, e32, hf⟩ := j_bind hf
    refine j_le_trans (n_X5_init e32) ?_
    obtain ⟨h33, e34, hf⟩ := j_bind hf
    refine j_le_trans (j_le_of (jput_n e34)) ?_
    obtain ⟨q35, e36, hf⟩ := j_bind hf
    refine j_le_trans (jnO_le e36) ?_
    obtain ⟨q37, e38, hf⟩ := j_bind hf
    refine j_le_trans (n_X0_init e38) ?_
    obtain ⟨h39, e40, hf⟩ := j_bind hf
    refine j_le_trans (j_le_of (jput_n e40)) ?_
    obtain ⟨q41, e42, hf⟩ := j_bind hf
    refine j_le_trans (jnO_le e42) ?_
    obtain ⟨q43, e44, hf⟩ := j_bind hf
    refine j_le_trans (n_X2_init e44) ?_
    obtain ⟨h45, e46, hf⟩ := j_bind hf
    refine j_le_trans (j_le_of (jput_n e46)) ?_
    obtain ⟨q47, e48, hf⟩ := j_bind hf
    refine j_le_trans (jnA_le e48) ?_
    obtain ⟨h49, e50, hf⟩ := j_bind hf
    refine j_le_trans (j_le_of (jput_n e50)) ?_
    obtain ⟨q60, e61, hf⟩ := j_bind hf
    refine j_le_trans ((jloop_le (fun _ _ _ _ q => n_X11_init_L106 q) e61)) ?_
    obtain ⟨v62, e63, hf⟩ := j_bind hf
    obtain ⟨v64, e65, hf⟩ := j_bind hf
    obtain ⟨h66, e67, hf⟩ := j_bind hf
    refine j_le_trans (j_le_of (jput_n e67)) ?_
    obtain ⟨u70, e71, hf⟩ := j_bind hf
    obtain ⟨q68, e69, hf⟩ := j_bind hf
    refine j_le_trans (j_le_of ((q_X11_forget e69))) ?_
    obtain rfl := j_inj hf
    exact j_le_refl _
  refine x_callS (As := [.int (4 : Int32)]) (rest := [.ref a0]) C dX11_init_31 (m_X11_newForms (l := l) (E := E) (d := d - 1) (by omega) e12) km_X11_newForms lk_X11_17 ks_X11_newForms rfl (by omega) (Nat.le_of_ble_eq_true rfl) (n_X11_newForms e12) (Or.inl hle) ?_
  obtain ⟨h13, e14, hf⟩ := j_bind hf
  refine x_putF C hin dX11_init_34 e14 fp_X11_25 rfl rfl ?_
  refine x_aload_n (v := a0) C dX11_init_37 rfl ?_
  obtain ⟨q15, e16, hf⟩ := j_bind hf
  have hle : j_le q15.2 q.2 := by
    obtain ⟨h17, e18, hf⟩ := j_bind hf
    refine j_le_trans (j_le_of (jput_n e18)) ?_
    obtain ⟨q19, e20, hf⟩ := j_bind hf
    refine j_le_trans (jnA_le e20) ?_
    obtain ⟨h21, e22, hf⟩ := j_bind hf
    refine j_le_trans (j_le_of (jput_n e22)) ?_
    obtain ⟨q23, e24, hf⟩ := j_bind hf
    refine j_le_trans (jnO_le e24) ?_
    obtain ⟨q25, e26, hf⟩ := j_bind hf
    refine j_le_trans (n_X8_init e26) ?_
    obtain ⟨h27, e28, hf⟩ := j_bind hf
    refine j_le_trans (j_le_of (jput_n e28)) ?_
    obtain ⟨q29, e30, hf⟩ := j_bind hf
    refine j_le_trans (jnO_le e30) ?_
    obtain ⟨q31, e32, hf⟩ := j_bind hf
    refine j_le_trans (n_X5_init e32) ?_
    obtain ⟨h33, e34, hf⟩ := j_bind hf
    refine j_le_trans (j_le_of (jput_n e34)) ?_
    obtain ⟨q35, e36, hf⟩ := j_bind hf
    refine j_le_trans (jnO_le e36) ?_
    obtain ⟨q37, e38, hf⟩ := j_bind hf
    refine j_le_trans (n_X0_init e38) ?_
    obtain ⟨h39, e40, hf⟩ := j_bind hf
    refine j_le_trans (j_le_of (jput_n e40)) ?_
    obtain ⟨q41, e42, hf⟩ := j_bind hf
    refine j_le_trans (jnO_le e42) ?_
    obtain ⟨q43, e44, hf⟩ := j_bind hf
    refine j_le_trans (n_X2_init e44) ?_
    obtain ⟨h45, e46, hf⟩ := j_bind hf
    refine j_le_trans (j_le_of (jput_n e46)) ?_
    obtain ⟨q47, e48, hf⟩ := j_bind hf
    refine j_le_trans (jnA_le e48) ?_
    obtain ⟨h49, e50, hf⟩ := j_bind hf
    refine j_le_trans (j_le_of (jput_n e50)) ?_
    obtain ⟨q60, e61, hf⟩ := j_bind hf
    refine j_le_trans ((jloop_le (fun _ _ _ _ q => n_X11_init_L106 q) e61)) ?_
    obtain ⟨v62, e63, hf⟩ := j_bind hf
    obtain ⟨v64, e65, hf⟩ := j_bind hf
    obtain ⟨h66, e67, hf⟩ := j_bind hf
    refine j_le_trans (j_le_of (jput_n e67)) ?_
    obtain ⟨u70, e71, hf⟩ := j_bind hf
    obtain ⟨q68, e69, hf⟩ := j_bind hf
    refine j_le_trans (j_le_of ((q_X11_forget e69))) ?_
    obtain rfl := j_inj hf
    exact j_le_refl _
  refine x_callS (As := []) (rest := [.ref a0]) C dX11_init_38 (m_X11_newShelves (l := l) (E := E) (d := d - 1) (by omega) e16) km_X11_newShelves lk_X11_28 ks_X11_newShelves rfl (by omega) (Nat.le_of_ble_eq_true rfl) (n_X11_newShelves e16) (Or.inl hle) ?_
  obtain ⟨h17, e18, hf⟩ := j_bind hf
  refine x_putF C hin dX11_init_41 e18 fp_X11_32 rfl rfl ?_
  refine x_aload_n (v := a0) C dX11_init_44 rfl ?_
  refine x_iconst C dX11_init_45 ki_2 ?_
  obtain ⟨q19, e20, hf⟩ := j_bind hf
  have hle : j_le q19.2 q.2 := by
    obtain ⟨h21, e22, hf⟩ := j_bind hf
    refine j_le_trans (j_le_of (jput_n e22)) ?_
    obtain ⟨q23, e24, hf⟩ := j_bind hf
    refine j_le_trans (jnO_le e24) ?_
    obtain ⟨q25, e26, hf⟩ := j_bind hf
    refine j_le_trans (n_X8_init e26) ?_
    obtain ⟨h27, e28, hf⟩ := j_bind hf
    refine j_le_trans (j_le_of (jput_n e28)) ?_
    obtain ⟨q29, e30, hf⟩ := j_bind hf
    refine j_le_trans (jnO_le e30) ?_
    obtain ⟨q31, e32, hf⟩ := j_bind hf
    refine j_le_trans (n_X5_init e32) ?_
    obtain ⟨h33, e34, hf⟩ := j_bind hf
    refine j_le_trans (j_le_of (jput_n e34)) ?_
    obtain ⟨q35, e36, hf⟩ := j_bind hf
    refine j_le_trans (jnO_le e36) ?_
    obtain ⟨q37, e38, hf⟩ := j_bind hf
    refine j_le_trans (n_X0_init e38) ?_
    obtain ⟨h39, e40, hf⟩ := j_bind hf
    refine j_le_trans (j_le_of (jput_n e40)) ?_
    obtain ⟨q41, e42, hf⟩ := j_bind hf
    refine j_le_trans (jnO_le e42) ?_
    obtain ⟨q43, e44, hf⟩ := j_bind hf
    refine j_le_trans (n_X2_init e44) ?_
    obtain ⟨h45, e46, hf⟩ := j_bind hf
    refine j_le_trans (j_le_of (jput_n e46)) ?_
    obtain ⟨q47, e48, hf⟩ := j_bind hf
    refine j_le_trans (jnA_le e48) ?_
    obtain ⟨h49, e50, hf⟩ := j_bind hf
    refine j_le_trans (j_le_of (jput_n e50)) ?_
    obtain ⟨q60, e61, hf⟩ := j_bind hf
    refine j_le_trans ((jloop_le (fun _ _ _ _ q => n_X11_init_L106 q) e61)) ?_
    obtain ⟨v62, e63, hf⟩ := j_bind hf
    obtain ⟨v64, e65, hf⟩ := j_bind hf
    obtain ⟨h66, e67, hf⟩ := j_bind hf
    refine j_le_trans (j_le_of (jput_n e67)) ?_
    obtain ⟨u70, e71, hf⟩ := j_bind hf
    obtain ⟨q68, e69, hf⟩ := j_bind hf
    refine j_le_trans (j_le_of ((q_X11_forget e69))) ?_
    obtain rfl := j_inj hf
    exact j_le_refl _
  refine x_newq (q := q19.1) (h1 := q19.2) C dX11_init_46 (by decide) wc_X11_36 wo_X3 e20 hle ?_
  obtain ⟨h21, e22, hf⟩ := j_bind hf
  refine x_putF C hin dX11_init_49 e22 fp_X11_38 rfl rfl ?_
  refine x_aload_n (v := a0) C dX11_init_52 rfl ?_
  obtain ⟨q23, e24, hf⟩ := j_bind hf
  have hle : j_le q23.2 q.2 := by
    obtain ⟨q25, e26, hf⟩ := j_bind hf
    refine j_le_trans (n_X8_init e26) ?_
    obtain ⟨h27, e28, hf⟩ := j_bind hf
    refine j_le_trans (j_le_of (jput_n e28)) ?_
    obtain ⟨q29, e30, hf⟩ := j_bind hf
    refine j_le_trans (jnO_le e30) ?_
    obtain ⟨q31, e32, hf⟩ := j_bind hf
    refine j_le_trans (n_X5_init e32) ?_
    obtain ⟨h33, e34, hf⟩ := j_bind hf
    refine j_le_trans (j_le_of (jput_n e34)) ?_
    obtain ⟨q35, e36, hf⟩ := j_bind hf
    refine j_le_trans (jnO_le e36) ?_
    obtain ⟨q37, e38, hf⟩ := j_bind hf
    refine j_le_trans (n_X0_init e38) ?_
    obtain ⟨h39, e40, hf⟩ := j_bind hf
    refine j_le_trans (j_le_of (jput_n e40)) ?_
    obtain ⟨q41, e42, hf⟩ := j_bind hf
    refine j_le_trans (jnO_le e42) ?_
    obtain ⟨q43, e44, hf⟩ := j_bind hf
    refine j_le_trans (n_X2_init e44) ?_
    obtain ⟨h45, e46, hf⟩ := j_bind hf
    refine j_le_trans (j_le_of (jput_n e46)) ?_
    obtain ⟨q47, e48, hf⟩ := j_bind hf
    refine j_le_trans (jnA_le e48) ?_
    obtain ⟨h49, e50, hf⟩ := j_bind hf
    refine j_le_trans (j_le_of (jput_n e50)) ?_
    obtain ⟨q60, e61, hf⟩ := j_bind hf
    refine j_le_trans ((jloop_le (fun _ _ _ _ q => n_X11_init_L106 q) e61)) ?_
    obtain ⟨v62, e63, hf⟩ := j_bind hf
    obtain ⟨v64, e65, hf⟩ := j_bind hf
    obtain ⟨h66, e67, hf⟩ := j_bind hf
    refine j_le_trans (j_le_of (jput_n e67)) ?_
    obtain ⟨u70, e71, hf⟩ := j_bind hf
    obtain ⟨q68, e69, hf⟩ := j_bind hf
    refine j_le_trans (j_le_of ((q_X11_forget e69))) ?_
    obtain rfl := j_inj hf
    exact j_le_refl _
  refine x_new C dX11_init_53 nc_X11_42 e24 hle ?_
  refine x_dup C dX11_init_56 rfl ?_
  obtain ⟨q25, e26, hf⟩ := j_bind hf
  have hle : j_le q25.2 q.2 := by
    obtain ⟨h27, e28, hf⟩ := j_bind hf
    refine j_le_trans (j_le_of (jput_n e28)) ?_
    obtain ⟨q29, e30, hf⟩ := j_bind hf
    refine j_le_trans (jnO_le e30) ?_
    obtain ⟨q31, e32, hf⟩ := j_bind hf
    refine j_le_trans (n_X5_init e32) ?_
    obtain ⟨h33, e34, hf⟩ := j_bind hf
    refine j_le_trans (j_le_of (jput_n e34)) ?_
    obtain ⟨q35, e36, hf⟩ := j_bind hf
    refine j_le_trans (jnO_le e36) ?_
    obtain ⟨q37, e38, hf⟩ := j_bind hf
    refine j_le_trans (n_X0_init e38) ?_
    obtain ⟨h39, e40, hf⟩ := j_bind hf
    refine j_le_trans (j_le_of (jput_n e40)) ?_
    obtain ⟨q41, e42, hf⟩ := j_bind hf
    refine j_le_trans (jnO_le e42) ?_
    obtain ⟨q43, e44, hf⟩ := j_bind hf
    refine j_le_trans (n_X2_init e44) ?_
    obtain ⟨h45, e46, hf⟩ := j_bind hf
    refine j_le_trans (j_le_of (jput_n e46)) ?_
    obtain ⟨q47, e48, hf⟩ := j_bind hf
    refine j_le_trans (jnA_le e48) ?_
    obtain ⟨h49, e50, hf⟩ := j_bind hf
    refine j_le_trans (j_le_of (jput_n e50)) ?_
    obtain ⟨q60, e61, hf⟩ := j_bind hf
    refine j_le_trans ((jloop_le (fun _ _ _ _ q => n_X11_init_L106 q) e61)) ?_
    obtain ⟨v62, e63, hf⟩ := j_bind hf
    obtain ⟨v64, e65, hf⟩ := j_bind hf
    obtain ⟨h66, e67, hf⟩ := j_bind hf
    refine j_le_trans (j_le_of (jput_n e67)) ?_
    obtain ⟨u70, e71, hf⟩ := j_bind hf
    obtain ⟨q68, e69, hf⟩ := j_bind hf
    refine j_le_trans (j_le_of ((q_X11_forget e69))) ?_
    obtain rfl := j_inj hf
    exact j_le_refl _
  refine x_callI (As := []) (rest := [.ref q23.1, .ref a0]) C dX11_init_57 (m_X8_init (l := l) (E := E) (d := d - 1) (by omega) e26) km_X8_init lk_X11_44 ki_X8_init rfl (by omega) (Nat.le_of_ble_eq_true rfl) (n_X8_init e26) (Or.inl hle) ?_
  obtain ⟨h27, e28, hf⟩ := j_bind hf
  refine x_putF C hin dX11_init_60 e28 fp_X11_45 rfl rfl ?_
  refine x_aload_n (v := a0) C dX11_init_63 rfl ?_
  obtain ⟨q29, e30, hf⟩ := j_bind hf
  have hle : j_le q29.2 q.2 := by
    obtain ⟨q31, e32, hf⟩ := j_bind hf
    refine j_le_trans (n_X5_init e32) ?_
    obtain ⟨h33, e34, hf⟩ := j_bind hf
    refine j_le_trans (j_le_of (jput_n e34)) ?_
    obtain ⟨q35, e36, hf⟩ := j_bind hf
    refine j_le_trans (jnO_le e36) ?_
    obtain ⟨q37, e38, hf⟩ := j_bind hf
    refine j_le_trans (n_X0_init e38) ?_
    obtain ⟨h39, e40, hf⟩ := j_bind hf
    refine j_le_trans (j_le_of (jput_n e40)) ?_
    obtain ⟨q41, e42, hf⟩ := j_bind hf
    refine j_le_trans (jnO_le e42) ?_
    obtain ⟨q43, e44, hf⟩ := j_bind hf
    refine j_le_trans (n_X2_init e44) ?_
    obtain ⟨h45, e46, hf⟩ := j_bind hf
    refine j_le_trans (j_le_of (jput_n e46)) ?_
    obtain ⟨q47, e48, hf⟩ := j_bind hf
    refine j_le_trans (jnA_le e48) ?_
    obtain ⟨h49, e50, hf⟩ := j_bind hf
    refine j_le_trans (j_le_of (jput_n e50)) ?_
    obtain ⟨q60, e61, hf⟩ := j_bind hf
    refine j_le_trans ((jloop_le (fun _ _ _ _ q => n_X11_init_L106 q) e61)) ?_
    obtain ⟨v62, e63, hf⟩ := j_bind hf
    obtain ⟨v64, e65, hf⟩ := j_bind hf
    obtain ⟨h66, e67, hf⟩ := j_bind hf
    refine j_le_trans (j_le_of (jput_n e67)) ?_
    obtain ⟨u70, e71, hf⟩ := j_bind hf
    obtain ⟨q68, e69, hf⟩ := j_bind hf
    refine j_le_trans (j_le_of ((q_X11_forget e69))) ?_
    obtain rfl := j_inj hf
    exact j_le_refl _
  refine x_new C dX11_init_64 nc_X11_49 e30 hle ?_
  refine x_dup C dX11_init_67 rfl ?_
  obtain ⟨q31, e32, hf⟩ := j_bind hf
  have hle : j_le q31.2 q.2 := by
    obtain ⟨h33, e34, hf⟩ := j_bind hf
    refine j_le_trans (j_le_of (jput_n e34)) ?_
    obtain ⟨q35, e36, hf⟩ := j_bind hf
    refine j_le_trans (jnO_le e36) ?_
    obtain ⟨q37, e38, hf⟩ := j_bind hf
    refine j_le_trans (n_X0_init e38) ?_
    obtain ⟨h39, e40, hf⟩ := j_bind hf
    refine j_le_trans (j_le_of (jput_n e40)) ?_
    obtain ⟨q41, e42, hf⟩ := j_bind hf
    refine j_le_trans (jnO_le e42) ?_
    obtain ⟨q43, e44, hf⟩ := j_bind hf
    refine j_le_trans (n_X2_init e44) ?_
    obtain ⟨h45, e46, hf⟩ := j_bind hf
    refine j_le_trans (j_le_of (jput_n e46)) ?_
    obtain ⟨q47, e48, hf⟩ := j_bind hf
    refine j_le_trans (jnA_le e48) ?_
    obtain ⟨h49, e50, hf⟩ := j_bind hf
    refine j_le_trans (j_le_of (jput_n e50)) ?_
    obtain ⟨q60, e61, hf⟩ := j_bind hf
    refine j_le_trans ((jloop_le (fun _ _ _ _ q => n_X11_init_L106 q) e61)) ?_
    obtain ⟨v62, e63, hf⟩ := j_bind hf
    obtain ⟨v64, e65, hf⟩ := j_bind hf
    obtain ⟨h66, e67, hf⟩ := j_bind hf
    refine j_le_trans (j_le_of (jput_n e67)) ?_
    obtain ⟨u70, e71, hf⟩ := j_bind hf
    obtain ⟨q68, e69, hf⟩ := j_bind hf
    refine j_le_trans (j_le_of ((q_X11_forget e69))) ?_
    obtain rfl := j_inj hf
    exact j_le_refl _
  refine x_callIN (As := []) (rest := [.ref q29.1, .ref a0]) C dX11_init_68 (m_X5_init (l := l) (E := E) (d := d - 1) (by omega) e32) km_X5_init lk_X11_51 ki_X5_init rfl (by omega) (Nat.le_of_ble_eq_true rfl) (n_X5_init e32) (Or.inl hle) ?_
  obtain ⟨h33, e34, hf⟩ := j_bind hf
  refine x_putF C hin dX11_init_71 e34 fp_X11_52 rfl rfl ?_
  refine x_aload_n (v := a0) C dX11_init_74 rfl ?_
  obtain ⟨q35, e36, hf⟩ := j_bind hf
  have hle : j_le q35.2 q.2 := by
    obtain ⟨q37, e38, hf⟩ := j_bind hf
    refine j_le_trans (n_X0_init e38) ?_
    obtain ⟨h39, e40, hf⟩ := j_bind hf
    refine j_le_trans (j_le_of (jput_n e40)) ?_
    obtain ⟨q41, e42, hf⟩ := j_bind hf
    refine j_le_trans (jnO_le e42) ?_
    obtain ⟨q43, e44, hf⟩ := j_bind hf
    refine j_le_trans (n_X2_init e44) ?_
    obtain ⟨h45, e46, hf⟩ := j_bind hf
    refine j_le_trans (j_le_of (jput_n e46)) ?_
    obtain ⟨q47, e48, hf⟩ := j_bind hf
    refine j_le_trans (jnA_le e48) ?_
    obtain ⟨h49, e50, hf⟩ := j_bind hf
    refine j_le_trans (j_le_of (jput_n e50)) ?_
    obtain ⟨q60, e61, hf⟩ := j_bind hf
    refine j_le_trans ((jloop_le (fun _ _ _ _ q => n_X11_init_L106 q) e61)) ?_
    obtain ⟨v62, e63, hf⟩ := j_bind hf
    obtain ⟨v64, e65, hf⟩ := j_bind hf
    obtain ⟨h66, e67, hf⟩ := j_bind hf
    refine j_le_trans (j_le_of (jput_n e67)) ?_
    obtain ⟨u70, e71, hf⟩ := j_bind hf
    obtain ⟨q68, e69, hf⟩ := j_bind hf
    refine j_le_trans (j_le_of ((q_X11_forget e69))) ?_
    obtain rfl := j_inj hf
    exact j_le_refl _
  refine x_new C dX11_init_75 nc_X11_56 e36 hle ?_
  refine x_dup C dX11_init_78 rfl ?_
  obtain ⟨q37, e38, hf⟩ := j_bind hf
  have hle : j_le q37.2 q.2 := by
    obtain ⟨h39, e40, hf⟩ := j_bind hf
    refine j_le_trans (j_le_of (jput_n e40)) ?_
    obtain ⟨q41, e42, hf⟩ := j_bind hf
    refine j_le_trans (jnO_le e42) ?_
    obtain ⟨q43, e44, hf⟩ := j_bind hf
    refine j_le_trans (n_X2_init e44) ?_
    obtain ⟨h45, e46, hf⟩ := j_bind hf
    refine j_le_trans (j_le_of (jput_n e46)) ?_
    obtain ⟨q47, e48, hf⟩ := j_bind hf
    refine j_le_trans (jnA_le e48) ?_
    obtain ⟨h49, e50, hf⟩ := j_bind hf
    refine j_le_trans (j_le_of (jput_n e50)) ?_
    obtain ⟨q60, e61, hf⟩ := j_bind hf
    refine j_le_trans ((jloop_le (fun _ _ _ _ q => n_X11_init_L106 q) e61)) ?_
    obtain ⟨v62, e63, hf⟩ := j_bind hf
    obtain ⟨v64, e65, hf⟩ := j_bind hf
    obtain ⟨h66, e67, hf⟩ := j_bind hf
    refine j_le_trans (j_le_of (jput_n e67)) ?_
    obtain ⟨u70, e71, hf⟩ := j_bind hf
    obtain ⟨q68, e69, hf⟩ := j_bind hf
    refine j_le_trans (j_le_of ((q_X11_forget e69))) ?_
    obtain rfl := j_inj hf
    exact j_le_refl _
  refine x_callIN (As := []) (rest := [.ref q35.1, .ref a0]) C dX11_init_79 (m_X0_init (l := l) (E := E) (d := d - 1) (by omega) e38) km_X0_init lk_X11_58 ki_X0_init rfl (by omega) (Nat.le_of_ble_eq_true rfl) (n_X0_init e38) (Or.inl hle) ?_
  obtain ⟨h39, e40, hf⟩ := j_bind hf
  refine x_putF C hin dX11_init_82 e40 fp_X11_59 rfl rfl ?_
  refine x_aload_n (v := a0) C dX11_init_85 rfl ?_
  obtain ⟨q41, e42, hf⟩ := j_bind hf
  have hle : j_le q41.2 q.2 := by
    obtain ⟨q43, e44, hf⟩ := j_bind hf
    refine j_le_trans (n_X2_init e44) ?_
    obtain ⟨h45, e46, hf⟩ := j_bind hf
    refine j_le_trans (j_le_of (jput_n e46)) ?_
    obtain ⟨q47, e48, hf⟩ := j_bind hf
    refine j_le_trans (jnA_le e48) ?_
    obtain ⟨h49, e50, hf⟩ := j_bind hf
    refine j_le_trans (j_le_of (jput_n e50)) ?_
    obtain ⟨q60, e61, hf⟩ := j_bind hf
    refine j_le_trans ((jloop_le (fun _ _ _ _ q => n_X11_init_L106 q) e61)) ?_
    obtain ⟨v62, e63, hf⟩ := j_bind hf
    obtain ⟨v64, e65, hf⟩ := j_bind hf
    obtain ⟨h66, e67, hf⟩ := j_bind hf
    refine j_le_trans (j_le_of (jput_n e67)) ?_
    obtain ⟨u70, e71, hf⟩ := j_bind hf
    obtain ⟨q68, e69, hf⟩ := j_bind hf
    refine j_le_trans (j_le_of ((q_X11_forget e69))) ?_
    obtain rfl := j_inj hf
    exact j_le_refl _
  refine x_new C dX11_init_86 nc_X11_63 e42 hle ?_
  refine x_dup C dX11_init_89 rfl ?_
  obtain ⟨q43, e44, hf⟩ := j_bind hf
  have hle : j_le q43.2 q.2 := by
    obtain ⟨h45, e46, hf⟩ := j_bind hf
    refine j_le_trans (j_le_of (jput_n e46)) ?_
    obtain ⟨q47, e48, hf⟩ := j_bind hf
    refine j_le_trans (jnA_le e48) ?_
    obtain ⟨h49, e50, hf⟩ := j_bind hf
    refine j_le_trans (j_le_of (jput_n e50)) ?_
    obtain ⟨q60, e61, hf⟩ := j_bind hf
    refine j_le_trans ((jloop_le (fun _ _ _ _ q => n_X11_init_L106 q) e61)) ?_
    obtain ⟨v62, e63, hf⟩ := j_bind hf
    obtain ⟨v64, e65, hf⟩ := j_bind hf
    obtain ⟨h66, e67, hf⟩ := j_bind hf
    refine j_le_trans (j_le_of (jput_n e67)) ?_
    obtain ⟨u70, e71, hf⟩ := j_bind hf
    obtain ⟨q68, e69, hf⟩ := j_bind hf
    refine j_le_trans (j_le_of ((q_X11_forget e69))) ?_
    obtain rfl := j_inj hf
    exact j_le_refl _
  refine x_callIN (As := []) (rest := [.ref q41.1, .ref a0]) C dX11_init_90 (m_X2_init (l := l) (E := E) (d := d - 1) (by omega) e44) km_X2_init lk_X11_65 ki_X2_init rfl (by omega) (Nat.le_of_ble_eq_true rfl) (n_X2_init e44) (Or.inl hle) ?_
  obtain ⟨h45, e46, hf⟩ := j_bind hf
  refine x_putF C hin dX11_init_93 e46 fp_X11_66 rfl rfl ?_
  refine x_aload_n (v := a0) C dX11_init_96 rfl ?_
  refine x_bipush C dX11_init_97 kb_12 ?_
  obtain ⟨q47, e48, hf⟩ := j_bind hf
  have hle : j_le q47.2 q.2 := by
    obtain ⟨h49, e50, hf⟩ := j_bind hf
    refine j_le_trans (j_le_of (jput_n e50)) ?_
    obtain ⟨q60, e61, hf⟩ := j_bind hf
    refine j_le_trans ((jloop_le (fun _ _ _ _ q => n_X11_init_L106 q) e61)) ?_
    obtain ⟨v62, e63, hf⟩ := j_bind hf
    obtain ⟨v64, e65, hf⟩ := j_bind hf
    obtain ⟨h66, e67, hf⟩ := j_bind hf
    refine j_le_trans (j_le_of (jput_n e67)) ?_
    obtain ⟨u70, e71, hf⟩ := j_bind hf
    obtain ⟨q68, e69, hf⟩ := j_bind hf
    refine j_le_trans (j_le_of ((q_X11_forget e69))) ?_
    obtain rfl := j_inj hf
    exact j_le_refl _
  refine x_newa (q := q47.1) (h1 := q47.2) C dX11_init_99 rfl (by decide) (by decide) (fun q => q) wi_long e48 hle ?_
  obtain ⟨h49, e50, hf⟩ := j_bind hf
  refine x_putF C hin dX11_init_101 e50 fp_X11_70 rfl rfl ?_
  refine x_iconst C dX11_init_104 ki_0 ?_
  refine x_istore_n C dX11_init_105 (by decide) ?_
  obtain ⟨q60, e61, hf⟩ := j_bind hf
  have hle : j_le q60.2 q.2 := by
    obtain ⟨v62, e63, hf⟩ := j_bind hf
    obtain ⟨v64, e65, hf⟩ := j_bind hf
    obtain ⟨h66, e67, hf⟩ := j_bind hf
    refine j_le_trans (j_le_of (jput_n e67)) ?_
    obtain ⟨u70, e71, hf⟩ := j_bind hf
    obtain ⟨q68, e69, hf⟩ := j_bind hf
    refine j_le_trans (j_le_of ((q_X11_forget e69))) ?_
    obtain rfl := j_inj hf
    exact j_le_refl _
  refine x_loc [(0, .ref a0), (1, .int (0 : Int32))] rfl ?_
  refine x_loopA (s_X11_init_L106 C hret hin hdd a0) (fun _ _ _ _ q => n_X11_init_L106 q) e61 hle ?_
  refine x_aload_n (v := a0) C dX11_init_130 rfl ?_
  obtain ⟨v62, e63, hf⟩ := j_bind hf
  refine x_get C dX11_init_131 (jgR_some e63) fg_X11_32 ?_
  refine x_iconst C dX11_init_134 ki_1 ?_
  obtain ⟨v64, e65, hf⟩ := j_bind hf
  refine x_aald C dX11_init_135 e65 ?_
  refine x_iconst C dX11_init_136 ki_1 ?_
  obtain ⟨h66, e67, hf⟩ := j_bind hf
  refine x_put C dX11_init_137 e67 fp_X11_75 rfl rfl ?_
  refine x_aload_n (v := a0) C dX11_init_140 rfl ?_
  obtain ⟨u70, e71, hf⟩ := j_bind hf
  obtain ⟨q68, e69, hf⟩ := j_bind hf
  refine x_callV (As := []) (rest := []) C dX11_init_141 (m_X11_forget (l := l) (E := E) (d := d - 1) (by omega) e69) km_X11_forget lk_X11_81 kv_X11_forget (ci := 8) rfl e71 rfl (by omega) (Nat.le_of_ble_eq_true rfl) (j_le_of (q_X11_forget e69)) (Or.inr (q_X11_forget e69)) ?_
  obtain rfl := j_inj hf
  exact x_vret C hret dX11_init_144
set_option maxHeartbeats 4000000 in
set_option maxRecDepth 100000 in
theorem s_X11_feedFour_L3 {p : Program} {l : Launch} {e : Env} {R : Room} {s : State} {m : MethodId} {args : Array Value} {below : List Frame} {meth : Method} {c : Code} {E : JE} {h0 hF : JH} {rF : Option Value} {d : Nat} (C : j_C p s m args meth c R E cX11_feedFour 3 RX11 h0 hF d) (hret : meth.sig.returnType = none) (hdd : 0 ≤ d) (a0 : Nat) (a1 : Int32) (z : Int32) (h : JH) (r : Int32 ⊕ Int32) (h1 : JH) (hf : f_X11_feedFour_L3 a0 a1 z h = some (r, h1)) (hk : Sum.elim (fun z => Xw p l e R s m args below meth c E 3 h0 rF hF 3 [(0, .ref a0), (1, .int a1), (2, .int z)] [] h1) (fun t => Xw p l e R s m args below meth c E 3 h0 rF hF 46 [(0, .ref a0), (1, .int a1), (2, .int t)] [] h1) r) : Xw p l e R s m args below meth c E 3 h0 rF hF 3 [(0, .ref a0), (1, .int a1), (2, .int z)] [] h := by
  unfold f_X11_feedFour_L3 at hf
  refine x_iload_n (v := z) C dX11_feedFour_3 rfl ?_
  refine x_if_lt (tgt := 46) C dX11_feedFour_4 (by decide) (fun c13 => ?_) (fun c13 => ?_)
  · have hf := j_ifp hf c13
    obtain ⟨rfl, rfl⟩ := j_inj2 hf
    exact x_locr hk rfl
  · have hf := j_ifn hf c13
    refine x_aload_n (v := a0) C dX11_feedFour_7 rfl ?_
    obtain ⟨v1, e2, hf⟩ := j_bind hf
    refine x_get C dX11_feedFour_8 (jgI_some e2) fg_X11_84 ?_
    refine x_sipush C dX11_feedFour_11 ks_600 ?_
    refine x_icmp_ge (tgt := 46) C dX11_feedFour_14 (by decide) (fun c14 => ?_) (fun c14 => ?_)
    · have hf := j_ifp hf c14
      obtain ⟨rfl, rfl⟩ := j_inj2 hf
      exact x_locr hk rfl
    · have hf := j_ifn hf c14
      refine x_aload_n (v := a0) C dX11_feedFour_17 rfl ?_
      obtain ⟨v3, e4, hf⟩ := j_bind hf
      refine x_get C dX11_feedFour_18 (jgR_some e4) fg_X11_9 ?_
      refine x_aload_n (v := a0) C dX11_feedFour_21 rfl ?_
      obtain ⟨v5, e6, hf⟩ := j_bind hf
      refine x_get C dX11_feedFour_22 (jgI_some e6) fg_X11_84 ?_
      refine x_iload_n (v := a1) C dX11_feedFour_25 rfl ?_
      refine x_iload_n (v := z) C dX11_feedFour_26 rfl ?_
      refine x_ishr C dX11_feedFour_27 ?_
      refine x_i2b C dX11_feedFour_28 ?_
      obtain ⟨h7, e8, hf⟩ := j_bind hf
      refine x_bast C dX11_feedFour_29 e8 ?_
      refine x_aload_n (v := a0) C dX11_feedFour_30 rfl ?_
      refine x_dup C dX11_feedFour_31 rfl ?_
      obtain ⟨v9, e10, hf⟩ := j_bind hf
      refine x_get C dX11_feedFour_32 (jgI_some e10) fg_X11_84 ?_
      refine x_iconst C dX11_feedFour_35 ki_1 ?_
      refine x_iadd C dX11_feedFour_36 ?_
      obtain ⟨h11, e12, hf⟩ := j_bind hf
      refine x_put C dX11_feedFour_37 e12 fp_X11_84 rfl rfl ?_
      refine x_iinc (v := z) C dX11_feedFour_40 rfl ki_m8 (by decide) ?_
      refine x_goto (tgt := 3) C dX11_feedFour_43 (by decide) ?_
      obtain ⟨rfl, rfl⟩ := j_inj2 hf
      exact x_locr hk rfl
set_option maxHeartbeats 4000000 in
set_option maxRecDepth 100000 in
theorem m_X11_feedFour {l : Launch} {E : JE} {d : Nat} (hdd : 0 ≤ d) {a0 : Nat} {a1 : Int32} {h : JH} {q : Unit × JH} (hf : f_X11_feedFour a0 a1 h = some q) : Con l E d yX11_feedFour cX11_feedFour 3 none [.ref a0, .int a1] h (none) q.2 := by
  refine j_start rfl (Nat.le_of_ble_eq_true rfl) ?_
  intro p e s m args below meth c C hret hnm
  refine x_loc [(0, .ref a0), (1, .int a1)] rfl ?_
  unfold f_X11_feedFour at hf
  refine x_bipush C dX11_feedFour_0 kb_24 ?_
  refine x_istore_n C dX11_feedFour_2 (by decide) ?_
  obtain ⟨q15, e16, hf⟩ := j_bind hf
  refine x_loc [(0, .ref a0), (1, .int a1), (2, .int (24 : Int32))] rfl ?_
  refine x_loop (s_X11_feedFour_L3 C hret hdd a0 a1) e16 ?_
  obtain rfl := j_inj hf
  exact x_vret C hret dX11_feedFour_46
set_option maxHeartbeats 4000000 in
set_option maxRecDepth 100000 in
theorem m_X11_feed {l : Launch} {E : JE} {d : Nat} (hdd : 1 ≤ d) {a0 : Nat} {a1 : Int32} {a2 : Int32} {a3 : Int32} {a4 : Int32} {a5 : Int32} {h : JH} {q : Int32 × JH} (hf : f_X11_feed a0 a1 a2 a3 a4 a5 h = some q) : Con l E d yX11_feed cX11_feed 6 (some .int) [.ref a0, .int a1, .int a2, .int a3, .int a4, .int a5] h (some (.int q.1)) q.2 := by
  refine j_start rfl (Nat.le_of_ble_eq_true rfl) ?_
  intro p e s m args below meth c C hret hnm
  refine x_loc [(0, .ref a0), (1, .int a1), (2, .int a2), (3, .int a3), (4, .int a4), (5, .int a5)] rfl ?_
  unfold f_X11_feed at hf
  refine x_aload_n (v := a0) C dX11_feed_0 rfl ?_
  obtain ⟨v1, e2, hf⟩ := j_bind hf
  refine x_get C dX11_feed_1 (jgI_some e2) fg_X11_84 ?_
  refine x_bipush C dX11_feed_4 kb_20 ?_
  refine x_iadd C dX11_feed_6 ?_
  refine x_sipush C dX11_feed_7 ks_600 ?_
  refine x_icmp_le (tgt := 15) C dX11_feed_10 (by decide) (fun c25 => ?_) (fun c25 => ?_)
  · have hf := j_ifp hf c25
    refine x_aload_n (v := a0) C dX11_feed_15 rfl ?_
    refine x_iload_n (v := a1) C dX11_feed_16 rfl ?_
    obtain ⟨u23, e24, hf⟩ := j_bind hf
    obtain ⟨q3, e4, hf⟩ := j_bind hf
    refine x_callV (As := [.int a1]) (rest := []) C dX11_feed_17 (m_X11_feedFour (l := l) (E := E) (d := d - 1) (by omega) e4) km_X11_feedFour lk_X11_87 kv_X11_feedFour (ci := 8) rfl e24 rfl (by omega) (Nat.le_of_ble_eq_true rfl) (j_le_of (q_X11_feedFour e4)) (Or.inr (q_X11_feedFour e4)) ?_
    refine x_aload_n (v := a0) C dX11_feed_20 rfl ?_
    refine x_iload_n (v := a2) C dX11_feed_21 rfl ?_
    obtain ⟨u21, e22, hf⟩ := j_bind hf
    obtain ⟨q5, e6, hf⟩ := j_bind hf
    refine x_callV (As := [.int a2]) (rest := []) C dX11_feed_22 (m_X11_feedFour (l := l) (E := E) (d := d - 1) (by omega) e6) km_X11_feedFour lk_X11_87 kv_X11_feedFour (ci := 8) rfl e22 rfl (by omega) (Nat.le_of_ble_eq_true rfl) (j_le_of (q_X11_feedFour e6)) (Or.inr (q_X11_feedFour e6)) ?_
    refine x_aload_n (v := a0) C dX11_feed_25 rfl ?_
    refine x_iload_n (v := a3) C dX11_feed_26 rfl ?_
    obtain ⟨u19, e20, hf⟩ := j_bind hf
    obtain ⟨q7, e8, hf⟩ := j_bind hf
    refine x_callV (As := [.int a3]) (rest := []) C dX11_feed_27 (m_X11_feedFour (l := l) (E := E) (d := d - 1) (by omega) e8) km_X11_feedFour lk_X11_87 kv_X11_feedFour (ci := 8) rfl e20 rfl (by omega) (Nat.le_of_ble_eq_true rfl) (j_le_of (q_X11_feedFour e8)) (Or.inr (q_X11_feedFour e8)) ?_
    refine x_aload_n (v := a0) C dX11_feed_30 rfl ?_
    refine x_iload (v := a4) C dX11_feed_31 rfl ?_
    obtain ⟨u17, e18, hf⟩ := j_bind hf
    obtain ⟨q9, e10, hf⟩ := j_bind hf
    refine x_callV (As := [.int a4]) (rest := []) C dX11_feed_33 (m_X11_feedFour (l := l) (E := E) (d := d - 1) (by omega) e10) km_X11_feedFour lk_X11_87 kv_X11_feedFour (ci := 8) rfl e18 rfl (by omega) (Nat.le_of_ble_eq_true rfl) (j_le_of (q_X11_feedFour e10)) (Or.inr (q_X11_feedFour e10)) ?_
    refine x_aload_n (v := a0) C dX11_feed_36 rfl ?_
    refine x_iload (v := a5) C dX11_feed_37 rfl ?_
    obtain ⟨u15, e16, hf⟩ := j_bind hf
    obtain ⟨q11, e12, hf⟩ := j_bind hf
    refine x_callV (As := [.int a5]) (rest := []) C dX11_feed_39 (m_X11_feedFour (l := l) (E := E) (d := d - 1) (by omega) e12) km_X11_feedFour lk_X11_87 kv_X11_feedFour (ci := 8) rfl e16 rfl (by omega) (Nat.le_of_ble_eq_true rfl) (j_le_of (q_X11_feedFour e12)) (Or.inr (q_X11_feedFour e12)) ?_
    refine x_aload_n (v := a0) C dX11_feed_42 rfl ?_
    obtain ⟨v13, e14, hf⟩ := j_bind hf
    refine x_get C dX11_feed_43 (jgI_some e14) fg_X11_84 ?_
    obtain rfl := j_inj hf
    exact x_iret C hret dX11_feed_46
  · have hf := j_ifn hf c25
    refine x_iconst C dX11_feed_13 ki_m1 ?_
    obtain rfl := j_inj hf
    exact x_iret C hret dX11_feed_14
set_option maxHeartbeats 4000000 in
set_option maxRecDepth 100000 in
theorem s_X11_book_L86 {p : Program} {l : Launch} {e : Env} {R : Room} {s : State} {m : MethodId} {args : Array Value} {below : List Frame} {meth : Method} {c : Code} {E : JE} {h0 hF : JH} {rF : Option Value} {d : Nat} (C : j_C p s m args meth c R E cX11_book 3 RX11 h0 hF d) (hret : meth.sig.returnType = (some .int)) (hdd : 62 ≤ d) (a0 : Nat) (z : Int32) (h : JH) (r : Int32 ⊕ Int32) (h1 : JH) (hf : f_X11_book_L86 a0 z h = some (r, h1)) (hk : Sum.elim (fun z => Xw p l e R s m args below meth c E 3 h0 rF hF 86 [(0, .ref a0), (2, .int z)] [] h1) (fun t => Xw p l e R s m args below meth c E 3 h0 rF hF 118 [(0, .ref a0), (2, .int t)] [] h1) r) : Xw p l e R s m args below meth c E 3 h0 rF hF 86 [(0, .ref a0), (2, .int z)] [] h := by
  unfold f_X11_book_L86 at hf
  refine x_iload_n (v := z) C dX11_book_86 rfl ?_
  refine x_aload_n (v := a0) C dX11_book_87 rfl ?_
  obtain ⟨v35, e36, hf⟩ := j_bind hf
  refine x_get C dX11_book_88 (jgI_some e36) fg_X11_109 ?_
  refine x_icmp_ge (tgt := 118) C dX11_book_91 (by decide) (fun c51 => ?_) (fun c51 => ?_)
  · have hf := j_ifp hf c51
    obtain ⟨rfl, rfl⟩ := j_inj2 hf
    exact x_locr hk rfl
  · have hf := j_ifn hf c51
    refine x_aload_n (v := a0) C dX11_book_94 rfl ?_
    obtain ⟨v37, e38, hf⟩ := j_bind hf
    refine x_get C dX11_book_95 (jgR_some e38) fg_X11_21 ?_
    refine x_iload_n (v := z) C dX11_book_98 rfl ?_
    obtain ⟨v39, e40, hf⟩ := j_bind hf
    refine x_aald C dX11_book_99 e40 ?_
    refine x_aload_n (v := a0) C dX11_book_100 rfl ?_
    obtain ⟨v41, e42, hf⟩ := j_bind hf
    refine x_get C dX11_book_101 (jgR_some e42) fg_X11_59 ?_
    obtain ⟨v43, e44, hf⟩ := j_bind hf
    refine x_get C dX11_book_104 (jgR_some e44) fg_X11_110 ?_
    refine x_iload_n (v := z) C dX11_book_107 rfl ?_
    obtain ⟨v45, e46, hf⟩ := j_bind hf
    refine x_aald C dX11_book_108 e46 ?_
    obtain ⟨u49, e50, hf⟩ := j_bind hf
    obtain ⟨q47, e48, hf⟩ := j_bind hf
    refine x_callV (As := [.ref v45]) (rest := []) C dX11_book_109 (m_X2_copyFrom (l := l) (E := E) (d := d - 1) (by omega) e48) km_X2_copyFrom lk_X11_111 kv_X2_copyFrom (ci := 1) rfl e50 rfl (by omega) (Nat.le_of_ble_eq_true rfl) (j_le_of (q_X2_copyFrom e48)) (Or.inr (q_X2_copyFrom e48)) ?_
    refine x_iinc (v := z) C dX11_book_112 rfl ki_1 (by decide) ?_
    refine x_goto (tgt := 86) C dX11_book_115 (by decide) ?_
    obtain ⟨rfl, rfl⟩ := j_inj2 hf
    exact x_locr hk rfl
set_option maxHeartbeats 4000000 in
set_option maxRecDepth 100000 in
theorem m_X11_book {l : Launch} {E : JE} {d : Nat} (hdd : 62 ≤ d) {a0 : Nat} {a1 : Int32} {h : JH} {q : Int32 × JH} (hf : f_X11_book a0 a1 h = some q) : Con l E d yX11_book cX11_book 3 (some .int) [.ref a0, .int a1] h (some (.int q.1)) q.2 := by
  refine j_start rfl (Nat.le_of_ble_eq_true rfl) ?_
  intro p e s m args below meth c C hret hnm
  refine x_loc [(0, .ref a0), (1, .int a1)] rfl ?_
  unfold f_X11_book at hf
  refine x_iload_n (v := a1) C dX11_book_0 rfl ?_
  refine x_if_lt (tgt := 12) C dX11_book_1 (by decide) (fun c70 => ?_) (fun c70 => ?_)
  · have hf := j_ifp hf c70
    refine x_iconst C dX11_book_12 ki_m1 ?_
    obtain rfl := j_inj hf
    exact x_iret C hret dX11_book_13
  · have hf := j_ifn hf c70
    refine x_iload_n (v := a1) C dX11_book_4 rfl ?_
    refine x_aload_n (v := a0) C dX11_book_5 rfl ?_
    obtain ⟨v1, e2, hf⟩ := j_bind hf
    refine x_get C dX11_book_6 (jgI_some e2) fg_X11_84 ?_
    refine x_icmp_le (tgt := 14) C dX11_book_9 (by decide) (fun c71 => ?_) (fun c71 => ?_)
    · have hf := j_ifp hf c71
      refine x_aload_n (v := a0) C dX11_book_14 rfl ?_
      refine x_iconst C dX11_book_15 ki_0 ?_
      obtain ⟨h3, e4, hf⟩ := j_bind hf
      refine x_put C dX11_book_16 e4 fp_X11_84 rfl rfl ?_
      refine x_aload_n (v := a0) C dX11_book_19 rfl ?_
      obtain ⟨v5, e6, hf⟩ := j_bind hf
      refine x_get C dX11_book_20 (jgR_some e6) fg_X11_59 ?_
      refine x_aload_n (v := a0) C dX11_book_23 rfl ?_
      obtain ⟨v7, e8, hf⟩ := j_bind hf
      refine x_get C dX11_book_24 (jgR_some e8) fg_X11_9 ?_
      refine x_iload_n (v := a1) C dX11_book_27 rfl ?_
      obtain ⟨u68, e69, hf⟩ := j_bind hf
      obtain ⟨q9, e10, hf⟩ := j_bind hf
      refine x_callV (As := [.ref v7, .int a1]) (rest := []) C dX11_book_28 (m_X0_open (l := l) (E := E) (d := d - 1) (by omega) e10) km_X0_open lk_X11_91 kv_X0_open (ci := 0) rfl e69 rfl (by omega) (Nat.le_of_ble_eq_true rfl) (j_le_of (q_X0_open e10)) (Or.inr (q_X0_open e10)) ?_
      refine x_aload_n (v := a0) C dX11_book_31 rfl ?_
      obtain ⟨v11, e12, hf⟩ := j_bind hf
      refine x_get C dX11_book_32 (jgR_some e12) fg_X11_59 ?_
      obtain ⟨u66, e67, hf⟩ := j_bind hf
      obtain ⟨q13, e14, hf⟩ := j_bind hf
      refine x_callV (As := []) (rest := []) C dX11_book_35 (m_X0_readPrime (l := l) (E := E) (d := d - 1) (by omega) e14) km_X0_readPrime lk_X11_95 kv_X0_readPrime (ci := 0) rfl e67 rfl (by omega) (Nat.le_of_ble_eq_true rfl) (j_le_of (q_X0_readPrime e14)) (Or.inr (q_X0_readPrime e14)) ?_
      refine x_if_eq (tgt := 51) C dX11_book_38 (by decide) (fun c72 => ?_) (fun c72 => ?_)
      · have hf := j_ifp hf c72
        refine x_bipush C dX11_book_51 kb_m2 ?_
        refine x_aload_n (v := a0) C dX11_book_53 rfl ?_
        obtain ⟨v15, e16, hf⟩ := j_bind hf
        refine x_get C dX11_book_54 (jgR_some e16) fg_X11_59 ?_
        obtain ⟨v17, e18, hf⟩ := j_bind hf
        refine x_get C dX11_book_57 (jgI_some e18) fg_X11_102 ?_
        refine x_isub C dX11_book_60 ?_
        obtain rfl := j_inj hf
        exact x_iret C hret dX11_book_61
      · have hf := j_ifn hf c72
        refine x_aload_n (v := a0) C dX11_book_41 rfl ?_
        obtain ⟨v19, e20, hf⟩ := j_bind hf
        refine x_get C dX11_book_42 (jgR_some e20) fg_X11_59 ?_
        obtain ⟨u64, e65, hf⟩ := j_bind hf
        obtain ⟨q21, e22, hf⟩ := j_bind hf
        refine x_callV (As := []) (rest := []) C dX11_book_45 (m_X0_readLets (l := l) (E := E) (d := d - 1) (by omega) e22) km_X0_readLets lk_X11_99 kv_X0_readLets (ci := 0) rfl e65 rfl (by omega) (Nat.le_of_ble_eq_true rfl) (j_le_of (q_X0_readLets e22)) (Or.inr (q_X0_readLets e22)) ?_
        refine x_if_ne (tgt := 62) C dX11_book_48 (by decide) (fun c73 => ?_) (fun c73 => ?_)
        · have hf := j_ifn hf c73
          refine x_aload_n (v := a0) C dX11_book_62 rfl ?_
          refine x_aload_n (v := a0) C dX11_book_63 rfl ?_
          obtain ⟨v23, e24, hf⟩ := j_bind hf
          refine x_get C dX11_book_64 (jgR_some e24) fg_X11_59 ?_
          obtain ⟨v25, e26, hf⟩ := j_bind hf
          refine x_get C dX11_book_67 (jgI_some e26) fg_X11_105 ?_
          obtain ⟨h27, e28, hf⟩ := j_bind hf
          refine x_put C dX11_book_70 e28 fp_X11_13 rfl rfl ?_
          refine x_aload_n (v := a0) C dX11_book_73 rfl ?_
          refine x_aload_n (v := a0) C dX11_book_74 rfl ?_
          obtain ⟨v29, e30, hf⟩ := j_bind hf
          refine x_get C dX11_book_75 (jgR_some e30) fg_X11_59 ?_
          obtain ⟨v31, e32, hf⟩ := j_bind hf
          refine x_get C dX11_book_78 (jgI_some e32) fg_X11_106 ?_
          obtain ⟨h33, e34, hf⟩ := j_bind hf
          refine x_put C dX11_book_81 e34 fp_X11_109 rfl rfl ?_
          refine x_iconst C dX11_book_84 ki_0 ?_
          refine x_istore_n C dX11_book_85 (by decide) ?_
          obtain ⟨q52, e53, hf⟩ := j_bind hf
          refine x_loc [(0, .ref a0), (2, .int (0 : Int32))] rfl ?_
          refine x_loop (s_X11_book_L86 C hret hdd a0) e53 ?_
          refine x_aload_n (v := a0) C dX11_book_118 rfl ?_
          obtain ⟨u58, e59, hf⟩ := j_bind hf
          obtain ⟨q54, e55, hf⟩ := j_bind hf
          refine x_callV (As := []) (rest := []) C dX11_book_119 (m_X11_forget (l := l) (E := E) (d := d - 1) (by omega) e55) km_X11_forget lk_X11_81 kv_X11_forget (ci := 8) rfl e59 rfl (by omega) (Nat.le_of_ble_eq_true rfl) (j_le_of (q_X11_forget e55)) (Or.inr (q_X11_forget e55)) ?_
          refine x_aload_n (v := a0) C dX11_book_122 rfl ?_
          obtain ⟨v56, e57, hf⟩ := j_bind hf
          refine x_get C dX11_book_123 (jgI_some e57) fg_X11_109 ?_
          obtain rfl := j_inj hf
          exact x_iret C hret dX11_book_126
        · have hf := j_ifp hf c73
          refine x_bipush C dX11_book_51 kb_m2 ?_
          refine x_aload_n (v := a0) C dX11_book_53 rfl ?_
          obtain ⟨v60, e61, hf⟩ := j_bind hf
          refine x_get C dX11_book_54 (jgR_some e61) fg_X11_59 ?_
          obtain ⟨v62, e63, hf⟩ := j_bind hf
          refine x_get C dX11_book_57 (jgI_some e63) fg_X11_102 ?_
          refine x_isub C dX11_book_60 ?_
          obtain rfl := j_inj hf
          exact x_iret C hret dX11_book_61
    · have hf := j_ifn hf c71
      refine x_iconst C dX11_book_12 ki_m1 ?_
      obtain rfl := j_inj hf
      exact x_iret C hret dX11_book_13
set_option maxHeartbeats 4000000 in
set_option maxRecDepth 100000 in
theorem s_X11_laidImages_L4 {p : Program} {l : Launch} {e : Env} {R : Room} {s : State} {m : MethodId} {args : Array Value} {below : List Frame} {meth : Method} {c : Code} {E : JE} {h0 hF : JH} {rF : Option Value} {d : Nat} (C : j_C p s m args meth c R E cX11_laidImages 3 RX11 h0 hF d) (hret : meth.sig.returnType = (some .int)) (hdd : 0 ≤ d) (a0 : Nat) (z : (Int32 × Int32)) (h : JH) (r : (Int32 × Int32) ⊕ (Int32 × Int32)) (h1 : JH) (hf : f_X11_laidImages_L4 a0 z h = some (r, h1)) (hk : Sum.elim (fun z => Xw p l e R s m args below meth c E 3 h0 rF hF 4 [(0, .ref a0), (1, .int z.1), (2, .int z.2)] [] h1) (fun t => Xw p l e R s m args below meth c E 3 h0 rF hF 30 [(0, .ref a0), (1, .int t.1), (2, .int t.2)] [] h1) r) : Xw p l e R s m args below meth c E 3 h0 rF hF 4 [(0, .ref a0), (1, .int z.1), (2, .int z.2)] [] h := by
  unfold f_X11_laidImages_L4 at hf
  refine x_iload_n (v := z.2) C dX11_laidImages_4 rfl ?_
  refine x_iconst C dX11_laidImages_5 ki_2 ?_
  refine x_icmp_ge (tgt := 30) C dX11_laidImages_6 (by decide) (fun c7 => ?_) (fun c7 => ?_)
  · have hf := j_ifp hf c7
    obtain ⟨rfl, rfl⟩ := j_inj2 hf
    exact x_locr hk rfl
  · have hf := j_ifn hf c7
    refine x_aload_n (v := a0) C dX11_laidImages_9 rfl ?_
    obtain ⟨v1, e2, hf⟩ := j_bind hf
    refine x_get C dX11_laidImages_10 (jgR_some e2) fg_X11_38 ?_
    refine x_iload_n (v := z.2) C dX11_laidImages_13 rfl ?_
    obtain ⟨v3, e4, hf⟩ := j_bind hf
    refine x_aald C dX11_laidImages_14 e4 ?_
    obtain ⟨v5, e6, hf⟩ := j_bind hf
    refine x_get C dX11_laidImages_15 (jgI_some e6) fg_X11_121 ?_
    refine x_if_eq (tgt := 24) C dX11_laidImages_18 (by decide) (fun c8 => ?_) (fun c8 => ?_)
    · have hf := j_ifp hf c8
      refine x_iinc (v := z.2) C dX11_laidImages_24 rfl ki_1 (by decide) ?_
      refine x_goto (tgt := 4) C dX11_laidImages_27 (by decide) ?_
      obtain ⟨rfl, rfl⟩ := j_inj2 hf
      exact x_locr hk rfl
    · have hf := j_ifn hf c8
      refine x_iinc (v := z.1) C dX11_laidImages_21 rfl ki_1 (by decide) ?_
      refine x_iinc (v := z.2) C dX11_laidImages_24 rfl ki_1 (by decide) ?_
      refine x_goto (tgt := 4) C dX11_laidImages_27 (by decide) ?_
      obtain ⟨rfl, rfl⟩ := j_inj2 hf
      exact x_locr hk rfl
set_option maxHeartbeats 4000000 in
set_option maxRecDepth 100000 in
theorem m_X11_laidImages {l : Launch} {E : JE} {d : Nat} (hdd : 0 ≤ d) {a0 : Nat} {h : JH} {q : Int32 × JH} (hf : f_X11_laidImages a0 h = some q) : Con l E d yX11_laidImages cX11_laidImages 3 (some .int) [.ref a0] h (some (.int q.1)) q.2 := by
  refine j_start rfl (Nat.le_of_ble_eq_true rfl) ?_
  intro p e s m args below meth c C hret hnm
  refine x_loc [(0, .ref a0)] rfl ?_
  unfold f_X11_laidImages at hf
  refine x_iconst C dX11_laidImages_0 ki_0 ?_
  refine x_istore_n C dX11_laidImages_1 (by decide) ?_
  refine x_iconst C dX11_laidImages_2 ki_0 ?_
  refine x_istore_n C dX11_laidImages_3 (by decide) ?_
  obtain ⟨q9, e10, hf⟩ := j_bind hf
  refine x_loc [(0, .ref a0), (1, .int (0 : Int32)), (2, .int (0 : Int32))] rfl ?_
  refine x_loop (s_X11_laidImages_L4 C hret hdd a0) e10 ?_
  refine x_iload_n (v := q9.1.1) C dX11_laidImages_30 rfl ?_
  obtain rfl := j_inj hf
  exact x_iret C hret dX11_laidImages_31
set_option maxHeartbeats 4000000 in
set_option maxRecDepth 100000 in
theorem m_X11_count {l : Launch} {E : JE} {d : Nat} (hdd : 1 ≤ d) {a0 : Nat} {a1 : Int32} {h : JH} {q : Int32 × JH} (hf : f_X11_count a0 a1 h = some q) : Con l E d yX11_count cX11_count 2 (some .int) [.ref a0, .int a1] h (some (.int q.1)) q.2 := by
  refine j_start rfl (Nat.le_of_ble_eq_true rfl) ?_
  intro p e s m args below meth c C hret hnm
  refine x_loc [(0, .ref a0), (1, .int a1)] rfl ?_
  unfold f_X11_count at hf
  refine x_iload_n (v := a1) C dX11_count_0 rfl ?_
  by_cases c11 : a1 = (0 : Int32)
  · have hf := j_ifp hf c11
    refine x_table C dX11_count_1 32 (by rw [c11]; decide) (31) (by rw [c11]; rfl) (by decide) ?_
    refine x_aload_n (v := a0) C dX11_count_32 rfl ?_
    obtain ⟨v1, e2, hf⟩ := j_bind hf
    refine x_get C dX11_count_33 (jgI_some e2) fg_X11_13 ?_
    obtain rfl := j_inj hf
    exact x_iret C hret dX11_count_36
  have hf := j_ifn hf c11
  by_cases c12 : a1 = (1 : Int32)
  · have hf := j_ifp hf c12
    refine x_table C dX11_count_1 37 (by rw [c12]; decide) (36) (by rw [c12]; rfl) (by decide) ?_
    refine x_aload_n (v := a0) C dX11_count_37 rfl ?_
    obtain ⟨v3, e4, hf⟩ := j_bind hf
    refine x_get C dX11_count_38 (jgI_some e4) fg_X11_109 ?_
    obtain rfl := j_inj hf
    exact x_iret C hret dX11_count_41
  have hf := j_ifn hf c12
  by_cases c13 : a1 = (2 : Int32)
  · have hf := j_ifp hf c13
    refine x_table C dX11_count_1 42 (by rw [c13]; decide) (41) (by rw [c13]; rfl) (by decide) ?_
    refine x_aload_n (v := a0) C dX11_count_42 rfl ?_
    obtain ⟨v5, e6, hf⟩ := j_bind hf
    refine x_get C dX11_count_43 (jgI_some e6) fg_X11_84 ?_
    obtain rfl := j_inj hf
    exact x_iret C hret dX11_count_46
  have hf := j_ifn hf c13
  by_cases c14 : a1 = (3 : Int32)
  · have hf := j_ifp hf c14
    refine x_table C dX11_count_1 47 (by rw [c14]; decide) (46) (by rw [c14]; rfl) (by decide) ?_
    refine x_aload_n (v := a0) C dX11_count_47 rfl ?_
    obtain ⟨u9, e10, hf⟩ := j_bind hf
    obtain ⟨q7, e8, hf⟩ := j_bind hf
    refine x_callV (As := []) (rest := []) C dX11_count_48 (m_X11_laidImages (l := l) (E := E) (d := d - 1) (by omega) e8) km_X11_laidImages lk_X11_124 kv_X11_laidImages (ci := 8) rfl e10 rfl (by omega) (Nat.le_of_ble_eq_true rfl) (j_le_of (q_X11_laidImages e8)) (Or.inr (q_X11_laidImages e8)) ?_
    obtain rfl := j_inj hf
    exact x_iret C hret dX11_count_51
  have hf := j_ifn hf c14
  refine x_tableD C dX11_count_1 52 (by have := j_ne c11 (show (0 : Int32).toInt = 0 by decide); have := j_ne c12 (show (1 : Int32).toInt = 1 by decide); have := j_ne c13 (show (2 : Int32).toInt = 2 by decide); have := j_ne c14 (show (3 : Int32).toInt = 3 by decide); omega) (by decide) ?_
  refine x_iconst C dX11_count_52 ki_m1 ?_
  obtain rfl := j_inj hf
  exact x_iret C hret dX11_count_53
set_option maxHeartbeats 4000000 in
set_option maxRecDepth 100000 in
theorem m_X11_isLet {l : Launch} {E : JE} {d : Nat} (hdd : 0 ≤ d) {a0 : Nat} {a1 : Int32} {h : JH} {q : Int32 × JH} (hf : f_X11_isLet a0 a1 h = some q) : Con l E d yX11_isLet cX11_isLet 2 (some .boolean) [.ref a0, .int a1] h (some (.int q.1)) q.2 := by
  refine j_start rfl (Nat.le_of_ble_eq_true rfl) ?_
  intro p e s m args below meth c C hret hnm
  refine x_loc [(0, .ref a0), (1, .int a1)] rfl ?_
  unfold f_X11_isLet at hf
  refine x_iload_n (v := a1) C dX11_isLet_0 rfl ?_
  refine x_if_lt (tgt := 16) C dX11_isLet_1 (by decide) (fun c3 => ?_) (fun c3 => ?_)
  · have hf := j_ifp hf c3
    refine x_iconst C dX11_isLet_16 ki_0 ?_
    obtain rfl := j_inj hf
    exact x_zret C hret (Or.inl rfl) dX11_isLet_17
  · have hf := j_ifn hf c3
    refine x_iload_n (v := a1) C dX11_isLet_4 rfl ?_
    refine x_aload_n (v := a0) C dX11_isLet_5 rfl ?_
    obtain ⟨v1, e2, hf⟩ := j_bind hf
    refine x_get C dX11_isLet_6 (jgI_some e2) fg_X11_109 ?_
    refine x_icmp_ge (tgt := 16) C dX11_isLet_9 (by decide) (fun c4 => ?_) (fun c4 => ?_)
    · have hf := j_ifp hf c4
      refine x_iconst C dX11_isLet_16 ki_0 ?_
      obtain rfl := j_inj hf
      exact x_zret C hret (Or.inl rfl) dX11_isLet_17
    · have hf := j_ifn hf c4
      refine x_iconst C dX11_isLet_12 ki_1 ?_
      refine x_goto (tgt := 17) C dX11_isLet_13 (by decide) ?_
      obtain rfl := j_inj hf
      exact x_zret C hret (Or.inr rfl) dX11_isLet_17
set_option maxHeartbeats 4000000 in
set_option maxRecDepth 100000 in
theorem m_X11_let {l : Launch} {E : JE} {d : Nat} (hdd : 1 ≤ d) {a0 : Nat} {a1 : Int32} {a2 : Int32} {h : JH} {q : Int32 × JH} (hf : f_X11_let a0 a1 a2 h = some q) : Con l E d yX11_let cX11_let 4 (some .int) [.ref a0, .int a1, .int a2] h (some (.int q.1)) q.2 := by
  refine j_start rfl (Nat.le_of_ble_eq_true rfl) ?_
  intro p e s m args below meth c C hret hnm
  refine x_loc [(0, .ref a0), (1, .int a1), (2, .int a2)] rfl ?_
  unfold f_X11_let at hf
  refine x_aload_n (v := a0) C dX11_let_0 rfl ?_
  refine x_iload_n (v := a1) C dX11_let_1 rfl ?_
  obtain ⟨u17, e18, hf⟩ := j_bind hf
  obtain ⟨q1, e2, hf⟩ := j_bind hf
  refine x_callV (As := [.int a1]) (rest := []) C dX11_let_2 (m_X11_isLet (l := l) (E := E) (d := d - 1) (by omega) e2) km_X11_isLet lk_X11_128 kv_X11_isLet (ci := 8) rfl e18 rfl (by omega) (Nat.le_of_ble_eq_true rfl) (j_le_of (q_X11_isLet e2)) (Or.inr (q_X11_isLet e2)) ?_
  refine x_if_ne (tgt := 10) C dX11_let_5 (by decide) (fun c19 => ?_) (fun c19 => ?_)
  · have hf := j_ifn hf c19
    refine x_aload_n (v := a0) C dX11_let_10 rfl ?_
    obtain ⟨v3, e4, hf⟩ := j_bind hf
    refine x_get C dX11_let_11 (jgR_some e4) fg_X11_21 ?_
    refine x_iload_n (v := a1) C dX11_let_14 rfl ?_
    obtain ⟨v5, e6, hf⟩ := j_bind hf
    refine x_aald C dX11_let_15 e6 ?_
    refine x_astore_n C dX11_let_16 (by decide) ?_
    refine x_iload_n (v := a2) C dX11_let_17 rfl ?_
    by_cases c20 : a2 = (0 : Int32)
    · have hf := j_ifp hf c20
      refine x_table C dX11_let_18 44 (by rw [c20]; decide) (26) (by rw [c20]; rfl) (by decide) ?_
      refine x_aload_n (v := v5) C dX11_let_44 rfl ?_
      obtain ⟨v7, e8, hf⟩ := j_bind hf
      refine x_get C dX11_let_45 (jgI_some e8) fg_X11_132 ?_
      obtain rfl := j_inj hf
      exact x_iret C hret dX11_let_48
    have hf := j_ifn hf c20
    by_cases c21 : a2 = (1 : Int32)
    · have hf := j_ifp hf c21
      refine x_table C dX11_let_18 49 (by rw [c21]; decide) (31) (by rw [c21]; rfl) (by decide) ?_
      refine x_aload_n (v := v5) C dX11_let_49 rfl ?_
      obtain ⟨v9, e10, hf⟩ := j_bind hf
      refine x_get C dX11_let_50 (jgI_some e10) fg_X11_132 ?_
      obtain ⟨q11, e12, hf⟩ := j_bind hf
      refine x_callS (As := [.int v9]) (rest := []) C dX11_let_53 (m_X11_lengthOf (l := l) (E := E) (d := d - 1) (by omega) e12) km_X11_lengthOf lk_X11_135 ks_X11_lengthOf rfl (by omega) (Nat.le_of_ble_eq_true rfl) (j_le_of (q_X11_lengthOf e12)) (Or.inr (q_X11_lengthOf e12)) ?_
      obtain rfl := j_inj hf
      exact x_iret C hret dX11_let_56
    have hf := j_ifn hf c21
    by_cases c22 : a2 = (2 : Int32)
    · have hf := j_ifp hf c22
      refine x_table C dX11_let_18 57 (by rw [c22]; decide) (39) (by rw [c22]; rfl) (by decide) ?_
      refine x_aload_n (v := v5) C dX11_let_57 rfl ?_
      obtain ⟨v13, e14, hf⟩ := j_bind hf
      refine x_get C dX11_let_58 (jgR_some e14) fg_X11_139 ?_
      refine x_iconst C dX11_let_61 ki_0 ?_
      obtain ⟨v15, e16, hf⟩ := j_bind hf
      refine x_iald C dX11_let_62 e16 ?_
      refine x_if_ne (tgt := 70) C dX11_let_63 (by decide) (fun c23 => ?_) (fun c23 => ?_)
      · have hf := j_ifn hf c23
        refine x_iconst C dX11_let_70 ki_0 ?_
        obtain rfl := j_inj hf
        exact x_iret C hret dX11_let_71
      · have hf := j_ifp hf c23
        refine x_iconst C dX11_let_66 ki_1 ?_
        refine x_goto (tgt := 71) C dX11_let_67 (by decide) ?_
        obtain rfl := j_inj hf
        exact x_iret C hret dX11_let_71
    have hf := j_ifn hf c22
    refine x_tableD C dX11_let_18 72 (by have := j_ne c20 (show (0 : Int32).toInt = 0 by decide); have := j_ne c21 (show (1 : Int32).toInt = 1 by decide); have := j_ne c22 (show (2 : Int32).toInt = 2 by decide); omega) (by decide) ?_
    refine x_iconst C dX11_let_72 ki_m1 ?_
    obtain rfl := j_inj hf
    exact x_iret C hret dX11_let_73
  · have hf := j_ifp hf c19
    refine x_iconst C dX11_let_8 ki_m1 ?_
    obtain rfl := j_inj hf
    exact x_iret C hret dX11_let_9
set_option maxHeartbeats 4000000 in
set_option maxRecDepth 100000 in
theorem m_X11_coefficientOf {l : Launch} {E : JE} {d : Nat} (hdd : 6 ≤ d) {a0 : Nat} {a1 : Nat} {a2 : Int32} {h : JH} {q : Int32 × JH} (hf : f_X11_coefficientOf a0 a1 a2 h = some q) : Con l E d yX11_coefficientOf cX11_coefficientOf 3 (some .int) [.ref a0, .ref a1, .int a2] h (some (.int q.1)) q.2 := by
  refine j_start rfl (Nat.le_of_ble_eq_true rfl) ?_
  intro p e s m args below meth c C hret hnm
  refine x_loc [(0, .ref a0), (1, .ref a1), (2, .int a2)] rfl ?_
  unfold f_X11_coefficientOf at hf
  refine x_iload_n (v := a2) C dX11_coefficientOf_0 rfl ?_
  refine x_bipush C dX11_coefficientOf_1 kb_6 ?_
  refine x_icmp_ge (tgt := 13) C dX11_coefficientOf_3 (by decide) (fun c21 => ?_) (fun c21 => ?_)
  · have hf := j_ifp hf c21
    refine x_aload_n (v := a0) C dX11_coefficientOf_13 rfl ?_
    obtain ⟨v1, e2, hf⟩ := j_bind hf
    refine x_get C dX11_coefficientOf_14 (jgR_some e2) fg_X11_45 ?_
    refine x_aload_n (v := a1) C dX11_coefficientOf_17 rfl ?_
    obtain ⟨v3, e4, hf⟩ := j_bind hf
    refine x_get C dX11_coefficientOf_18 (jgI_some e4) fg_X11_132 ?_
    refine x_aload_n (v := a0) C dX11_coefficientOf_21 rfl ?_
    obtain ⟨v5, e6, hf⟩ := j_bind hf
    refine x_get C dX11_coefficientOf_22 (jgI_some e6) fg_X11_13 ?_
    refine x_iload_n (v := a2) C dX11_coefficientOf_25 rfl ?_
    obtain ⟨u15, e16, hf⟩ := j_bind hf
    obtain ⟨q7, e8, hf⟩ := j_bind hf
    have hle : j_le q7.2 q.2 := by
      obtain ⟨v9, e10, hf⟩ := j_bind hf
      obtain ⟨u13, e14, hf⟩ := j_bind hf
      obtain ⟨q11, e12, hf⟩ := j_bind hf
      refine j_le_trans (j_le_of ((q_X7_expand e12))) ?_
      obtain rfl := j_inj hf
      exact j_le_refl _
    refine x_callV (As := [.int v3, .int v5, .int a2]) (rest := []) C dX11_coefficientOf_26 (m_X8_ready (l := l) (E := E) (d := d - 1) (by omega) e8) km_X8_ready lk_X11_150 kv_X8_ready (ci := 6) rfl e16 rfl (by omega) (Nat.le_of_ble_eq_true rfl) (n_X8_ready e8) (Or.inl hle) ?_
    refine x_aload_n (v := a1) C dX11_coefficientOf_29 rfl ?_
    obtain ⟨v9, e10, hf⟩ := j_bind hf
    refine x_get C dX11_coefficientOf_30 (jgR_some e10) fg_X11_139 ?_
    refine x_iload_n (v := a2) C dX11_coefficientOf_33 rfl ?_
    obtain ⟨u13, e14, hf⟩ := j_bind hf
    obtain ⟨q11, e12, hf⟩ := j_bind hf
    refine x_callV (As := [.ref v9, .int a2]) (rest := []) C dX11_coefficientOf_34 (m_X7_expand (l := l) (E := E) (d := d - 1) (by omega) e12) km_X7_expand lk_X11_154 kv_X7_expand (ci := 5) rfl e14 rfl (by omega) (Nat.le_of_ble_eq_true rfl) (j_le_of (q_X7_expand e12)) (Or.inr (q_X7_expand e12)) ?_
    obtain rfl := j_inj hf
    exact x_iret C hret dX11_coefficientOf_37
  · have hf := j_ifn hf c21
    refine x_aload_n (v := a1) C dX11_coefficientOf_6 rfl ?_
    obtain ⟨v17, e18, hf⟩ := j_bind hf
    refine x_get C dX11_coefficientOf_7 (jgR_some e18) fg_X11_139 ?_
    refine x_iload_n (v := a2) C dX11_coefficientOf_10 rfl ?_
    obtain ⟨v19, e20, hf⟩ := j_bind hf
    refine x_iald C dX11_coefficientOf_11 e20 ?_
    obtain rfl := j_inj hf
    exact x_iret C hret dX11_coefficientOf_12
set_option maxHeartbeats 4000000 in
set_option maxRecDepth 100000 in
theorem m_X11_isRegister {l : Launch} {E : JE} {d : Nat} (hdd : 0 ≤ d) {a0 : Int32} {h : JH} {q : Int32 × JH} (hf : f_X11_isRegister a0 h = some q) : Con l E d yX11_isRegister cX11_isRegister 1 (some .boolean) [.int a0] h (some (.int q.1)) q.2 := by
  refine j_start rfl (Nat.le_of_ble_eq_true rfl) ?_
  intro p e s m args below meth c C hret hnm
  refine x_loc [(0, .int a0)] rfl ?_
  unfold f_X11_isRegister at hf
  refine x_iload_n (v := a0) C dX11_isRegister_0 rfl ?_
  refine x_if_lt (tgt := 13) C dX11_isRegister_1 (by decide) (fun c1 => ?_) (fun c1 => ?_)
  · have hf := j_ifp hf c1
    refine x_iconst C dX11_isRegister_13 ki_0 ?_
    obtain rfl := j_inj hf
    exact x_zret C hret (Or.inl rfl) dX11_isRegister_14
  · have hf := j_ifn hf c1
    refine x_iload_n (v := a0) C dX11_isRegister_4 rfl ?_
    refine x_iconst C dX11_isRegister_5 ki_4 ?_
    refine x_icmp_ge (tgt := 13) C dX11_isRegister_6 (by decide) (fun c2 => ?_) (fun c2 => ?_)
    · have hf := j_ifp hf c2
      refine x_iconst C dX11_isRegister_13 ki_0 ?_
      obtain rfl := j_inj hf
      exact x_zret C hret (Or.inl rfl) dX11_isRegister_14
    · have hf := j_ifn hf c2
      refine x_iconst C dX11_isRegister_9 ki_1 ?_
      refine x_goto (tgt := 14) C dX11_isRegister_10 (by decide) ?_
      obtain rfl := j_inj hf
      exact x_zret C hret (Or.inr rfl) dX11_isRegister_14
set_option maxHeartbeats 4000000 in
set_option maxRecDepth 100000 in
theorem m_X11_coefficient {l : Launch} {E : JE} {d : Nat} (hdd : 7 ≤ d) {a0 : Nat} {a1 : Int32} {a2 : Int32} {h : JH} {q : Int32 × JH} (hf : f_X11_coefficient a0 a1 a2 h = some q) : Con l E d yX11_coefficient cX11_coefficient 3 (some .int) [.ref a0, .int a1, .int a2] h (some (.int q.1)) q.2 := by
  refine j_start rfl (Nat.le_of_ble_eq_true rfl) ?_
  intro p e s m args below meth c C hret hnm
  refine x_loc [(0, .ref a0), (1, .int a1), (2, .int a2)] rfl ?_
  unfold f_X11_coefficient at hf
  refine x_iload_n (v := a1) C dX11_coefficient_0 rfl ?_
  obtain ⟨q1, e2, hf⟩ := j_bind hf
  refine x_callS (As := [.int a1]) (rest := []) C dX11_coefficient_1 (m_X11_isRegister (l := l) (E := E) (d := d - 1) (by omega) e2) km_X11_isRegister lk_X11_143 ks_X11_isRegister rfl (by omega) (Nat.le_of_ble_eq_true rfl) (j_le_of (q_X11_isRegister e2)) (Or.inr (q_X11_isRegister e2)) ?_
  refine x_if_eq (tgt := 18) C dX11_coefficient_4 (by decide) (fun c11 => ?_) (fun c11 => ?_)
  · have hf := j_ifp hf c11
    refine x_iconst C dX11_coefficient_18 ki_m1 ?_
    obtain rfl := j_inj hf
    exact x_iret C hret dX11_coefficient_19
  · have hf := j_ifn hf c11
    refine x_iload_n (v := a2) C dX11_coefficient_7 rfl ?_
    refine x_if_lt (tgt := 18) C dX11_coefficient_8 (by decide) (fun c12 => ?_) (fun c12 => ?_)
    · have hf := j_ifp hf c12
      refine x_iconst C dX11_coefficient_18 ki_m1 ?_
      obtain rfl := j_inj hf
      exact x_iret C hret dX11_coefficient_19
    · have hf := j_ifn hf c12
      refine x_iload_n (v := a2) C dX11_coefficient_11 rfl ?_
      refine x_sipush C dX11_coefficient_12 ks_180 ?_
      refine x_icmp_le (tgt := 20) C dX11_coefficient_15 (by decide) (fun c13 => ?_) (fun c13 => ?_)
      · have hf := j_ifp hf c13
        refine x_aload_n (v := a0) C dX11_coefficient_20 rfl ?_
        refine x_aload_n (v := a0) C dX11_coefficient_21 rfl ?_
        obtain ⟨v3, e4, hf⟩ := j_bind hf
        refine x_get C dX11_coefficient_22 (jgR_some e4) fg_X11_25 ?_
        refine x_iload_n (v := a1) C dX11_coefficient_25 rfl ?_
        obtain ⟨v5, e6, hf⟩ := j_bind hf
        refine x_aald C dX11_coefficient_26 e6 ?_
        refine x_iload_n (v := a2) C dX11_coefficient_27 rfl ?_
        obtain ⟨u9, e10, hf⟩ := j_bind hf
        obtain ⟨q7, e8, hf⟩ := j_bind hf
        have hle : j_le q7.2 q.2 := by
          obtain rfl := j_inj hf
          exact j_le_refl _
        refine x_callV (As := [.ref v5, .int a2]) (rest := []) C dX11_coefficient_28 (m_X11_coefficientOf (l := l) (E := E) (d := d - 1) (by omega) e8) km_X11_coefficientOf lk_X11_146 kv_X11_coefficientOf (ci := 8) rfl e10 rfl (by omega) (Nat.le_of_ble_eq_true rfl) (n_X11_coefficientOf e8) (Or.inl hle) ?_
        obtain rfl := j_inj hf
        exact x_iret C hret dX11_coefficient_31
      · have hf := j_ifn hf c13
        refine x_iconst C dX11_coefficient_18 ki_m1 ?_
        obtain rfl := j_inj hf
        exact x_iret C hret dX11_coefficient_19
set_option maxHeartbeats 4000000 in
set_option maxRecDepth 100000 in
theorem m_X11_weight {l : Launch} {E : JE} {d : Nat} (hdd : 1 ≤ d) {a0 : Nat} {a1 : Int32} {h : JH} {q : Int32 × JH} (hf : f_X11_weight a0 a1 h = some q) : Con l E d yX11_weight cX11_weight 2 (some .int) [.ref a0, .int a1] h (some (.int q.1)) q.2 := by
  refine j_start rfl (Nat.le_of_ble_eq_true rfl) ?_
  intro p e s m args below meth c C hret hnm
  refine x_loc [(0, .ref a0), (1, .int a1)] rfl ?_
  unfold f_X11_weight at hf
  refine x_iload_n (v := a1) C dX11_weight_0 rfl ?_
  obtain ⟨q1, e2, hf⟩ := j_bind hf
  refine x_callS (As := [.int a1]) (rest := []) C dX11_weight_1 (m_X11_isRegister (l := l) (E := E) (d := d - 1) (by omega) e2) km_X11_isRegister lk_X11_143 ks_X11_isRegister rfl (by omega) (Nat.le_of_ble_eq_true rfl) (j_le_of (q_X11_isRegister e2)) (Or.inr (q_X11_isRegister e2)) ?_
  refine x_if_eq (tgt := 19) C dX11_weight_4 (by decide) (fun c9 => ?_) (fun c9 => ?_)
  · have hf := j_ifp hf c9
    refine x_iconst C dX11_weight_19 ki_m1 ?_
    obtain rfl := j_inj hf
    exact x_iret C hret dX11_weight_20
  · have hf := j_ifn hf c9
    refine x_aload_n (v := a0) C dX11_weight_7 rfl ?_
    obtain ⟨v3, e4, hf⟩ := j_bind hf
    refine x_get C dX11_weight_8 (jgR_some e4) fg_X11_25 ?_
    refine x_iload_n (v := a1) C dX11_weight_11 rfl ?_
    obtain ⟨v5, e6, hf⟩ := j_bind hf
    refine x_aald C dX11_weight_12 e6 ?_
    obtain ⟨v7, e8, hf⟩ := j_bind hf
    refine x_get C dX11_weight_13 (jgI_some e8) fg_X11_132 ?_
    refine x_goto (tgt := 20) C dX11_weight_16 (by decide) ?_
    obtain rfl := j_inj hf
    exact x_iret C hret dX11_weight_20
set_option maxHeartbeats 4000000 in
set_option maxRecDepth 100000 in
theorem m_X11_makes {l : Launch} {E : JE} {d : Nat} (hdd : 2 ≤ d) {a0 : Nat} {a1 : Int32} {a2 : Int32} {h : JH} {q : Int32 × JH} (hf : f_X11_makes a0 a1 a2 h = some q) : Con l E d yX11_makes cX11_makes 3 (some .int) [.ref a0, .int a1, .int a2] h (some (.int q.1)) q.2 := by
  refine j_start rfl (Nat.le_of_ble_eq_true rfl) ?_
  intro p e s m args below meth c C hret hnm
  refine x_loc [(0, .ref a0), (1, .int a1), (2, .int a2)] rfl ?_
  unfold f_X11_makes at hf
  refine x_iload_n (v := a1) C dX11_makes_0 rfl ?_
  obtain ⟨q1, e2, hf⟩ := j_bind hf
  refine x_callS (As := [.int a1]) (rest := []) C dX11_makes_1 (m_X11_isWeight (l := l) (E := E) (d := d - 1) (by omega) e2) km_X11_isWeight lk_X11_160 ks_X11_isWeight rfl (by omega) (Nat.le_of_ble_eq_true rfl) (j_le_of (q_X11_isWeight e2)) (Or.inr (q_X11_isWeight e2)) ?_
  refine x_if_ne (tgt := 9) C dX11_makes_4 (by decide) (fun c7 => ?_) (fun c7 => ?_)
  · have hf := j_ifn hf c7
    refine x_iload_n (v := a2) C dX11_makes_9 rfl ?_
    refine x_if_eq (tgt := 20) C dX11_makes_10 (by decide) (fun c8 => ?_) (fun c8 => ?_)
    · have hf := j_ifp hf c8
      refine x_iload_n (v := a1) C dX11_makes_20 rfl ?_
      obtain ⟨q3, e4, hf⟩ := j_bind hf
      refine x_callS (As := [.int a1]) (rest := []) C dX11_makes_21 (m_X11_lengthOf (l := l) (E := E) (d := d - 1) (by omega) e4) km_X11_lengthOf lk_X11_135 ks_X11_lengthOf rfl (by omega) (Nat.le_of_ble_eq_true rfl) (j_le_of (q_X11_lengthOf e4)) (Or.inr (q_X11_lengthOf e4)) ?_
      obtain rfl := j_inj hf
      exact x_iret C hret dX11_makes_24
    · have hf := j_ifn hf c8
      refine x_iload_n (v := a1) C dX11_makes_13 rfl ?_
      obtain ⟨q5, e6, hf⟩ := j_bind hf
      refine x_callS (As := [.int a1]) (rest := []) C dX11_makes_14 (m_X11_cuspsOf (l := l) (E := E) (d := d - 1) (by omega) e6) km_X11_cuspsOf lk_X11_163 ks_X11_cuspsOf rfl (by omega) (Nat.le_of_ble_eq_true rfl) (j_le_of (q_X11_cuspsOf e6)) (Or.inr (q_X11_cuspsOf e6)) ?_
      refine x_goto (tgt := 24) C dX11_makes_17 (by decide) ?_
      obtain rfl := j_inj hf
      exact x_iret C hret dX11_makes_24
  · have hf := j_ifp hf c7
    refine x_iconst C dX11_makes_7 ki_m1 ?_
    obtain rfl := j_inj hf
    exact x_iret C hret dX11_makes_8
set_option maxHeartbeats 4000000 in
set_option maxRecDepth 100000 in
theorem v_X11_whole {p : Program} {l : Launch} {e : Env} {R : Room} {s : State} {m : MethodId} {args : Array Value} {below : List Frame} {meth : Method} {c : Code} {E : JE} {Q : State → Prop} {d : Nat} {a0 : Nat} {a1 : Int32} {h : JH} {q : (Option Int32) × JH} (C : j_C p s m args meth c R E cX11_whole 2 RX11 h q.2 d) (hdd : 3 ≤ d) (hf : f_X11_whole a0 a1 h = some q) (hkr : ∀ (pc : Nat) (L : List (Nat × Value)) (v : Int32) (h2 : JH), decode cX11_whole pc = .ok (.ireturn, 1) → q = (some v, h2) → Xq p l e R s m args below meth c E 2 h Q pc L [.int v] h2) (hkt : ∀ (L : List (Nat × Value)) (h2 : JH), q = (none, jexc h2) → Xq p l e R s m args below meth c E 2 h Q 7 L [] h2) : Xq p l e R s m args below meth c E 2 h Q 0 [(0, .ref a0), (1, .int a1)] [] h := by
  unfold f_X11_whole at hf
  refine x_iload_n (v := a1) C dX11_whole_0 rfl ?_
  refine x_sipush C dX11_whole_1 ks_2000 ?_
  refine x_icmp_le (tgt := 15) C dX11_whole_4 (by decide) (fun c3 => ?_) (fun c3 => ?_)
  · have hf := j_ifp hf c3
    refine x_iload_n (v := a1) C dX11_whole_15 rfl ?_
    obtain ⟨q1, e2, hf⟩ := j_bind hf
    refine x_callS (As := [.int a1]) (rest := []) C dX11_whole_16 (m_X1_inTwelfths (l := l) (E := E) (d := d - 1) (by omega) e2) km_X1_inTwelfths lk_X11_171 ks_X1_inTwelfths rfl (by omega) (Nat.le_of_ble_eq_true rfl) (j_le_of (q_X1_inTwelfths e2)) (Or.inr (q_X1_inTwelfths e2)) ?_
    exact hkr _ _ _ _ dX11_whole_19 (j_inj hf)
  · have hf := j_ifn hf c3
    exact hkt _ _ (j_inj hf)
set_option maxHeartbeats 4000000 in
set_option maxRecDepth 100000 in
theorem m_X11_small {l : Launch} {E : JE} {d : Nat} (hdd : 3 ≤ d) {a0 : Nat} {a1 : Int32} {h : JH} {q : Int32 × JH} (hf : f_X11_small a0 a1 h = some q) : Con l E d yX11_small cX11_small 2 (some .int) [.ref a0, .int a1] h (some (.int q.1)) q.2 := by
  refine j_start rfl (Nat.le_of_ble_eq_true rfl) ?_
  intro p e s m args below meth c C hret hnm
  refine x_loc [(0, .ref a0), (1, .int a1)] rfl ?_
  unfold f_X11_small at hf
  refine x_iload_n (v := a1) C dX11_small_0 rfl ?_
  obtain ⟨q1, e2, hf⟩ := j_bind hf
  refine x_callS (As := [.int a1]) (rest := []) C dX11_small_1 (m_X1_ofNothingInCommon (l := l) (E := E) (d := d - 1) (by omega) e2) km_X1_ofNothingInCommon lk_X11_174 ks_X1_ofNothingInCommon rfl (by omega) (Nat.le_of_ble_eq_true rfl) (j_le_of (q_X1_ofNothingInCommon e2)) (Or.inr (q_X1_ofNothingInCommon e2)) ?_
  obtain rfl := j_inj hf
  exact x_iret C hret dX11_small_4
set_option maxHeartbeats 4000000 in
set_option maxRecDepth 100000 in
theorem m_X11_trace {l : Launch} {E : JE} {d : Nat} (hdd : 4 ≤ d) {a0 : Nat} {a1 : Int32} {a2 : Int32} {h : JH} {q : Int64 × JH} (hf : f_X11_trace a0 a1 a2 h = some q) : Con l E d yX11_trace cX11_trace 3 (some .long) [.ref a0, .int a1, .int a2] h (some (.long q.1)) q.2 := by
  refine j_start rfl (Nat.le_of_ble_eq_true rfl) ?_
  intro p e s m args below meth c C hret hnm
  refine x_loc [(0, .ref a0), (1, .int a1), (2, .int a2)] rfl ?_
  unfold f_X11_trace at hf
  refine x_iload_n (v := a1) C dX11_trace_0 rfl ?_
  refine x_iload_n (v := a2) C dX11_trace_1 rfl ?_
  obtain ⟨q1, e2, hf⟩ := j_bind hf
  refine x_callS (As := [.int a1, .int a2]) (rest := []) C dX11_trace_2 (m_X10_isAsked (l := l) (E := E) (d := d - 1) (by omega) e2) km_X10_isAsked lk_X11_177 ks_X10_isAsked rfl (by omega) (Nat.le_of_ble_eq_true rfl) (j_le_of (q_X10_isAsked e2)) (Or.inr (q_X10_isAsked e2)) ?_
  refine x_if_ne (tgt := 12) C dX11_trace_5 (by decide) (fun c5 => ?_) (fun c5 => ?_)
  · have hf := j_ifn hf c5
    refine x_iload_n (v := a1) C dX11_trace_12 rfl ?_
    refine x_iload_n (v := a2) C dX11_trace_13 rfl ?_
    obtain ⟨q3, e4, hf⟩ := j_bind hf
    refine x_callS (As := [.int a1, .int a2]) (rest := []) C dX11_trace_14 (m_X10_exact (l := l) (E := E) (d := d - 1) (by omega) e4) km_X10_exact lk_X11_185 ks_X10_exact rfl (by omega) (Nat.le_of_ble_eq_true rfl) (j_le_of (q_X10_exact e4)) (Or.inr (q_X10_exact e4)) ?_
    obtain rfl := j_inj hf
    exact x_lret C hret dX11_trace_17
  · have hf := j_ifp hf c5
    refine x_ldc2 C dX11_trace_8 cn_X11_183 ?_
    obtain rfl := j_inj hf
    exact x_lret C hret dX11_trace_11
set_option maxHeartbeats 4000000 in
set_option maxRecDepth 100000 in
theorem m_X11_traceLeft {l : Launch} {E : JE} {d : Nat} (hdd : 4 ≤ d) {a0 : Nat} {a1 : Int32} {a2 : Int32} {h : JH} {q : Int32 × JH} (hf : f_X11_traceLeft a0 a1 a2 h = some q) : Con l E d yX11_traceLeft cX11_traceLeft 3 (some .int) [.ref a0, .int a1, .int a2] h (some (.int q.1)) q.2 := by
  refine j_start rfl (Nat.le_of_ble_eq_true rfl) ?_
  intro p e s m args below meth c C hret hnm
  refine x_loc [(0, .ref a0), (1, .int a1), (2, .int a2)] rfl ?_
  unfold f_X11_traceLeft at hf
  refine x_iload_n (v := a1) C dX11_traceLeft_0 rfl ?_
  refine x_iload_n (v := a2) C dX11_traceLeft_1 rfl ?_
  obtain ⟨q1, e2, hf⟩ := j_bind hf
  refine x_callS (As := [.int a1, .int a2]) (rest := []) C dX11_traceLeft_2 (m_X10_isAsked (l := l) (E := E) (d := d - 1) (by omega) e2) km_X10_isAsked lk_X11_177 ks_X10_isAsked rfl (by omega) (Nat.le_of_ble_eq_true rfl) (j_le_of (q_X10_isAsked e2)) (Or.inr (q_X10_isAsked e2)) ?_
  refine x_if_ne (tgt := 10) C dX11_traceLeft_5 (by decide) (fun c7 => ?_) (fun c7 => ?_)
  · have hf := j_ifn hf c7
    refine x_iload_n (v := a1) C dX11_traceLeft_10 rfl ?_
    refine x_iload_n (v := a2) C dX11_traceLeft_11 rfl ?_
    refine x_aload_n (v := a0) C dX11_traceLeft_12 rfl ?_
    obtain ⟨v3, e4, hf⟩ := j_bind hf
    refine x_get C dX11_traceLeft_13 (jgI_some e4) fg_X11_13 ?_
    obtain ⟨q5, e6, hf⟩ := j_bind hf
    refine x_callS (As := [.int a1, .int a2, .int v3]) (rest := []) C dX11_traceLeft_16 (m_X10_left (l := l) (E := E) (d := d - 1) (by omega) e6) km_X10_left lk_X11_189 ks_X10_left rfl (by omega) (Nat.le_of_ble_eq_true rfl) (j_le_of (q_X10_left e6)) (Or.inr (q_X10_left e6)) ?_
    obtain rfl := j_inj hf
    exact x_iret C hret dX11_traceLeft_19
  · have hf := j_ifp hf c7
    refine x_iconst C dX11_traceLeft_8 ki_m1 ?_
    obtain rfl := j_inj hf
    exact x_iret C hret dX11_traceLeft_9
set_option maxHeartbeats 4000000 in
set_option maxRecDepth 100000 in
theorem m_X11_share {l : Launch} {E : JE} {d : Nat} (hdd : 4 ≤ d) {a0 : Nat} {a1 : Int32} {a2 : Int32} {h : JH} {q : Int32 × JH} (hf : f_X11_share a0 a1 a2 h = some q) : Con l E d yX11_share cX11_share 5 (some .int) [.ref a0, .int a1, .int a2] h (some (.int q.1)) q.2 := by
  refine j_start rfl (Nat.le_of_ble_eq_true rfl) ?_
  intro p e s m args below meth c C hret hnm
  refine x_loc [(0, .ref a0), (1, .int a1), (2, .int a2)] rfl ?_
  unfold f_X11_share at hf
  refine x_iload_n (v := a1) C dX11_share_0 rfl ?_
  refine x_iload_n (v := a2) C dX11_share_1 rfl ?_
  obtain ⟨q1, e2, hf⟩ := j_bind hf
  refine x_callS (As := [.int a1, .int a2]) (rest := []) C dX11_share_2 (m_X10_isAsked (l := l) (E := E) (d := d - 1) (by omega) e2) km_X10_isAsked lk_X11_177 ks_X10_isAsked rfl (by omega) (Nat.le_of_ble_eq_true rfl) (j_le_of (q_X10_isAsked e2)) (Or.inr (q_X10_isAsked e2)) ?_
  refine x_if_ne (tgt := 11) C dX11_share_5 (by decide) (fun c9 => ?_) (fun c9 => ?_)
  · have hf := j_ifn hf c9
    refine x_iload_n (v := a1) C dX11_share_11 rfl ?_
    refine x_iload_n (v := a2) C dX11_share_12 rfl ?_
    obtain ⟨q3, e4, hf⟩ := j_bind hf
    refine x_callS (As := [.int a1, .int a2]) (rest := []) C dX11_share_13 (m_X10_exact (l := l) (E := E) (d := d - 1) (by omega) e4) km_X10_exact lk_X11_185 ks_X10_exact rfl (by omega) (Nat.le_of_ble_eq_true rfl) (j_le_of (q_X10_exact e4)) (Or.inr (q_X10_exact e4)) ?_
    refine x_lstore_n C dX11_share_16 (by decide) ?_
    refine x_lload_n (v := q3.1) C dX11_share_17 rfl ?_
    refine x_ldc2 C dX11_share_18 cn_X11_196 ?_
    refine x_lcmp C dX11_share_21 ?_
    refine x_if_ne (tgt := 28) C dX11_share_22 (by decide) (fun c10 => ?_) (fun c10 => ?_)
    · have hf := j_ifn hf c10
      refine x_lload_n (v := q3.1) C dX11_share_28 rfl ?_
      refine x_iload_n (v := a1) C dX11_share_29 rfl ?_
      refine x_iload_n (v := a2) C dX11_share_30 rfl ?_
      obtain ⟨q5, e6, hf⟩ := j_bind hf
      refine x_callS (As := [.long q3.1, .int a1, .int a2]) (rest := []) C dX11_share_31 (m_X10_shareOf (l := l) (E := E) (d := d - 1) (by omega) e6) km_X10_shareOf lk_X11_198 ks_X10_shareOf rfl (by omega) (Nat.le_of_ble_eq_true rfl) (j_le_of (q_X10_shareOf e6)) (Or.inr (q_X10_shareOf e6)) ?_
      obtain ⟨q7, e8, hf⟩ := j_bind hf
      refine x_callS (As := [.float q5.1]) (rest := []) C dX11_share_34 (m_X10_bitsOf (l := l) (E := E) (d := d - 1) (by omega) e8) km_X10_bitsOf lk_X11_202 ks_X10_bitsOf rfl (by omega) (Nat.le_of_ble_eq_true rfl) (j_le_of (q_X10_bitsOf e8)) (Or.inr (q_X10_bitsOf e8)) ?_
      obtain rfl := j_inj hf
      exact x_iret C hret dX11_share_37
    · have hf := j_ifp hf c10
      refine x_ldc C dX11_share_25 cn_X11_195 ?_
      obtain rfl := j_inj hf
      exact x_iret C hret dX11_share_27
  · have hf := j_ifp hf c9
    refine x_ldc C dX11_share_8 cn_X11_195 ?_
    obtain rfl := j_inj hf
    exact x_iret C hret dX11_share_10
set_option maxHeartbeats 4000000 in
set_option maxRecDepth 100000 in
theorem m_X11_take {l : Launch} {E : JE} {d : Nat} (hdd : 2 ≤ d) {a0 : Nat} {a1 : Int32} {a2 : Int32} {h : JH} {q : Int32 × JH} (hf : f_X11_take a0 a1 a2 h = some q) : Con l E d yX11_take cX11_take 3 (some .int) [.ref a0, .int a1, .int a2] h (some (.int q.1)) q.2 := by
  refine j_start rfl (Nat.le_of_ble_eq_true rfl) ?_
  intro p e s m args below meth c C hret hnm
  refine x_loc [(0, .ref a0), (1, .int a1), (2, .int a2)] rfl ?_
  unfold f_X11_take at hf
  refine x_iload_n (v := a1) C dX11_take_0 rfl ?_
  obtain ⟨q1, e2, hf⟩ := j_bind hf
  refine x_callS (As := [.int a1]) (rest := []) C dX11_take_1 (m_X11_isRegister (l := l) (E := E) (d := d - 1) (by omega) e2) km_X11_isRegister lk_X11_143 ks_X11_isRegister rfl (by omega) (Nat.le_of_ble_eq_true rfl) (j_le_of (q_X11_isRegister e2)) (Or.inr (q_X11_isRegister e2)) ?_
  refine x_if_eq (tgt := 15) C dX11_take_4 (by decide) (fun c25 => ?_) (fun c25 => ?_)
  · have hf := j_ifp hf c25
    refine x_iconst C dX11_take_15 ki_m1 ?_
    obtain rfl := j_inj hf
    exact x_iret C hret dX11_take_16
  · have hf := j_ifn hf c25
    refine x_aload_n (v := a0) C dX11_take_7 rfl ?_
    refine x_iload_n (v := a2) C dX11_take_8 rfl ?_
    obtain ⟨u23, e24, hf⟩ := j_bind hf
    obtain ⟨q3, e4, hf⟩ := j_bind hf
    refine x_callV (As := [.int a2]) (rest := []) C dX11_take_9 (m_X11_isLet (l := l) (E := E) (d := d - 1) (by omega) e4) km_X11_isLet lk_X11_128 kv_X11_isLet (ci := 8) rfl e24 rfl (by omega) (Nat.le_of_ble_eq_true rfl) (j_le_of (q_X11_isLet e4)) (Or.inr (q_X11_isLet e4)) ?_
    refine x_if_ne (tgt := 17) C dX11_take_12 (by decide) (fun c26 => ?_) (fun c26 => ?_)
    · have hf := j_ifn hf c26
      refine x_aload_n (v := a0) C dX11_take_17 rfl ?_
      obtain ⟨v5, e6, hf⟩ := j_bind hf
      refine x_get C dX11_take_18 (jgR_some e6) fg_X11_25 ?_
      refine x_iload_n (v := a1) C dX11_take_21 rfl ?_
      obtain ⟨v7, e8, hf⟩ := j_bind hf
      refine x_aald C dX11_take_22 e8 ?_
      refine x_aload_n (v := a0) C dX11_take_23 rfl ?_
      obtain ⟨v9, e10, hf⟩ := j_bind hf
      refine x_get C dX11_take_24 (jgR_some e10) fg_X11_21 ?_
      refine x_iload_n (v := a2) C dX11_take_27 rfl ?_
      obtain ⟨v11, e12, hf⟩ := j_bind hf
      refine x_aald C dX11_take_28 e12 ?_
      obtain ⟨u21, e22, hf⟩ := j_bind hf
      obtain ⟨q13, e14, hf⟩ := j_bind hf
      refine x_callV (As := [.ref v11]) (rest := []) C dX11_take_29 (m_X2_copyFrom (l := l) (E := E) (d := d - 1) (by omega) e14) km_X2_copyFrom lk_X11_111 kv_X2_copyFrom (ci := 1) rfl e22 rfl (by omega) (Nat.le_of_ble_eq_true rfl) (j_le_of (q_X2_copyFrom e14)) (Or.inr (q_X2_copyFrom e14)) ?_
      refine x_aload_n (v := a0) C dX11_take_32 rfl ?_
      obtain ⟨v15, e16, hf⟩ := j_bind hf
      refine x_get C dX11_take_33 (jgR_some e16) fg_X11_25 ?_
      refine x_iload_n (v := a1) C dX11_take_36 rfl ?_
      obtain ⟨v17, e18, hf⟩ := j_bind hf
      refine x_aald C dX11_take_37 e18 ?_
      obtain ⟨v19, e20, hf⟩ := j_bind hf
      refine x_get C dX11_take_38 (jgI_some e20) fg_X11_132 ?_
      obtain rfl := j_inj hf
      exact x_iret C hret dX11_take_41
    · have hf := j_ifp hf c26
      refine x_iconst C dX11_take_15 ki_m1 ?_
      obtain rfl := j_inj hf
      exact x_iret C hret dX11_take_16
set_option maxHeartbeats 4000000 in
set_option maxRecDepth 100000 in
theorem m_X11_plus {l : Launch} {E : JE} {d : Nat} (hdd : 2 ≤ d) {a0 : Nat} {a1 : Int32} {a2 : Int32} {a3 : Int32} {h : JH} {q : Int32 × JH} (hf : f_X11_plus a0 a1 a2 a3 h = some q) : Con l E d yX11_plus cX11_plus 4 (some .boolean) [.ref a0, .int a1, .int a2, .int a3] h (some (.int q.1)) q.2 := by
  refine j_start rfl (Nat.le_of_ble_eq_true rfl) ?_
  intro p e s m args below meth c C hret hnm
  refine x_loc [(0, .ref a0), (1, .int a1), (2, .int a2), (3, .int a3)] rfl ?_
  unfold f_X11_plus at hf
  refine x_iload_n (v := a1) C dX11_plus_0 rfl ?_
  obtain ⟨q1, e2, hf⟩ := j_bind hf
  refine x_callS (As := [.int a1]) (rest := []) C dX11_plus_1 (m_X11_isRegister (l := l) (E := E) (d := d - 1) (by omega) e2) km_X11_isRegister lk_X11_143 ks_X11_isRegister rfl (by omega) (Nat.le_of_ble_eq_true rfl) (j_le_of (q_X11_isRegister e2)) (Or.inr (q_X11_isRegister e2)) ?_
  refine x_if_eq (tgt := 35) C dX11_plus_4 (by decide) (fun c35 => ?_) (fun c35 => ?_)
  · have hf := j_ifp hf c35
    refine x_iconst C dX11_plus_35 ki_0 ?_
    obtain rfl := j_inj hf
    exact x_zret C hret (Or.inl rfl) dX11_plus_36
  · have hf := j_ifn hf c35
    refine x_iload_n (v := a2) C dX11_plus_7 rfl ?_
    obtain ⟨q3, e4, hf⟩ := j_bind hf
    refine x_callS (As := [.int a2]) (rest := []) C dX11_plus_8 (m_X11_isRegister (l := l) (E := E) (d := d - 1) (by omega) e4) km_X11_isRegister lk_X11_143 ks_X11_isRegister rfl (by omega) (Nat.le_of_ble_eq_true rfl) (j_le_of (q_X11_isRegister e4)) (Or.inr (q_X11_isRegister e4)) ?_
    refine x_if_eq (tgt := 35) C dX11_plus_11 (by decide) (fun c36 => ?_) (fun c36 => ?_)
    · have hf := j_ifp hf c36
      refine x_iconst C dX11_plus_35 ki_0 ?_
      obtain rfl := j_inj hf
      exact x_zret C hret (Or.inl rfl) dX11_plus_36
    · have hf := j_ifn hf c36
      refine x_aload_n (v := a0) C dX11_plus_14 rfl ?_
      obtain ⟨v5, e6, hf⟩ := j_bind hf
      refine x_get C dX11_plus_15 (jgR_some e6) fg_X11_25 ?_
      refine x_iload_n (v := a1) C dX11_plus_18 rfl ?_
      obtain ⟨v7, e8, hf⟩ := j_bind hf
      refine x_aald C dX11_plus_19 e8 ?_
      obtain ⟨v9, e10, hf⟩ := j_bind hf
      refine x_get C dX11_plus_20 (jgI_some e10) fg_X11_132 ?_
      refine x_aload_n (v := a0) C dX11_plus_23 rfl ?_
      obtain ⟨v11, e12, hf⟩ := j_bind hf
      refine x_get C dX11_plus_24 (jgR_some e12) fg_X11_25 ?_
      refine x_iload_n (v := a2) C dX11_plus_27 rfl ?_
      obtain ⟨v13, e14, hf⟩ := j_bind hf
      refine x_aald C dX11_plus_28 e14 ?_
      obtain ⟨v15, e16, hf⟩ := j_bind hf
      refine x_get C dX11_plus_29 (jgI_some e16) fg_X11_132 ?_
      refine x_icmp_eq (tgt := 37) C dX11_plus_32 (by decide) (fun c37 => ?_) (fun c37 => ?_)
      · have hf := j_ifp hf c37
        refine x_aload_n (v := a0) C dX11_plus_37 rfl ?_
        obtain ⟨v17, e18, hf⟩ := j_bind hf
        refine x_get C dX11_plus_38 (jgR_some e18) fg_X11_25 ?_
        refine x_iload_n (v := a1) C dX11_plus_41 rfl ?_
        obtain ⟨v19, e20, hf⟩ := j_bind hf
        refine x_aald C dX11_plus_42 e20 ?_
        refine x_aload_n (v := a0) C dX11_plus_43 rfl ?_
        obtain ⟨v21, e22, hf⟩ := j_bind hf
        refine x_get C dX11_plus_44 (jgR_some e22) fg_X11_25 ?_
        refine x_iload_n (v := a2) C dX11_plus_47 rfl ?_
        obtain ⟨v23, e24, hf⟩ := j_bind hf
        refine x_aald C dX11_plus_48 e24 ?_
        refine x_iload_n (v := a3) C dX11_plus_49 rfl ?_
        refine x_i2l C dX11_plus_50 ?_
        refine x_aload_n (v := a0) C dX11_plus_51 rfl ?_
        obtain ⟨v25, e26, hf⟩ := j_bind hf
        refine x_get C dX11_plus_52 (jgI_some e26) fg_X11_13 ?_
        obtain ⟨q27, e28, hf⟩ := j_bind hf
        refine x_callS (As := [.long a3.toInt64, .int v25]) (rest := [.ref v23, .ref v19]) C dX11_plus_55 (m_X4_of (l := l) (E := E) (d := d - 1) (by omega) e28) km_X4_of lk_X11_206 ks_X4_of rfl (by omega) (Nat.le_of_ble_eq_true rfl) (j_le_of (q_X4_of e28)) (Or.inr (q_X4_of e28)) ?_
        refine x_aload_n (v := a0) C dX11_plus_58 rfl ?_
        obtain ⟨v29, e30, hf⟩ := j_bind hf
        refine x_get C dX11_plus_59 (jgI_some e30) fg_X11_13 ?_
        obtain ⟨u33, e34, hf⟩ := j_bind hf
        obtain ⟨q31, e32, hf⟩ := j_bind hf
        refine x_callV (As := [.ref v23, .int q27.1, .int v29]) (rest := []) C dX11_plus_62 (m_X2_add (l := l) (E := E) (d := d - 1) (by omega) e32) km_X2_add lk_X11_212 kv_X2_add (ci := 1) rfl e34 rfl (by omega) (Nat.le_of_ble_eq_true rfl) (j_le_of (q_X2_add e32)) (Or.inr (q_X2_add e32)) ?_
        refine x_iconst C dX11_plus_65 ki_1 ?_
        obtain rfl := j_inj hf
        exact x_zret C hret (Or.inr rfl) dX11_plus_66
      · have hf := j_ifn hf c37
        refine x_iconst C dX11_plus_35 ki_0 ?_
        obtain rfl := j_inj hf
        exact x_zret C hret (Or.inl rfl) dX11_plus_36
set_option maxHeartbeats 4000000 in
set_option maxRecDepth 100000 in
theorem m_X11_times {l : Launch} {E : JE} {d : Nat} (hdd : 2 ≤ d) {a0 : Nat} {a1 : Int32} {a2 : Int32} {h : JH} {q : Int32 × JH} (hf : f_X11_times a0 a1 a2 h = some q) : Con l E d yX11_times cX11_times 3 (some .int) [.ref a0, .int a1, .int a2] h (some (.int q.1)) q.2 := by
  refine j_start rfl (Nat.le_of_ble_eq_true rfl) ?_
  intro p e s m args below meth c C hret hnm
  refine x_loc [(0, .ref a0), (1, .int a1), (2, .int a2)] rfl ?_
  unfold f_X11_times at hf
  refine x_iload_n (v := a1) C dX11_times_0 rfl ?_
  obtain ⟨q1, e2, hf⟩ := j_bind hf
  refine x_callS (As := [.int a1]) (rest := []) C dX11_times_1 (m_X11_isRegister (l := l) (E := E) (d := d - 1) (by omega) e2) km_X11_isRegister lk_X11_143 ks_X11_isRegister rfl (by omega) (Nat.le_of_ble_eq_true rfl) (j_le_of (q_X11_isRegister e2)) (Or.inr (q_X11_isRegister e2)) ?_
  refine x_if_eq (tgt := 38) C dX11_times_4 (by decide) (fun c37 => ?_) (fun c37 => ?_)
  · have hf := j_ifp hf c37
    refine x_iconst C dX11_times_38 ki_m1 ?_
    obtain rfl := j_inj hf
    exact x_iret C hret dX11_times_39
  · have hf := j_ifn hf c37
    refine x_iload_n (v := a2) C dX11_times_7 rfl ?_
    obtain ⟨q3, e4, hf⟩ := j_bind hf
    refine x_callS (As := [.int a2]) (rest := []) C dX11_times_8 (m_X11_isRegister (l := l) (E := E) (d := d - 1) (by omega) e4) km_X11_isRegister lk_X11_143 ks_X11_isRegister rfl (by omega) (Nat.le_of_ble_eq_true rfl) (j_le_of (q_X11_isRegister e4)) (Or.inr (q_X11_isRegister e4)) ?_
    refine x_if_eq (tgt := 38) C dX11_times_11 (by decide) (fun c38 => ?_) (fun c38 => ?_)
    · have hf := j_ifp hf c38
      refine x_iconst C dX11_times_38 ki_m1 ?_
      obtain rfl := j_inj hf
      exact x_iret C hret dX11_times_39
    · have hf := j_ifn hf c38
      refine x_aload_n (v := a0) C dX11_times_14 rfl ?_
      obtain ⟨v5, e6, hf⟩ := j_bind hf
      refine x_get C dX11_times_15 (jgR_some e6) fg_X11_25 ?_
      refine x_iload_n (v := a1) C dX11_times_18 rfl ?_
      obtain ⟨v7, e8, hf⟩ := j_bind hf
      refine x_aald C dX11_times_19 e8 ?_
      obtain ⟨v9, e10, hf⟩ := j_bind hf
      refine x_get C dX11_times_20 (jgI_some e10) fg_X11_132 ?_
      refine x_aload_n (v := a0) C dX11_times_23 rfl ?_
      obtain ⟨v11, e12, hf⟩ := j_bind hf
      refine x_get C dX11_times_24 (jgR_some e12) fg_X11_25 ?_
      refine x_iload_n (v := a2) C dX11_times_27 rfl ?_
      obtain ⟨v13, e14, hf⟩ := j_bind hf
      refine x_aald C dX11_times_28 e14 ?_
      obtain ⟨v15, e16, hf⟩ := j_bind hf
      refine x_get C dX11_times_29 (jgI_some e16) fg_X11_132 ?_
      refine x_iadd C dX11_times_32 ?_
      refine x_bipush C dX11_times_33 kb_60 ?_
      refine x_icmp_le (tgt := 40) C dX11_times_35 (by decide) (fun c39 => ?_) (fun c39 => ?_)
      · have hf := j_ifp hf c39
        refine x_aload_n (v := a0) C dX11_times_40 rfl ?_
        obtain ⟨v17, e18, hf⟩ := j_bind hf
        refine x_get C dX11_times_41 (jgR_some e18) fg_X11_25 ?_
        refine x_iload_n (v := a1) C dX11_times_44 rfl ?_
        obtain ⟨v19, e20, hf⟩ := j_bind hf
        refine x_aald C dX11_times_45 e20 ?_
        refine x_aload_n (v := a0) C dX11_times_46 rfl ?_
        obtain ⟨v21, e22, hf⟩ := j_bind hf
        refine x_get C dX11_times_47 (jgR_some e22) fg_X11_25 ?_
        refine x_iload_n (v := a2) C dX11_times_50 rfl ?_
        obtain ⟨v23, e24, hf⟩ := j_bind hf
        refine x_aald C dX11_times_51 e24 ?_
        refine x_aload_n (v := a0) C dX11_times_52 rfl ?_
        obtain ⟨v25, e26, hf⟩ := j_bind hf
        refine x_get C dX11_times_53 (jgI_some e26) fg_X11_13 ?_
        obtain ⟨u35, e36, hf⟩ := j_bind hf
        obtain ⟨q27, e28, hf⟩ := j_bind hf
        refine x_callV (As := [.ref v23, .int v25]) (rest := []) C dX11_times_56 (m_X2_multiplyBy (l := l) (E := E) (d := d - 1) (by omega) e28) km_X2_multiplyBy lk_X11_216 kv_X2_multiplyBy (ci := 1) rfl e36 rfl (by omega) (Nat.le_of_ble_eq_true rfl) (j_le_of (q_X2_multiplyBy e28)) (Or.inr (q_X2_multiplyBy e28)) ?_
        refine x_aload_n (v := a0) C dX11_times_59 rfl ?_
        obtain ⟨v29, e30, hf⟩ := j_bind hf
        refine x_get C dX11_times_60 (jgR_some e30) fg_X11_25 ?_
        refine x_iload_n (v := a1) C dX11_times_63 rfl ?_
        obtain ⟨v31, e32, hf⟩ := j_bind hf
        refine x_aald C dX11_times_64 e32 ?_
        obtain ⟨v33, e34, hf⟩ := j_bind hf
        refine x_get C dX11_times_65 (jgI_some e34) fg_X11_132 ?_
        obtain rfl := j_inj hf
        exact x_iret C hret dX11_times_68
      · have hf := j_ifn hf c39
        refine x_iconst C dX11_times_38 ki_m1 ?_
        obtain rfl := j_inj hf
        exact x_iret C hret dX11_times_39
set_option maxHeartbeats 4000000 in
set_option maxRecDepth 100000 in
theorem m_X11_readyForHecke {l : Launch} {E : JE} {d : Nat} (hdd : 6 ≤ d) {a0 : Nat} {a1 : Int32} {a2 : Int32} {h : JH} {q : Nat × JH} (hf : f_X11_readyForHecke a0 a1 a2 h = some q) : Con l E d yX11_readyForHecke cX11_readyForHecke 3 (some (.object "HeckeSeries$Space")) [.ref a0, .int a1, .int a2] h (some (.ref q.1)) q.2 := by
  refine j_start rfl (Nat.le_of_ble_eq_true rfl) ?_
  intro p e s m args below meth c C hret hnm
  refine x_loc [(0, .ref a0), (1, .int a1), (2, .int a2)] rfl ?_
  unfold f_X11_readyForHecke at hf
  refine x_aload_n (v := a0) C dX11_readyForHecke_0 rfl ?_
  obtain ⟨v1, e2, hf⟩ := j_bind hf
  refine x_get C dX11_readyForHecke_1 (jgR_some e2) fg_X11_45 ?_
  refine x_iload_n (v := a1) C dX11_readyForHecke_4 rfl ?_
  refine x_aload_n (v := a0) C dX11_readyForHecke_5 rfl ?_
  obtain ⟨v3, e4, hf⟩ := j_bind hf
  refine x_get C dX11_readyForHecke_6 (jgI_some e4) fg_X11_13 ?_
  refine x_iload_n (v := a1) C dX11_readyForHecke_9 rfl ?_
  obtain ⟨q5, e6, hf⟩ := j_bind hf
  refine x_callS (As := [.int a1]) (rest := [.int v3, .int a1, .ref v1]) C dX11_readyForHecke_10 (m_X11_cuspsOf (l := l) (E := E) (d := d - 1) (by omega) e6) km_X11_cuspsOf lk_X11_163 ks_X11_cuspsOf rfl (by omega) (Nat.le_of_ble_eq_true rfl) (j_le_of (q_X11_cuspsOf e6)) (Or.inr (q_X11_cuspsOf e6)) ?_
  refine x_iload_n (v := a2) C dX11_readyForHecke_13 rfl ?_
  refine x_imul C dX11_readyForHecke_14 ?_
  obtain ⟨u9, e10, hf⟩ := j_bind hf
  obtain ⟨q7, e8, hf⟩ := j_bind hf
  have hle : j_le q7.2 q.2 := by
    obtain rfl := j_inj hf
    exact j_le_refl _
  refine x_callV (As := [.int a1, .int v3, .int (q5.1 * a2)]) (rest := []) C dX11_readyForHecke_15 (m_X8_ready (l := l) (E := E) (d := d - 1) (by omega) e8) km_X8_ready lk_X11_150 kv_X8_ready (ci := 6) rfl e10 rfl (by omega) (Nat.le_of_ble_eq_true rfl) (n_X8_ready e8) (Or.inl hle) ?_
  obtain rfl := j_inj hf
  exact x_aret C hret (Or.inl ⟨_, rfl⟩) dX11_readyForHecke_18
set_option maxHeartbeats 4000000 in
set_option maxRecDepth 100000 in
theorem m_X11_isHecke {l : Launch} {E : JE} {d : Nat} (hdd : 0 ≤ d) {a0 : Int32} {h : JH} {q : Int32 × JH} (hf : f_X11_isHecke a0 h = some q) : Con l E d yX11_isHecke cX11_isHecke 1 (some .boolean) [.int a0] h (some (.int q.1)) q.2 := by
  refine j_start rfl (Nat.le_of_ble_eq_true rfl) ?_
  intro p e s m args below meth c C hret hnm
  refine x_loc [(0, .int a0)] rfl ?_
  unfold f_X11_isHecke at hf
  refine x_iload_n (v := a0) C dX11_isHecke_0 rfl ?_
  refine x_iconst C dX11_isHecke_1 ki_1 ?_
  refine x_icmp_lt (tgt := 15) C dX11_isHecke_2 (by decide) (fun c1 => ?_) (fun c1 => ?_)
  · have hf := j_ifp hf c1
    refine x_iconst C dX11_isHecke_15 ki_0 ?_
    obtain rfl := j_inj hf
    exact x_zret C hret (Or.inl rfl) dX11_isHecke_16
  · have hf := j_ifn hf c1
    refine x_iload_n (v := a0) C dX11_isHecke_5 rfl ?_
    refine x_bipush C dX11_isHecke_6 kb_30 ?_
    refine x_icmp_gt (tgt := 15) C dX11_isHecke_8 (by decide) (fun c2 => ?_) (fun c2 => ?_)
    · have hf := j_ifp hf c2
      refine x_iconst C dX11_isHecke_15 ki_0 ?_
      obtain rfl := j_inj hf
      exact x_zret C hret (Or.inl rfl) dX11_isHecke_16
    · have hf := j_ifn hf c2
      refine x_iconst C dX11_isHecke_11 ki_1 ?_
      refine x_goto (tgt := 16) C dX11_isHecke_12 (by decide) ?_
      obtain rfl := j_inj hf
      exact x_zret C hret (Or.inr rfl) dX11_isHecke_16
