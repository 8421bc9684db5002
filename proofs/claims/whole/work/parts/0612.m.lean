set_option maxHeartbeats 4000000 in
set_option maxRecDepth 100000 in
theorem s_X12_laysRoots_L40 {p : Program} {l : Launch} {e : Env} {R : Room} {s : State} {m : MethodId} {args : Array Value} {below : List Frame} {meth : Method} {c : Code} {E : JE} {h0 hF : JH} {rF : Option Value} {d : Nat} (C : j_C p s m args meth c R E cX12_laysRoots 6 RX12 h0 hF d) (hret : meth.sig.returnType = none) (hdd : 5 ≤ d) (a0 : Nat) (a2 : Int32) (z : (Int64 × Int32)) (h : JH) (r : (Int64 × Int32) ⊕ (Int64 × Int32)) (h1 : JH) (hf : f_X12_laysRoots_L40 a0 a2 z h = some (r, h1)) (hk : Sum.elim (fun z => Xw p l e R s m args below meth c E 6 h0 rF hF 40 [(0, .ref a0), (2, .int a2), (3, .long z.1), (5, .int z.2)] [] h1) (fun t => Xw p l e R s m args below meth c E 6 h0 rF hF 71 [(0, .ref a0), (2, .int a2), (3, .long t.1), (5, .int t.2)] [] h1) r) : Xw p l e R s m args below meth c E 6 h0 rF hF 40 [(0, .ref a0), (2, .int a2), (3, .long z.1), (5, .int z.2)] [] h := by
  unfold f_X12_laysRoots_L40 at hf
  refine x_iload (v := z.2) C dX12_laysRoots_40 rfl ?_
  refine x_if_lt (tgt := 71) C dX12_laysRoots_42 (by decide) (fun c21 => ?_) (fun c21 => ?_)
  · have hf := j_ifp hf c21
    obtain ⟨rfl, rfl⟩ := j_inj2 hf
    exact x_locr hk rfl
  · have hf := j_ifn hf c21
    refine x_lload_n (v := z.1) C dX12_laysRoots_45 rfl ?_
    refine x_iload_n (v := a2) C dX12_laysRoots_46 rfl ?_
    refine x_i2l C dX12_laysRoots_47 ?_
    refine x_lmul C dX12_laysRoots_48 ?_
    refine x_aload_n (v := a0) C dX12_laysRoots_49 rfl ?_
    obtain ⟨v13, e14, hf⟩ := j_bind hf
    refine x_get C dX12_laysRoots_50 (jgR_some e14) fg_X12_236 ?_
    refine x_iload (v := z.2) C dX12_laysRoots_53 rfl ?_
    obtain ⟨v15, e16, hf⟩ := j_bind hf
    refine x_iald C dX12_laysRoots_55 e16 ?_
    refine x_i2l C dX12_laysRoots_56 ?_
    refine x_ladd C dX12_laysRoots_57 ?_
    refine x_aload_n (v := a0) C dX12_laysRoots_58 rfl ?_
    obtain ⟨v17, e18, hf⟩ := j_bind hf
    refine x_get C dX12_laysRoots_59 (jgI_some e18) fg_X12_7 ?_
    refine x_i2l C dX12_laysRoots_62 ?_
    obtain ⟨u19, e20, hf⟩ := j_bind hf
    refine x_lrem C dX12_laysRoots_63 (jnzL_some e20) ?_
    refine x_lstore_n C dX12_laysRoots_64 (by decide) ?_
    refine x_iinc (v := z.2) C dX12_laysRoots_65 rfl ki_m1 (by decide) ?_
    refine x_goto (tgt := 40) C dX12_laysRoots_68 (by decide) ?_
    obtain ⟨rfl, rfl⟩ := j_inj2 hf
    exact x_locr hk rfl
set_option maxHeartbeats 4000000 in
set_option maxRecDepth 100000 in
theorem s_X12_laysRoots_L17 {p : Program} {l : Launch} {e : Env} {R : Room} {s : State} {m : MethodId} {args : Array Value} {below : List Frame} {meth : Method} {c : Code} {E : JE} {h0 hF : JH} {rF : Option Value} {d : Nat} (C : j_C p s m args meth c R E cX12_laysRoots 6 RX12 h0 hF d) (hret : meth.sig.returnType = none) (hdd : 5 ≤ d) (a0 : Nat) (z : Int32) (h : JH) (r : Int32 ⊕ Int32) (h1 : JH) (hf : f_X12_laysRoots_L17 a0 z h = some (r, h1)) (hk : Sum.elim (fun z => Xw p l e R s m args below meth c E 6 h0 rF hF 17 [(0, .ref a0), (2, .int z)] [] h1) (fun t => Xw p l e R s m args below meth c E 6 h0 rF hF 103 [(0, .ref a0), (2, .int t)] [] h1) r) : Xw p l e R s m args below meth c E 6 h0 rF hF 17 [(0, .ref a0), (2, .int z)] [] h := by
  unfold f_X12_laysRoots_L17 at hf
  refine x_iload_n (v := z) C dX12_laysRoots_17 rfl ?_
  refine x_aload_n (v := a0) C dX12_laysRoots_18 rfl ?_
  obtain ⟨v7, e8, hf⟩ := j_bind hf
  refine x_get C dX12_laysRoots_19 (jgI_some e8) fg_X12_7 ?_
  refine x_icmp_ge (tgt := 103) C dX12_laysRoots_22 (by decide) (fun c25 => ?_) (fun c25 => ?_)
  · have hf := j_ifp hf c25
    obtain ⟨rfl, rfl⟩ := j_inj2 hf
    exact x_locr hk rfl
  · have hf := j_ifn hf c25
    refine x_aload_n (v := a0) C dX12_laysRoots_25 rfl ?_
    obtain ⟨v9, e10, hf⟩ := j_bind hf
    refine x_get C dX12_laysRoots_26 (jgI_some e10) fg_X12_342 ?_
    refine x_if_le (tgt := 103) C dX12_laysRoots_29 (by decide) (fun c26 => ?_) (fun c26 => ?_)
    · have hf := j_ifp hf c26
      obtain ⟨rfl, rfl⟩ := j_inj2 hf
      exact x_locr hk rfl
    · have hf := j_ifn hf c26
      refine x_lconst C dX12_laysRoots_32 kl_0 ?_
      refine x_lstore_n C dX12_laysRoots_33 (by decide) ?_
      refine x_aload_n (v := a0) C dX12_laysRoots_34 rfl ?_
      obtain ⟨v11, e12, hf⟩ := j_bind hf
      refine x_get C dX12_laysRoots_35 (jgI_some e12) fg_X12_342 ?_
      refine x_istore C dX12_laysRoots_38 (by decide) ?_
      obtain ⟨q13, e14, hf⟩ := j_bind hf
      refine x_loc [(0, .ref a0), (2, .int z), (3, .long (0 : Int64)), (5, .int v11)] rfl ?_
      refine x_loop (s_X12_laysRoots_L40 C hret hdd a0 z) e14 ?_
      refine x_lload_n (v := q13.1.1) C dX12_laysRoots_71 rfl ?_
      refine x_lconst C dX12_laysRoots_72 kl_0 ?_
      refine x_lcmp C dX12_laysRoots_73 ?_
      refine x_if_ne (tgt := 97) C dX12_laysRoots_74 (by decide) (fun c27 => ?_) (fun c27 => ?_)
      · have hf := j_ifn hf c27
        refine x_iinc (v := z) C dX12_laysRoots_97 rfl ki_1 (by decide) ?_
        refine x_goto (tgt := 17) C dX12_laysRoots_100 (by decide) ?_
        obtain ⟨rfl, rfl⟩ := j_inj2 hf
        exact x_locr hk rfl
      · have hf := j_ifp hf c27
        refine x_aload_n (v := a0) C dX12_laysRoots_77 rfl ?_
        obtain ⟨v15, e16, hf⟩ := j_bind hf
        refine x_get C dX12_laysRoots_78 (jgR_some e16) fg_X12_244 ?_
        refine x_aload_n (v := a0) C dX12_laysRoots_81 rfl ?_
        obtain ⟨v17, e18, hf⟩ := j_bind hf
        refine x_get C dX12_laysRoots_82 (jgI_some e18) fg_X12_352 ?_
        refine x_iload_n (v := z) C dX12_laysRoots_85 rfl ?_
        obtain ⟨h19, e20, hf⟩ := j_bind hf
        refine x_iast C dX12_laysRoots_86 e20 ?_
        refine x_aload_n (v := a0) C dX12_laysRoots_87 rfl ?_
        refine x_dup C dX12_laysRoots_88 rfl ?_
        obtain ⟨v21, e22, hf⟩ := j_bind hf
        refine x_get C dX12_laysRoots_89 (jgI_some e22) fg_X12_352 ?_
        refine x_iconst C dX12_laysRoots_92 ki_1 ?_
        refine x_iadd C dX12_laysRoots_93 ?_
        obtain ⟨h23, e24, hf⟩ := j_bind hf
        refine x_put C dX12_laysRoots_94 e24 fp_X12_352 rfl rfl ?_
        refine x_iinc (v := z) C dX12_laysRoots_97 rfl ki_1 (by decide) ?_
        refine x_goto (tgt := 17) C dX12_laysRoots_100 (by decide) ?_
        obtain ⟨rfl, rfl⟩ := j_inj2 hf
        exact x_locr hk rfl
set_option maxHeartbeats 4000000 in
set_option maxRecDepth 100000 in
theorem m_X12_laysRoots {l : Launch} {E : JE} {d : Nat} (hdd : 5 ≤ d) {a0 : Nat} {a1 : Int32} {h : JH} {q : Unit × JH} (hf : f_X12_laysRoots a0 a1 h = some q) : Con l E d yX12_laysRoots cX12_laysRoots 6 none [.ref a0, .int a1] h (none) q.2 := by
  refine j_start rfl (Nat.le_of_ble_eq_true rfl) ?_
  intro p e s m args below meth c C hret hnm
  refine x_loc [(0, .ref a0), (1, .int a1)] rfl ?_
  unfold f_X12_laysRoots at hf
  refine x_aload_n (v := a0) C dX12_laysRoots_0 rfl ?_
  refine x_iload_n (v := a1) C dX12_laysRoots_1 rfl ?_
  refine x_iconst C dX12_laysRoots_2 ki_2 ?_
  obtain ⟨u32, e33, hf⟩ := j_bind hf
  obtain ⟨q1, e2, hf⟩ := j_bind hf
  refine x_callV (As := [.int a1, .int (2 : Int32)]) (rest := []) C dX12_laysRoots_3 (m_X12_laysTable (l := l) (E := E) (d := d - 1) (by omega) e2) km_X12_laysTable lk_X12_345 kv_X12_laysTable (ci := 9) rfl e33 rfl (by omega) (Nat.le_of_ble_eq_true rfl) (j_le_of (q_X12_laysTable e2)) (Or.inr (q_X12_laysTable e2)) ?_
  refine x_aload_n (v := a0) C dX12_laysRoots_6 rfl ?_
  obtain ⟨u30, e31, hf⟩ := j_bind hf
  obtain ⟨q3, e4, hf⟩ := j_bind hf
  refine x_callV (As := []) (rest := []) C dX12_laysRoots_7 (m_X12_laysPolynomial (l := l) (E := E) (d := d - 1) (by omega) e4) km_X12_laysPolynomial lk_X12_349 kv_X12_laysPolynomial (ci := 9) rfl e31 rfl (by omega) (Nat.le_of_ble_eq_true rfl) (j_le_of (q_X12_laysPolynomial e4)) (Or.inr (q_X12_laysPolynomial e4)) ?_
  refine x_aload_n (v := a0) C dX12_laysRoots_10 rfl ?_
  refine x_iconst C dX12_laysRoots_11 ki_0 ?_
  obtain ⟨h5, e6, hf⟩ := j_bind hf
  refine x_put C dX12_laysRoots_12 e6 fp_X12_352 rfl rfl ?_
  refine x_iconst C dX12_laysRoots_15 ki_0 ?_
  refine x_istore_n C dX12_laysRoots_16 (by decide) ?_
  obtain ⟨q28, e29, hf⟩ := j_bind hf
  refine x_loc [(0, .ref a0), (2, .int (0 : Int32))] rfl ?_
  refine x_loop (s_X12_laysRoots_L17 C hret hdd a0) e29 ?_
  obtain rfl := j_inj hf
  exact x_vret C hret dX12_laysRoots_103
set_option maxHeartbeats 4000000 in
set_option maxRecDepth 100000 in
theorem m_X12_root {l : Launch} {E : JE} {d : Nat} (hdd : 6 ≤ d) {a0 : Nat} {a1 : Int32} {a2 : Int32} {h : JH} {q : Int32 × JH} (hf : f_X12_root a0 a1 a2 h = some q) : Con l E d yX12_root cX12_root 3 (some .int) [.ref a0, .int a1, .int a2] h (some (.int q.1)) q.2 := by
  refine j_start rfl (Nat.le_of_ble_eq_true rfl) ?_
  intro p e s m args below meth c C hret hnm
  refine x_loc [(0, .ref a0), (1, .int a1), (2, .int a2)] rfl ?_
  unfold f_X12_root at hf
  refine x_aload_n (v := a0) C dX12_root_0 rfl ?_
  refine x_iconst C dX12_root_1 ki_0 ?_
  obtain ⟨h1, e2, hf⟩ := j_bind hf
  refine x_put C dX12_root_2 e2 fp_X12_1 rfl rfl ?_
  refine x_iload_n (v := a1) C dX12_root_5 rfl ?_
  obtain ⟨q3, e4, hf⟩ := j_bind hf
  refine x_callS (As := [.int a1]) (rest := []) C dX12_root_6 (m_X12_isWeight (l := l) (E := E) (d := d - 1) (by omega) e4) km_X12_isWeight lk_X12_272 ks_X12_isWeight rfl (by omega) (Nat.le_of_ble_eq_true rfl) (j_le_of (q_X12_isWeight e4)) (Or.inr (q_X12_isWeight e4)) ?_
  refine x_if_ne (tgt := 14) C dX12_root_9 (by decide) (fun c19 => ?_) (fun c19 => ?_)
  · have hf := j_ifn hf c19
    refine x_aload_n (v := a0) C dX12_root_14 rfl ?_
    refine x_iload_n (v := a1) C dX12_root_15 rfl ?_
    obtain ⟨u17, e18, hf⟩ := j_bind hf
    obtain ⟨q5, e6, hf⟩ := j_bind hf
    refine x_callV (As := [.int a1]) (rest := []) C dX12_root_16 (m_X12_laysRoots (l := l) (E := E) (d := d - 1) (by omega) e6) km_X12_laysRoots lk_X12_355 kv_X12_laysRoots (ci := 9) rfl e18 rfl (by omega) (Nat.le_of_ble_eq_true rfl) (j_le_of (q_X12_laysRoots e6)) (Or.inr (q_X12_laysRoots e6)) ?_
    refine x_iload_n (v := a2) C dX12_root_19 rfl ?_
    refine x_iconst C dX12_root_20 ki_m1 ?_
    refine x_icmp_ne (tgt := 31) C dX12_root_21 (by decide) (fun c20 => ?_) (fun c20 => ?_)
    · have hf := j_ifn hf c20
      refine x_iload_n (v := a2) C dX12_root_31 rfl ?_
      refine x_iconst C dX12_root_32 ki_0 ?_
      refine x_aload_n (v := a0) C dX12_root_33 rfl ?_
      obtain ⟨v7, e8, hf⟩ := j_bind hf
      refine x_get C dX12_root_34 (jgI_some e8) fg_X12_352 ?_
      refine x_iconst C dX12_root_37 ki_1 ?_
      refine x_isub C dX12_root_38 ?_
      obtain ⟨q9, e10, hf⟩ := j_bind hf
      refine x_callS (As := [.int a2, .int (0 : Int32), .int (v7 - (1 : Int32))]) (rest := []) C dX12_root_39 (m_X12_within (l := l) (E := E) (d := d - 1) (by omega) e10) km_X12_within lk_X12_45 ks_X12_within rfl (by omega) (Nat.le_of_ble_eq_true rfl) (j_le_of (q_X12_within e10)) (Or.inr (q_X12_within e10)) ?_
      refine x_if_eq (tgt := 54) C dX12_root_42 (by decide) (fun c21 => ?_) (fun c21 => ?_)
      · have hf := j_ifp hf c21
        refine x_iconst C dX12_root_54 ki_m1 ?_
        obtain rfl := j_inj hf
        exact x_iret C hret dX12_root_55
      · have hf := j_ifn hf c21
        refine x_aload_n (v := a0) C dX12_root_45 rfl ?_
        obtain ⟨v11, e12, hf⟩ := j_bind hf
        refine x_get C dX12_root_46 (jgR_some e12) fg_X12_244 ?_
        refine x_iload_n (v := a2) C dX12_root_49 rfl ?_
        obtain ⟨v13, e14, hf⟩ := j_bind hf
        refine x_iald C dX12_root_50 e14 ?_
        refine x_goto (tgt := 55) C dX12_root_51 (by decide) ?_
        obtain rfl := j_inj hf
        exact x_iret C hret dX12_root_55
    · have hf := j_ifp hf c20
      refine x_aload_n (v := a0) C dX12_root_24 rfl ?_
      obtain ⟨v15, e16, hf⟩ := j_bind hf
      refine x_get C dX12_root_25 (jgI_some e16) fg_X12_352 ?_
      refine x_goto (tgt := 55) C dX12_root_28 (by decide) ?_
      obtain rfl := j_inj hf
      exact x_iret C hret dX12_root_55
  · have hf := j_ifp hf c19
    refine x_iconst C dX12_root_12 ki_m1 ?_
    obtain rfl := j_inj hf
    exact x_iret C hret dX12_root_13
set_option maxHeartbeats 4000000 in
set_option maxRecDepth 100000 in
theorem s_X12_takesStep_L20 {p : Program} {l : Launch} {e : Env} {R : Room} {s : State} {m : MethodId} {args : Array Value} {below : List Frame} {meth : Method} {c : Code} {E : JE} {h0 hF : JH} {rF : Option Value} {d : Nat} (C : j_C p s m args meth c R E cX12_takesStep 9 RX12 h0 hF d) (hret : meth.sig.returnType = none) (hdd : 1 ≤ d) (a0 : Nat) (a1 : Int32) (a2 : Int32) (a3 : Int32) (a4 : Int32) (z : Int32) (h : JH) (r : Int32 ⊕ Int32) (h1 : JH) (hf : f_X12_takesStep_L20 a0 a1 a2 a3 a4 z h = some (r, h1)) (hk : Sum.elim (fun z => Xw p l e R s m args below meth c E 9 h0 rF hF 20 [(0, .ref a0), (1, .int a1), (2, .int a2), (3, .int a3), (4, .int a4), (5, .int z)] [] h1) (fun t => Xw p l e R s m args below meth c E 9 h0 rF hF 96 [(0, .ref a0), (1, .int a1), (2, .int a2), (3, .int a3), (4, .int a4), (5, .int t)] [] h1) r) : Xw p l e R s m args below meth c E 9 h0 rF hF 20 [(0, .ref a0), (1, .int a1), (2, .int a2), (3, .int a3), (4, .int a4), (5, .int z)] [] h := by
  unfold f_X12_takesStep_L20 at hf
  refine x_iload (v := z) C dX12_takesStep_20 rfl ?_
  refine x_aload_n (v := a0) C dX12_takesStep_22 rfl ?_
  obtain ⟨v7, e8, hf⟩ := j_bind hf
  refine x_get C dX12_takesStep_23 (jgI_some e8) fg_X12_342 ?_
  refine x_icmp_ge (tgt := 96) C dX12_takesStep_26 (by decide) (fun c29 => ?_) (fun c29 => ?_)
  · have hf := j_ifp hf c29
    obtain ⟨rfl, rfl⟩ := j_inj2 hf
    exact x_locr hk rfl
  · have hf := j_ifn hf c29
    refine x_aload_n (v := a0) C dX12_takesStep_29 rfl ?_
    obtain ⟨v9, e10, hf⟩ := j_bind hf
    refine x_get C dX12_takesStep_30 (jgR_some e10) fg_X12_247 ?_
    refine x_bipush C dX12_takesStep_33 kb_6 ?_
    refine x_iload_n (v := a2) C dX12_takesStep_35 rfl ?_
    refine x_imul C dX12_takesStep_36 ?_
    refine x_iload (v := z) C dX12_takesStep_37 rfl ?_
    refine x_iadd C dX12_takesStep_39 ?_
    obtain ⟨v11, e12, hf⟩ := j_bind hf
    refine x_iald C dX12_takesStep_40 e12 ?_
    refine x_istore C dX12_takesStep_41 (by decide) ?_
    refine x_aload_n (v := a0) C dX12_takesStep_43 rfl ?_
    obtain ⟨v13, e14, hf⟩ := j_bind hf
    refine x_get C dX12_takesStep_44 (jgR_some e14) fg_X12_247 ?_
    refine x_bipush C dX12_takesStep_47 kb_6 ?_
    refine x_iload_n (v := a2) C dX12_takesStep_49 rfl ?_
    refine x_imul C dX12_takesStep_50 ?_
    refine x_iload (v := z) C dX12_takesStep_51 rfl ?_
    refine x_iadd C dX12_takesStep_53 ?_
    refine x_aload_n (v := a0) C dX12_takesStep_54 rfl ?_
    obtain ⟨v15, e16, hf⟩ := j_bind hf
    refine x_get C dX12_takesStep_55 (jgR_some e16) fg_X12_247 ?_
    refine x_bipush C dX12_takesStep_58 kb_6 ?_
    refine x_iload_n (v := a1) C dX12_takesStep_60 rfl ?_
    refine x_imul C dX12_takesStep_61 ?_
    refine x_iload (v := z) C dX12_takesStep_62 rfl ?_
    refine x_iadd C dX12_takesStep_64 ?_
    obtain ⟨v17, e18, hf⟩ := j_bind hf
    refine x_iald C dX12_takesStep_65 e18 ?_
    obtain ⟨h19, e20, hf⟩ := j_bind hf
    refine x_iast C dX12_takesStep_66 e20 ?_
    refine x_aload_n (v := a0) C dX12_takesStep_67 rfl ?_
    obtain ⟨v21, e22, hf⟩ := j_bind hf
    refine x_get C dX12_takesStep_68 (jgR_some e22) fg_X12_247 ?_
    refine x_bipush C dX12_takesStep_71 kb_6 ?_
    refine x_iload_n (v := a1) C dX12_takesStep_73 rfl ?_
    refine x_imul C dX12_takesStep_74 ?_
    refine x_iload (v := z) C dX12_takesStep_75 rfl ?_
    refine x_iadd C dX12_takesStep_77 ?_
    refine x_aload_n (v := a0) C dX12_takesStep_78 rfl ?_
    refine x_iload (v := v11) C dX12_takesStep_79 rfl ?_
    refine x_i2l C dX12_takesStep_81 ?_
    refine x_iload (v := a4) C dX12_takesStep_82 rfl ?_
    refine x_i2l C dX12_takesStep_84 ?_
    refine x_lmul C dX12_takesStep_85 ?_
    obtain ⟨u27, e28, hf⟩ := j_bind hf
    obtain ⟨q23, e24, hf⟩ := j_bind hf
    refine x_callV (As := [.long (v11.toInt64 * a4.toInt64)]) (rest := [.int (((6 : Int32) * a1) + z), .ref v21]) C dX12_takesStep_86 (m_X12_left (l := l) (E := E) (d := d - 1) (by omega) e24) km_X12_left lk_X12_10 kv_X12_left (ci := 9) rfl e28 rfl (by omega) (Nat.le_of_ble_eq_true rfl) (j_le_of (q_X12_left e24)) (Or.inr (q_X12_left e24)) ?_
    obtain ⟨h25, e26, hf⟩ := j_bind hf
    refine x_iast C dX12_takesStep_89 e26 ?_
    refine x_iinc (v := z) C dX12_takesStep_90 rfl ki_1 (by decide) ?_
    refine x_goto (tgt := 20) C dX12_takesStep_93 (by decide) ?_
    obtain ⟨rfl, rfl⟩ := j_inj2 hf
    exact x_locr hk rfl
set_option maxHeartbeats 4000000 in
set_option maxRecDepth 100000 in
theorem s_X12_takesStep_L126 {p : Program} {l : Launch} {e : Env} {R : Room} {s : State} {m : MethodId} {args : Array Value} {below : List Frame} {meth : Method} {c : Code} {E : JE} {h0 hF : JH} {rF : Option Value} {d : Nat} (C : j_C p s m args meth c R E cX12_takesStep 9 RX12 h0 hF d) (hret : meth.sig.returnType = none) (hdd : 1 ≤ d) (a0 : Nat) (a1 : Int32) (a3 : Int32) (a5 : Int32) (a6 : Int64) (z : Int32) (h : JH) (r : Int32 ⊕ Int32) (h1 : JH) (hf : f_X12_takesStep_L126 a0 a1 a3 a5 a6 z h = some (r, h1)) (hk : Sum.elim (fun z => Xw p l e R s m args below meth c E 9 h0 rF hF 126 [(0, .ref a0), (1, .int a1), (3, .int a3), (5, .int a5), (6, .long a6), (8, .int z)] [] h1) (fun t => Xw p l e R s m args below meth c E 9 h0 rF hF 195 [(0, .ref a0), (1, .int a1), (3, .int a3), (5, .int a5), (6, .long a6), (8, .int t)] [] h1) r) : Xw p l e R s m args below meth c E 9 h0 rF hF 126 [(0, .ref a0), (1, .int a1), (3, .int a3), (5, .int a5), (6, .long a6), (8, .int z)] [] h := by
  unfold f_X12_takesStep_L126 at hf
  refine x_iload (v := z) C dX12_takesStep_126 rfl ?_
  refine x_aload_n (v := a0) C dX12_takesStep_128 rfl ?_
  obtain ⟨v38, e39, hf⟩ := j_bind hf
  refine x_get C dX12_takesStep_129 (jgI_some e39) fg_X12_342 ?_
  refine x_icmp_ge (tgt := 195) C dX12_takesStep_132 (by decide) (fun c56 => ?_) (fun c56 => ?_)
  · have hf := j_ifp hf c56
    obtain ⟨rfl, rfl⟩ := j_inj2 hf
    exact x_locr hk rfl
  · have hf := j_ifn hf c56
    refine x_iload (v := a5) C dX12_takesStep_135 rfl ?_
    refine x_iload_n (v := a1) C dX12_takesStep_137 rfl ?_
    refine x_icmp_eq (tgt := 195) C dX12_takesStep_138 (by decide) (fun c57 => ?_) (fun c57 => ?_)
    · have hf := j_ifp hf c57
      obtain ⟨rfl, rfl⟩ := j_inj2 hf
      exact x_locr hk rfl
    · have hf := j_ifn hf c57
      refine x_aload_n (v := a0) C dX12_takesStep_141 rfl ?_
      obtain ⟨v40, e41, hf⟩ := j_bind hf
      refine x_get C dX12_takesStep_142 (jgR_some e41) fg_X12_247 ?_
      refine x_bipush C dX12_takesStep_145 kb_6 ?_
      refine x_iload (v := a5) C dX12_takesStep_147 rfl ?_
      refine x_imul C dX12_takesStep_149 ?_
      refine x_iload (v := z) C dX12_takesStep_150 rfl ?_
      refine x_iadd C dX12_takesStep_152 ?_
      refine x_aload_n (v := a0) C dX12_takesStep_153 rfl ?_
      refine x_aload_n (v := a0) C dX12_takesStep_154 rfl ?_
      obtain ⟨v42, e43, hf⟩ := j_bind hf
      refine x_get C dX12_takesStep_155 (jgR_some e43) fg_X12_247 ?_
      refine x_bipush C dX12_takesStep_158 kb_6 ?_
      refine x_iload (v := a5) C dX12_takesStep_160 rfl ?_
      refine x_imul C dX12_takesStep_162 ?_
      refine x_iload (v := z) C dX12_takesStep_163 rfl ?_
      refine x_iadd C dX12_takesStep_165 ?_
      obtain ⟨v44, e45, hf⟩ := j_bind hf
      refine x_iald C dX12_takesStep_166 e45 ?_
      refine x_i2l C dX12_takesStep_167 ?_
      refine x_lload (v := a6) C dX12_takesStep_168 rfl ?_
      refine x_aload_n (v := a0) C dX12_takesStep_170 rfl ?_
      obtain ⟨v46, e47, hf⟩ := j_bind hf
      refine x_get C dX12_takesStep_171 (jgR_some e47) fg_X12_247 ?_
      refine x_bipush C dX12_takesStep_174 kb_6 ?_
      refine x_iload_n (v := a1) C dX12_takesStep_176 rfl ?_
      refine x_imul C dX12_takesStep_177 ?_
      refine x_iload (v := z) C dX12_takesStep_178 rfl ?_
      refine x_iadd C dX12_takesStep_180 ?_
      obtain ⟨v48, e49, hf⟩ := j_bind hf
      refine x_iald C dX12_takesStep_181 e49 ?_
      refine x_i2l C dX12_takesStep_182 ?_
      refine x_lmul C dX12_takesStep_183 ?_
      refine x_lsub C dX12_takesStep_184 ?_
      obtain ⟨u54, e55, hf⟩ := j_bind hf
      obtain ⟨q50, e51, hf⟩ := j_bind hf
      refine x_callV (As := [.long (v44.toInt64 - (a6 * v48.toInt64))]) (rest := [.int (((6 : Int32) * a5) + z), .ref v40]) C dX12_takesStep_185 (m_X12_left (l := l) (E := E) (d := d - 1) (by omega) e51) km_X12_left lk_X12_10 kv_X12_left (ci := 9) rfl e55 rfl (by omega) (Nat.le_of_ble_eq_true rfl) (j_le_of (q_X12_left e51)) (Or.inr (q_X12_left e51)) ?_
      obtain ⟨h52, e53, hf⟩ := j_bind hf
      refine x_iast C dX12_takesStep_188 e53 ?_
      refine x_iinc (v := z) C dX12_takesStep_189 rfl ki_1 (by decide) ?_
      refine x_goto (tgt := 126) C dX12_takesStep_192 (by decide) ?_
      obtain ⟨rfl, rfl⟩ := j_inj2 hf
      exact x_locr hk rfl
set_option maxHeartbeats 4000000 in
set_option maxRecDepth 100000 in
theorem s_X12_takesStep_L99 {p : Program} {l : Launch} {e : Env} {R : Room} {s : State} {m : MethodId} {args : Array Value} {below : List Frame} {meth : Method} {c : Code} {E : JE} {h0 hF : JH} {rF : Option Value} {d : Nat} (C : j_C p s m args meth c R E cX12_takesStep 9 RX12 h0 hF d) (hret : meth.sig.returnType = none) (hdd : 1 ≤ d) (a0 : Nat) (a1 : Int32) (a3 : Int32) (z : Int32) (h : JH) (r : Int32 ⊕ Int32) (h1 : JH) (hf : f_X12_takesStep_L99 a0 a1 a3 z h = some (r, h1)) (hk : Sum.elim (fun z => Xw p l e R s m args below meth c E 9 h0 rF hF 99 [(0, .ref a0), (1, .int a1), (3, .int a3), (5, .int z)] [] h1) (fun t => Xw p l e R s m args below meth c E 9 h0 rF hF 201 [(0, .ref a0), (1, .int a1), (3, .int a3), (5, .int t)] [] h1) r) : Xw p l e R s m args below meth c E 9 h0 rF hF 99 [(0, .ref a0), (1, .int a1), (3, .int a3), (5, .int z)] [] h := by
  unfold f_X12_takesStep_L99 at hf
  refine x_iload (v := z) C dX12_takesStep_99 rfl ?_
  refine x_aload_n (v := a0) C dX12_takesStep_101 rfl ?_
  obtain ⟨v32, e33, hf⟩ := j_bind hf
  refine x_get C dX12_takesStep_102 (jgI_some e33) fg_X12_342 ?_
  refine x_icmp_ge (tgt := 201) C dX12_takesStep_105 (by decide) (fun c40 => ?_) (fun c40 => ?_)
  · have hf := j_ifp hf c40
    obtain ⟨rfl, rfl⟩ := j_inj2 hf
    exact x_locr hk rfl
  · have hf := j_ifn hf c40
    refine x_aload_n (v := a0) C dX12_takesStep_108 rfl ?_
    obtain ⟨v34, e35, hf⟩ := j_bind hf
    refine x_get C dX12_takesStep_109 (jgR_some e35) fg_X12_247 ?_
    refine x_bipush C dX12_takesStep_112 kb_6 ?_
    refine x_iload (v := z) C dX12_takesStep_114 rfl ?_
    refine x_imul C dX12_takesStep_116 ?_
    refine x_iload_n (v := a3) C dX12_takesStep_117 rfl ?_
    refine x_iadd C dX12_takesStep_118 ?_
    obtain ⟨v36, e37, hf⟩ := j_bind hf
    refine x_iald C dX12_takesStep_119 e37 ?_
    refine x_i2l C dX12_takesStep_120 ?_
    refine x_lstore C dX12_takesStep_121 (by decide) ?_
    refine x_iconst C dX12_takesStep_123 ki_0 ?_
    refine x_istore C dX12_takesStep_124 (by decide) ?_
    obtain ⟨q38, e39, hf⟩ := j_bind hf
    refine x_loc [(0, .ref a0), (1, .int a1), (3, .int a3), (5, .int z), (6, .long v36.toInt64), (8, .int (0 : Int32))] rfl ?_
    refine x_loop (s_X12_takesStep_L126 C hret hdd a0 a1 a3 z v36.toInt64) e39 ?_
    refine x_iinc (v := z) C dX12_takesStep_195 rfl ki_1 (by decide) ?_
    refine x_goto (tgt := 99) C dX12_takesStep_198 (by decide) ?_
    obtain ⟨rfl, rfl⟩ := j_inj2 hf
    exact x_locr hk rfl
set_option maxHeartbeats 4000000 in
set_option maxRecDepth 100000 in
theorem m_X12_takesStep {l : Launch} {E : JE} {d : Nat} (hdd : 1 ≤ d) {a0 : Nat} {a1 : Int32} {a2 : Int32} {a3 : Int32} {h : JH} {q : Unit × JH} (hf : f_X12_takesStep a0 a1 a2 a3 h = some q) : Con l E d yX12_takesStep cX12_takesStep 9 none [.ref a0, .int a1, .int a2, .int a3] h (none) q.2 := by
  refine j_start rfl (Nat.le_of_ble_eq_true rfl) ?_
  intro p e s m args below meth c C hret hnm
  refine x_loc [(0, .ref a0), (1, .int a1), (2, .int a2), (3, .int a3)] rfl ?_
  unfold f_X12_takesStep at hf
  refine x_aload_n (v := a0) C dX12_takesStep_0 rfl ?_
  refine x_aload_n (v := a0) C dX12_takesStep_1 rfl ?_
  obtain ⟨v1, e2, hf⟩ := j_bind hf
  refine x_get C dX12_takesStep_2 (jgR_some e2) fg_X12_247 ?_
  refine x_bipush C dX12_takesStep_5 kb_6 ?_
  refine x_iload_n (v := a2) C dX12_takesStep_7 rfl ?_
  refine x_imul C dX12_takesStep_8 ?_
  refine x_iload_n (v := a3) C dX12_takesStep_9 rfl ?_
  refine x_iadd C dX12_takesStep_10 ?_
  obtain ⟨v3, e4, hf⟩ := j_bind hf
  refine x_iald C dX12_takesStep_11 e4 ?_
  obtain ⟨u43, e44, hf⟩ := j_bind hf
  obtain ⟨q5, e6, hf⟩ := j_bind hf
  refine x_callV (As := [.int v3]) (rest := []) C dX12_takesStep_12 (m_X12_inverse (l := l) (E := E) (d := d - 1) (by omega) e6) km_X12_inverse lk_X12_41 kv_X12_inverse (ci := 9) rfl e44 rfl (by omega) (Nat.le_of_ble_eq_true rfl) (j_le_of (q_X12_inverse e6)) (Or.inr (q_X12_inverse e6)) ?_
  refine x_istore C dX12_takesStep_15 (by decide) ?_
  refine x_iconst C dX12_takesStep_17 ki_0 ?_
  refine x_istore C dX12_takesStep_18 (by decide) ?_
  obtain ⟨q30, e31, hf⟩ := j_bind hf
  refine x_loc [(0, .ref a0), (1, .int a1), (2, .int a2), (3, .int a3), (4, .int q5.1), (5, .int (0 : Int32))] rfl ?_
  refine x_loop (s_X12_takesStep_L20 C hret hdd a0 a1 a2 a3 q5.1) e31 ?_
  refine x_iconst C dX12_takesStep_96 ki_0 ?_
  refine x_istore C dX12_takesStep_97 (by decide) ?_
  obtain ⟨q41, e42, hf⟩ := j_bind hf
  refine x_loc [(0, .ref a0), (1, .int a1), (3, .int a3), (5, .int (0 : Int32))] rfl ?_
  refine x_loop (s_X12_takesStep_L99 C hret hdd a0 a1 a3) e42 ?_
  obtain rfl := j_inj hf
  exact x_vret C hret dX12_takesStep_201
set_option maxHeartbeats 4000000 in
set_option maxRecDepth 100000 in
theorem s_X12_solves_L12 {p : Program} {l : Launch} {e : Env} {R : Room} {s : State} {m : MethodId} {args : Array Value} {below : List Frame} {meth : Method} {c : Code} {E : JE} {h0 hF : JH} {rF : Option Value} {d : Nat} (C : j_C p s m args meth c R E cX12_solves 5 RX12 h0 hF d) (hret : meth.sig.returnType = (some .boolean)) (hdd : 2 ≤ d) (a0 : Nat) (a1 : Int32) (a2 : Int32) (z : Int32) (h : JH) (r : Int32 ⊕ Int32) (h1 : JH) (hf : f_X12_solves_L12 a0 a1 a2 z h = some (r, h1)) (hk : Sum.elim (fun z => Xw p l e R s m args below meth c E 5 h0 rF hF 12 [(0, .ref a0), (1, .int a1), (2, .int a2), (3, .int z)] [] h1) (fun t => Xw p l e R s m args below meth c E 5 h0 rF hF 64 [(0, .ref a0), (1, .int a1), (2, .int a2), (3, .int t)] [] h1) r) : Xw p l e R s m args below meth c E 5 h0 rF hF 12 [(0, .ref a0), (1, .int a1), (2, .int a2), (3, .int z)] [] h := by
  unfold f_X12_solves_L12 at hf
  refine x_iload_n (v := z) C dX12_solves_12 rfl ?_
  refine x_aload_n (v := a0) C dX12_solves_13 rfl ?_
  obtain ⟨v3, e4, hf⟩ := j_bind hf
  refine x_get C dX12_solves_14 (jgI_some e4) fg_X12_342 ?_
  refine x_icmp_ge (tgt := 64) C dX12_solves_17 (by decide) (fun c23 => ?_) (fun c23 => ?_)
  · have hf := j_ifp hf c23
    obtain ⟨rfl, rfl⟩ := j_inj2 hf
    exact x_locr hk rfl
  · have hf := j_ifn hf c23
    refine x_aload_n (v := a0) C dX12_solves_20 rfl ?_
    obtain ⟨v5, e6, hf⟩ := j_bind hf
    refine x_get C dX12_solves_21 (jgR_some e6) fg_X12_247 ?_
    refine x_bipush C dX12_solves_24 kb_6 ?_
    refine x_iload_n (v := a2) C dX12_solves_26 rfl ?_
    refine x_imul C dX12_solves_27 ?_
    refine x_iload_n (v := z) C dX12_solves_28 rfl ?_
    refine x_iadd C dX12_solves_29 ?_
    refine x_aload_n (v := a0) C dX12_solves_30 rfl ?_
    refine x_aload_n (v := a0) C dX12_solves_31 rfl ?_
    obtain ⟨v7, e8, hf⟩ := j_bind hf
    refine x_get C dX12_solves_32 (jgR_some e8) fg_X12_233 ?_
    refine x_bipush C dX12_solves_35 kb_6 ?_
    refine x_iload_n (v := z) C dX12_solves_37 rfl ?_
    refine x_imul C dX12_solves_38 ?_
    refine x_iload_n (v := a2) C dX12_solves_39 rfl ?_
    refine x_iadd C dX12_solves_40 ?_
    obtain ⟨v9, e10, hf⟩ := j_bind hf
    refine x_iald C dX12_solves_41 e10 ?_
    refine x_iload_n (v := z) C dX12_solves_42 rfl ?_
    refine x_iload_n (v := a2) C dX12_solves_43 rfl ?_
    refine x_icmp_ne (tgt := 51) C dX12_solves_44 (by decide) (fun c24 => ?_) (fun c24 => ?_)
    · have hf := j_ifn hf c24
      refine x_iconst C dX12_solves_51 ki_0 ?_
      refine x_isub C dX12_solves_52 ?_
      refine x_i2l C dX12_solves_53 ?_
      obtain ⟨u15, e16, hf⟩ := j_bind hf
      obtain ⟨q11, e12, hf⟩ := j_bind hf
      refine x_callV (As := [.long ((v9 - (0 : Int32)).toInt64)]) (rest := [.int (((6 : Int32) * a2) + z), .ref v5]) C dX12_solves_54 (m_X12_left (l := l) (E := E) (d := d - 1) (by omega) e12) km_X12_left lk_X12_10 kv_X12_left (ci := 9) rfl e16 rfl (by omega) (Nat.le_of_ble_eq_true rfl) (j_le_of (q_X12_left e12)) (Or.inr (q_X12_left e12)) ?_
      obtain ⟨h13, e14, hf⟩ := j_bind hf
      refine x_iast C dX12_solves_57 e14 ?_
      refine x_iinc (v := z) C dX12_solves_58 rfl ki_1 (by decide) ?_
      refine x_goto (tgt := 12) C dX12_solves_61 (by decide) ?_
      obtain ⟨rfl, rfl⟩ := j_inj2 hf
      exact x_locr hk rfl
    · have hf := j_ifp hf c24
      refine x_iload_n (v := a1) C dX12_solves_47 rfl ?_
      refine x_goto (tgt := 52) C dX12_solves_48 (by decide) ?_
      refine x_isub C dX12_solves_52 ?_
      refine x_i2l C dX12_solves_53 ?_
      obtain ⟨u21, e22, hf⟩ := j_bind hf
      obtain ⟨q17, e18, hf⟩ := j_bind hf
      refine x_callV (As := [.long ((v9 - a1).toInt64)]) (rest := [.int (((6 : Int32) * a2) + z), .ref v5]) C dX12_solves_54 (m_X12_left (l := l) (E := E) (d := d - 1) (by omega) e18) km_X12_left lk_X12_10 kv_X12_left (ci := 9) rfl e22 rfl (by omega) (Nat.le_of_ble_eq_true rfl) (j_le_of (q_X12_left e18)) (Or.inr (q_X12_left e18)) ?_
      obtain ⟨h19, e20, hf⟩ := j_bind hf
      refine x_iast C dX12_solves_57 e20 ?_
      refine x_iinc (v := z) C dX12_solves_58 rfl ki_1 (by decide) ?_
      refine x_goto (tgt := 12) C dX12_solves_61 (by decide) ?_
      obtain ⟨rfl, rfl⟩ := j_inj2 hf
      exact x_locr hk rfl
set_option maxHeartbeats 4000000 in
set_option maxRecDepth 100000 in
theorem s_X12_solves_L2 {p : Program} {l : Launch} {e : Env} {R : Room} {s : State} {m : MethodId} {args : Array Value} {below : List Frame} {meth : Method} {c : Code} {E : JE} {h0 hF : JH} {rF : Option Value} {d : Nat} (C : j_C p s m args meth c R E cX12_solves 5 RX12 h0 hF d) (hret : meth.sig.returnType = (some .boolean)) (hdd : 2 ≤ d) (a0 : Nat) (a1 : Int32) (z : Int32) (h : JH) (r : Int32 ⊕ Int32) (h1 : JH) (hf : f_X12_solves_L2 a0 a1 z h = some (r, h1)) (hk : Sum.elim (fun z => Xw p l e R s m args below meth c E 5 h0 rF hF 2 [(0, .ref a0), (1, .int a1), (2, .int z)] [] h1) (fun t => Xw p l e R s m args below meth c E 5 h0 rF hF 70 [(0, .ref a0), (1, .int a1), (2, .int t)] [] h1) r) : Xw p l e R s m args below meth c E 5 h0 rF hF 2 [(0, .ref a0), (1, .int a1), (2, .int z)] [] h := by
  unfold f_X12_solves_L2 at hf
  refine x_iload_n (v := z) C dX12_solves_2 rfl ?_
  refine x_aload_n (v := a0) C dX12_solves_3 rfl ?_
  obtain ⟨v1, e2, hf⟩ := j_bind hf
  refine x_get C dX12_solves_4 (jgI_some e2) fg_X12_342 ?_
  refine x_icmp_ge (tgt := 70) C dX12_solves_7 (by decide) (fun c5 => ?_) (fun c5 => ?_)
  · have hf := j_ifp hf c5
    obtain ⟨rfl, rfl⟩ := j_inj2 hf
    exact x_locr hk rfl
  · have hf := j_ifn hf c5
    refine x_iconst C dX12_solves_10 ki_0 ?_
    refine x_istore_n C dX12_solves_11 (by decide) ?_
    obtain ⟨q3, e4, hf⟩ := j_bind hf
    refine x_loc [(0, .ref a0), (1, .int a1), (2, .int z), (3, .int (0 : Int32))] rfl ?_
    refine x_loop (s_X12_solves_L12 C hret hdd a0 a1 z) e4 ?_
    refine x_iinc (v := z) C dX12_solves_64 rfl ki_1 (by decide) ?_
    refine x_goto (tgt := 2) C dX12_solves_67 (by decide) ?_
    obtain ⟨rfl, rfl⟩ := j_inj2 hf
    exact x_locr hk rfl
set_option maxHeartbeats 4000000 in
set_option maxRecDepth 100000 in
theorem s_X12_solves_L85 {p : Program} {l : Launch} {e : Env} {R : Room} {s : State} {m : MethodId} {args : Array Value} {below : List Frame} {meth : Method} {c : Code} {E : JE} {h0 hF : JH} {rF : Option Value} {d : Nat} (C : j_C p s m args meth c R E cX12_solves 5 RX12 h0 hF d) (hret : meth.sig.returnType = (some .boolean)) (hdd : 2 ≤ d) (a0 : Nat) (a2 : Int32) (a3 : Int32) (z : Int32) (h : JH) (r : Int32 ⊕ Int32) (h1 : JH) (hf : f_X12_solves_L85 a0 a2 a3 z h = some (r, h1)) (hk : Sum.elim (fun z => Xw p l e R s m args below meth c E 5 h0 rF hF 85 [(0, .ref a0), (2, .int a2), (3, .int a3), (4, .int z)] [] h1) (fun t => Xw p l e R s m args below meth c E 5 h0 rF hF 115 [(0, .ref a0), (2, .int a2), (3, .int a3), (4, .int t)] [] h1) r) : Xw p l e R s m args below meth c E 5 h0 rF hF 85 [(0, .ref a0), (2, .int a2), (3, .int a3), (4, .int z)] [] h := by
  unfold f_X12_solves_L85 at hf
  refine x_iload (v := z) C dX12_solves_85 rfl ?_
  refine x_aload_n (v := a0) C dX12_solves_87 rfl ?_
  obtain ⟨v10, e11, hf⟩ := j_bind hf
  refine x_get C dX12_solves_88 (jgI_some e11) fg_X12_342 ?_
  refine x_icmp_ge (tgt := 115) C dX12_solves_91 (by decide) (fun c16 => ?_) (fun c16 => ?_)
  · have hf := j_ifp hf c16
    obtain ⟨rfl, rfl⟩ := j_inj2 hf
    exact x_locr hk rfl
  · have hf := j_ifn hf c16
    refine x_aload_n (v := a0) C dX12_solves_94 rfl ?_
    obtain ⟨v12, e13, hf⟩ := j_bind hf
    refine x_get C dX12_solves_95 (jgR_some e13) fg_X12_247 ?_
    refine x_bipush C dX12_solves_98 kb_6 ?_
    refine x_iload (v := z) C dX12_solves_100 rfl ?_
    refine x_imul C dX12_solves_102 ?_
    refine x_iload_n (v := a3) C dX12_solves_103 rfl ?_
    refine x_iadd C dX12_solves_104 ?_
    obtain ⟨v14, e15, hf⟩ := j_bind hf
    refine x_iald C dX12_solves_105 e15 ?_
    refine x_if_ne (tgt := 115) C dX12_solves_106 (by decide) (fun c17 => ?_) (fun c17 => ?_)
    · have hf := j_ifn hf c17
      obtain ⟨rfl, rfl⟩ := j_inj2 hf
      exact x_locr hk rfl
    · have hf := j_ifp hf c17
      refine x_iinc (v := z) C dX12_solves_109 rfl ki_1 (by decide) ?_
      refine x_goto (tgt := 85) C dX12_solves_112 (by decide) ?_
      obtain ⟨rfl, rfl⟩ := j_inj2 hf
      exact x_locr hk rfl
set_option maxHeartbeats 4000000 in
set_option maxRecDepth 100000 in
theorem s_X12_solves_L74 {p : Program} {l : Launch} {e : Env} {R : Room} {s : State} {m : MethodId} {args : Array Value} {below : List Frame} {meth : Method} {c : Code} {E : JE} {h0 hF : JH} {rF : Option Value} {d : Nat} (C : j_C p s m args meth c R E cX12_solves 5 RX12 h0 hF d) (hret : meth.sig.returnType = (some .boolean)) (hdd : 2 ≤ d) (a0 : Nat) (z : (Int32 × Int32)) (h : JH) (r : (Int32 × Int32) ⊕ (Int32 ⊕ (Int32 × Int32))) (h1 : JH) (hf : f_X12_solves_L74 a0 z h = some (r, h1)) (hk : Sum.elim (fun z => Xw p l e R s m args below meth c E 5 h0 rF hF 74 [(0, .ref a0), (2, .int z.1), (3, .int z.2)] [] h1) (fun t => Sum.elim (fun rr => some (.int rr) = rF ∧ h1 = hF) (fun t => Xw p l e R s m args below meth c E 5 h0 rF hF 143 [(0, .ref a0), (2, .int t.1), (3, .int t.2)] [] h1) t) r) : Xw p l e R s m args below meth c E 5 h0 rF hF 74 [(0, .ref a0), (2, .int z.1), (3, .int z.2)] [] h := by
  unfold f_X12_solves_L74 at hf
  refine x_iload_n (v := z.2) C dX12_solves_74 rfl ?_
  refine x_aload_n (v := a0) C dX12_solves_75 rfl ?_
  obtain ⟨v8, e9, hf⟩ := j_bind hf
  refine x_get C dX12_solves_76 (jgI_some e9) fg_X12_342 ?_
  refine x_icmp_ge (tgt := 143) C dX12_solves_79 (by decide) (fun c26 => ?_) (fun c26 => ?_)
  · have hf := j_ifp hf c26
    obtain ⟨rfl, rfl⟩ := j_inj2 hf
    exact x_locr hk rfl
  · have hf := j_ifn hf c26
    refine x_iload_n (v := z.1) C dX12_solves_82 rfl ?_
    refine x_istore C dX12_solves_83 (by decide) ?_
    obtain ⟨q18, e19, hf⟩ := j_bind hf
    refine x_loc [(0, .ref a0), (2, .int z.1), (3, .int z.2), (4, .int z.1)] rfl ?_
    refine x_loop (s_X12_solves_L85 C hret hdd a0 z.1 z.2) e19 ?_
    refine x_iload (v := q18.1) C dX12_solves_115 rfl ?_
    refine x_aload_n (v := a0) C dX12_solves_117 rfl ?_
    obtain ⟨v20, e21, hf⟩ := j_bind hf
    refine x_get C dX12_solves_118 (jgI_some e21) fg_X12_342 ?_
    refine x_icmp_ne (tgt := 126) C dX12_solves_121 (by decide) (fun c27 => ?_) (fun c27 => ?_)
    · have hf := j_ifn hf c27
      refine x_aload_n (v := a0) C dX12_solves_126 rfl ?_
      refine x_iload_n (v := z.1) C dX12_solves_127 rfl ?_
      refine x_iload (v := q18.1) C dX12_solves_128 rfl ?_
      refine x_iload_n (v := z.2) C dX12_solves_130 rfl ?_
      obtain ⟨u24, e25, hf⟩ := j_bind hf
      obtain ⟨q22, e23, hf⟩ := j_bind hf
      refine x_callV (As := [.int z.1, .int q18.1, .int z.2]) (rest := []) C dX12_solves_131 (m_X12_takesStep (l := l) (E := E) (d := d - 1) (by omega) e23) km_X12_takesStep lk_X12_358 kv_X12_takesStep (ci := 9) rfl e25 rfl (by omega) (Nat.le_of_ble_eq_true rfl) (j_le_of (q_X12_takesStep e23)) (Or.inr (q_X12_takesStep e23)) ?_
      refine x_iinc (v := z.1) C dX12_solves_134 rfl ki_1 (by decide) ?_
      refine x_iinc (v := z.2) C dX12_solves_137 rfl ki_1 (by decide) ?_
      refine x_goto (tgt := 74) C dX12_solves_140 (by decide) ?_
      obtain ⟨rfl, rfl⟩ := j_inj2 hf
      exact x_locr hk rfl
    · have hf := j_ifp hf c27
      refine x_iconst C dX12_solves_124 ki_0 ?_
      obtain ⟨rfl, rfl⟩ := j_inj2 hf
      obtain ⟨rfl, rfl⟩ := hk
      exact x_zret C hret (Or.inl rfl) dX12_solves_125
set_option maxHeartbeats 4000000 in
set_option maxRecDepth 100000 in
theorem s_X12_solves_L145 {p : Program} {l : Launch} {e : Env} {R : Room} {s : State} {m : MethodId} {args : Array Value} {below : List Frame} {meth : Method} {c : Code} {E : JE} {h0 hF : JH} {rF : Option Value} {d : Nat} (C : j_C p s m args meth c R E cX12_solves 5 RX12 h0 hF d) (hret : meth.sig.returnType = (some .boolean)) (hdd : 2 ≤ d) (a0 : Nat) (z : Int32) (h : JH) (r : Int32 ⊕ (Int32 ⊕ Int32)) (h1 : JH) (hf : f_X12_solves_L145 a0 z h = some (r, h1)) (hk : Sum.elim (fun z => Xw p l e R s m args below meth c E 5 h0 rF hF 145 [(0, .ref a0), (3, .int z)] [] h1) (fun t => Sum.elim (fun rr => some (.int rr) = rF ∧ h1 = hF) (fun t => Xw p l e R s m args below meth c E 5 h0 rF hF 173 [(0, .ref a0), (3, .int t)] [] h1) t) r) : Xw p l e R s m args below meth c E 5 h0 rF hF 145 [(0, .ref a0), (3, .int z)] [] h := by
  unfold f_X12_solves_L145 at hf
  refine x_iload_n (v := z) C dX12_solves_145 rfl ?_
  refine x_aload_n (v := a0) C dX12_solves_146 rfl ?_
  obtain ⟨v32, e33, hf⟩ := j_bind hf
  refine x_get C dX12_solves_147 (jgI_some e33) fg_X12_342 ?_
  refine x_icmp_ge (tgt := 173) C dX12_solves_150 (by decide) (fun c38 => ?_) (fun c38 => ?_)
  · have hf := j_ifp hf c38
    obtain ⟨rfl, rfl⟩ := j_inj2 hf
    exact x_locr hk rfl
  · have hf := j_ifn hf c38
    refine x_aload_n (v := a0) C dX12_solves_153 rfl ?_
    obtain ⟨v34, e35, hf⟩ := j_bind hf
    refine x_get C dX12_solves_154 (jgR_some e35) fg_X12_247 ?_
    refine x_bipush C dX12_solves_157 kb_6 ?_
    refine x_iload_n (v := z) C dX12_solves_159 rfl ?_
    refine x_imul C dX12_solves_160 ?_
    obtain ⟨v36, e37, hf⟩ := j_bind hf
    refine x_iald C dX12_solves_161 e37 ?_
    refine x_if_eq (tgt := 167) C dX12_solves_162 (by decide) (fun c39 => ?_) (fun c39 => ?_)
    · have hf := j_ifp hf c39
      refine x_iinc (v := z) C dX12_solves_167 rfl ki_1 (by decide) ?_
      refine x_goto (tgt := 145) C dX12_solves_170 (by decide) ?_
      obtain ⟨rfl, rfl⟩ := j_inj2 hf
      exact x_locr hk rfl
    · have hf := j_ifn hf c39
      refine x_iconst C dX12_solves_165 ki_0 ?_
      obtain ⟨rfl, rfl⟩ := j_inj2 hf
      obtain ⟨rfl, rfl⟩ := hk
      exact x_zret C hret (Or.inl rfl) dX12_solves_166
set_option maxHeartbeats 4000000 in
set_option maxRecDepth 100000 in
theorem s_X12_solves_L189 {p : Program} {l : Launch} {e : Env} {R : Room} {s : State} {m : MethodId} {args : Array Value} {below : List Frame} {meth : Method} {c : Code} {E : JE} {h0 hF : JH} {rF : Option Value} {d : Nat} (C : j_C p s m args meth c R E cX12_solves 5 RX12 h0 hF d) (hret : meth.sig.returnType = (some .boolean)) (hdd : 2 ≤ d) (a0 : Nat) (z : Int32) (h : JH) (r : Int32 ⊕ Int32) (h1 : JH) (hf : f_X12_solves_L189 a0 z h = some (r, h1)) (hk : Sum.elim (fun z => Xw p l e R s m args below meth c E 5 h0 rF hF 189 [(0, .ref a0), (3, .int z)] [] h1) (fun t => Xw p l e R s m args below meth c E 5 h0 rF hF 228 [(0, .ref a0), (3, .int t)] [] h1) r) : Xw p l e R s m args below meth c E 5 h0 rF hF 189 [(0, .ref a0), (3, .int z)] [] h := by
  unfold f_X12_solves_L189 at hf
  refine x_iload_n (v := z) C dX12_solves_189 rfl ?_
  refine x_aload_n (v := a0) C dX12_solves_190 rfl ?_
  obtain ⟨v52, e53, hf⟩ := j_bind hf
  refine x_get C dX12_solves_191 (jgI_some e53) fg_X12_342 ?_
  refine x_icmp_ge (tgt := 228) C dX12_solves_194 (by decide) (fun c66 => ?_) (fun c66 => ?_)
  · have hf := j_ifp hf c66
    obtain ⟨rfl, rfl⟩ := j_inj2 hf
    exact x_locr hk rfl
  · have hf := j_ifn hf c66
    refine x_aload_n (v := a0) C dX12_solves_197 rfl ?_
    obtain ⟨v54, e55, hf⟩ := j_bind hf
    refine x_get C dX12_solves_198 (jgR_some e55) fg_X12_72 ?_
    refine x_iload_n (v := z) C dX12_solves_201 rfl ?_
    refine x_iconst C dX12_solves_202 ki_1 ?_
    refine x_iadd C dX12_solves_203 ?_
    refine x_aload_n (v := a0) C dX12_solves_204 rfl ?_
    refine x_aload_n (v := a0) C dX12_solves_205 rfl ?_
    obtain ⟨v56, e57, hf⟩ := j_bind hf
    refine x_get C dX12_solves_206 (jgR_some e57) fg_X12_247 ?_
    refine x_bipush C dX12_solves_209 kb_6 ?_
    refine x_iload_n (v := z) C dX12_solves_211 rfl ?_
    refine x_iconst C dX12_solves_212 ki_1 ?_
    refine x_isub C dX12_solves_213 ?_
    refine x_imul C dX12_solves_214 ?_
    obtain ⟨v58, e59, hf⟩ := j_bind hf
    refine x_iald C dX12_solves_215 e59 ?_
    refine x_ineg C dX12_solves_216 ?_
    refine x_i2l C dX12_solves_217 ?_
    obtain ⟨u64, e65, hf⟩ := j_bind hf
    obtain ⟨q60, e61, hf⟩ := j_bind hf
    refine x_callV (As := [.long ((-v58).toInt64)]) (rest := [.int (z + (1 : Int32)), .ref v54]) C dX12_solves_218 (m_X12_left (l := l) (E := E) (d := d - 1) (by omega) e61) km_X12_left lk_X12_10 kv_X12_left (ci := 9) rfl e65 rfl (by omega) (Nat.le_of_ble_eq_true rfl) (j_le_of (q_X12_left e61)) (Or.inr (q_X12_left e61)) ?_
    obtain ⟨h62, e63, hf⟩ := j_bind hf
    refine x_iast C dX12_solves_221 e63 ?_
    refine x_iinc (v := z) C dX12_solves_222 rfl ki_1 (by decide) ?_
    refine x_goto (tgt := 189) C dX12_solves_225 (by decide) ?_
    obtain ⟨rfl, rfl⟩ := j_inj2 hf
    exact x_locr hk rfl
set_option maxHeartbeats 4000000 in
set_option maxRecDepth 100000 in
theorem m_X12_solves {l : Launch} {E : JE} {d : Nat} (hdd : 2 ≤ d) {a0 : Nat} {a1 : Int32} {h : JH} {q : Int32 × JH} (hf : f_X12_solves a0 a1 h = some q) : Con l E d yX12_solves cX12_solves 5 (some .boolean) [.ref a0, .int a1] h (some (.int q.1)) q.2 := by
  refine j_start rfl (Nat.le_of_ble_eq_true rfl) ?_
  intro p e s m args below meth c C hret hnm
  refine x_loc [(0, .ref a0), (1, .int a1)] rfl ?_
  unfold f_X12_solves at hf
  refine x_iconst C dX12_solves_0 ki_0 ?_
  refine x_istore_n C dX12_solves_1 (by decide) ?_
  obtain ⟨q6, e7, hf⟩ := j_bind hf
  refine x_loc [(0, .ref a0), (1, .int a1), (2, .int (0 : Int32))] rfl ?_
  refine x_loop (s_X12_solves_L2 C hret hdd a0 a1) e7 ?_
  refine x_iconst C dX12_solves_70 ki_0 ?_
  refine x_istore_n C dX12_solves_71 (by decide) ?_
  refine x_iconst C dX12_solves_72 ki_1 ?_
  refine x_istore_n C dX12_solves_73 (by decide) ?_
  obtain ⟨q28, e29, hf⟩ := j_bind hf
  refine x_loc [(0, .ref a0), (2, .int (0 : Int32)), (3, .int (1 : Int32))] rfl ?_
  refine x_loop (s_X12_solves_L74 C hret hdd a0) e29 ?_
  cases y71 : q28.1 with
  | inl r31 =>
    rw [y71] at hf
    have hf := j_eliml hf
    obtain rfl := j_inj hf
    exact ⟨rfl, rfl⟩
  | inr t30 =>
    rw [y71] at hf
    have hf := j_elimr hf
    refine j_elimG ?_
    refine x_iload_n (v := t30.1) C dX12_solves_143 rfl ?_
    refine x_istore_n C dX12_solves_144 (by decide) ?_
    obtain ⟨q40, e41, hf⟩ := j_bind hf
    refine x_loc [(0, .ref a0), (3, .int t30.1)] rfl ?_
    refine x_loop (s_X12_solves_L145 C hret hdd a0) e41 ?_
    cases y72 : q40.1 with
    | inl r43 =>
      rw [y72] at hf
      have hf := j_eliml hf
      obtain rfl := j_inj hf
      exact ⟨rfl, rfl⟩
    | inr t42 =>
      rw [y72] at hf
      have hf := j_elimr hf
      refine j_elimG ?_
      refine x_aload_n (v := a0) C dX12_solves_173 rfl ?_
      obtain ⟨v44, e45, hf⟩ := j_bind hf
      refine x_get C dX12_solves_174 (jgR_some e45) fg_X12_72 ?_
      refine x_iconst C dX12_solves_177 ki_0 ?_
      refine x_iconst C dX12_solves_178 ki_0 ?_
      obtain ⟨h46, e47, hf⟩ := j_bind hf
      refine x_iast C dX12_solves_179 e47 ?_
      refine x_aload_n (v := a0) C dX12_solves_180 rfl ?_
      obtain ⟨v48, e49, hf⟩ := j_bind hf
      refine x_get C dX12_solves_181 (jgR_some e49) fg_X12_72 ?_
      refine x_iconst C dX12_solves_184 ki_1 ?_
      refine x_iconst C dX12_solves_185 ki_1 ?_
      obtain ⟨h50, e51, hf⟩ := j_bind hf
      refine x_iast C dX12_solves_186 e51 ?_
      refine x_iconst C dX12_solves_187 ki_1 ?_
      refine x_istore_n C dX12_solves_188 (by decide) ?_
      obtain ⟨q67, e68, hf⟩ := j_bind hf
      refine x_loc [(0, .ref a0), (3, .int (1 : Int32))] rfl ?_
      refine x_loop (s_X12_solves_L189 C hret hdd a0) e68 ?_
      refine x_iconst C dX12_solves_228 ki_1 ?_
      obtain rfl := j_inj hf
      exact x_zret C hret (Or.inr rfl) dX12_solves_229
set_option maxHeartbeats 4000000 in
set_option maxRecDepth 100000 in
theorem m_X12_own {l : Launch} {E : JE} {d : Nat} (hdd : 6 ≤ d) {a0 : Nat} {a1 : Int32} {a2 : Int32} {a3 : Int32} {h : JH} {q : Int32 × JH} (hf : f_X12_own a0 a1 a2 a3 h = some q) : Con l E d yX12_own cX12_own 4 (some .int) [.ref a0, .int a1, .int a2, .int a3] h (some (.int q.1)) q.2 := by
  refine j_start rfl (Nat.le_of_ble_eq_true rfl) ?_
  intro p e s m args below meth c C hret hnm
  refine x_loc [(0, .ref a0), (1, .int a1), (2, .int a2), (3, .int a3)] rfl ?_
  unfold f_X12_own at hf
  refine x_aload_n (v := a0) C dX12_own_0 rfl ?_
  refine x_iconst C dX12_own_1 ki_0 ?_
  obtain ⟨h1, e2, hf⟩ := j_bind hf
  refine x_put C dX12_own_2 e2 fp_X12_1 rfl rfl ?_
  refine x_aload_n (v := a0) C dX12_own_5 rfl ?_
  refine x_iload_n (v := a1) C dX12_own_6 rfl ?_
  obtain ⟨u41, e42, hf⟩ := j_bind hf
  obtain ⟨q3, e4, hf⟩ := j_bind hf
  refine x_callV (As := [.int a1]) (rest := []) C dX12_own_7 (m_X12_isRegister (l := l) (E := E) (d := d - 1) (by omega) e4) km_X12_isRegister lk_X12_269 kv_X12_isRegister (ci := 9) rfl e42 rfl (by omega) (Nat.le_of_ble_eq_true rfl) (j_le_of (q_X12_isRegister e4)) (Or.inr (q_X12_isRegister e4)) ?_
  refine x_if_eq (tgt := 20) C dX12_own_10 (by decide) (fun c43 => ?_) (fun c43 => ?_)
  · have hf := j_ifp hf c43
    refine x_iconst C dX12_own_20 ki_m1 ?_
    obtain rfl := j_inj hf
    exact x_iret C hret dX12_own_21
  · have hf := j_ifn hf c43
    refine x_iload_n (v := a2) C dX12_own_13 rfl ?_
    obtain ⟨q5, e6, hf⟩ := j_bind hf
    refine x_callS (As := [.int a2]) (rest := []) C dX12_own_14 (m_X12_isWeight (l := l) (E := E) (d := d - 1) (by omega) e6) km_X12_isWeight lk_X12_272 ks_X12_isWeight rfl (by omega) (Nat.le_of_ble_eq_true rfl) (j_le_of (q_X12_isWeight e6)) (Or.inr (q_X12_isWeight e6)) ?_
    refine x_if_ne (tgt := 22) C dX12_own_17 (by decide) (fun c44 => ?_) (fun c44 => ?_)
    · have hf := j_ifn hf c44
      refine x_aload_n (v := a0) C dX12_own_22 rfl ?_
      refine x_iload_n (v := a2) C dX12_own_23 rfl ?_
      obtain ⟨u39, e40, hf⟩ := j_bind hf
      obtain ⟨q7, e8, hf⟩ := j_bind hf
      refine x_callV (As := [.int a2]) (rest := []) C dX12_own_24 (m_X12_laysRoots (l := l) (E := E) (d := d - 1) (by omega) e8) km_X12_laysRoots lk_X12_355 kv_X12_laysRoots (ci := 9) rfl e40 rfl (by omega) (Nat.le_of_ble_eq_true rfl) (j_le_of (q_X12_laysRoots e8)) (Or.inr (q_X12_laysRoots e8)) ?_
      refine x_iload_n (v := a3) C dX12_own_27 rfl ?_
      refine x_iconst C dX12_own_28 ki_0 ?_
      refine x_aload_n (v := a0) C dX12_own_29 rfl ?_
      obtain ⟨v9, e10, hf⟩ := j_bind hf
      refine x_get C dX12_own_30 (jgI_some e10) fg_X12_352 ?_
      refine x_iconst C dX12_own_33 ki_1 ?_
      refine x_isub C dX12_own_34 ?_
      obtain ⟨q11, e12, hf⟩ := j_bind hf
      refine x_callS (As := [.int a3, .int (0 : Int32), .int (v9 - (1 : Int32))]) (rest := []) C dX12_own_35 (m_X12_within (l := l) (E := E) (d := d - 1) (by omega) e12) km_X12_within lk_X12_45 ks_X12_within rfl (by omega) (Nat.le_of_ble_eq_true rfl) (j_le_of (q_X12_within e12)) (Or.inr (q_X12_within e12)) ?_
      refine x_if_ne (tgt := 43) C dX12_own_38 (by decide) (fun c45 => ?_) (fun c45 => ?_)
      · have hf := j_ifn hf c45
        refine x_aload_n (v := a0) C dX12_own_43 rfl ?_
        refine x_aload_n (v := a0) C dX12_own_44 rfl ?_
        obtain ⟨v13, e14, hf⟩ := j_bind hf
        refine x_get C dX12_own_45 (jgR_some e14) fg_X12_244 ?_
        refine x_iload_n (v := a3) C dX12_own_48 rfl ?_
        obtain ⟨v15, e16, hf⟩ := j_bind hf
        refine x_iald C dX12_own_49 e16 ?_
        obtain ⟨u37, e38, hf⟩ := j_bind hf
        obtain ⟨q17, e18, hf⟩ := j_bind hf
        refine x_callV (As := [.int v15]) (rest := []) C dX12_own_50 (m_X12_solves (l := l) (E := E) (d := d - 1) (by omega) e18) km_X12_solves lk_X12_362 kv_X12_solves (ci := 9) rfl e38 rfl (by omega) (Nat.le_of_ble_eq_true rfl) (j_le_of (q_X12_solves e18)) (Or.inr (q_X12_solves e18)) ?_
        refine x_if_ne (tgt := 59) C dX12_own_53 (by decide) (fun c46 => ?_) (fun c46 => ?_)
        · have hf := j_ifn hf c46
          refine x_aload_n (v := a0) C dX12_own_59 rfl ?_
          refine x_iload_n (v := a2) C dX12_own_60 rfl ?_
          obtain ⟨u35, e36, hf⟩ := j_bind hf
          obtain ⟨q19, e20, hf⟩ := j_bind hf
          refine x_callV (As := [.int a2]) (rest := []) C dX12_own_61 (m_X12_builds (l := l) (E := E) (d := d - 1) (by omega) e20) km_X12_builds lk_X12_339 kv_X12_builds (ci := 9) rfl e36 rfl (by omega) (Nat.le_of_ble_eq_true rfl) (j_le_of (q_X12_builds e20)) (Or.inr (q_X12_builds e20)) ?_
          refine x_aload_n (v := a0) C dX12_own_64 rfl ?_
          obtain ⟨v21, e22, hf⟩ := j_bind hf
          refine x_get C dX12_own_65 (jgR_some e22) fg_X12_69 ?_
          refine x_iconst C dX12_own_68 ki_0 ?_
          refine x_aload_n (v := a0) C dX12_own_69 rfl ?_
          obtain ⟨v23, e24, hf⟩ := j_bind hf
          refine x_get C dX12_own_70 (jgR_some e24) fg_X12_218 ?_
          refine x_sipush C dX12_own_73 ks_181 ?_
          refine x_iload_n (v := a1) C dX12_own_76 rfl ?_
          refine x_imul C dX12_own_77 ?_
          obtain ⟨q25, e26, hf⟩ := j_bind hf
          refine x_callS (As := [.ref v21, .int (0 : Int32), .ref v23, .int ((181 : Int32) * a1)]) (rest := []) C dX12_own_78 (m_X12_copies (l := l) (E := E) (d := d - 1) (by omega) e26) km_X12_copies lk_X12_58 ks_X12_copies rfl (by omega) (Nat.le_of_ble_eq_true rfl) (j_le_of (q_X12_copies e26)) (Or.inr (q_X12_copies e26)) ?_
          refine x_aload_n (v := a0) C dX12_own_81 rfl ?_
          obtain ⟨v27, e28, hf⟩ := j_bind hf
          refine x_get C dX12_own_82 (jgR_some e28) fg_X12_215 ?_
          refine x_iload_n (v := a1) C dX12_own_85 rfl ?_
          refine x_iload_n (v := a2) C dX12_own_86 rfl ?_
          obtain ⟨h29, e30, hf⟩ := j_bind hf
          refine x_iast C dX12_own_87 e30 ?_
          refine x_aload_n (v := a0) C dX12_own_88 rfl ?_
          obtain ⟨v31, e32, hf⟩ := j_bind hf
          refine x_get C dX12_own_89 (jgR_some e32) fg_X12_244 ?_
          refine x_iload_n (v := a3) C dX12_own_92 rfl ?_
          obtain ⟨v33, e34, hf⟩ := j_bind hf
          refine x_iald C dX12_own_93 e34 ?_
          obtain rfl := j_inj hf
          exact x_iret C hret dX12_own_94
        · have hf := j_ifp hf c46
          refine x_bipush C dX12_own_56 kb_m2 ?_
          obtain rfl := j_inj hf
          exact x_iret C hret dX12_own_58
      · have hf := j_ifp hf c45
        refine x_iconst C dX12_own_41 ki_m1 ?_
        obtain rfl := j_inj hf
        exact x_iret C hret dX12_own_42
    · have hf := j_ifp hf c44
      refine x_iconst C dX12_own_20 ki_m1 ?_
      obtain rfl := j_inj hf
      exact x_iret C hret dX12_own_21
set_option maxHeartbeats 4000000 in
set_option maxRecDepth 100000 in
theorem m_X12_sortOf {l : Launch} {E : JE} {d : Nat} (hdd : 0 ≤ d) {a0 : Nat} {a1 : Int32} {h : JH} {q : Int32 × JH} (hf : f_X12_sortOf a0 a1 h = some q) : Con l E d yX12_sortOf cX12_sortOf 2 (some .int) [.ref a0, .int a1] h (some (.int q.1)) q.2 := by
  refine j_start rfl (Nat.le_of_ble_eq_true rfl) ?_
  intro p e s m args below meth c C hret hnm
  refine x_loc [(0, .ref a0), (1, .int a1)] rfl ?_
  unfold f_X12_sortOf at hf
  refine x_iload_n (v := a1) C dX12_sortOf_0 rfl ?_
  refine x_if_ne (tgt := 11) C dX12_sortOf_1 (by decide) (fun c5 => ?_) (fun c5 => ?_)
  · have hf := j_ifn hf c5
    refine x_iconst C dX12_sortOf_11 ki_1 ?_
    refine x_aload_n (v := a0) C dX12_sortOf_12 rfl ?_
    obtain ⟨v1, e2, hf⟩ := j_bind hf
    refine x_get C dX12_sortOf_13 (jgI_some e2) fg_X12_365 ?_
    refine x_isub C dX12_sortOf_16 ?_
    obtain rfl := j_inj hf
    exact x_iret C hret dX12_sortOf_17
  · have hf := j_ifp hf c5
    refine x_aload_n (v := a0) C dX12_sortOf_4 rfl ?_
    obtain ⟨v3, e4, hf⟩ := j_bind hf
    refine x_get C dX12_sortOf_5 (jgI_some e4) fg_X12_365 ?_
    refine x_goto (tgt := 17) C dX12_sortOf_8 (by decide) ?_
    obtain rfl := j_inj hf
    exact x_iret C hret dX12_sortOf_17
set_option maxHeartbeats 4000000 in
set_option maxRecDepth 100000 in
theorem s_X12_put_L129 {p : Program} {l : Launch} {e : Env} {R : Room} {s : State} {m : MethodId} {args : Array Value} {below : List Frame} {meth : Method} {c : Code} {E : JE} {h0 hF : JH} {rF : Option Value} {d : Nat} (C : j_C p s m args meth c R E cX12_put 9 RX12 h0 hF d) (hret : meth.sig.returnType = (some .boolean)) (hdd : 4 ≤ d) (a0 : Nat) (a3 : Int32) (a4 : Int32) (a5 : Int32) (a6 : Int32) (z : Int32) (h : JH) (r : Int32 ⊕ Int32) (h1 : JH) (hf : f_X12_put_L129 a0 a3 a4 a5 a6 z h = some (r, h1)) (hk : Sum.elim (fun z => Xw p l e R s m args below meth c E 9 h0 rF hF 129 [(0, .ref a0), (3, .int a3), (4, .int a4), (5, .int a5), (6, .int a6), (7, .int z)] [] h1) (fun t => Xw p l e R s m args below meth c E 9 h0 rF hF 196 [(0, .ref a0), (3, .int a3), (4, .int a4), (5, .int a5), (6, .int a6), (7, .int t)] [] h1) r) : Xw p l e R s m args below meth c E 9 h0 rF hF 129 [(0, .ref a0), (3, .int a3), (4, .int a4), (5, .int a5), (6, .int a6), (7, .int z)] [] h := by
  unfold f_X12_put_L129 at hf
  refine x_iload (v := z) C dX12_put_129 rfl ?_
  refine x_bipush C dX12_put_131 kb_13 ?_
  refine x_icmp_ge (tgt := 196) C dX12_put_133 (by decide) (fun c25 => ?_) (fun c25 => ?_)
  · have hf := j_ifp hf c25
    obtain ⟨rfl, rfl⟩ := j_inj2 hf
    exact x_locr hk rfl
  · have hf := j_ifn hf c25
    refine x_iload (v := a5) C dX12_put_136 rfl ?_
    refine x_if_eq (tgt := 196) C dX12_put_138 (by decide) (fun c26 => ?_) (fun c26 => ?_)
    · have hf := j_ifp hf c26
      obtain ⟨rfl, rfl⟩ := j_inj2 hf
      exact x_locr hk rfl
    · have hf := j_ifn hf c26
      refine x_aload_n (v := a0) C dX12_put_141 rfl ?_
      obtain ⟨v9, e10, hf⟩ := j_bind hf
      refine x_get C dX12_put_142 (jgR_some e10) fg_X12_250 ?_
      refine x_bipush C dX12_put_145 kb_13 ?_
      refine x_iload (v := a6) C dX12_put_147 rfl ?_
      refine x_imul C dX12_put_149 ?_
      refine x_iload (v := z) C dX12_put_150 rfl ?_
      refine x_iadd C dX12_put_152 ?_
      refine x_iload_n (v := a3) C dX12_put_153 rfl ?_
      refine x_if_ne (tgt := 168) C dX12_put_154 (by decide) (fun c27 => ?_) (fun c27 => ?_)
      · have hf := j_ifn hf c27
        refine x_iload (v := z) C dX12_put_168 rfl ?_
        refine x_bipush C dX12_put_170 kb_12 ?_
        refine x_icmp_ge (tgt := 188) C dX12_put_172 (by decide) (fun c28 => ?_) (fun c28 => ?_)
        · have hf := j_ifp hf c28
          refine x_lconst C dX12_put_188 kl_0 ?_
          obtain ⟨h11, e12, hf⟩ := j_bind hf
          refine x_last C dX12_put_189 e12 ?_
          refine x_iinc (v := z) C dX12_put_190 rfl ki_1 (by decide) ?_
          refine x_goto (tgt := 129) C dX12_put_193 (by decide) ?_
          obtain ⟨rfl, rfl⟩ := j_inj2 hf
          exact x_locr hk rfl
        · have hf := j_ifn hf c28
          refine x_aload_n (v := a0) C dX12_put_175 rfl ?_
          refine x_iload (v := a4) C dX12_put_176 rfl ?_
          refine x_iload (v := z) C dX12_put_178 rfl ?_
          refine x_iconst C dX12_put_180 ki_1 ?_
          refine x_iadd C dX12_put_181 ?_
          obtain ⟨u17, e18, hf⟩ := j_bind hf
          obtain ⟨q13, e14, hf⟩ := j_bind hf
          refine x_callV (As := [.int a4, .int (z + (1 : Int32))]) (rest := [.int (((13 : Int32) * a6) + z), .ref v9]) C dX12_put_182 (m_X12_traceOf (l := l) (E := E) (d := d - 1) (by omega) e14) km_X12_traceOf lk_X12_317 kv_X12_traceOf (ci := 9) rfl e18 rfl (by omega) (Nat.le_of_ble_eq_true rfl) (j_le_of (q_X12_traceOf e14)) (Or.inr (q_X12_traceOf e14)) ?_
          refine x_goto (tgt := 189) C dX12_put_185 (by decide) ?_
          obtain ⟨h15, e16, hf⟩ := j_bind hf
          refine x_last C dX12_put_189 e16 ?_
          refine x_iinc (v := z) C dX12_put_190 rfl ki_1 (by decide) ?_
          refine x_goto (tgt := 129) C dX12_put_193 (by decide) ?_
          obtain ⟨rfl, rfl⟩ := j_inj2 hf
          exact x_locr hk rfl
      · have hf := j_ifp hf c27
        refine x_aload_n (v := a0) C dX12_put_157 rfl ?_
        obtain ⟨v19, e20, hf⟩ := j_bind hf
        refine x_get C dX12_put_158 (jgR_some e20) fg_X12_218 ?_
        refine x_iload (v := z) C dX12_put_161 rfl ?_
        obtain ⟨v21, e22, hf⟩ := j_bind hf
        refine x_iald C dX12_put_163 e22 ?_
        refine x_i2l C dX12_put_164 ?_
        refine x_goto (tgt := 189) C dX12_put_165 (by decide) ?_
        obtain ⟨h23, e24, hf⟩ := j_bind hf
        refine x_last C dX12_put_189 e24 ?_
        refine x_iinc (v := z) C dX12_put_190 rfl ki_1 (by decide) ?_
        refine x_goto (tgt := 129) C dX12_put_193 (by decide) ?_
        obtain ⟨rfl, rfl⟩ := j_inj2 hf
        exact x_locr hk rfl
set_option maxHeartbeats 4000000 in
set_option maxRecDepth 100000 in
theorem s_X12_put_L77 {p : Program} {l : Launch} {e : Env} {R : Room} {s : State} {m : MethodId} {args : Array Value} {below : List Frame} {meth : Method} {c : Code} {E : JE} {h0 hF : JH} {rF : Option Value} {d : Nat} (C : j_C p s m args meth c R E cX12_put 9 RX12 h0 hF d) (hret : meth.sig.returnType = (some .boolean)) (hdd : 4 ≤ d) (a0 : Nat) (a1 : Int32) (a2 : Int32) (a3 : Int32) (a4 : Int32) (z : (Int32 × Int32)) (h : JH) (r : (Int32 × Int32) ⊕ (Int32 × Int32)) (h1 : JH) (hf : f_X12_put_L77 a0 a1 a2 a3 a4 z h = some (r, h1)) (hk : Sum.elim (fun z => Xw p l e R s m args below meth c E 9 h0 rF hF 77 [(0, .ref a0), (1, .int a1), (2, .int a2), (3, .int a3), (4, .int a4), (5, .int z.1), (6, .int z.2)] [] h1) (fun t => Xw p l e R s m args below meth c E 9 h0 rF hF 119 [(0, .ref a0), (1, .int a1), (2, .int a2), (3, .int a3), (4, .int a4), (5, .int t.1), (6, .int t.2)] [] h1) r) : Xw p l e R s m args below meth c E 9 h0 rF hF 77 [(0, .ref a0), (1, .int a1), (2, .int a2), (3, .int a3), (4, .int a4), (5, .int z.1), (6, .int z.2)] [] h := by
  unfold f_X12_put_L77 at hf
  refine x_iload (v := z.2) C dX12_put_77 rfl ?_
  refine x_bipush C dX12_put_79 kb_12 ?_
  refine x_icmp_gt (tgt := 119) C dX12_put_81 (by decide) (fun c55 => ?_) (fun c55 => ?_)
  · have hf := j_ifp hf c55
    obtain ⟨rfl, rfl⟩ := j_inj2 hf
    exact x_locr hk rfl
  · have hf := j_ifn hf c55
    refine x_iload (v := z.1) C dX12_put_84 rfl ?_
    refine x_if_eq (tgt := 119) C dX12_put_86 (by decide) (fun c56 => ?_) (fun c56 => ?_)
    · have hf := j_ifp hf c56
      obtain ⟨rfl, rfl⟩ := j_inj2 hf
      exact x_locr hk rfl
    · have hf := j_ifn hf c56
      refine x_aload_n (v := a0) C dX12_put_89 rfl ?_
      refine x_iload (v := a4) C dX12_put_90 rfl ?_
      refine x_iload (v := z.2) C dX12_put_92 rfl ?_
      obtain ⟨u53, e54, hf⟩ := j_bind hf
      obtain ⟨q49, e50, hf⟩ := j_bind hf
      refine x_callV (As := [.int a4, .int z.2]) (rest := []) C dX12_put_94 (m_X12_traceOf (l := l) (E := E) (d := d - 1) (by omega) e50) km_X12_traceOf lk_X12_317 kv_X12_traceOf (ci := 9) rfl e54 rfl (by omega) (Nat.le_of_ble_eq_true rfl) (j_le_of (q_X12_traceOf e50)) (Or.inr (q_X12_traceOf e50)) ?_
      refine x_lstore C dX12_put_97 (by decide) ?_
      refine x_aload_n (v := a0) C dX12_put_99 rfl ?_
      obtain ⟨v51, e52, hf⟩ := j_bind hf
      refine x_get C dX12_put_100 (jgI_some e52) fg_X12_293 ?_
      refine x_if_ne (tgt := 110) C dX12_put_103 (by decide) (fun c57 => ?_) (fun c57 => ?_)
      · have hf := j_ifn hf c57
        refine x_iconst C dX12_put_110 ki_0 ?_
        refine x_istore C dX12_put_111 (by decide) ?_
        refine x_iinc (v := z.2) C dX12_put_113 rfl ki_1 (by decide) ?_
        refine x_goto (tgt := 77) C dX12_put_116 (by decide) ?_
        obtain ⟨rfl, rfl⟩ := j_inj2 hf
        exact x_locr hk rfl
      · have hf := j_ifp hf c57
        refine x_iconst C dX12_put_106 ki_1 ?_
        refine x_goto (tgt := 111) C dX12_put_107 (by decide) ?_
        refine x_istore C dX12_put_111 (by decide) ?_
        refine x_iinc (v := z.2) C dX12_put_113 rfl ki_1 (by decide) ?_
        refine x_goto (tgt := 77) C dX12_put_116 (by decide) ?_
        obtain ⟨rfl, rfl⟩ := j_inj2 hf
        exact x_locr hk rfl
set_option maxHeartbeats 4000000 in
set_option maxRecDepth 100000 in
theorem m_X12_put {l : Launch} {E : JE} {d : Nat} (hdd : 4 ≤ d) {a0 : Nat} {a1 : Int32} {a2 : Int32} {a3 : Int32} {a4 : Int32} {h : JH} {q : Int32 × JH} (hf : f_X12_put a0 a1 a2 a3 a4 h = some q) : Con l E d yX12_put cX12_put 9 (some .boolean) [.ref a0, .int a1, .int a2, .int a3, .int a4] h (some (.int q.1)) q.2 := by
  refine j_start rfl (Nat.le_of_ble_eq_true rfl) ?_
  intro p e s m args below meth c C hret hnm
  refine x_loc [(0, .ref a0), (1, .int a1), (2, .int a2), (3, .int a3), (4, .int a4)] rfl ?_
  unfold f_X12_put at hf
  refine x_aload_n (v := a0) C dX12_put_0 rfl ?_
  refine x_iconst C dX12_put_1 ki_0 ?_
  obtain ⟨h1, e2, hf⟩ := j_bind hf
  refine x_put C dX12_put_2 e2 fp_X12_1 rfl rfl ?_
  refine x_iload_n (v := a1) C dX12_put_5 rfl ?_
  refine x_iconst C dX12_put_6 ki_0 ?_
  refine x_iconst C dX12_put_7 ki_1 ?_
  obtain ⟨q3, e4, hf⟩ := j_bind hf
  refine x_callS (As := [.int a1, .int (0 : Int32), .int (1 : Int32)]) (rest := []) C dX12_put_8 (m_X12_within (l := l) (E := E) (d := d - 1) (by omega) e4) km_X12_within lk_X12_45 ks_X12_within rfl (by omega) (Nat.le_of_ble_eq_true rfl) (j_le_of (q_X12_within e4)) (Or.inr (q_X12_within e4)) ?_
  refine x_if_eq (tgt := 23) C dX12_put_11 (by decide) (fun c392 => ?_) (fun c392 => ?_)
  · have hf := j_ifp hf c392
    refine x_iconst C dX12_put_23 ki_0 ?_
    obtain rfl := j_inj hf
    exact x_zret C hret (Or.inl rfl) dX12_put_24
  · have hf := j_ifn hf c392
    refine x_iload_n (v := a2) C dX12_put_14 rfl ?_
    refine x_iconst C dX12_put_15 ki_0 ?_
    refine x_iconst C dX12_put_16 ki_3 ?_
    obtain ⟨q5, e6, hf⟩ := j_bind hf
    refine x_callS (As := [.int a2, .int (0 : Int32), .int (3 : Int32)]) (rest := []) C dX12_put_17 (m_X12_within (l := l) (E := E) (d := d - 1) (by omega) e6) km_X12_within lk_X12_45 ks_X12_within rfl (by omega) (Nat.le_of_ble_eq_true rfl) (j_le_of (q_X12_within e6)) (Or.inr (q_X12_within e6)) ?_
    refine x_if_ne (tgt := 25) C dX12_put_20 (by decide) (fun c393 => ?_) (fun c393 => ?_)
    · have hf := j_ifn hf c393
      refine x_aload_n (v := a0) C dX12_put_25 rfl ?_
      refine x_iload_n (v := a1) C dX12_put_26 rfl ?_
      obtain ⟨u390, e391, hf⟩ := j_bind hf
      obtain ⟨q7, e8, hf⟩ := j_bind hf
      refine x_callV (As := [.int a1]) (rest := []) C dX12_put_27 (m_X12_sortOf (l := l) (E := E) (d := d - 1) (by omega) e8) km_X12_sortOf lk_X12_368 kv_X12_sortOf (ci := 9) rfl e391 rfl (by omega) (Nat.le_of_ble_eq_true rfl) (j_le_of (q_X12_sortOf e8)) (Or.inr (q_X12_sortOf e8)) ?_
      refine x_iload_n (v := a3) C dX12_put_30 rfl ?_
      refine x_if_eq (tgt := 38) C dX12_put_31 (by decide) (fun c394 => ?_) (fun c394 => ?_)
      · have hf := j_ifp hf c394
        refine x_iconst C dX12_put_38 ki_0 ?_
        refine x_icmp_ne (tgt := 46) C dX12_put_39 (by decide) (fun c395 => ?_) (fun c395 => ?_)
        · have hf := j_ifn hf c395
          refine x_iconst C dX12_put_46 ki_0 ?_
          refine x_istore C dX12_put_47 (by decide) ?_
          refine x_iload_n (v := a3) C dX12_put_49 rfl ?_
          refine x_if_eq (tgt := 119) C dX12_put_50 (by decide) (fun c396 => ?_) (fun c396 => ?_)
          · have hf := j_ifp hf c396
            refine x_iconst C dX12_put_119 ki_4 ?_
            refine x_iload_n (v := a1) C dX12_put_120 rfl ?_
            refine x_imul C dX12_put_121 ?_
            refine x_iload_n (v := a2) C dX12_put_122 rfl ?_
            refine x_iadd C dX12_put_123 ?_
            refine x_istore C dX12_put_124 (by decide) ?_
            refine x_iconst C dX12_put_126 ki_0 ?_
            refine x_istore C dX12_put_127 (by decide) ?_
            obtain ⟨q29, e30, hf⟩ := j_bind hf
            refine x_loc [(0, .ref a0), (3, .int a3), (4, .int a4), (5, .int (0 : Int32)), (6, .int (((4 : Int32) * a1) + a2)), (7, .int (0 : Int32))] rfl ?_
            refine x_loop (s_X12_put_L129 C hret hdd a0 a3 a4 (0 : Int32) (((4 : Int32) * a1) + a2)) e30 ?_
            refine x_aload_n (v := a0) C dX12_put_196 rfl ?_
            obtain ⟨v31, e32, hf⟩ := j_bind hf
            refine x_get C dX12_put_197 (jgR_some e32) fg_X12_221 ?_
            refine x_iload (v := ((4 : Int32) * a1) + a2) C dX12_put_200 rfl ?_
            refine x_aload_n (v := a0) C dX12_put_202 rfl ?_
            obtain ⟨v33, e34, hf⟩ := j_bind hf
            refine x_get C dX12_put_203 (jgR_some e34) fg_X12_221 ?_
            refine x_iload (v := ((4 : Int32) * a1) + a2) C dX12_put_206 rfl ?_
            obtain ⟨v35, e36, hf⟩ := j_bind hf
            refine x_bald C dX12_put_208 e36 ?_
            refine x_if_ne (tgt := 217) C dX12_put_209 (by decide) (fun c397 => ?_) (fun c397 => ?_)
            · have hf := j_ifn hf c397
              refine x_iconst C dX12_put_217 ki_1 ?_
              refine x_goto (tgt := 222) C dX12_put_218 (by decide) ?_
              obtain ⟨h37, e38, hf⟩ := j_bind hf
              refine x_bast C dX12_put_222 e38 ?_
              refine x_iload (v := (0 : Int32)) C dX12_put_223 rfl ?_
              obtain ⟨u39, e40, hf⟩ := j_bind hf
              obtain rfl := j_inj hf
              exact x_zret C hret (jzb_some e40) dX12_put_225
            · have hf := j_ifp hf c397
              refine x_iload (v := (0 : Int32)) C dX12_put_212 rfl ?_
              refine x_if_eq (tgt := 221) C dX12_put_214 (by decide) (fun c398 => ?_) (fun c398 => ?_)
              · have hf := j_ifp hf c398
                refine x_iconst C dX12_put_221 ki_0 ?_
                obtain ⟨h41, e42, hf⟩ := j_bind hf
                refine x_bast C dX12_put_222 e42 ?_
                refine x_iload (v := (0 : Int32)) C dX12_put_223 rfl ?_
                obtain ⟨u43, e44, hf⟩ := j_bind hf
                obtain rfl := j_inj hf
                exact x_zret C hret (jzb_some e44) dX12_put_225
              · have hf := j_ifn hf c398
                refine x_iconst C dX12_put_217 ki_1 ?_
                refine x_goto (tgt := 222) C dX12_put_218 (by decide) ?_
                obtain ⟨h45, e46, hf⟩ := j_bind hf
                refine x_bast C dX12_put_222 e46 ?_
                refine x_iload (v := (0 : Int32)) C dX12_put_223 rfl ?_
                obtain ⟨u47, e48, hf⟩ := j_bind hf
                obtain rfl := j_inj hf
                exact x_zret C hret (jzb_some e48) dX12_put_225
          · have hf := j_ifn hf c396
            refine x_iload (v := (0 : Int32)) C dX12_put_53 rfl ?_
            refine x_if_eq (tgt := 71) C dX12_put_55 (by decide) (fun c399 => ?_) (fun c399 => ?_)
            · have hf := j_ifp hf c399
              refine x_iconst C dX12_put_71 ki_0 ?_
              refine x_istore C dX12_put_72 (by decide) ?_
              refine x_iconst C dX12_put_74 ki_1 ?_
              refine x_istore C dX12_put_75 (by decide) ?_
              obtain ⟨q58, e59, hf⟩ := j_bind hf
              refine x_loc [(0, .ref a0), (1, .int a1), (2, .int a2), (3, .int a3), (4, .int a4), (5, .int (0 : Int32)), (6, .int (1 : Int32))] rfl ?_
              refine x_loop (s_X12_put_L77 C hret hdd a0 a1 a2 a3 a4) e59 ?_
              refine x_iconst C dX12_put_119 ki_4 ?_
              refine x_iload_n (v := a1) C dX12_put_120 rfl ?_
              refine x_imul C dX12_put_121 ?_
              refine x_iload_n (v := a2) C dX12_put_122 rfl ?_
              refine x_iadd C dX12_put_123 ?_
              refine x_istore C dX12_put_124 (by decide) ?_
              refine x_iconst C dX12_put_126 ki_0 ?_
              refine x_istore C dX12_put_127 (by decide) ?_
              obtain ⟨q60, e61, hf⟩ := j_bind hf
              refine x_loc [(0, .ref a0), (3, .int a3), (4, .int a4), (5, .int q58.1.1), (6, .int (((4 : Int32) * a1) + a2)), (7, .int (0 : Int32))] rfl ?_
              refine x_loop (s_X12_put_L129 C hret hdd a0 a3 a4 q58.1.1 (((4 : Int32) * a1) + a2)) e61 ?_
              refine x_aload_n (v := a0) C dX12_put_196 rfl ?_
              obtain ⟨v62, e63, hf⟩ := j_bind hf
              refine x_get C dX12_put_197 (jgR_some e63) fg_X12_221 ?_
              refine x_iload (v := ((4 : Int32) * a1) + a2) C dX12_put_200 rfl ?_
              refine x_aload_n (v := a0) C dX12_put_202 rfl ?_
              obtain ⟨v64, e65, hf⟩ := j_bind hf
              refine x_get C dX12_put_203 (jgR_some e65) fg_X12_221 ?_
              refine x_iload (v := ((4 : Int32) * a1) + a2) C dX12_put_206 rfl ?_
              obtain ⟨v66, e67, hf⟩ := j_bind hf
              refine x_bald C dX12_put_208 e67 ?_
              refine x_if_ne (tgt := 217) C dX12_put_209 (by decide) (fun c400 => ?_) (fun c400 => ?_)
              · have hf := j_ifn hf c400
                refine x_iconst C dX12_put_217 ki_1 ?_
                refine x_goto (tgt := 222) C dX12_put_218 (by decide) ?_
                obtain ⟨h68, e69, hf⟩ := j_bind hf
                refine x_bast C dX12_put_222 e69 ?_
                refine x_iload (v := q58.1.1) C dX12_put_223 rfl ?_
                obtain ⟨u70, e71, hf⟩ := j_bind hf
                obtain rfl := j_inj hf
                exact x_zret C hret (jzb_some e71) dX12_put_225
              · have hf := j_ifp hf c400
                refine x_iload (v := q58.1.1) C dX12_put_212 rfl ?_
                refine x_if_eq (tgt := 221) C dX12_put_214 (by decide) (fun c401 => ?_) (fun c401 => ?_)
                · have hf := j_ifp hf c401
                  refine x_iconst C dX12_put_221 ki_0 ?_
                  obtain ⟨h72, e73, hf⟩ := j_bind hf
                  refine x_bast C dX12_put_222 e73 ?_
                  refine x_iload (v := q58.1.1) C dX12_put_223 rfl ?_
                  obtain ⟨u74, e75, hf⟩ := j_bind hf
                  obtain rfl := j_inj hf
                  exact x_zret C hret (jzb_some e75) dX12_put_225
                · have hf := j_ifn hf c401
                  refine x_iconst C dX12_put_217 ki_1 ?_
                  refine x_goto (tgt := 222) C dX12_put_218 (by decide) ?_
                  obtain ⟨h76, e77, hf⟩ := j_bind hf
                  refine x_bast C dX12_put_222 e77 ?_
                  refine x_iload (v := q58.1.1) C dX12_put_223 rfl ?_
                  obtain ⟨u78, e79, hf⟩ := j_bind hf
                  obtain rfl := j_inj hf
                  exact x_zret C hret (jzb_some e79) dX12_put_225
            · have hf := j_ifn hf c399
              refine x_iload (v := a4) C dX12_put_58 rfl ?_
              refine x_iconst C dX12_put_60 ki_1 ?_
              obtain ⟨q80, e81, hf⟩ := j_bind hf
              refine x_callS (As := [.int a4, .int (1 : Int32)]) (rest := []) C dX12_put_61 (m_X12_isTraced (l := l) (E := E) (d := d - 1) (by omega) e81) km_X12_isTraced lk_X12_310 ks_X12_isTraced rfl (by omega) (Nat.le_of_ble_eq_true rfl) (j_le_of (q_X12_isTraced e81)) (Or.inr (q_X12_isTraced e81)) ?_
              refine x_if_eq (tgt := 71) C dX12_put_64 (by decide) (fun c402 => ?_) (fun c402 => ?_)
              · have hf := j_ifp hf c402
                refine x_iconst C dX12_put_71 ki_0 ?_
                refine x_istore C dX12_put_72 (by decide) ?_
                refine x_iconst C dX12_put_74 ki_1 ?_
                refine x_istore C dX12_put_75 (by decide) ?_
                obtain ⟨q82, e83, hf⟩ := j_bind hf
                refine x_loc [(0, .ref a0), (1, .int a1), (2, .int a2), (3, .int a3), (4, .int a4), (5, .int (0 : Int32)), (6, .int (1 : Int32))] rfl ?_
                refine x_loop (s_X12_put_L77 C hret hdd a0 a1 a2 a3 a4) e83 ?_
                refine x_iconst C dX12_put_119 ki_4 ?_
                refine x_iload_n (v := a1) C dX12_put_120 rfl ?_
                refine x_imul C dX12_put_121 ?_
                refine x_iload_n (v := a2) C dX12_put_122 rfl ?_
                refine x_iadd C dX12_put_123 ?_
                refine x_istore C dX12_put_124 (by decide) ?_
                refine x_iconst C dX12_put_126 ki_0 ?_
                refine x_istore C dX12_put_127 (by decide) ?_
                obtain ⟨q84, e85, hf⟩ := j_bind hf
                refine x_loc [(0, .ref a0), (3, .int a3), (4, .int a4), (5, .int q82.1.1), (6, .int (((4 : Int32) * a1) + a2)), (7, .int (0 : Int32))] rfl ?_
                refine x_loop (s_X12_put_L129 C hret hdd a0 a3 a4 q82.1.1 (((4 : Int32) * a1) + a2)) e85 ?_
                refine x_aload_n (v := a0) C dX12_put_196 rfl ?_
                obtain ⟨v86, e87, hf⟩ := j_bind hf
                refine x_get C dX12_put_197 (jgR_some e87) fg_X12_221 ?_
                refine x_iload (v := ((4 : Int32) * a1) + a2) C dX12_put_200 rfl ?_
                refine x_aload_n (v := a0) C dX12_put_202 rfl ?_
                obtain ⟨v88, e89, hf⟩ := j_bind hf
                refine x_get C dX12_put_203 (jgR_some e89) fg_X12_221 ?_
                refine x_iload (v := ((4 : Int32) * a1) + a2) C dX12_put_206 rfl ?_
                obtain ⟨v90, e91, hf⟩ := j_bind hf
                refine x_bald C dX12_put_208 e91 ?_
                refine x_if_ne (tgt := 217) C dX12_put_209 (by decide) (fun c403 => ?_) (fun c403 => ?_)
                · have hf := j_ifn hf c403
                  refine x_iconst C dX12_put_217 ki_1 ?_
                  refine x_goto (tgt := 222) C dX12_put_218 (by decide) ?_
                  obtain ⟨h92, e93, hf⟩ := j_bind hf
                  refine x_bast C dX12_put_222 e93 ?_
                  refine x_iload (v := q82.1.1) C dX12_put_223 rfl ?_
                  obtain ⟨u94, e95, hf⟩ := j_bind hf
                  obtain rfl := j_inj hf
                  exact x_zret C hret (jzb_some e95) dX12_put_225
                · have hf := j_ifp hf c403
                  refine x_iload (v := q82.1.1) C dX12_put_212 rfl ?_
                  refine x_if_eq (tgt := 221) C dX12_put_214 (by decide) (fun c404 => ?_) (fun c404 => ?_)
                  · have hf := j_ifp hf c404
                    refine x_iconst C dX12_put_221 ki_0 ?_
                    obtain ⟨h96, e97, hf⟩ := j_bind hf
                    refine x_bast C dX12_put_222 e97 ?_
                    refine x_iload (v := q82.1.1) C dX12_put_223 rfl ?_
                    obtain ⟨u98, e99, hf⟩ := j_bind hf
                    obtain rfl := j_inj hf
                    exact x_zret C hret (jzb_some e99) dX12_put_225
                  · have hf := j_ifn hf c404
                    refine x_iconst C dX12_put_217 ki_1 ?_
                    refine x_goto (tgt := 222) C dX12_put_218 (by decide) ?_
                    obtain ⟨h100, e101, hf⟩ := j_bind hf
                    refine x_bast C dX12_put_222 e101 ?_
                    refine x_iload (v := q82.1.1) C dX12_put_223 rfl ?_
                    obtain ⟨u102, e103, hf⟩ := j_bind hf
                    obtain rfl := j_inj hf
                    exact x_zret C hret (jzb_some e103) dX12_put_225
              · have hf := j_ifn hf c402
                refine x_iconst C dX12_put_67 ki_1 ?_
                refine x_goto (tgt := 72) C dX12_put_68 (by decide) ?_
                refine x_istore C dX12_put_72 (by decide) ?_
                refine x_iconst C dX12_put_74 ki_1 ?_
                refine x_istore C dX12_put_75 (by decide) ?_
                obtain ⟨q104, e105, hf⟩ := j_bind hf
                refine x_loc [(0, .ref a0), (1, .int a1), (2, .int a2), (3, .int a3), (4, .int a4), (5, .int (1 : Int32)), (6, .int (1 : Int32))] rfl ?_
                refine x_loop (s_X12_put_L77 C hret hdd a0 a1 a2 a3 a4) e105 ?_
                refine x_iconst C dX12_put_119 ki_4 ?_
                refine x_iload_n (v := a1) C dX12_put_120 rfl ?_
                refine x_imul C dX12_put_121 ?_
                refine x_iload_n (v := a2) C dX12_put_122 rfl ?_
                refine x_iadd C dX12_put_123 ?_
                refine x_istore C dX12_put_124 (by decide) ?_
                refine x_iconst C dX12_put_126 ki_0 ?_
                refine x_istore C dX12_put_127 (by decide) ?_
                obtain ⟨q106, e107, hf⟩ := j_bind hf
                refine x_loc [(0, .ref a0), (3, .int a3), (4, .int a4), (5, .int q104.1.1), (6, .int (((4 : Int32) * a1) + a2)), (7, .int (0 : Int32))] rfl ?_
                refine x_loop (s_X12_put_L129 C hret hdd a0 a3 a4 q104.1.1 (((4 : Int32) * a1) + a2)) e107 ?_
                refine x_aload_n (v := a0) C dX12_put_196 rfl ?_
                obtain ⟨v108, e109, hf⟩ := j_bind hf
                refine x_get C dX12_put_197 (jgR_some e109) fg_X12_221 ?_
                refine x_iload (v := ((4 : Int32) * a1) + a2) C dX12_put_200 rfl ?_
                refine x_aload_n (v := a0) C dX12_put_202 rfl ?_
                obtain ⟨v110, e111, hf⟩ := j_bind hf
                refine x_get C dX12_put_203 (jgR_some e111) fg_X12_221 ?_
                refine x_iload (v := ((4 : Int32) * a1) + a2) C dX12_put_206 rfl ?_
                obtain ⟨v112, e113, hf⟩ := j_bind hf
                refine x_bald C dX12_put_208 e113 ?_
                refine x_if_ne (tgt := 217) C dX12_put_209 (by decide) (fun c405 => ?_) (fun c405 => ?_)
                · have hf := j_ifn hf c405
                  refine x_iconst C dX12_put_217 ki_1 ?_
                  refine x_goto (tgt := 222) C dX12_put_218 (by decide) ?_
                  obtain ⟨h114, e115, hf⟩ := j_bind hf
                  refine x_bast C dX12_put_222 e115 ?_
                  refine x_iload (v := q104.1.1) C dX12_put_223 rfl ?_
                  obtain ⟨u116, e117, hf⟩ := j_bind hf
                  obtain rfl := j_inj hf
                  exact x_zret C hret (jzb_some e117) dX12_put_225
                · have hf := j_ifp hf c405
                  refine x_iload (v := q104.1.1) C dX12_put_212 rfl ?_
                  refine x_if_eq (tgt := 221) C dX12_put_214 (by decide) (fun c406 => ?_) (fun c406 => ?_)
                  · have hf := j_ifp hf c406
                    refine x_iconst C dX12_put_221 ki_0 ?_
                    obtain ⟨h118, e119, hf⟩ := j_bind hf
                    refine x_bast C dX12_put_222 e119 ?_
                    refine x_iload (v := q104.1.1) C dX12_put_223 rfl ?_
                    obtain ⟨u120, e121, hf⟩ := j_bind hf
                    obtain rfl := j_inj hf
                    exact x_zret C hret (jzb_some e121) dX12_put_225
                  · have hf := j_ifn hf c406
                    refine x_iconst C dX12_put_217 ki_1 ?_
                    refine x_goto (tgt := 222) C dX12_put_218 (by decide) ?_
                    obtain ⟨h122, e123, hf⟩ := j_bind hf
                    refine x_bast C dX12_put_222 e123 ?_
                    refine x_iload (v := q104.1.1) C dX12_put_223 rfl ?_
                    obtain ⟨u124, e125, hf⟩ := j_bind hf
                    obtain rfl := j_inj hf
                    exact x_zret C hret (jzb_some e125) dX12_put_225
        · have hf := j_ifp hf c395
          refine x_iconst C dX12_put_42 ki_1 ?_
          refine x_goto (tgt := 47) C dX12_put_43 (by decide) ?_
          refine x_istore C dX12_put_47 (by decide) ?_
          refine x_iload_n (v := a3) C dX12_put_49 rfl ?_
          refine x_if_eq (tgt := 119) C dX12_put_50 (by decide) (fun c407 => ?_) (fun c407 => ?_)
          · have hf := j_ifp hf c407
            refine x_iconst C dX12_put_119 ki_4 ?_
            refine x_iload_n (v := a1) C dX12_put_120 rfl ?_
            refine x_imul C dX12_put_121 ?_
            refine x_iload_n (v := a2) C dX12_put_122 rfl ?_
            refine x_iadd C dX12_put_123 ?_
            refine x_istore C dX12_put_124 (by decide) ?_
            refine x_iconst C dX12_put_126 ki_0 ?_
            refine x_istore C dX12_put_127 (by decide) ?_
            obtain ⟨q126, e127, hf⟩ := j_bind hf
            refine x_loc [(0, .ref a0), (3, .int a3), (4, .int a4), (5, .int (1 : Int32)), (6, .int (((4 : Int32) * a1) + a2)), (7, .int (0 : Int32))] rfl ?_
            refine x_loop (s_X12_put_L129 C hret hdd a0 a3 a4 (1 : Int32) (((4 : Int32) * a1) + a2)) e127 ?_
            refine x_aload_n (v := a0) C dX12_put_196 rfl ?_
            obtain ⟨v128, e129, hf⟩ := j_bind hf
            refine x_get C dX12_put_197 (jgR_some e129) fg_X12_221 ?_
            refine x_iload (v := ((4 : Int32) * a1) + a2) C dX12_put_200 rfl ?_
            refine x_aload_n (v := a0) C dX12_put_202 rfl ?_
            obtain ⟨v130, e131, hf⟩ := j_bind hf
            refine x_get C dX12_put_203 (jgR_some e131) fg_X12_221 ?_
            refine x_iload (v := ((4 : Int32) * a1) + a2) C dX12_put_206 rfl ?_
            obtain ⟨v132, e133, hf⟩ := j_bind hf
            refine x_bald C dX12_put_208 e133 ?_
            refine x_if_ne (tgt := 217) C dX12_put_209 (by decide) (fun c408 => ?_) (fun c408 => ?_)
            · have hf := j_ifn hf c408
              refine x_iconst C dX12_put_217 ki_1 ?_
              refine x_goto (tgt := 222) C dX12_put_218 (by decide) ?_
              obtain ⟨h134, e135, hf⟩ := j_bind hf
              refine x_bast C dX12_put_222 e135 ?_
              refine x_iload (v := (1 : Int32)) C dX12_put_223 rfl ?_
              obtain ⟨u136, e137, hf⟩ := j_bind hf
              obtain rfl := j_inj hf
              exact x_zret C hret (jzb_some e137) dX12_put_225
            · have hf := j_ifp hf c408
              refine x_iload (v := (1 : Int32)) C dX12_put_212 rfl ?_
              refine x_if_eq (tgt := 221) C dX12_put_214 (by decide) (fun c409 => ?_) (fun c409 => ?_)
              · have hf := j_ifp hf c409
                refine x_iconst C dX12_put_221 ki_0 ?_
                obtain ⟨h138, e139, hf⟩ := j_bind hf
                refine x_bast C dX12_put_222 e139 ?_
                refine x_iload (v := (1 : Int32)) C dX12_put_223 rfl ?_
                obtain ⟨u140, e141, hf⟩ := j_bind hf
                obtain rfl := j_inj hf
                exact x_zret C hret (jzb_some e141) dX12_put_225
              · have hf := j_ifn hf c409
                refine x_iconst C dX12_put_217 ki_1 ?_
                refine x_goto (tgt := 222) C dX12_put_218 (by decide) ?_
                obtain ⟨h142, e143, hf⟩ := j_bind hf
                refine x_bast C dX12_put_222 e143 ?_
                refine x_iload (v := (1 : Int32)) C dX12_put_223 rfl ?_
                obtain ⟨u144, e145, hf⟩ := j_bind hf
                obtain rfl := j_inj hf
                exact x_zret C hret (jzb_some e145) dX12_put_225
          · have hf := j_ifn hf c407
            refine x_iload (v := (1 : Int32)) C dX12_put_53 rfl ?_
            refine x_if_eq (tgt := 71) C dX12_put_55 (by decide) (fun c410 => ?_) (fun c410 => ?_)
            · have hf := j_ifp hf c410
              refine x_iconst C dX12_put_71 ki_0 ?_
              refine x_istore C dX12_put_72 (by decide) ?_
              refine x_iconst C dX12_put_74 ki_1 ?_
              refine x_istore C dX12_put_75 (by decide) ?_
              obtain ⟨q146, e147, hf⟩ := j_bind hf
              refine x_loc [(0, .ref a0), (1, .int a1), (2, .int a2), (3, .int a3), (4, .int a4), (5, .int (0 : Int32)), (6, .int (1 : Int32))] rfl ?_
              refine x_loop (s_X12_put_L77 C hret hdd a0 a1 a2 a3 a4) e147 ?_
              refine x_iconst C dX12_put_119 ki_4 ?_
              refine x_iload_n (v := a1) C dX12_put_120 rfl ?_
              refine x_imul C dX12_put_121 ?_
              refine x_iload_n (v := a2) C dX12_put_122 rfl ?_
              refine x_iadd C dX12_put_123 ?_
              refine x_istore C dX12_put_124 (by decide) ?_
              refine x_iconst C dX12_put_126 ki_0 ?_
              refine x_istore C dX12_put_127 (by decide) ?_
              obtain ⟨q148, e149, hf⟩ := j_bind hf
              refine x_loc [(0, .ref a0), (3, .int a3), (4, .int a4), (5, .int q146.1.1), (6, .int (((4 : Int32) * a1) + a2)), (7, .int (0 : Int32))] rfl ?_
              refine x_loop (s_X12_put_L129 C hret hdd a0 a3 a4 q146.1.1 (((4 : Int32) * a1) + a2)) e149 ?_
              refine x_aload_n (v := a0) C dX12_put_196 rfl ?_
              obtain ⟨v150, e151, hf⟩ := j_bind hf
              refine x_get C dX12_put_197 (jgR_some e151) fg_X12_221 ?_
              refine x_iload (v := ((4 : Int32) * a1) + a2) C dX12_put_200 rfl ?_
              refine x_aload_n (v := a0) C dX12_put_202 rfl ?_
              obtain ⟨v152, e153, hf⟩ := j_bind hf
              refine x_get C dX12_put_203 (jgR_some e153) fg_X12_221 ?_
              refine x_iload (v := ((4 : Int32) * a1) + a2) C dX12_put_206 rfl ?_
              obtain ⟨v154, e155, hf⟩ := j_bind hf
              refine x_bald C dX12_put_208 e155 ?_
              refine x_if_ne (tgt := 217) C dX12_put_209 (by decide) (fun c411 => ?_) (fun c411 => ?_)
              · have hf := j_ifn hf c411
                refine x_iconst C dX12_put_217 ki_1 ?_
                refine x_goto (tgt := 222) C dX12_put_218 (by decide) ?_
                obtain ⟨h156, e157, hf⟩ := j_bind hf
                refine x_bast C dX12_put_222 e157 ?_
                refine x_iload (v := q146.1.1) C dX12_put_223 rfl ?_
                obtain ⟨u158, e159, hf⟩ := j_bind hf
                obtain rfl := j_inj hf
                exact x_zret C hret (jzb_some e159) dX12_put_225
              · have hf := j_ifp hf c411
                refine x_iload (v := q146.1.1) C dX12_put_212 rfl ?_
                refine x_if_eq (tgt := 221) C dX12_put_214 (by decide) (fun c412 => ?_) (fun c412 => ?_)
                · have hf := j_ifp hf c412
                  refine x_iconst C dX12_put_221 ki_0 ?_
                  obtain ⟨h160, e161, hf⟩ := j_bind hf
                  refine x_bast C dX12_put_222 e161 ?_
                  refine x_iload (v := q146.1.1) C dX12_put_223 rfl ?_
                  obtain ⟨u162, e163, hf⟩ := j_bind hf
                  obtain rfl := j_inj hf
                  exact x_zret C hret (jzb_some e163) dX12_put_225
                · have hf := j_ifn hf c412
                  refine x_iconst C dX12_put_217 ki_1 ?_
                  refine x_goto (tgt := 222) C dX12_put_218 (by decide) ?_
                  obtain ⟨h164, e165, hf⟩ := j_bind hf
                  refine x_bast C dX12_put_222 e165 ?_
                  refine x_iload (v := q146.1.1) C dX12_put_223 rfl ?_
                  obtain ⟨u166, e167, hf⟩ := j_bind hf
                  obtain rfl := j_inj hf
                  exact x_zret C hret (jzb_some e167) dX12_put_225
            · have hf := j_ifn hf c410
              refine x_iload (v := a4) C dX12_put_58 rfl ?_
              refine x_iconst C dX12_put_60 ki_1 ?_
              obtain ⟨q168, e169, hf⟩ := j_bind hf
              refine x_callS (As := [.int a4, .int (1 : Int32)]) (rest := []) C dX12_put_61 (m_X12_isTraced (l := l) (E := E) (d := d - 1) (by omega) e169) km_X12_isTraced lk_X12_310 ks_X12_isTraced rfl (by omega) (Nat.le_of_ble_eq_true rfl) (j_le_of (q_X12_isTraced e169)) (Or.inr (q_X12_isTraced e169)) ?_
              refine x_if_eq (tgt := 71) C dX12_put_64 (by decide) (fun c413 => ?_) (fun c413 => ?_)
              · have hf := j_ifp hf c413
                refine x_iconst C dX12_put_71 ki_0 ?_
                refine x_istore C dX12_put_72 (by decide) ?_
                refine x_iconst C dX12_put_74 ki_1 ?_
                refine x_istore C dX12_put_75 (by decide) ?_
                obtain ⟨q170, e171, hf⟩ := j_bind hf
                refine x_loc [(0, .ref a0), (1, .int a1), (2, .int a2), (3, .int a3), (4, .int a4), (5, .int (0 : Int32)), (6, .int (1 : Int32))] rfl ?_
                refine x_loop (s_X12_put_L77 C hret hdd a0 a1 a2 a3 a4) e171 ?_
                refine x_iconst C dX12_put_119 ki_4 ?_
                refine x_iload_n (v := a1) C dX12_put_120 rfl ?_
                refine x_imul C dX12_put_121 ?_
                refine x_iload_n (v := a2) C dX12_put_122 rfl ?_
                refine x_iadd C dX12_put_123 ?_
                refine x_istore C dX12_put_124 (by decide) ?_
                refine x_iconst C dX12_put_126 ki_0 ?_
                refine x_istore C dX12_put_127 (by decide) ?_
                obtain ⟨q172, e173, hf⟩ := j_bind hf
                refine x_loc [(0, .ref a0), (3, .int a3), (4, .int a4), (5, .int q170.1.1), (6, .int (((4 : Int32) * a1) + a2)), (7, .int (0 : Int32))] rfl ?_
                refine x_loop (s_X12_put_L129 C hret hdd a0 a3 a4 q170.1.1 (((4 : Int32) * a1) + a2)) e173 ?_
                refine x_aload_n (v := a0) C dX12_put_196 rfl ?_
                obtain ⟨v174, e175, hf⟩ := j_bind hf
                refine x_get C dX12_put_197 (jgR_some e175) fg_X12_221 ?_
                refine x_iload (v := ((4 : Int32) * a1) + a2) C dX12_put_200 rfl ?_
                refine x_aload_n (v := a0) C dX12_put_202 rfl ?_
                obtain ⟨v176, e177, hf⟩ := j_bind hf
                refine x_get C dX12_put_203 (jgR_some e177) fg_X12_221 ?_
                refine x_iload (v := ((4 : Int32) * a1) + a2) C dX12_put_206 rfl ?_
                obtain ⟨v178, e179, hf⟩ := j_bind hf
                refine x_bald C dX12_put_208 e179 ?_
                refine x_if_ne (tgt := 217) C dX12_put_209 (by decide) (fun c414 => ?_) (fun c414 => ?_)
                · have hf := j_ifn hf c414
                  refine x_iconst C dX12_put_217 ki_1 ?_
                  refine x_goto (tgt := 222) C dX12_put_218 (by decide) ?_
                  obtain ⟨h180, e181, hf⟩ := j_bind hf
                  refine x_bast C dX12_put_222 e181 ?_
                  refine x_iload (v := q170.1.1) C dX12_put_223 rfl ?_
                  obtain ⟨u182, e183, hf⟩ := j_bind hf
                  obtain rfl := j_inj hf
                  exact x_zret C hret (jzb_some e183) dX12_put_225
                · have hf := j_ifp hf c414
                  refine x_iload (v := q170.1.1) C dX12_put_212 rfl ?_
                  refine x_if_eq (tgt := 221) C dX12_put_214 (by decide) (fun c415 => ?_) (fun c415 => ?_)
                  · have hf := j_ifp hf c415
                    refine x_iconst C dX12_put_221 ki_0 ?_
                    obtain ⟨h184, e185, hf⟩ := j_bind hf
                    refine x_bast C dX12_put_222 e185 ?_
                    refine x_iload (v := q170.1.1) C dX12_put_223 rfl ?_
                    obtain ⟨u186, e187, hf⟩ := j_bind hf
                    obtain rfl := j_inj hf
                    exact x_zret C hret (jzb_some e187) dX12_put_225
                  · have hf := j_ifn hf c415
                    refine x_iconst C dX12_put_217 ki_1 ?_
                    refine x_goto (tgt := 222) C dX12_put_218 (by decide) ?_
                    obtain ⟨h188, e189, hf⟩ := j_bind hf
                    refine x_bast C dX12_put_222 e189 ?_
                    refine x_iload (v := q170.1.1) C dX12_put_223 rfl ?_
                    obtain ⟨u190, e191, hf⟩ := j_bind hf
                    obtain rfl := j_inj hf
                    exact x_zret C hret (jzb_some e191) dX12_put_225
              · have hf := j_ifn hf c413
                refine x_iconst C dX12_put_67 ki_1 ?_
                refine x_goto (tgt := 72) C dX12_put_68 (by decide) ?_
                refine x_istore C dX12_put_72 (by decide) ?_
                refine x_iconst C dX12_put_74 ki_1 ?_
                refine x_istore C dX12_put_75 (by decide) ?_
                obtain ⟨q192, e193, hf⟩ := j_bind hf
                refine x_loc [(0, .ref a0), (1, .int a1), (2, .int a2), (3, .int a3), (4, .int a4), (5, .int (1 : Int32)), (6, .int (1 : Int32))] rfl ?_
                refine x_loop (s_X12_put_L77 C hret hdd a0 a1 a2 a3 a4) e193 ?_
                refine x_iconst C dX12_put_119 ki_4 ?_
                refine x_iload_n (v := a1) C dX12_put_120 rfl ?_
                refine x_imul C dX12_put_121 ?_
                refine x_iload_n (v := a2) C dX12_put_122 rfl ?_
                refine x_iadd C dX12_put_123 ?_
                refine x_istore C dX12_put_124 (by decide) ?_
                refine x_iconst C dX12_put_126 ki_0 ?_
                refine x_istore C dX12_put_127 (by decide) ?_
                obtain ⟨q194, e195, hf⟩ := j_bind hf
                refine x_loc [(0, .ref a0), (3, .int a3), (4, .int a4), (5, .int q192.1.1), (6, .int (((4 : Int32) * a1) + a2)), (7, .int (0 : Int32))] rfl ?_
                refine x_loop (s_X12_put_L129 C hret hdd a0 a3 a4 q192.1.1 (((4 : Int32) * a1) + a2)) e195 ?_
                refine x_aload_n (v := a0) C dX12_put_196 rfl ?_
                obtain ⟨v196, e197, hf⟩ := j_bind hf
                refine x_get C dX12_put_197 (jgR_some e197) fg_X12_221 ?_
                refine x_iload (v := ((4 : Int32) * a1) + a2) C dX12_put_200 rfl ?_
                refine x_aload_n (v := a0) C dX12_put_202 rfl ?_
                obtain ⟨v198, e199, hf⟩ := j_bind hf
                refine x_get C dX12_put_203 (jgR_some e199) fg_X12_221 ?_
                refine x_iload (v := ((4 : Int32) * a1) + a2) C dX12_put_206 rfl ?_
                obtain ⟨v200, e201, hf⟩ := j_bind hf
                refine x_bald C dX12_put_208 e201 ?_
                refine x_if_ne (tgt := 217) C dX12_put_209 (by decide) (fun c416 => ?_) (fun c416 => ?_)
                · have hf := j_ifn hf c416
                  refine x_iconst C dX12_put_217 ki_1 ?_
                  refine x_goto (tgt := 222) C dX12_put_218 (by decide) ?_
                  obtain ⟨h202, e203, hf⟩ := j_bind hf
                  refine x_bast C dX12_put_222 e203 ?_
                  refine x_iload (v := q192.1.1) C dX12_put_223 rfl ?_
                  obtain ⟨u204, e205, hf⟩ := j_bind hf
                  obtain rfl := j_inj hf
                  exact x_zret C hret (jzb_some e205) dX12_put_225
                · have hf := j_ifp hf c416
                  refine x_iload (v := q192.1.1) C dX12_put_212 rfl ?_
                  refine x_if_eq (tgt := 221) C dX12_put_214 (by decide) (fun c417 => ?_) (fun c417 => ?_)
                  · have hf := j_ifp hf c417
                    refine x_iconst C dX12_put_221 ki_0 ?_
                    obtain ⟨h206, e207, hf⟩ := j_bind hf
                    refine x_bast C dX12_put_222 e207 ?_
                    refine x_iload (v := q192.1.1) C dX12_put_223 rfl ?_
                    obtain ⟨u208, e209, hf⟩ := j_bind hf
                    obtain rfl := j_inj hf
                    exact x_zret C hret (jzb_some e209) dX12_put_225
                  · have hf := j_ifn hf c417
                    refine x_iconst C dX12_put_217 ki_1 ?_
                    refine x_goto (tgt := 222) C dX12_put_218 (by decide) ?_
                    obtain ⟨h210, e211, hf⟩ := j_bind hf
                    refine x_bast C dX12_put_222 e211 ?_
                    refine x_iload (v := q192.1.1) C dX12_put_223 rfl ?_
                    obtain ⟨u212, e213, hf⟩ := j_bind hf
                    obtain rfl := j_inj hf
                    exact x_zret C hret (jzb_some e213) dX12_put_225
      · have hf := j_ifn hf c394
        refine x_iconst C dX12_put_34 ki_1 ?_
        refine x_goto (tgt := 39) C dX12_put_35 (by decide) ?_
        refine x_icmp_ne (tgt := 46) C dX12_put_39 (by decide) (fun c418 => ?_) (fun c418 => ?_)
        · have hf := j_ifn hf c418
          refine x_iconst C dX12_put_46 ki_0 ?_
          refine x_istore C dX12_put_47 (by decide) ?_
          refine x_iload_n (v := a3) C dX12_put_49 rfl ?_
          refine x_if_eq (tgt := 119) C dX12_put_50 (by decide) (fun c419 => ?_) (fun c419 => ?_)
          · have hf := j_ifp hf c419
            refine x_iconst C dX12_put_119 ki_4 ?_
            refine x_iload_n (v := a1) C dX12_put_120 rfl ?_
            refine x_imul C dX12_put_121 ?_
            refine x_iload_n (v := a2) C dX12_put_122 rfl ?_
            refine x_iadd C dX12_put_123 ?_
            refine x_istore C dX12_put_124 (by decide) ?_
            refine x_iconst C dX12_put_126 ki_0 ?_
            refine x_istore C dX12_put_127 (by decide) ?_
            obtain ⟨q214, e215, hf⟩ := j_bind hf
            refine x_loc [(0, .ref a0), (3, .int a3), (4, .int a4), (5, .int (0 : Int32)), (6, .int (((4 : Int32) * a1) + a2)), (7, .int (0 : Int32))] rfl ?_
            refine x_loop (s_X12_put_L129 C hret hdd a0 a3 a4 (0 : Int32) (((4 : Int32) * a1) + a2)) e215 ?_
            refine x_aload_n (v := a0) C dX12_put_196 rfl ?_
            obtain ⟨v216, e217, hf⟩ := j_bind hf
            refine x_get C dX12_put_197 (jgR_some e217) fg_X12_221 ?_
            refine x_iload (v := ((4 : Int32) * a1) + a2) C dX12_put_200 rfl ?_
            refine x_aload_n (v := a0) C dX12_put_202 rfl ?_
            obtain ⟨v218, e219, hf⟩ := j_bind hf
            refine x_get C dX12_put_203 (jgR_some e219) fg_X12_221 ?_
            refine x_iload (v := ((4 : Int32) * a1) + a2) C dX12_put_206 rfl ?_
            obtain ⟨v220, e221, hf⟩ := j_bind hf
            refine x_bald C dX12_put_208 e221 ?_
            refine x_if_ne (tgt := 217) C dX12_put_209 (by decide) (fun c420 => ?_) (fun c420 => ?_)
            · have hf := j_ifn hf c420
              refine x_iconst C dX12_put_217 ki_1 ?_
              refine x_goto (tgt := 222) C dX12_put_218 (by decide) ?_
              obtain ⟨h222, e223, hf⟩ := j_bind hf
              refine x_bast C dX12_put_222 e223 ?_
              refine x_iload (v := (0 : Int32)) C dX12_put_223 rfl ?_
              obtain ⟨u224, e225, hf⟩ := j_bind hf
              obtain rfl := j_inj hf
              exact x_zret C hret (jzb_some e225) dX12_put_225
            · have hf := j_ifp hf c420
              refine x_iload (v := (0 : Int32)) C dX12_put_212 rfl ?_
              refine x_if_eq (tgt := 221) C dX12_put_214 (by decide) (fun c421 => ?_) (fun c421 => ?_)
              · have hf := j_ifp hf c421
                refine x_iconst C dX12_put_221 ki_0 ?_
                obtain ⟨h226, e227, hf⟩ := j_bind hf
                refine x_bast C dX12_put_222 e227 ?_
                refine x_iload (v := (0 : Int32)) C dX12_put_223 rfl ?_
                obtain ⟨u228, e229, hf⟩ := j_bind hf
                obtain rfl := j_inj hf
                exact x_zret C hret (jzb_some e229) dX12_put_225
              · have hf := j_ifn hf c421
                refine x_iconst C dX12_put_217 ki_1 ?_
                refine x_goto (tgt := 222) C dX12_put_218 (by decide) ?_
                obtain ⟨h230, e231, hf⟩ := j_bind hf
                refine x_bast C dX12_put_222 e231 ?_
                refine x_iload (v := (0 : Int32)) C dX12_put_223 rfl ?_
                obtain ⟨u232, e233, hf⟩ := j_bind hf
                obtain rfl := j_inj hf
                exact x_zret C hret (jzb_some e233) dX12_put_225
          · have hf := j_ifn hf c419
            refine x_iload (v := (0 : Int32)) C dX12_put_53 rfl ?_
            refine x_if_eq (tgt := 71) C dX12_put_55 (by decide) (fun c422 => ?_) (fun c422 => ?_)
            · have hf := j_ifp hf c422
              refine x_iconst C dX12_put_71 ki_0 ?_
              refine x_istore C dX12_put_72 (by decide) ?_
              refine x_iconst C dX12_put_74 ki_1 ?_
              refine x_istore C dX12_put_75 (by decide) ?_
              obtain ⟨q234, e235, hf⟩ := j_bind hf
              refine x_loc [(0, .ref a0), (1, .int a1), (2, .int a2), (3, .int a3), (4, .int a4), (5, .int (0 : Int32)), (6, .int (1 : Int32))] rfl ?_
              refine x_loop (s_X12_put_L77 C hret hdd a0 a1 a2 a3 a4) e235 ?_
              refine x_iconst C dX12_put_119 ki_4 ?_
              refine x_iload_n (v := a1) C dX12_put_120 rfl ?_
              refine x_imul C dX12_put_121 ?_
              refine x_iload_n (v := a2) C dX12_put_122 rfl ?_
              refine x_iadd C dX12_put_123 ?_
              refine x_istore C dX12_put_124 (by decide) ?_
              refine x_iconst C dX12_put_126 ki_0 ?_
              refine x_istore C dX12_put_127 (by decide) ?_
              obtain ⟨q236, e237, hf⟩ := j_bind hf
              refine x_loc [(0, .ref a0), (3, .int a3), (4, .int a4), (5, .int q234.1.1), (6, .int (((4 : Int32) * a1) + a2)), (7, .int (0 : Int32))] rfl ?_
              refine x_loop (s_X12_put_L129 C hret hdd a0 a3 a4 q234.1.1 (((4 : Int32) * a1) + a2)) e237 ?_
              refine x_aload_n (v := a0) C dX12_put_196 rfl ?_
              obtain ⟨v238, e239, hf⟩ := j_bind hf
              refine x_get C dX12_put_197 (jgR_some e239) fg_X12_221 ?_
              refine x_iload (v := ((4 : Int32) * a1) + a2) C dX12_put_200 rfl ?_
              refine x_aload_n (v := a0) C dX12_put_202 rfl ?_
              obtain ⟨v240, e241, hf⟩ := j_bind hf
              refine x_get C dX12_put_203 (jgR_some e241) fg_X12_221 ?_
              refine x_iload (v := ((4 : Int32) * a1) + a2) C dX12_put_206 rfl ?_
              obtain ⟨v242, e243, hf⟩ := j_bind hf
              refine x_bald C dX12_put_208 e243 ?_
              refine x_if_ne (tgt := 217) C dX12_put_209 (by decide) (fun c423 => ?_) (fun c423 => ?_)
              · have hf := j_ifn hf c423
                refine x_iconst C dX12_put_217 ki_1 ?_
                refine x_goto (tgt := 222) C dX12_put_218 (by decide) ?_
                obtain ⟨h244, e245, hf⟩ := j_bind hf
                refine x_bast C dX12_put_222 e245 ?_
                refine x_iload (v := q234.1.1) C dX12_put_223 rfl ?_
                obtain ⟨u246, e247, hf⟩ := j_bind hf
                obtain rfl := j_inj hf
                exact x_zret C hret (jzb_some e247) dX12_put_225
              · have hf := j_ifp hf c423
                refine x_iload (v := q234.1.1) C dX12_put_212 rfl ?_
                refine x_if_eq (tgt := 221) C dX12_put_214 (by decide) (fun c424 => ?_) (fun c424 => ?_)
                · have hf := j_ifp hf c424
                  refine x_iconst C dX12_put_221 ki_0 ?_
                  obtain ⟨h248, e249, hf⟩ := j_bind hf
                  refine x_bast C dX12_put_222 e249 ?_
                  refine x_iload (v := q234.1.1) C dX12_put_223 rfl ?_
                  obtain ⟨u250, e251, hf⟩ := j_bind hf
                  obtain rfl := j_inj hf
                  exact x_zret C hret (jzb_some e251) dX12_put_225
                · have hf := j_ifn hf c424
                  refine x_iconst C dX12_put_217 ki_1 ?_
                  refine x_goto (tgt := 222) C dX12_put_218 (by decide) ?_
                  obtain ⟨h252, e253, hf⟩ := j_bind hf
                  refine x_bast C dX12_put_222 e253 ?_
                  refine x_iload (v := q234.1.1) C dX12_put_223 rfl ?_
                  obtain ⟨u254, e255, hf⟩ := j_bind hf
                  obtain rfl := j_inj hf
                  exact x_zret C hret (jzb_some e255) dX12_put_225
            · have hf := j_ifn hf c422
              refine x_iload (v := a4) C dX12_put_58 rfl ?_
              refine x_iconst C dX12_put_60 ki_1 ?_
              obtain ⟨q256, e257, hf⟩ := j_bind hf
              refine x_callS (As := [.int a4, .int (1 : Int32)]) (rest := []) C dX12_put_61 (m_X12_isTraced (l := l) (E := E) (d := d - 1) (by omega) e257) km_X12_isTraced lk_X12_310 ks_X12_isTraced rfl (by omega) (Nat.le_of_ble_eq_true rfl) (j_le_of (q_X12_isTraced e257)) (Or.inr (q_X12_isTraced e257)) ?_
              refine x_if_eq (tgt := 71) C dX12_put_64 (by decide) (fun c425 => ?_) (fun c425 => ?_)
              · have hf := j_ifp hf c425
                refine x_iconst C dX12_put_71 ki_0 ?_
                refine x_istore C dX12_put_72 (by decide) ?_
                refine x_iconst C dX12_put_74 ki_1 ?_
                refine x_istore C dX12_put_75 (by decide) ?_
                obtain ⟨q258, e259, hf⟩ := j_bind hf
                refine x_loc [(0, .ref a0), (1, .int a1), (2, .int a2), (3, .int a3), (4, .int a4), (5, .int (0 : Int32)), (6, .int (1 : Int32))] rfl ?_
                refine x_loop (s_X12_put_L77 C hret hdd a0 a1 a2 a3 a4) e259 ?_
                refine x_iconst C dX12_put_119 ki_4 ?_
                refine x_iload_n (v := a1) C dX12_put_120 rfl ?_
                refine x_imul C dX12_put_121 ?_
                refine x_iload_n (v := a2) C dX12_put_122 rfl ?_
                refine x_iadd C dX12_put_123 ?_
                refine x_istore C dX12_put_124 (by decide) ?_
                refine x_iconst C dX12_put_126 ki_0 ?_
                refine x_istore C dX12_put_127 (by decide) ?_
                obtain ⟨q260, e261, hf⟩ := j_bind hf
                refine x_loc [(0, .ref a0), (3, .int a3), (4, .int a4), (5, .int q258.1.1), (6, .int (((4 : Int32) * a1) + a2)), (7, .int (0 : Int32))] rfl ?_
                refine x_loop (s_X12_put_L129 C hret hdd a0 a3 a4 q258.1.1 (((4 : Int32) * a1) + a2)) e261 ?_
                refine x_aload_n (v := a0) C dX12_put_196 rfl ?_
                obtain ⟨v262, e263, hf⟩ := j_bind hf
                refine x_get C dX12_put_197 (jgR_some e263) fg_X12_221 ?_
                refine x_iload (v := ((4 : Int32) * a1) + a2) C dX12_put_200 rfl ?_
                refine x_aload_n (v := a0) C dX12_put_202 rfl ?_
                obtain ⟨v264, e265, hf⟩ := j_bind hf
                refine x_get C dX12_put_203 (jgR_some e265) fg_X12_221 ?_
                refine x_iload (v := ((4 : Int32) * a1) + a2) C dX12_put_206 rfl ?_
                obtain ⟨v266, e267, hf⟩ := j_bind hf
                refine x_bald C dX12_put_208 e267 ?_
                refine x_if_ne (tgt := 217) C dX12_put_209 (by decide) (fun c426 => ?_) (fun c426 => ?_)
                · have hf := j_ifn hf c426
                  refine x_iconst C dX12_put_217 ki_1 ?_
                  refine x_goto (tgt := 222) C dX12_put_218 (by decide) ?_
                  obtain ⟨h268, e269, hf⟩ := j_bind hf
                  refine x_bast C dX12_put_222 e269 ?_
                  refine x_iload (v := q258.1.1) C dX12_put_223 rfl ?_
                  obtain ⟨u270, e271, hf⟩ := j_bind hf
                  obtain rfl := j_inj hf
                  exact x_zret C hret (jzb_some e271) dX12_put_225
                · have hf := j_ifp hf c426
                  refine x_iload (v := q258.1.1) C dX12_put_212 rfl ?_
                  refine x_if_eq (tgt := 221) C dX12_put_214 (by decide) (fun c427 => ?_) (fun c427 => ?_)
                  · have hf := j_ifp hf c427
                    refine x_iconst C dX12_put_221 ki_0 ?_
                    obtain ⟨h272, e273, hf⟩ := j_bind hf
                    refine x_bast C dX12_put_222 e273 ?_
                    refine x_iload (v := q258.1.1) C dX12_put_223 rfl ?_
                    obtain ⟨u274, e275, hf⟩ := j_bind hf
                    obtain rfl := j_inj hf
                    exact x_zret C hret (jzb_some e275) dX12_put_225
                  · have hf := j_ifn hf c427
                    refine x_iconst C dX12_put_217 ki_1 ?_
                    refine x_goto (tgt := 222) C dX12_put_218 (by decide) ?_
                    obtain ⟨h276, e277, hf⟩ := j_bind hf
                    refine x_bast C dX12_put_222 e277 ?_
                    refine x_iload (v := q258.1.1) C dX12_put_223 rfl ?_
                    obtain ⟨u278, e279, hf⟩ := j_bind hf
                    obtain rfl := j_inj hf
                    exact x_zret C hret (jzb_some e279) dX12_put_225
              · have hf := j_ifn hf c425
                refine x_iconst C dX12_put_67 ki_1 ?_
                refine x_goto (tgt := 72) C dX12_put_68 (by decide) ?_
                refine x_istore C dX12_put_72 (by decide) ?_
                refine x_iconst C dX12_put_74 ki_1 ?_
                refine x_istore C dX12_put_75 (by decide) ?_
                obtain ⟨q280, e281, hf⟩ := j_bind hf
                refine x_loc [(0, .ref a0), (1, .int a1), (2, .int a2), (3, .int a3), (4, .int a4), (5, .int (1 : Int32)), (6, .int (1 : Int32))] rfl ?_
                refine x_loop (s_X12_put_L77 C hret hdd a0 a1 a2 a3 a4) e281 ?_
                refine x_iconst C dX12_put_119 ki_4 ?_
                refine x_iload_n (v := a1) C dX12_put_120 rfl ?_
                refine x_imul C dX12_put_121 ?_
                refine x_iload_n (v := a2) C dX12_put_122 rfl ?_
                refine x_iadd C dX12_put_123 ?_
                refine x_istore C dX12_put_124 (by decide) ?_
                refine x_iconst C dX12_put_126 ki_0 ?_
                refine x_istore C dX12_put_127 (by decide) ?_
                obtain ⟨q282, e283, hf⟩ := j_bind hf
                refine x_loc [(0, .ref a0), (3, .int a3), (4, .int a4), (5, .int q280.1.1), (6, .int (((4 : Int32) * a1) + a2)), (7, .int (0 : Int32))] rfl ?_
                refine x_loop (s_X12_put_L129 C hret hdd a0 a3 a4 q280.1.1 (((4 : Int32) * a1) + a2)) e283 ?_
                refine x_aload_n (v := a0) C dX12_put_196 rfl ?_
                obtain ⟨v284, e285, hf⟩ := j_bind hf
                refine x_get C dX12_put_197 (jgR_some e285) fg_X12_221 ?_
                refine x_iload (v := ((4 : Int32) * a1) + a2) C dX12_put_200 rfl ?_
                refine x_aload_n (v := a0) C dX12_put_202 rfl ?_
                obtain ⟨v286, e287, hf⟩ := j_bind hf
                refine x_get C dX12_put_203 (jgR_some e287) fg_X12_221 ?_
                refine x_iload (v := ((4 : Int32) * a1) + a2) C dX12_put_206 rfl ?_
                obtain ⟨v288, e289, hf⟩ := j_bind hf
                refine x_bald C dX12_put_208 e289 ?_
                refine x_if_ne (tgt := 217) C dX12_put_209 (by decide) (fun c428 => ?_) (fun c428 => ?_)
                · have hf := j_ifn hf c428
                  refine x_iconst C dX12_put_217 ki_1 ?_
                  refine x_goto (tgt := 222) C dX12_put_218 (by decide) ?_
                  obtain ⟨h290, e291, hf⟩ := j_bind hf
                  refine x_bast C dX12_put_222 e291 ?_
                  refine x_iload (v := q280.1.1) C dX12_put_223 rfl ?_
                  obtain ⟨u292, e293, hf⟩ := j_bind hf
                  obtain rfl := j_inj hf
                  exact x_zret C hret (jzb_some e293) dX12_put_225
                · have hf := j_ifp hf c428
                  refine x_iload (v := q280.1.1) C dX12_put_212 rfl ?_
                  refine x_if_eq (tgt := 221) C dX12_put_214 (by decide) (fun c429 => ?_) (fun c429 => ?_)
                  · have hf := j_ifp hf c429
                    refine x_iconst C dX12_put_221 ki_0 ?_
                    obtain ⟨h294, e295, hf⟩ := j_bind hf
                    refine x_bast C dX12_put_222 e295 ?_
                    refine x_iload (v := q280.1.1) C dX12_put_223 rfl ?_
                    obtain ⟨u296, e297, hf⟩ := j_bind hf
                    obtain rfl := j_inj hf
                    exact x_zret C hret (jzb_some e297) dX12_put_225
                  · have hf := j_ifn hf c429
                    refine x_iconst C dX12_put_217 ki_1 ?_
                    refine x_goto (tgt := 222) C dX12_put_218 (by decide) ?_
                    obtain ⟨h298, e299, hf⟩ := j_bind hf
                    refine x_bast C dX12_put_222 e299 ?_
                    refine x_iload (v := q280.1.1) C dX12_put_223 rfl ?_
                    obtain ⟨u300, e301, hf⟩ := j_bind hf
                    obtain rfl := j_inj hf
                    exact x_zret C hret (jzb_some e301) dX12_put_225
        · have hf := j_ifp hf c418
          refine x_iconst C dX12_put_42 ki_1 ?_
          refine x_goto (tgt := 47) C dX12_put_43 (by decide) ?_
          refine x_istore C dX12_put_47 (by decide) ?_
          refine x_iload_n (v := a3) C dX12_put_49 rfl ?_
          refine x_if_eq (tgt := 119) C dX12_put_50 (by decide) (fun c430 => ?_) (fun c430 => ?_)
          · have hf := j_ifp hf c430
            refine x_iconst C dX12_put_119 ki_4 ?_
            refine x_iload_n (v := a1) C dX12_put_120 rfl ?_
            refine x_imul C dX12_put_121 ?_
            refine x_iload_n (v := a2) C dX12_put_122 rfl ?_
            refine x_iadd C dX12_put_123 ?_
            refine x_istore C dX12_put_124 (by decide) ?_
            refine x_iconst C dX12_put_126 ki_0 ?_
            refine x_istore C dX12_put_127 (by decide) ?_
            obtain ⟨q302, e303, hf⟩ := j_bind hf
            refine x_loc [(0, .ref a0), (3, .int a3), (4, .int a4), (5, .int (1 : Int32)), (6, .int (((4 : Int32) * a1) + a2)), (7, .int (0 : Int32))] rfl ?_
            refine x_loop (s_X12_put_L129 C hret hdd a0 a3 a4 (1 : Int32) (((4 : Int32) * a1) + a2)) e303 ?_
            refine x_aload_n (v := a0) C dX12_put_196 rfl ?_
            obtain ⟨v304, e305, hf⟩ := j_bind hf
            refine x_get C dX12_put_197 (jgR_some e305) fg_X12_221 ?_
            refine x_iload (v := ((4 : Int32) * a1) + a2) C dX12_put_200 rfl ?_
            refine x_aload_n (v := a0) C dX12_put_202 rfl ?_
            obtain ⟨v306, e307, hf⟩ := j_bind hf
            refine x_get C dX12_put_203 (jgR_some e307) fg_X12_221 ?_
            refine x_iload (v := ((4 : Int32) * a1) + a2) C dX12_put_206 rfl ?_
            obtain ⟨v308, e309, hf⟩ := j_bind hf
            refine x_bald C dX12_put_208 e309 ?_
            refine x_if_ne (tgt := 217) C dX12_put_209 (by decide) (fun c431 => ?_) (fun c431 => ?_)
            · have hf := j_ifn hf c431
              refine x_iconst C dX12_put_217 ki_1 ?_
              refine x_goto (tgt := 222) C dX12_put_218 (by decide) ?_
              obtain ⟨h310, e311, hf⟩ := j_bind hf
              refine x_bast C dX12_put_222 e311 ?_
              refine x_iload (v := (1 : Int32)) C dX12_put_223 rfl ?_
              obtain ⟨u312, e313, hf⟩ := j_bind hf
              obtain rfl := j_inj hf
              exact x_zret C hret (jzb_some e313) dX12_put_225
            · have hf := j_ifp hf c431
              refine x_iload (v := (1 : Int32)) C dX12_put_212 rfl ?_
              refine x_if_eq (tgt := 221) C dX12_put_214 (by decide) (fun c432 => ?_) (fun c432 => ?_)
              · have hf := j_ifp hf c432
                refine x_iconst C dX12_put_221 ki_0 ?_
                obtain ⟨h314, e315, hf⟩ := j_bind hf
                refine x_bast C dX12_put_222 e315 ?_
                refine x_iload (v := (1 : Int32)) C dX12_put_223 rfl ?_
                obtain ⟨u316, e317, hf⟩ := j_bind hf
                obtain rfl := j_inj hf
                exact x_zret C hret (jzb_some e317) dX12_put_225
              · have hf := j_ifn hf c432
                refine x_iconst C dX12_put_217 ki_1 ?_
                refine x_goto (tgt := 222) C dX12_put_218 (by decide) ?_
                obtain ⟨h318, e319, hf⟩ := j_bind hf
                refine x_bast C dX12_put_222 e319 ?_
                refine x_iload (v := (1 : Int32)) C dX12_put_223 rfl ?_
                obtain ⟨u320, e321, hf⟩ := j_bind hf
                obtain rfl := j_inj hf
                exact x_zret C hret (jzb_some e321) dX12_put_225
          · have hf := j_ifn hf c430
            refine x_iload (v := (1 : Int32)) C dX12_put_53 rfl ?_
            refine x_if_eq (tgt := 71) C dX12_put_55 (by decide) (fun c433 => ?_) (fun c433 => ?_)
            · have hf := j_ifp hf c433
              refine x_iconst C dX12_put_71 ki_0 ?_
              refine x_istore C dX12_put_72 (by decide) ?_
              refine x_iconst C dX12_put_74 ki_1 ?_
              refine x_istore C dX12_put_75 (by decide) ?_
              obtain ⟨q322, e323, hf⟩ := j_bind hf
              refine x_loc [(0, .ref a0), (1, .int a1), (2, .int a2), (3, .int a3), (4, .int a4), (5, .int (0 : Int32)), (6, .int (1 : Int32))] rfl ?_
              refine x_loop (s_X12_put_L77 C hret hdd a0 a1 a2 a3 a4) e323 ?_
              refine x_iconst C dX12_put_119 ki_4 ?_
              refine x_iload_n (v := a1) C dX12_put_120 rfl ?_
              refine x_imul C dX12_put_121 ?_
              refine x_iload_n (v := a2) C dX12_put_122 rfl ?_
              refine x_iadd C dX12_put_123 ?_
              refine x_istore C dX12_put_124 (by decide) ?_
              refine x_iconst C dX12_put_126 ki_0 ?_
              refine x_istore C dX12_put_127 (by decide) ?_
              obtain ⟨q324, e325, hf⟩ := j_bind hf
              refine x_loc [(0, .ref a0), (3, .int a3), (4, .int a4), (5, .int q322.1.1), (6, .int (((4 : Int32) * a1) + a2)), (7, .int (0 : Int32))] rfl ?_
              refine x_loop (s_X12_put_L129 C hret hdd a0 a3 a4 q322.1.1 (((4 : Int32) * a1) + a2)) e325 ?_
              refine x_aload_n (v := a0) C dX12_put_196 rfl ?_
              obtain ⟨v326, e327, hf⟩ := j_bind hf
              refine x_get C dX12_put_197 (jgR_some e327) fg_X12_221 ?_
              refine x_iload (v := ((4 : Int32) * a1) + a2) C dX12_put_200 rfl ?_
              refine x_aload_n (v := a0) C dX12_put_202 rfl ?_
              obtain ⟨v328, e329, hf⟩ := j_bind hf
              refine x_get C dX12_put_203 (jgR_some e329) fg_X12_221 ?_
              refine x_iload (v := ((4 : Int32) * a1) + a2) C dX12_put_206 rfl ?_
              obtain ⟨v330, e331, hf⟩ := j_bind hf
              refine x_bald C dX12_put_208 e331 ?_
              refine x_if_ne (tgt := 217) C dX12_put_209 (by decide) (fun c434 => ?_) (fun c434 => ?_)
              · have hf := j_ifn hf c434
                refine x_iconst C dX12_put_217 ki_1 ?_
                refine x_goto (tgt := 222) C dX12_put_218 (by decide) ?_
                obtain ⟨h332, e333, hf⟩ := j_bind hf
                refine x_bast C dX12_put_222 e333 ?_
                refine x_iload (v := q322.1.1) C dX12_put_223 rfl ?_
                obtain ⟨u334, e335, hf⟩ := j_bind hf
                obtain rfl := j_inj hf
                exact x_zret C hret (jzb_some e335) dX12_put_225
              · have hf := j_ifp hf c434
                refine x_iload (v := q322.1.1) C dX12_put_212 rfl ?_
                refine x_if_eq (tgt := 221) C dX12_put_214 (by decide) (fun c435 => ?_) (fun c435 => ?_)
                · have hf := j_ifp hf c435
                  refine x_iconst C dX12_put_221 ki_0 ?_
                  obtain ⟨h336, e337, hf⟩ := j_bind hf
                  refine x_bast C dX12_put_222 e337 ?_
                  refine x_iload (v := q322.1.1) C dX12_put_223 rfl ?_
                  obtain ⟨u338, e339, hf⟩ := j_bind hf
                  obtain rfl := j_inj hf
                  exact x_zret C hret (jzb_some e339) dX12_put_225
                · have hf := j_ifn hf c435
                  refine x_iconst C dX12_put_217 ki_1 ?_
                  refine x_goto (tgt := 222) C dX12_put_218 (by decide) ?_
                  obtain ⟨h340, e341, hf⟩ := j_bind hf
                  refine x_bast C dX12_put_222 e341 ?_
                  refine x_iload (v := q322.1.1) C dX12_put_223 rfl ?_
                  obtain ⟨u342, e343, hf⟩ := j_bind hf
                  obtain rfl := j_inj hf
                  exact x_zret C hret (jzb_some e343) dX12_put_225
            · have hf := j_ifn hf c433
              refine x_iload (v := a4) C dX12_put_58 rfl ?_
              refine x_iconst C dX12_put_60 ki_1 ?_
              obtain ⟨q344, e345, hf⟩ := j_bind hf
              refine x_callS (As := [.int a4, .int (1 : Int32)]) (rest := []) C dX12_put_61 (m_X12_isTraced (l := l) (E := E) (d := d - 1) (by omega) e345) km_X12_isTraced lk_X12_310 ks_X12_isTraced rfl (by omega) (Nat.le_of_ble_eq_true rfl) (j_le_of (q_X12_isTraced e345)) (Or.inr (q_X12_isTraced e345)) ?_
              refine x_if_eq (tgt := 71) C dX12_put_64 (by decide) (fun c436 => ?_) (fun c436 => ?_)
              · have hf := j_ifp hf c436
                refine x_iconst C dX12_put_71 ki_0 ?_
                refine x_istore C dX12_put_72 (by decide) ?_
                refine x_iconst C dX12_put_74 ki_1 ?_
                refine x_istore C dX12_put_75 (by decide) ?_
                obtain ⟨q346, e347, hf⟩ := j_bind hf
                refine x_loc [(0, .ref a0), (1, .int a1), (2, .int a2), (3, .int a3), (4, .int a4), (5, .int (0 : Int32)), (6, .int (1 : Int32))] rfl ?_
                refine x_loop (s_X12_put_L77 C hret hdd a0 a1 a2 a3 a4) e347 ?_
                refine x_iconst C dX12_put_119 ki_4 ?_
                refine x_iload_n (v := a1) C dX12_put_120 rfl ?_
                refine x_imul C dX12_put_121 ?_
                refine x_iload_n (v := a2) C dX12_put_122 rfl ?_
                refine x_iadd C dX12_put_123 ?_
                refine x_istore C dX12_put_124 (by decide) ?_
                refine x_iconst C dX12_put_126 ki_0 ?_
                refine x_istore C dX12_put_127 (by decide) ?_
                obtain ⟨q348, e349, hf⟩ := j_bind hf
                refine x_loc [(0, .ref a0), (3, .int a3), (4, .int a4), (5, .int q346.1.1), (6, .int (((4 : Int32) * a1) + a2)), (7, .int (0 : Int32))] rfl ?_
                refine x_loop (s_X12_put_L129 C hret hdd a0 a3 a4 q346.1.1 (((4 : Int32) * a1) + a2)) e349 ?_
                refine x_aload_n (v := a0) C dX12_put_196 rfl ?_
                obtain ⟨v350, e351, hf⟩ := j_bind hf
                refine x_get C dX12_put_197 (jgR_some e351) fg_X12_221 ?_
                refine x_iload (v := ((4 : Int32) * a1) + a2) C dX12_put_200 rfl ?_
                refine x_aload_n (v := a0) C dX12_put_202 rfl ?_
                obtain ⟨v352, e353, hf⟩ := j_bind hf
                refine x_get C dX12_put_203 (jgR_some e353) fg_X12_221 ?_
                refine x_iload (v := ((4 : Int32) * a1) + a2) C dX12_put_206 rfl ?_
                obtain ⟨v354, e355, hf⟩ := j_bind hf
                refine x_bald C dX12_put_208 e355 ?_
                refine x_if_ne (tgt := 217) C dX12_put_209 (by decide) (fun c437 => ?_) (fun c437 => ?_)
                · have hf := j_ifn hf c437
                  refine x_iconst C dX12_put_217 ki_1 ?_
                  refine x_goto (tgt := 222) C dX12_put_218 (by decide) ?_
                  obtain ⟨h356, e357, hf⟩ := j_bind hf
                  refine x_bast C dX12_put_222 e357 ?_
                  refine x_iload (v := q346.1.1) C dX12_put_223 rfl ?_
                  obtain ⟨u358, e359, hf⟩ := j_bind hf
                  obtain rfl := j_inj hf
                  exact x_zret C hret (jzb_some e359) dX12_put_225
                · have hf := j_ifp hf c437
                  refine x_iload (v := q346.1.1) C dX12_put_212 rfl ?_
                  refine x_if_eq (tgt := 221) C dX12_put_214 (by decide) (fun c438 => ?_) (fun c438 => ?_)
                  · have hf := j_ifp hf c438
                    refine x_iconst C dX12_put_221 ki_0 ?_
                    obtain ⟨h360, e361, hf⟩ := j_bind hf
                    refine x_bast C dX12_put_222 e361 ?_
                    refine x_iload (v := q346.1.1) C dX12_put_223 rfl ?_
                    obtain ⟨u362, e363, hf⟩ := j_bind hf
                    obtain rfl := j_inj hf
                    exact x_zret C hret (jzb_some e363) dX12_put_225
                  · have hf := j_ifn hf c438
                    refine x_iconst C dX12_put_217 ki_1 ?_
                    refine x_goto (tgt := 222) C dX12_put_218 (by decide) ?_
                    obtain ⟨h364, e365, hf⟩ := j_bind hf
                    refine x_bast C dX12_put_222 e365 ?_
                    refine x_iload (v := q346.1.1) C dX12_put_223 rfl ?_
                    obtain ⟨u366, e367, hf⟩ := j_bind hf
                    obtain rfl := j_inj hf
                    exact x_zret C hret (jzb_some e367) dX12_put_225
              · have hf := j_ifn hf c436
                refine x_iconst C dX12_put_67 ki_1 ?_
                refine x_goto (tgt := 72) C dX12_put_68 (by decide) ?_
                refine x_istore C dX12_put_72 (by decide) ?_
                refine x_iconst C dX12_put_74 ki_1 ?_
                refine x_istore C dX12_put_75 (by decide) ?_
                obtain ⟨q368, e369, hf⟩ := j_bind hf
                refine x_loc [(0, .ref a0), (1, .int a1), (2, .int a2), (3, .int a3), (4, .int a4), (5, .int (1 : Int32)), (6, .int (1 : Int32))] rfl ?_
                refine x_loop (s_X12_put_L77 C hret hdd a0 a1 a2 a3 a4) e369 ?_
                refine x_iconst C dX12_put_119 ki_4 ?_
                refine x_iload_n (v := a1) C dX12_put_120 rfl ?_
                refine x_imul C dX12_put_121 ?_
                refine x_iload_n (v := a2) C dX12_put_122 rfl ?_
                refine x_iadd C dX12_put_123 ?_
                refine x_istore C dX12_put_124 (by decide) ?_
                refine x_iconst C dX12_put_126 ki_0 ?_
                refine x_istore C dX12_put_127 (by decide) ?_
                obtain ⟨q370, e371, hf⟩ := j_bind hf
                refine x_loc [(0, .ref a0), (3, .int a3), (4, .int a4), (5, .int q368.1.1), (6, .int (((4 : Int32) * a1) + a2)), (7, .int (0 : Int32))] rfl ?_
                refine x_loop (s_X12_put_L129 C hret hdd a0 a3 a4 q368.1.1 (((4 : Int32) * a1) + a2)) e371 ?_
                refine x_aload_n (v := a0) C dX12_put_196 rfl ?_
                obtain ⟨v372, e373, hf⟩ := j_bind hf
                refine x_get C dX12_put_197 (jgR_some e373) fg_X12_221 ?_
                refine x_iload (v := ((4 : Int32) * a1) + a2) C dX12_put_200 rfl ?_
                refine x_aload_n (v := a0) C dX12_put_202 rfl ?_
                obtain ⟨v374, e375, hf⟩ := j_bind hf
                refine x_get C dX12_put_203 (jgR_some e375) fg_X12_221 ?_
                refine x_iload (v := ((4 : Int32) * a1) + a2) C dX12_put_206 rfl ?_
                obtain ⟨v376, e377, hf⟩ := j_bind hf
                refine x_bald C dX12_put_208 e377 ?_
                refine x_if_ne (tgt := 217) C dX12_put_209 (by decide) (fun c439 => ?_) (fun c439 => ?_)
                · have hf := j_ifn hf c439
                  refine x_iconst C dX12_put_217 ki_1 ?_
                  refine x_goto (tgt := 222) C dX12_put_218 (by decide) ?_
                  obtain ⟨h378, e379, hf⟩ := j_bind hf
                  refine x_bast C dX12_put_222 e379 ?_
                  refine x_iload (v := q368.1.1) C dX12_put_223 rfl ?_
                  obtain ⟨u380, e381, hf⟩ := j_bind hf
                  obtain rfl := j_inj hf
                  exact x_zret C hret (jzb_some e381) dX12_put_225
                · have hf := j_ifp hf c439
                  refine x_iload (v := q368.1.1) C dX12_put_212 rfl ?_
                  refine x_if_eq (tgt := 221) C dX12_put_214 (by decide) (fun c440 => ?_) (fun c440 => ?_)
                  · have hf := j_ifp hf c440
                    refine x_iconst C dX12_put_221 ki_0 ?_
                    obtain ⟨h382, e383, hf⟩ := j_bind hf
                    refine x_bast C dX12_put_222 e383 ?_
                    refine x_iload (v := q368.1.1) C dX12_put_223 rfl ?_
                    obtain ⟨u384, e385, hf⟩ := j_bind hf
                    obtain rfl := j_inj hf
                    exact x_zret C hret (jzb_some e385) dX12_put_225
                  · have hf := j_ifn hf c440
                    refine x_iconst C dX12_put_217 ki_1 ?_
                    refine x_goto (tgt := 222) C dX12_put_218 (by decide) ?_
                    obtain ⟨h386, e387, hf⟩ := j_bind hf
                    refine x_bast C dX12_put_222 e387 ?_
                    refine x_iload (v := q368.1.1) C dX12_put_223 rfl ?_
                    obtain ⟨u388, e389, hf⟩ := j_bind hf
                    obtain rfl := j_inj hf
                    exact x_zret C hret (jzb_some e389) dX12_put_225
    · have hf := j_ifp hf c393
      refine x_iconst C dX12_put_23 ki_0 ?_
      obtain rfl := j_inj hf
      exact x_zret C hret (Or.inl rfl) dX12_put_24
