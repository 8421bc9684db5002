set_option maxHeartbeats 4000000 in
set_option maxRecDepth 100000 in
theorem s_X11_hecke_L37 {p : Program} {l : Launch} {e : Env} {R : Room} {s : State} {m : MethodId} {args : Array Value} {below : List Frame} {meth : Method} {c : Code} {E : JE} {h0 hF : JH} {rF : Option Value} {d : Nat} (C : j_C p s m args meth c R E cX11_hecke 6 RX11 h0 hF d) (hret : meth.sig.returnType = (some .boolean)) (hdd : 7 ≤ d) (a0 : Nat) (a2 : Int32) (a3 : Nat) (a4 : Nat) (z : Int32) (h : JH) (r : Int32 ⊕ Int32) (h1 : JH) (hf : f_X11_hecke_L37 a0 a2 a3 a4 z h = some (r, h1)) (hk : Sum.elim (fun z => Xw p l e R s m args below meth c E 6 h0 rF hF 37 [(0, .ref a0), (2, .int a2), (3, .ref a3), (4, .ref a4), (5, .int z)] [] h1) (fun t => Xw p l e R s m args below meth c E 6 h0 rF hF 75 [(0, .ref a0), (2, .int a2), (3, .ref a3), (4, .ref a4), (5, .int t)] [] h1) r) : Xw p l e R s m args below meth c E 6 h0 rF hF 37 [(0, .ref a0), (2, .int a2), (3, .ref a3), (4, .ref a4), (5, .int z)] [] h := by
  unfold f_X11_hecke_L37 at hf
  refine x_iload (v := z) C dX11_hecke_37 rfl ?_
  refine x_aload (v := a4) C dX11_hecke_39 rfl ?_
  obtain ⟨v13, e14, hf⟩ := j_bind hf
  refine x_get C dX11_hecke_41 (jgI_some e14) fg_X11_227 ?_
  refine x_icmp_ge (tgt := 75) C dX11_hecke_44 (by decide) (fun c27 => ?_) (fun c27 => ?_)
  · have hf := j_ifp hf c27
    obtain ⟨rfl, rfl⟩ := j_inj2 hf
    exact x_locr hk rfl
  · have hf := j_ifn hf c27
    refine x_aload_n (v := a0) C dX11_hecke_47 rfl ?_
    obtain ⟨v15, e16, hf⟩ := j_bind hf
    refine x_get C dX11_hecke_48 (jgR_some e16) fg_X11_66 ?_
    obtain ⟨v17, e18, hf⟩ := j_bind hf
    refine x_get C dX11_hecke_51 (jgR_some e18) fg_X11_139 ?_
    refine x_iload (v := z) C dX11_hecke_54 rfl ?_
    refine x_aload (v := a4) C dX11_hecke_56 rfl ?_
    refine x_aload_n (v := a3) C dX11_hecke_58 rfl ?_
    obtain ⟨v19, e20, hf⟩ := j_bind hf
    refine x_get C dX11_hecke_59 (jgR_some e20) fg_X11_139 ?_
    refine x_iload_n (v := a2) C dX11_hecke_62 rfl ?_
    refine x_iload (v := z) C dX11_hecke_63 rfl ?_
    obtain ⟨u25, e26, hf⟩ := j_bind hf
    obtain ⟨q21, e22, hf⟩ := j_bind hf
    refine x_callV (As := [.ref v19, .int a2, .int z]) (rest := [.int z, .ref v17]) C dX11_hecke_65 (m_X7_heckeAt (l := l) (E := E) (d := d - 1) (by omega) e22) km_X7_heckeAt lk_X11_230 kv_X7_heckeAt (ci := 5) rfl e26 rfl (by omega) (Nat.le_of_ble_eq_true rfl) (j_le_of (q_X7_heckeAt e22)) (Or.inr (q_X7_heckeAt e22)) ?_
    obtain ⟨h23, e24, hf⟩ := j_bind hf
    refine x_iast C dX11_hecke_68 e24 ?_
    refine x_iinc (v := z) C dX11_hecke_69 rfl ki_1 (by decide) ?_
    refine x_goto (tgt := 37) C dX11_hecke_72 (by decide) ?_
    obtain ⟨rfl, rfl⟩ := j_inj2 hf
    exact x_locr hk rfl
set_option maxHeartbeats 4000000 in
set_option maxRecDepth 100000 in
theorem m_X11_hecke {l : Launch} {E : JE} {d : Nat} (hdd : 7 ≤ d) {a0 : Nat} {a1 : Int32} {a2 : Int32} {h : JH} {q : Int32 × JH} (hf : f_X11_hecke a0 a1 a2 h = some q) : Con l E d yX11_hecke cX11_hecke 6 (some .boolean) [.ref a0, .int a1, .int a2] h (some (.int q.1)) q.2 := by
  refine j_start rfl (Nat.le_of_ble_eq_true rfl) ?_
  intro p e s m args below meth c C hret hnm
  refine x_loc [(0, .ref a0), (1, .int a1), (2, .int a2)] rfl ?_
  unfold f_X11_hecke at hf
  refine x_iload_n (v := a1) C dX11_hecke_0 rfl ?_
  obtain ⟨q1, e2, hf⟩ := j_bind hf
  refine x_callS (As := [.int a1]) (rest := []) C dX11_hecke_1 (m_X11_isRegister (l := l) (E := E) (d := d - 1) (by omega) e2) km_X11_isRegister lk_X11_143 ks_X11_isRegister rfl (by omega) (Nat.le_of_ble_eq_true rfl) (j_le_of (q_X11_isRegister e2)) (Or.inr (q_X11_isRegister e2)) ?_
  refine x_if_eq (tgt := 14) C dX11_hecke_4 (by decide) (fun c44 => ?_) (fun c44 => ?_)
  · have hf := j_ifp hf c44
    refine x_iconst C dX11_hecke_14 ki_0 ?_
    obtain rfl := j_inj hf
    exact x_zret C hret (Or.inl rfl) dX11_hecke_15
  · have hf := j_ifn hf c44
    refine x_iload_n (v := a2) C dX11_hecke_7 rfl ?_
    obtain ⟨q3, e4, hf⟩ := j_bind hf
    refine x_callS (As := [.int a2]) (rest := []) C dX11_hecke_8 (m_X11_isHecke (l := l) (E := E) (d := d - 1) (by omega) e4) km_X11_isHecke lk_X11_220 ks_X11_isHecke rfl (by omega) (Nat.le_of_ble_eq_true rfl) (j_le_of (q_X11_isHecke e4)) (Or.inr (q_X11_isHecke e4)) ?_
    refine x_if_ne (tgt := 16) C dX11_hecke_11 (by decide) (fun c45 => ?_) (fun c45 => ?_)
    · have hf := j_ifn hf c45
      refine x_aload_n (v := a0) C dX11_hecke_16 rfl ?_
      obtain ⟨v5, e6, hf⟩ := j_bind hf
      refine x_get C dX11_hecke_17 (jgR_some e6) fg_X11_25 ?_
      refine x_iload_n (v := a1) C dX11_hecke_20 rfl ?_
      obtain ⟨v7, e8, hf⟩ := j_bind hf
      refine x_aald C dX11_hecke_21 e8 ?_
      refine x_astore_n C dX11_hecke_22 (by decide) ?_
      refine x_aload_n (v := a0) C dX11_hecke_23 rfl ?_
      refine x_aload_n (v := v7) C dX11_hecke_24 rfl ?_
      obtain ⟨v9, e10, hf⟩ := j_bind hf
      refine x_get C dX11_hecke_25 (jgI_some e10) fg_X11_132 ?_
      refine x_iload_n (v := a2) C dX11_hecke_28 rfl ?_
      obtain ⟨u42, e43, hf⟩ := j_bind hf
      obtain ⟨q11, e12, hf⟩ := j_bind hf
      have hle : j_le q11.2 q.2 := by
        obtain ⟨q28, e29, hf⟩ := j_bind hf
        refine j_le_trans (j_le_of ((jloop_eq (fun _ _ _ _ q => q_X11_hecke_L37 q) e29))) ?_
        obtain ⟨v30, e31, hf⟩ := j_bind hf
        obtain ⟨u40, e41, hf⟩ := j_bind hf
        obtain ⟨q32, e33, hf⟩ := j_bind hf
        refine j_le_trans (j_le_of ((q_X7_complete e33))) ?_
        obtain ⟨v34, e35, hf⟩ := j_bind hf
        obtain ⟨u38, e39, hf⟩ := j_bind hf
        obtain ⟨q36, e37, hf⟩ := j_bind hf
        refine j_le_trans (j_le_of ((q_X2_copyFrom e37))) ?_
        obtain rfl := j_inj hf
        exact j_le_refl _
      refine x_callV (As := [.int v9, .int a2]) (rest := []) C dX11_hecke_29 (m_X11_readyForHecke (l := l) (E := E) (d := d - 1) (by omega) e12) km_X11_readyForHecke lk_X11_223 kv_X11_readyForHecke (ci := 8) rfl e43 rfl (by omega) (Nat.le_of_ble_eq_true rfl) (n_X11_readyForHecke e12) (Or.inl hle) ?_
      refine x_astore C dX11_hecke_32 (by decide) ?_
      refine x_iconst C dX11_hecke_34 ki_0 ?_
      refine x_istore C dX11_hecke_35 (by decide) ?_
      obtain ⟨q28, e29, hf⟩ := j_bind hf
      refine x_loc [(0, .ref a0), (2, .int a2), (3, .ref v7), (4, .ref q11.1), (5, .int (0 : Int32))] rfl ?_
      refine x_loop (s_X11_hecke_L37 C hret hdd a0 a2 v7 q11.1) e29 ?_
      refine x_aload (v := q11.1) C dX11_hecke_75 rfl ?_
      refine x_aload_n (v := a0) C dX11_hecke_77 rfl ?_
      obtain ⟨v30, e31, hf⟩ := j_bind hf
      refine x_get C dX11_hecke_78 (jgR_some e31) fg_X11_66 ?_
      obtain ⟨u40, e41, hf⟩ := j_bind hf
      obtain ⟨q32, e33, hf⟩ := j_bind hf
      refine x_callV (As := [.ref v30]) (rest := []) C dX11_hecke_81 (m_X7_complete (l := l) (E := E) (d := d - 1) (by omega) e33) km_X7_complete lk_X11_234 kv_X7_complete (ci := 5) rfl e41 rfl (by omega) (Nat.le_of_ble_eq_true rfl) (j_le_of (q_X7_complete e33)) (Or.inr (q_X7_complete e33)) ?_
      refine x_aload_n (v := v7) C dX11_hecke_84 rfl ?_
      refine x_aload_n (v := a0) C dX11_hecke_85 rfl ?_
      obtain ⟨v34, e35, hf⟩ := j_bind hf
      refine x_get C dX11_hecke_86 (jgR_some e35) fg_X11_66 ?_
      obtain ⟨u38, e39, hf⟩ := j_bind hf
      obtain ⟨q36, e37, hf⟩ := j_bind hf
      refine x_callV (As := [.ref v34]) (rest := []) C dX11_hecke_89 (m_X2_copyFrom (l := l) (E := E) (d := d - 1) (by omega) e37) km_X2_copyFrom lk_X11_111 kv_X2_copyFrom (ci := 1) rfl e39 rfl (by omega) (Nat.le_of_ble_eq_true rfl) (j_le_of (q_X2_copyFrom e37)) (Or.inr (q_X2_copyFrom e37)) ?_
      refine x_iconst C dX11_hecke_92 ki_1 ?_
      obtain rfl := j_inj hf
      exact x_zret C hret (Or.inr rfl) dX11_hecke_93
    · have hf := j_ifp hf c45
      refine x_iconst C dX11_hecke_14 ki_0 ?_
      obtain rfl := j_inj hf
      exact x_zret C hret (Or.inl rfl) dX11_hecke_15
set_option maxHeartbeats 4000000 in
set_option maxRecDepth 100000 in
theorem s_X11_multiplies_L86 {p : Program} {l : Launch} {e : Env} {R : Room} {s : State} {m : MethodId} {args : Array Value} {below : List Frame} {meth : Method} {c : Code} {E : JE} {h0 hF : JH} {rF : Option Value} {d : Nat} (C : j_C p s m args meth c R E cX11_multiplies 8 RX11 h0 hF d) (hret : meth.sig.returnType = (some .int)) (hdd : 7 ≤ d) (a0 : Nat) (a2 : Int32) (a3 : Nat) (a5 : Nat) (a6 : Int32) (z : Int32) (h : JH) (r : Int32 ⊕ (Int32 ⊕ Int32)) (h1 : JH) (hf : f_X11_multiplies_L86 a0 a2 a3 a5 a6 z h = some (r, h1)) (hk : Sum.elim (fun z => Xw p l e R s m args below meth c E 8 h0 rF hF 86 [(0, .ref a0), (2, .int a2), (3, .ref a3), (5, .ref a5), (6, .int a6), (7, .int z)] [] h1) (fun t => Sum.elim (fun rr => some (.int rr) = rF ∧ h1 = hF) (fun t => Xw p l e R s m args below meth c E 8 h0 rF hF 133 [(0, .ref a0), (2, .int a2), (3, .ref a3), (5, .ref a5), (6, .int a6), (7, .int t)] [] h1) t) r) : Xw p l e R s m args below meth c E 8 h0 rF hF 86 [(0, .ref a0), (2, .int a2), (3, .ref a3), (5, .ref a5), (6, .int a6), (7, .int z)] [] h := by
  unfold f_X11_multiplies_L86 at hf
  refine x_iload (v := z) C dX11_multiplies_86 rfl ?_
  refine x_aload (v := a5) C dX11_multiplies_88 rfl ?_
  obtain ⟨v33, e34, hf⟩ := j_bind hf
  refine x_get C dX11_multiplies_90 (jgI_some e34) fg_X11_227 ?_
  refine x_icmp_ge (tgt := 133) C dX11_multiplies_93 (by decide) (fun c45 => ?_) (fun c45 => ?_)
  · have hf := j_ifp hf c45
    obtain ⟨rfl, rfl⟩ := j_inj2 hf
    exact x_locr hk rfl
  · have hf := j_ifn hf c45
    refine x_aload (v := a5) C dX11_multiplies_96 rfl ?_
    refine x_aload_n (v := a3) C dX11_multiplies_98 rfl ?_
    refine x_iload_n (v := a2) C dX11_multiplies_99 rfl ?_
    refine x_iload (v := z) C dX11_multiplies_100 rfl ?_
    obtain ⟨u43, e44, hf⟩ := j_bind hf
    obtain ⟨q35, e36, hf⟩ := j_bind hf
    refine x_callV (As := [.ref a3, .int a2, .int z]) (rest := []) C dX11_multiplies_102 (m_X7_heckeAt (l := l) (E := E) (d := d - 1) (by omega) e36) km_X7_heckeAt lk_X11_230 kv_X7_heckeAt (ci := 5) rfl e44 rfl (by omega) (Nat.le_of_ble_eq_true rfl) (j_le_of (q_X7_heckeAt e36)) (Or.inr (q_X7_heckeAt e36)) ?_
    refine x_iload (v := a6) C dX11_multiplies_105 rfl ?_
    refine x_i2l C dX11_multiplies_107 ?_
    refine x_aload_n (v := a3) C dX11_multiplies_108 rfl ?_
    refine x_iload (v := z) C dX11_multiplies_109 rfl ?_
    obtain ⟨v37, e38, hf⟩ := j_bind hf
    refine x_iald C dX11_multiplies_111 e38 ?_
    refine x_i2l C dX11_multiplies_112 ?_
    refine x_lmul C dX11_multiplies_113 ?_
    refine x_aload_n (v := a0) C dX11_multiplies_114 rfl ?_
    obtain ⟨v39, e40, hf⟩ := j_bind hf
    refine x_get C dX11_multiplies_115 (jgI_some e40) fg_X11_13 ?_
    obtain ⟨q41, e42, hf⟩ := j_bind hf
    refine x_callS (As := [.long (a6.toInt64 * v37.toInt64), .int v39]) (rest := [.int q35.1]) C dX11_multiplies_118 (m_X4_of (l := l) (E := E) (d := d - 1) (by omega) e42) km_X4_of lk_X11_206 ks_X4_of rfl (by omega) (Nat.le_of_ble_eq_true rfl) (j_le_of (q_X4_of e42)) (Or.inr (q_X4_of e42)) ?_
    refine x_icmp_eq (tgt := 127) C dX11_multiplies_121 (by decide) (fun c46 => ?_) (fun c46 => ?_)
    · have hf := j_ifp hf c46
      refine x_iinc (v := z) C dX11_multiplies_127 rfl ki_1 (by decide) ?_
      refine x_goto (tgt := 86) C dX11_multiplies_130 (by decide) ?_
      obtain ⟨rfl, rfl⟩ := j_inj2 hf
      exact x_locr hk rfl
    · have hf := j_ifn hf c46
      refine x_bipush C dX11_multiplies_124 kb_m2 ?_
      obtain ⟨rfl, rfl⟩ := j_inj2 hf
      obtain ⟨rfl, rfl⟩ := hk
      exact x_iret C hret dX11_multiplies_126
set_option maxHeartbeats 4000000 in
set_option maxRecDepth 100000 in
theorem m_X11_multiplies {l : Launch} {E : JE} {d : Nat} (hdd : 7 ≤ d) {a0 : Nat} {a1 : Int32} {a2 : Int32} {h : JH} {q : Int32 × JH} (hf : f_X11_multiplies a0 a1 a2 h = some q) : Con l E d yX11_multiplies cX11_multiplies 8 (some .int) [.ref a0, .int a1, .int a2] h (some (.int q.1)) q.2 := by
  refine j_start rfl (Nat.le_of_ble_eq_true rfl) ?_
  intro p e s m args below meth c C hret hnm
  refine x_loc [(0, .ref a0), (1, .int a1), (2, .int a2)] rfl ?_
  unfold f_X11_multiplies at hf
  refine x_iload_n (v := a1) C dX11_multiplies_0 rfl ?_
  obtain ⟨q1, e2, hf⟩ := j_bind hf
  refine x_callS (As := [.int a1]) (rest := []) C dX11_multiplies_1 (m_X11_isRegister (l := l) (E := E) (d := d - 1) (by omega) e2) km_X11_isRegister lk_X11_143 ks_X11_isRegister rfl (by omega) (Nat.le_of_ble_eq_true rfl) (j_le_of (q_X11_isRegister e2)) (Or.inr (q_X11_isRegister e2)) ?_
  refine x_if_eq (tgt := 14) C dX11_multiplies_4 (by decide) (fun c58 => ?_) (fun c58 => ?_)
  · have hf := j_ifp hf c58
    refine x_iconst C dX11_multiplies_14 ki_m1 ?_
    obtain rfl := j_inj hf
    exact x_iret C hret dX11_multiplies_15
  · have hf := j_ifn hf c58
    refine x_iload_n (v := a2) C dX11_multiplies_7 rfl ?_
    obtain ⟨q3, e4, hf⟩ := j_bind hf
    refine x_callS (As := [.int a2]) (rest := []) C dX11_multiplies_8 (m_X11_isHecke (l := l) (E := E) (d := d - 1) (by omega) e4) km_X11_isHecke lk_X11_220 ks_X11_isHecke rfl (by omega) (Nat.le_of_ble_eq_true rfl) (j_le_of (q_X11_isHecke e4)) (Or.inr (q_X11_isHecke e4)) ?_
    refine x_if_ne (tgt := 16) C dX11_multiplies_11 (by decide) (fun c59 => ?_) (fun c59 => ?_)
    · have hf := j_ifn hf c59
      refine x_aload_n (v := a0) C dX11_multiplies_16 rfl ?_
      obtain ⟨v5, e6, hf⟩ := j_bind hf
      refine x_get C dX11_multiplies_17 (jgR_some e6) fg_X11_25 ?_
      refine x_iload_n (v := a1) C dX11_multiplies_20 rfl ?_
      obtain ⟨v7, e8, hf⟩ := j_bind hf
      refine x_aald C dX11_multiplies_21 e8 ?_
      obtain ⟨v9, e10, hf⟩ := j_bind hf
      refine x_get C dX11_multiplies_22 (jgR_some e10) fg_X11_139 ?_
      refine x_astore_n C dX11_multiplies_25 (by decide) ?_
      refine x_aload_n (v := a0) C dX11_multiplies_26 rfl ?_
      obtain ⟨v11, e12, hf⟩ := j_bind hf
      refine x_get C dX11_multiplies_27 (jgR_some e12) fg_X11_25 ?_
      refine x_iload_n (v := a1) C dX11_multiplies_30 rfl ?_
      obtain ⟨v13, e14, hf⟩ := j_bind hf
      refine x_aald C dX11_multiplies_31 e14 ?_
      obtain ⟨u55, e56, hf⟩ := j_bind hf
      obtain ⟨q15, e16, hf⟩ := j_bind hf
      refine x_callV (As := []) (rest := []) C dX11_multiplies_32 (m_X2_firstNotZero (l := l) (E := E) (d := d - 1) (by omega) e16) km_X2_firstNotZero lk_X11_237 kv_X2_firstNotZero (ci := 1) rfl e56 rfl (by omega) (Nat.le_of_ble_eq_true rfl) (j_le_of (q_X2_firstNotZero e16)) (Or.inr (q_X2_firstNotZero e16)) ?_
      refine x_istore C dX11_multiplies_35 (by decide) ?_
      refine x_iload (v := q15.1) C dX11_multiplies_37 rfl ?_
      refine x_if_ge (tgt := 45) C dX11_multiplies_39 (by decide) (fun c60 => ?_) (fun c60 => ?_)
      · have hf := j_ifp hf c60
        refine x_aload_n (v := a0) C dX11_multiplies_45 rfl ?_
        refine x_aload_n (v := a0) C dX11_multiplies_46 rfl ?_
        obtain ⟨v17, e18, hf⟩ := j_bind hf
        refine x_get C dX11_multiplies_47 (jgR_some e18) fg_X11_25 ?_
        refine x_iload_n (v := a1) C dX11_multiplies_50 rfl ?_
        obtain ⟨v19, e20, hf⟩ := j_bind hf
        refine x_aald C dX11_multiplies_51 e20 ?_
        obtain ⟨v21, e22, hf⟩ := j_bind hf
        refine x_get C dX11_multiplies_52 (jgI_some e22) fg_X11_132 ?_
        refine x_iload_n (v := a2) C dX11_multiplies_55 rfl ?_
        obtain ⟨u53, e54, hf⟩ := j_bind hf
        obtain ⟨q23, e24, hf⟩ := j_bind hf
        have hle : j_le q23.2 q.2 := by
          obtain ⟨u51, e52, hf⟩ := j_bind hf
          obtain ⟨q25, e26, hf⟩ := j_bind hf
          refine j_le_trans (j_le_of ((q_X7_heckeAt e26))) ?_
          obtain ⟨v27, e28, hf⟩ := j_bind hf
          obtain ⟨v29, e30, hf⟩ := j_bind hf
          obtain ⟨q31, e32, hf⟩ := j_bind hf
          refine j_le_trans (j_le_of ((q_X4_divide e32))) ?_
          obtain ⟨q47, e48, hf⟩ := j_bind hf
          refine j_le_trans (j_le_of ((jloop_eq (fun _ _ _ _ q => q_X11_multiplies_L86 q) e48))) ?_
          cases y61 : q47.1 with
          | inl r50 =>
            rw [y61] at hf
            have hf := j_eliml hf
            obtain rfl := j_inj hf
            exact j_le_refl _
          | inr t49 =>
            rw [y61] at hf
            have hf := j_elimr hf
            obtain rfl := j_inj hf
            exact j_le_refl _
        refine x_callV (As := [.int v21, .int a2]) (rest := []) C dX11_multiplies_56 (m_X11_readyForHecke (l := l) (E := E) (d := d - 1) (by omega) e24) km_X11_readyForHecke lk_X11_223 kv_X11_readyForHecke (ci := 8) rfl e54 rfl (by omega) (Nat.le_of_ble_eq_true rfl) (n_X11_readyForHecke e24) (Or.inl hle) ?_
        refine x_astore C dX11_multiplies_59 (by decide) ?_
        refine x_aload (v := q23.1) C dX11_multiplies_61 rfl ?_
        refine x_aload_n (v := v9) C dX11_multiplies_63 rfl ?_
        refine x_iload_n (v := a2) C dX11_multiplies_64 rfl ?_
        refine x_iload (v := q15.1) C dX11_multiplies_65 rfl ?_
        obtain ⟨u51, e52, hf⟩ := j_bind hf
        obtain ⟨q25, e26, hf⟩ := j_bind hf
        refine x_callV (As := [.ref v9, .int a2, .int q15.1]) (rest := []) C dX11_multiplies_67 (m_X7_heckeAt (l := l) (E := E) (d := d - 1) (by omega) e26) km_X7_heckeAt lk_X11_230 kv_X7_heckeAt (ci := 5) rfl e52 rfl (by omega) (Nat.le_of_ble_eq_true rfl) (j_le_of (q_X7_heckeAt e26)) (Or.inr (q_X7_heckeAt e26)) ?_
        refine x_aload_n (v := v9) C dX11_multiplies_70 rfl ?_
        refine x_iload (v := q15.1) C dX11_multiplies_71 rfl ?_
        obtain ⟨v27, e28, hf⟩ := j_bind hf
        refine x_iald C dX11_multiplies_73 e28 ?_
        refine x_aload_n (v := a0) C dX11_multiplies_74 rfl ?_
        obtain ⟨v29, e30, hf⟩ := j_bind hf
        refine x_get C dX11_multiplies_75 (jgI_some e30) fg_X11_13 ?_
        obtain ⟨q31, e32, hf⟩ := j_bind hf
        refine x_callS (As := [.int q25.1, .int v27, .int v29]) (rest := []) C dX11_multiplies_78 (m_X4_divide (l := l) (E := E) (d := d - 1) (by omega) e32) km_X4_divide lk_X11_240 ks_X4_divide rfl (by omega) (Nat.le_of_ble_eq_true rfl) (j_le_of (q_X4_divide e32)) (Or.inr (q_X4_divide e32)) ?_
        refine x_istore C dX11_multiplies_81 (by decide) ?_
        refine x_iconst C dX11_multiplies_83 ki_0 ?_
        refine x_istore C dX11_multiplies_84 (by decide) ?_
        obtain ⟨q47, e48, hf⟩ := j_bind hf
        refine x_loc [(0, .ref a0), (2, .int a2), (3, .ref v9), (5, .ref q23.1), (6, .int q31.1), (7, .int (0 : Int32))] rfl ?_
        refine x_loop (s_X11_multiplies_L86 C hret hdd a0 a2 v9 q23.1 q31.1) e48 ?_
        cases y62 : q47.1 with
        | inl r50 =>
          rw [y62] at hf
          have hf := j_eliml hf
          obtain rfl := j_inj hf
          exact ⟨rfl, rfl⟩
        | inr t49 =>
          rw [y62] at hf
          have hf := j_elimr hf
          refine j_elimG ?_
          refine x_iload (v := q31.1) C dX11_multiplies_133 rfl ?_
          obtain rfl := j_inj hf
          exact x_iret C hret dX11_multiplies_135
      · have hf := j_ifn hf c60
        refine x_bipush C dX11_multiplies_42 kb_m2 ?_
        obtain rfl := j_inj hf
        exact x_iret C hret dX11_multiplies_44
    · have hf := j_ifp hf c59
      refine x_iconst C dX11_multiplies_14 ki_m1 ?_
      obtain rfl := j_inj hf
      exact x_iret C hret dX11_multiplies_15
set_option maxHeartbeats 4000000 in
set_option maxRecDepth 100000 in
theorem s_X11_partingPlace_L2 {p : Program} {l : Launch} {e : Env} {R : Room} {s : State} {m : MethodId} {args : Array Value} {below : List Frame} {meth : Method} {c : Code} {E : JE} {h0 hF : JH} {rF : Option Value} {d : Nat} (C : j_C p s m args meth c R E cX11_partingPlace 3 RX11 h0 hF d) (hret : meth.sig.returnType = (some .int)) (hdd : 0 ≤ d) (a0 : Nat) (a1 : Nat) (z : Int32) (h : JH) (r : Int32 ⊕ (Int32 ⊕ Int32)) (h1 : JH) (hf : f_X11_partingPlace_L2 a0 a1 z h = some (r, h1)) (hk : Sum.elim (fun z => Xw p l e R s m args below meth c E 3 h0 rF hF 2 [(0, .ref a0), (1, .ref a1), (2, .int z)] [] h1) (fun t => Sum.elim (fun rr => some (.int rr) = rF ∧ h1 = hF) (fun t => Xw p l e R s m args below meth c E 3 h0 rF hF 31 [(0, .ref a0), (1, .ref a1), (2, .int t)] [] h1) t) r) : Xw p l e R s m args below meth c E 3 h0 rF hF 2 [(0, .ref a0), (1, .ref a1), (2, .int z)] [] h := by
  unfold f_X11_partingPlace_L2 at hf
  refine x_iload_n (v := z) C dX11_partingPlace_2 rfl ?_
  refine x_bipush C dX11_partingPlace_3 kb_6 ?_
  refine x_icmp_ge (tgt := 31) C dX11_partingPlace_5 (by decide) (fun c9 => ?_) (fun c9 => ?_)
  · have hf := j_ifp hf c9
    obtain ⟨rfl, rfl⟩ := j_inj2 hf
    exact x_locr hk rfl
  · have hf := j_ifn hf c9
    refine x_aload_n (v := a0) C dX11_partingPlace_8 rfl ?_
    obtain ⟨v1, e2, hf⟩ := j_bind hf
    refine x_get C dX11_partingPlace_9 (jgR_some e2) fg_X11_139 ?_
    refine x_iload_n (v := z) C dX11_partingPlace_12 rfl ?_
    obtain ⟨v3, e4, hf⟩ := j_bind hf
    refine x_iald C dX11_partingPlace_13 e4 ?_
    refine x_aload_n (v := a1) C dX11_partingPlace_14 rfl ?_
    obtain ⟨v5, e6, hf⟩ := j_bind hf
    refine x_get C dX11_partingPlace_15 (jgR_some e6) fg_X11_139 ?_
    refine x_iload_n (v := z) C dX11_partingPlace_18 rfl ?_
    obtain ⟨v7, e8, hf⟩ := j_bind hf
    refine x_iald C dX11_partingPlace_19 e8 ?_
    refine x_icmp_eq (tgt := 25) C dX11_partingPlace_20 (by decide) (fun c10 => ?_) (fun c10 => ?_)
    · have hf := j_ifp hf c10
      refine x_iinc (v := z) C dX11_partingPlace_25 rfl ki_1 (by decide) ?_
      refine x_goto (tgt := 2) C dX11_partingPlace_28 (by decide) ?_
      obtain ⟨rfl, rfl⟩ := j_inj2 hf
      exact x_locr hk rfl
    · have hf := j_ifn hf c10
      refine x_iload_n (v := z) C dX11_partingPlace_23 rfl ?_
      obtain ⟨rfl, rfl⟩ := j_inj2 hf
      obtain ⟨rfl, rfl⟩ := hk
      exact x_iret C hret dX11_partingPlace_24
set_option maxHeartbeats 4000000 in
set_option maxRecDepth 100000 in
theorem m_X11_partingPlace {l : Launch} {E : JE} {d : Nat} (hdd : 0 ≤ d) {a0 : Nat} {a1 : Nat} {h : JH} {q : Int32 × JH} (hf : f_X11_partingPlace a0 a1 h = some q) : Con l E d yX11_partingPlace cX11_partingPlace 3 (some .int) [.ref a0, .ref a1] h (some (.int q.1)) q.2 := by
  refine j_start rfl (Nat.le_of_ble_eq_true rfl) ?_
  intro p e s m args below meth c C hret hnm
  refine x_loc [(0, .ref a0), (1, .ref a1)] rfl ?_
  unfold f_X11_partingPlace at hf
  refine x_iconst C dX11_partingPlace_0 ki_0 ?_
  refine x_istore_n C dX11_partingPlace_1 (by decide) ?_
  obtain ⟨q11, e12, hf⟩ := j_bind hf
  refine x_loc [(0, .ref a0), (1, .ref a1), (2, .int (0 : Int32))] rfl ?_
  refine x_loop (s_X11_partingPlace_L2 C hret hdd a0 a1) e12 ?_
  cases y16 : q11.1 with
  | inl r14 =>
    rw [y16] at hf
    have hf := j_eliml hf
    obtain rfl := j_inj hf
    exact ⟨rfl, rfl⟩
  | inr t13 =>
    rw [y16] at hf
    have hf := j_elimr hf
    refine j_elimG ?_
    refine x_bipush C dX11_partingPlace_31 kb_m2 ?_
    obtain rfl := j_inj hf
    exact x_iret C hret dX11_partingPlace_33
set_option maxHeartbeats 4000000 in
set_option maxRecDepth 100000 in
theorem m_X11_alike {l : Launch} {E : JE} {d : Nat} (hdd : 1 ≤ d) {a0 : Nat} {a1 : Int32} {a2 : Int32} {a3 : Int32} {h : JH} {q : Int32 × JH} (hf : f_X11_alike a0 a1 a2 a3 h = some q) : Con l E d yX11_alike cX11_alike 5 (some .int) [.ref a0, .int a1, .int a2, .int a3] h (some (.int q.1)) q.2 := by
  refine j_start rfl (Nat.le_of_ble_eq_true rfl) ?_
  intro p e s m args below meth c C hret hnm
  refine x_loc [(0, .ref a0), (1, .int a1), (2, .int a2), (3, .int a3)] rfl ?_
  unfold f_X11_alike at hf
  refine x_iload_n (v := a1) C dX11_alike_0 rfl ?_
  obtain ⟨q1, e2, hf⟩ := j_bind hf
  refine x_callS (As := [.int a1]) (rest := []) C dX11_alike_1 (m_X11_isRegister (l := l) (E := E) (d := d - 1) (by omega) e2) km_X11_isRegister lk_X11_143 ks_X11_isRegister rfl (by omega) (Nat.le_of_ble_eq_true rfl) (j_le_of (q_X11_isRegister e2)) (Or.inr (q_X11_isRegister e2)) ?_
  refine x_if_eq (tgt := 25) C dX11_alike_4 (by decide) (fun c27 => ?_) (fun c27 => ?_)
  · have hf := j_ifp hf c27
    refine x_iconst C dX11_alike_25 ki_m1 ?_
    obtain rfl := j_inj hf
    exact x_iret C hret dX11_alike_26
  · have hf := j_ifn hf c27
    refine x_iload_n (v := a2) C dX11_alike_7 rfl ?_
    obtain ⟨q3, e4, hf⟩ := j_bind hf
    refine x_callS (As := [.int a2]) (rest := []) C dX11_alike_8 (m_X11_isRegister (l := l) (E := E) (d := d - 1) (by omega) e4) km_X11_isRegister lk_X11_143 ks_X11_isRegister rfl (by omega) (Nat.le_of_ble_eq_true rfl) (j_le_of (q_X11_isRegister e4)) (Or.inr (q_X11_isRegister e4)) ?_
    refine x_if_eq (tgt := 25) C dX11_alike_11 (by decide) (fun c28 => ?_) (fun c28 => ?_)
    · have hf := j_ifp hf c28
      refine x_iconst C dX11_alike_25 ki_m1 ?_
      obtain rfl := j_inj hf
      exact x_iret C hret dX11_alike_26
    · have hf := j_ifn hf c28
      refine x_iload_n (v := a3) C dX11_alike_14 rfl ?_
      refine x_if_lt (tgt := 25) C dX11_alike_15 (by decide) (fun c29 => ?_) (fun c29 => ?_)
      · have hf := j_ifp hf c29
        refine x_iconst C dX11_alike_25 ki_m1 ?_
        obtain rfl := j_inj hf
        exact x_iret C hret dX11_alike_26
      · have hf := j_ifn hf c29
        refine x_iload_n (v := a3) C dX11_alike_18 rfl ?_
        refine x_sipush C dX11_alike_19 ks_180 ?_
        refine x_icmp_le (tgt := 27) C dX11_alike_22 (by decide) (fun c30 => ?_) (fun c30 => ?_)
        · have hf := j_ifp hf c30
          refine x_aload_n (v := a0) C dX11_alike_27 rfl ?_
          obtain ⟨v5, e6, hf⟩ := j_bind hf
          refine x_get C dX11_alike_28 (jgR_some e6) fg_X11_25 ?_
          refine x_iload_n (v := a1) C dX11_alike_31 rfl ?_
          obtain ⟨v7, e8, hf⟩ := j_bind hf
          refine x_aald C dX11_alike_32 e8 ?_
          obtain ⟨v9, e10, hf⟩ := j_bind hf
          refine x_get C dX11_alike_33 (jgI_some e10) fg_X11_132 ?_
          refine x_aload_n (v := a0) C dX11_alike_36 rfl ?_
          obtain ⟨v11, e12, hf⟩ := j_bind hf
          refine x_get C dX11_alike_37 (jgR_some e12) fg_X11_25 ?_
          refine x_iload_n (v := a2) C dX11_alike_40 rfl ?_
          obtain ⟨v13, e14, hf⟩ := j_bind hf
          refine x_aald C dX11_alike_41 e14 ?_
          obtain ⟨v15, e16, hf⟩ := j_bind hf
          refine x_get C dX11_alike_42 (jgI_some e16) fg_X11_132 ?_
          refine x_icmp_eq (tgt := 50) C dX11_alike_45 (by decide) (fun c31 => ?_) (fun c31 => ?_)
          · have hf := j_ifp hf c31
            refine x_aload_n (v := a0) C dX11_alike_50 rfl ?_
            obtain ⟨v17, e18, hf⟩ := j_bind hf
            refine x_get C dX11_alike_51 (jgR_some e18) fg_X11_25 ?_
            refine x_iload_n (v := a1) C dX11_alike_54 rfl ?_
            obtain ⟨v19, e20, hf⟩ := j_bind hf
            refine x_aald C dX11_alike_55 e20 ?_
            refine x_aload_n (v := a0) C dX11_alike_56 rfl ?_
            obtain ⟨v21, e22, hf⟩ := j_bind hf
            refine x_get C dX11_alike_57 (jgR_some e22) fg_X11_25 ?_
            refine x_iload_n (v := a2) C dX11_alike_60 rfl ?_
            obtain ⟨v23, e24, hf⟩ := j_bind hf
            refine x_aald C dX11_alike_61 e24 ?_
            obtain ⟨q25, e26, hf⟩ := j_bind hf
            refine x_callS (As := [.ref v19, .ref v23]) (rest := []) C dX11_alike_62 (m_X11_partingPlace (l := l) (E := E) (d := d - 1) (by omega) e26) km_X11_partingPlace lk_X11_243 ks_X11_partingPlace rfl (by omega) (Nat.le_of_ble_eq_true rfl) (j_le_of (q_X11_partingPlace e26)) (Or.inr (q_X11_partingPlace e26)) ?_
            refine x_istore C dX11_alike_65 (by decide) ?_
            refine x_iload (v := q25.1) C dX11_alike_67 rfl ?_
            refine x_if_lt (tgt := 78) C dX11_alike_69 (by decide) (fun c32 => ?_) (fun c32 => ?_)
            · have hf := j_ifp hf c32
              refine x_iconst C dX11_alike_78 ki_1 ?_
              refine x_goto (tgt := 83) C dX11_alike_79 (by decide) ?_
              obtain rfl := j_inj hf
              exact x_iret C hret dX11_alike_83
            · have hf := j_ifn hf c32
              refine x_iload (v := q25.1) C dX11_alike_72 rfl ?_
              refine x_iload_n (v := a3) C dX11_alike_74 rfl ?_
              refine x_icmp_le (tgt := 82) C dX11_alike_75 (by decide) (fun c33 => ?_) (fun c33 => ?_)
              · have hf := j_ifp hf c33
                refine x_iconst C dX11_alike_82 ki_0 ?_
                obtain rfl := j_inj hf
                exact x_iret C hret dX11_alike_83
              · have hf := j_ifn hf c33
                refine x_iconst C dX11_alike_78 ki_1 ?_
                refine x_goto (tgt := 83) C dX11_alike_79 (by decide) ?_
                obtain rfl := j_inj hf
                exact x_iret C hret dX11_alike_83
          · have hf := j_ifn hf c31
            refine x_iconst C dX11_alike_48 ki_0 ?_
            obtain rfl := j_inj hf
            exact x_iret C hret dX11_alike_49
        · have hf := j_ifn hf c30
          refine x_iconst C dX11_alike_25 ki_m1 ?_
          obtain rfl := j_inj hf
          exact x_iret C hret dX11_alike_26
set_option maxHeartbeats 4000000 in
set_option maxRecDepth 100000 in
theorem m_X11_parts {l : Launch} {E : JE} {d : Nat} (hdd : 1 ≤ d) {a0 : Nat} {a1 : Int32} {a2 : Int32} {h : JH} {q : Int32 × JH} (hf : f_X11_parts a0 a1 a2 h = some q) : Con l E d yX11_parts cX11_parts 3 (some .int) [.ref a0, .int a1, .int a2] h (some (.int q.1)) q.2 := by
  refine j_start rfl (Nat.le_of_ble_eq_true rfl) ?_
  intro p e s m args below meth c C hret hnm
  refine x_loc [(0, .ref a0), (1, .int a1), (2, .int a2)] rfl ?_
  unfold f_X11_parts at hf
  refine x_iload_n (v := a1) C dX11_parts_0 rfl ?_
  obtain ⟨q1, e2, hf⟩ := j_bind hf
  refine x_callS (As := [.int a1]) (rest := []) C dX11_parts_1 (m_X11_isRegister (l := l) (E := E) (d := d - 1) (by omega) e2) km_X11_isRegister lk_X11_143 ks_X11_isRegister rfl (by omega) (Nat.le_of_ble_eq_true rfl) (j_le_of (q_X11_isRegister e2)) (Or.inr (q_X11_isRegister e2)) ?_
  refine x_if_eq (tgt := 35) C dX11_parts_4 (by decide) (fun c27 => ?_) (fun c27 => ?_)
  · have hf := j_ifp hf c27
    refine x_iconst C dX11_parts_35 ki_m1 ?_
    obtain rfl := j_inj hf
    exact x_iret C hret dX11_parts_36
  · have hf := j_ifn hf c27
    refine x_iload_n (v := a2) C dX11_parts_7 rfl ?_
    obtain ⟨q3, e4, hf⟩ := j_bind hf
    refine x_callS (As := [.int a2]) (rest := []) C dX11_parts_8 (m_X11_isRegister (l := l) (E := E) (d := d - 1) (by omega) e4) km_X11_isRegister lk_X11_143 ks_X11_isRegister rfl (by omega) (Nat.le_of_ble_eq_true rfl) (j_le_of (q_X11_isRegister e4)) (Or.inr (q_X11_isRegister e4)) ?_
    refine x_if_eq (tgt := 35) C dX11_parts_11 (by decide) (fun c28 => ?_) (fun c28 => ?_)
    · have hf := j_ifp hf c28
      refine x_iconst C dX11_parts_35 ki_m1 ?_
      obtain rfl := j_inj hf
      exact x_iret C hret dX11_parts_36
    · have hf := j_ifn hf c28
      refine x_aload_n (v := a0) C dX11_parts_14 rfl ?_
      obtain ⟨v5, e6, hf⟩ := j_bind hf
      refine x_get C dX11_parts_15 (jgR_some e6) fg_X11_25 ?_
      refine x_iload_n (v := a1) C dX11_parts_18 rfl ?_
      obtain ⟨v7, e8, hf⟩ := j_bind hf
      refine x_aald C dX11_parts_19 e8 ?_
      obtain ⟨v9, e10, hf⟩ := j_bind hf
      refine x_get C dX11_parts_20 (jgI_some e10) fg_X11_132 ?_
      refine x_aload_n (v := a0) C dX11_parts_23 rfl ?_
      obtain ⟨v11, e12, hf⟩ := j_bind hf
      refine x_get C dX11_parts_24 (jgR_some e12) fg_X11_25 ?_
      refine x_iload_n (v := a2) C dX11_parts_27 rfl ?_
      obtain ⟨v13, e14, hf⟩ := j_bind hf
      refine x_aald C dX11_parts_28 e14 ?_
      obtain ⟨v15, e16, hf⟩ := j_bind hf
      refine x_get C dX11_parts_29 (jgI_some e16) fg_X11_132 ?_
      refine x_icmp_eq (tgt := 37) C dX11_parts_32 (by decide) (fun c29 => ?_) (fun c29 => ?_)
      · have hf := j_ifp hf c29
        refine x_aload_n (v := a0) C dX11_parts_37 rfl ?_
        obtain ⟨v17, e18, hf⟩ := j_bind hf
        refine x_get C dX11_parts_38 (jgR_some e18) fg_X11_25 ?_
        refine x_iload_n (v := a1) C dX11_parts_41 rfl ?_
        obtain ⟨v19, e20, hf⟩ := j_bind hf
        refine x_aald C dX11_parts_42 e20 ?_
        refine x_aload_n (v := a0) C dX11_parts_43 rfl ?_
        obtain ⟨v21, e22, hf⟩ := j_bind hf
        refine x_get C dX11_parts_44 (jgR_some e22) fg_X11_25 ?_
        refine x_iload_n (v := a2) C dX11_parts_47 rfl ?_
        obtain ⟨v23, e24, hf⟩ := j_bind hf
        refine x_aald C dX11_parts_48 e24 ?_
        obtain ⟨q25, e26, hf⟩ := j_bind hf
        refine x_callS (As := [.ref v19, .ref v23]) (rest := []) C dX11_parts_49 (m_X11_partingPlace (l := l) (E := E) (d := d - 1) (by omega) e26) km_X11_partingPlace lk_X11_243 ks_X11_partingPlace rfl (by omega) (Nat.le_of_ble_eq_true rfl) (j_le_of (q_X11_partingPlace e26)) (Or.inr (q_X11_partingPlace e26)) ?_
        obtain rfl := j_inj hf
        exact x_iret C hret dX11_parts_52
      · have hf := j_ifn hf c29
        refine x_iconst C dX11_parts_35 ki_m1 ?_
        obtain rfl := j_inj hf
        exact x_iret C hret dX11_parts_36
set_option maxHeartbeats 4000000 in
set_option maxRecDepth 100000 in
theorem m_X11_table {l : Launch} {E : JE} {d : Nat} (hdd : 7 ≤ d) {a0 : Nat} {a1 : Int32} {a2 : Int32} {a3 : Int32} {a4 : Int32} {h : JH} {q : Int32 × JH} (hf : f_X11_table a0 a1 a2 a3 a4 h = some q) : Con l E d yX11_table cX11_table 7 (some .int) [.ref a0, .int a1, .int a2, .int a3, .int a4] h (some (.int q.1)) q.2 := by
  refine j_start rfl (Nat.le_of_ble_eq_true rfl) ?_
  intro p e s m args below meth c C hret hnm
  refine x_loc [(0, .ref a0), (1, .int a1), (2, .int a2), (3, .int a3), (4, .int a4)] rfl ?_
  unfold f_X11_table at hf
  refine x_iload_n (v := a1) C dX11_table_0 rfl ?_
  obtain ⟨q1, e2, hf⟩ := j_bind hf
  refine x_callS (As := [.int a1]) (rest := []) C dX11_table_1 (m_X11_isWeight (l := l) (E := E) (d := d - 1) (by omega) e2) km_X11_isWeight lk_X11_160 ks_X11_isWeight rfl (by omega) (Nat.le_of_ble_eq_true rfl) (j_le_of (q_X11_isWeight e2)) (Or.inr (q_X11_isWeight e2)) ?_
  refine x_if_eq (tgt := 14) C dX11_table_4 (by decide) (fun c19 => ?_) (fun c19 => ?_)
  · have hf := j_ifp hf c19
    refine x_iconst C dX11_table_14 ki_m1 ?_
    obtain rfl := j_inj hf
    exact x_iret C hret dX11_table_15
  · have hf := j_ifn hf c19
    refine x_iload_n (v := a2) C dX11_table_7 rfl ?_
    obtain ⟨q3, e4, hf⟩ := j_bind hf
    refine x_callS (As := [.int a2]) (rest := []) C dX11_table_8 (m_X11_isHecke (l := l) (E := E) (d := d - 1) (by omega) e4) km_X11_isHecke lk_X11_220 ks_X11_isHecke rfl (by omega) (Nat.le_of_ble_eq_true rfl) (j_le_of (q_X11_isHecke e4)) (Or.inr (q_X11_isHecke e4)) ?_
    refine x_if_ne (tgt := 16) C dX11_table_11 (by decide) (fun c20 => ?_) (fun c20 => ?_)
    · have hf := j_ifn hf c20
      refine x_iload_n (v := a1) C dX11_table_16 rfl ?_
      obtain ⟨q5, e6, hf⟩ := j_bind hf
      refine x_callS (As := [.int a1]) (rest := []) C dX11_table_17 (m_X11_cuspsOf (l := l) (E := E) (d := d - 1) (by omega) e6) km_X11_cuspsOf lk_X11_163 ks_X11_cuspsOf rfl (by omega) (Nat.le_of_ble_eq_true rfl) (j_le_of (q_X11_cuspsOf e6)) (Or.inr (q_X11_cuspsOf e6)) ?_
      refine x_istore C dX11_table_20 (by decide) ?_
      refine x_iload_n (v := a3) C dX11_table_22 rfl ?_
      refine x_iconst C dX11_table_23 ki_1 ?_
      refine x_icmp_lt (tgt := 46) C dX11_table_24 (by decide) (fun c21 => ?_) (fun c21 => ?_)
      · have hf := j_ifp hf c21
        refine x_iconst C dX11_table_46 ki_m1 ?_
        obtain rfl := j_inj hf
        exact x_iret C hret dX11_table_47
      · have hf := j_ifn hf c21
        refine x_iload_n (v := a3) C dX11_table_27 rfl ?_
        refine x_iload (v := q5.1) C dX11_table_28 rfl ?_
        refine x_icmp_gt (tgt := 46) C dX11_table_30 (by decide) (fun c22 => ?_) (fun c22 => ?_)
        · have hf := j_ifp hf c22
          refine x_iconst C dX11_table_46 ki_m1 ?_
          obtain rfl := j_inj hf
          exact x_iret C hret dX11_table_47
        · have hf := j_ifn hf c22
          refine x_iload (v := a4) C dX11_table_33 rfl ?_
          refine x_iconst C dX11_table_35 ki_1 ?_
          refine x_icmp_lt (tgt := 46) C dX11_table_36 (by decide) (fun c23 => ?_) (fun c23 => ?_)
          · have hf := j_ifp hf c23
            refine x_iconst C dX11_table_46 ki_m1 ?_
            obtain rfl := j_inj hf
            exact x_iret C hret dX11_table_47
          · have hf := j_ifn hf c23
            refine x_iload (v := a4) C dX11_table_39 rfl ?_
            refine x_iload (v := q5.1) C dX11_table_41 rfl ?_
            refine x_icmp_le (tgt := 48) C dX11_table_43 (by decide) (fun c24 => ?_) (fun c24 => ?_)
            · have hf := j_ifp hf c24
              refine x_aload_n (v := a0) C dX11_table_48 rfl ?_
              refine x_iload_n (v := a1) C dX11_table_49 rfl ?_
              refine x_iload_n (v := a2) C dX11_table_50 rfl ?_
              obtain ⟨u17, e18, hf⟩ := j_bind hf
              obtain ⟨q7, e8, hf⟩ := j_bind hf
              have hle : j_le q7.2 q.2 := by
                obtain ⟨v9, e10, hf⟩ := j_bind hf
                obtain ⟨v11, e12, hf⟩ := j_bind hf
                obtain ⟨u15, e16, hf⟩ := j_bind hf
                obtain ⟨q13, e14, hf⟩ := j_bind hf
                refine j_le_trans (j_le_of ((q_X7_heckeAt e14))) ?_
                obtain rfl := j_inj hf
                exact j_le_refl _
              refine x_callV (As := [.int a1, .int a2]) (rest := []) C dX11_table_51 (m_X11_readyForHecke (l := l) (E := E) (d := d - 1) (by omega) e8) km_X11_readyForHecke lk_X11_223 kv_X11_readyForHecke (ci := 8) rfl e18 rfl (by omega) (Nat.le_of_ble_eq_true rfl) (n_X11_readyForHecke e8) (Or.inl hle) ?_
              refine x_astore C dX11_table_54 (by decide) ?_
              refine x_aload (v := q7.1) C dX11_table_56 rfl ?_
              refine x_aload (v := q7.1) C dX11_table_58 rfl ?_
              obtain ⟨v9, e10, hf⟩ := j_bind hf
              refine x_get C dX11_table_60 (jgR_some e10) fg_X11_247 ?_
              refine x_iload_n (v := a3) C dX11_table_63 rfl ?_
              obtain ⟨v11, e12, hf⟩ := j_bind hf
              refine x_aald C dX11_table_64 e12 ?_
              refine x_iload_n (v := a2) C dX11_table_65 rfl ?_
              refine x_iload (v := a4) C dX11_table_66 rfl ?_
              obtain ⟨u15, e16, hf⟩ := j_bind hf
              obtain ⟨q13, e14, hf⟩ := j_bind hf
              refine x_callV (As := [.ref v11, .int a2, .int a4]) (rest := []) C dX11_table_68 (m_X7_heckeAt (l := l) (E := E) (d := d - 1) (by omega) e14) km_X7_heckeAt lk_X11_230 kv_X7_heckeAt (ci := 5) rfl e16 rfl (by omega) (Nat.le_of_ble_eq_true rfl) (j_le_of (q_X7_heckeAt e14)) (Or.inr (q_X7_heckeAt e14)) ?_
              obtain rfl := j_inj hf
              exact x_iret C hret dX11_table_71
            · have hf := j_ifn hf c24
              refine x_iconst C dX11_table_46 ki_m1 ?_
              obtain rfl := j_inj hf
              exact x_iret C hret dX11_table_47
    · have hf := j_ifp hf c20
      refine x_iconst C dX11_table_14 ki_m1 ?_
      obtain rfl := j_inj hf
      exact x_iret C hret dX11_table_15
set_option maxHeartbeats 4000000 in
set_option maxRecDepth 100000 in
theorem m_X11_polynomial {l : Launch} {E : JE} {d : Nat} (hdd : 7 ≤ d) {a0 : Nat} {a1 : Int32} {a2 : Int32} {a3 : Int32} {h : JH} {q : Int32 × JH} (hf : f_X11_polynomial a0 a1 a2 a3 h = some q) : Con l E d yX11_polynomial cX11_polynomial 4 (some .int) [.ref a0, .int a1, .int a2, .int a3] h (some (.int q.1)) q.2 := by
  refine j_start rfl (Nat.le_of_ble_eq_true rfl) ?_
  intro p e s m args below meth c C hret hnm
  refine x_loc [(0, .ref a0), (1, .int a1), (2, .int a2), (3, .int a3)] rfl ?_
  unfold f_X11_polynomial at hf
  refine x_iload_n (v := a1) C dX11_polynomial_0 rfl ?_
  obtain ⟨q1, e2, hf⟩ := j_bind hf
  refine x_callS (As := [.int a1]) (rest := []) C dX11_polynomial_1 (m_X11_isWeight (l := l) (E := E) (d := d - 1) (by omega) e2) km_X11_isWeight lk_X11_160 ks_X11_isWeight rfl (by omega) (Nat.le_of_ble_eq_true rfl) (j_le_of (q_X11_isWeight e2)) (Or.inr (q_X11_isWeight e2)) ?_
  refine x_if_eq (tgt := 26) C dX11_polynomial_4 (by decide) (fun c29 => ?_) (fun c29 => ?_)
  · have hf := j_ifp hf c29
    refine x_iconst C dX11_polynomial_26 ki_m1 ?_
    obtain rfl := j_inj hf
    exact x_iret C hret dX11_polynomial_27
  · have hf := j_ifn hf c29
    refine x_iload_n (v := a2) C dX11_polynomial_7 rfl ?_
    obtain ⟨q3, e4, hf⟩ := j_bind hf
    refine x_callS (As := [.int a2]) (rest := []) C dX11_polynomial_8 (m_X11_isHecke (l := l) (E := E) (d := d - 1) (by omega) e4) km_X11_isHecke lk_X11_220 ks_X11_isHecke rfl (by omega) (Nat.le_of_ble_eq_true rfl) (j_le_of (q_X11_isHecke e4)) (Or.inr (q_X11_isHecke e4)) ?_
    refine x_if_eq (tgt := 26) C dX11_polynomial_11 (by decide) (fun c30 => ?_) (fun c30 => ?_)
    · have hf := j_ifp hf c30
      refine x_iconst C dX11_polynomial_26 ki_m1 ?_
      obtain rfl := j_inj hf
      exact x_iret C hret dX11_polynomial_27
    · have hf := j_ifn hf c30
      refine x_iload_n (v := a3) C dX11_polynomial_14 rfl ?_
      refine x_if_lt (tgt := 26) C dX11_polynomial_15 (by decide) (fun c31 => ?_) (fun c31 => ?_)
      · have hf := j_ifp hf c31
        refine x_iconst C dX11_polynomial_26 ki_m1 ?_
        obtain rfl := j_inj hf
        exact x_iret C hret dX11_polynomial_27
      · have hf := j_ifn hf c31
        refine x_iload_n (v := a3) C dX11_polynomial_18 rfl ?_
        refine x_iload_n (v := a1) C dX11_polynomial_19 rfl ?_
        obtain ⟨q5, e6, hf⟩ := j_bind hf
        refine x_callS (As := [.int a1]) (rest := [.int a3]) C dX11_polynomial_20 (m_X11_cuspsOf (l := l) (E := E) (d := d - 1) (by omega) e6) km_X11_cuspsOf lk_X11_163 ks_X11_cuspsOf rfl (by omega) (Nat.le_of_ble_eq_true rfl) (j_le_of (q_X11_cuspsOf e6)) (Or.inr (q_X11_cuspsOf e6)) ?_
        refine x_icmp_le (tgt := 28) C dX11_polynomial_23 (by decide) (fun c32 => ?_) (fun c32 => ?_)
        · have hf := j_ifp hf c32
          refine x_aload_n (v := a0) C dX11_polynomial_28 rfl ?_
          obtain ⟨v7, e8, hf⟩ := j_bind hf
          refine x_get C dX11_polynomial_29 (jgR_some e8) fg_X11_52 ?_
          refine x_aload_n (v := a0) C dX11_polynomial_32 rfl ?_
          refine x_iload_n (v := a1) C dX11_polynomial_33 rfl ?_
          refine x_iload_n (v := a2) C dX11_polynomial_34 rfl ?_
          obtain ⟨u27, e28, hf⟩ := j_bind hf
          obtain ⟨q9, e10, hf⟩ := j_bind hf
          have hle : j_le q9.2 q.2 := by
            obtain ⟨u25, e26, hf⟩ := j_bind hf
            obtain ⟨q11, e12, hf⟩ := j_bind hf
            refine j_le_trans (j_le_of ((q_X5_load e12))) ?_
            obtain ⟨v13, e14, hf⟩ := j_bind hf
            obtain ⟨u23, e24, hf⟩ := j_bind hf
            obtain ⟨q15, e16, hf⟩ := j_bind hf
            refine j_le_trans (j_le_of ((q_X5_findPolynomial e16))) ?_
            obtain ⟨v17, e18, hf⟩ := j_bind hf
            obtain ⟨v19, e20, hf⟩ := j_bind hf
            obtain ⟨v21, e22, hf⟩ := j_bind hf
            obtain rfl := j_inj hf
            exact j_le_refl _
          refine x_callV (As := [.int a1, .int a2]) (rest := [.ref v7]) C dX11_polynomial_35 (m_X11_readyForHecke (l := l) (E := E) (d := d - 1) (by omega) e10) km_X11_readyForHecke lk_X11_223 kv_X11_readyForHecke (ci := 8) rfl e28 rfl (by omega) (Nat.le_of_ble_eq_true rfl) (n_X11_readyForHecke e10) (Or.inl hle) ?_
          refine x_iload_n (v := a2) C dX11_polynomial_38 rfl ?_
          obtain ⟨u25, e26, hf⟩ := j_bind hf
          obtain ⟨q11, e12, hf⟩ := j_bind hf
          refine x_callV (As := [.ref q9.1, .int a2]) (rest := []) C dX11_polynomial_39 (m_X5_load (l := l) (E := E) (d := d - 1) (by omega) e12) km_X5_load lk_X11_251 kv_X5_load (ci := 3) rfl e26 rfl (by omega) (Nat.le_of_ble_eq_true rfl) (j_le_of (q_X5_load e12)) (Or.inr (q_X5_load e12)) ?_
          refine x_aload_n (v := a0) C dX11_polynomial_42 rfl ?_
          obtain ⟨v13, e14, hf⟩ := j_bind hf
          refine x_get C dX11_polynomial_43 (jgR_some e14) fg_X11_52 ?_
          obtain ⟨u23, e24, hf⟩ := j_bind hf
          obtain ⟨q15, e16, hf⟩ := j_bind hf
          refine x_callV (As := []) (rest := []) C dX11_polynomial_46 (m_X5_findPolynomial (l := l) (E := E) (d := d - 1) (by omega) e16) km_X5_findPolynomial lk_X11_255 kv_X5_findPolynomial (ci := 3) rfl e24 rfl (by omega) (Nat.le_of_ble_eq_true rfl) (j_le_of (q_X5_findPolynomial e16)) (Or.inr (q_X5_findPolynomial e16)) ?_
          refine x_aload_n (v := a0) C dX11_polynomial_49 rfl ?_
          obtain ⟨v17, e18, hf⟩ := j_bind hf
          refine x_get C dX11_polynomial_50 (jgR_some e18) fg_X11_52 ?_
          obtain ⟨v19, e20, hf⟩ := j_bind hf
          refine x_get C dX11_polynomial_53 (jgR_some e20) fg_X11_258 ?_
          refine x_iload_n (v := a3) C dX11_polynomial_56 rfl ?_
          obtain ⟨v21, e22, hf⟩ := j_bind hf
          refine x_iald C dX11_polynomial_57 e22 ?_
          obtain rfl := j_inj hf
          exact x_iret C hret dX11_polynomial_58
        · have hf := j_ifn hf c32
          refine x_iconst C dX11_polynomial_26 ki_m1 ?_
          obtain rfl := j_inj hf
          exact x_iret C hret dX11_polynomial_27
set_option maxHeartbeats 4000000 in
set_option maxRecDepth 100000 in
theorem m_X11_spaceWithRoots {l : Launch} {E : JE} {d : Nat} (hdd : 6 ≤ d) {a0 : Nat} {a1 : Int32} {h : JH} {q : Nat × JH} (hf : f_X11_spaceWithRoots a0 a1 h = some q) : Con l E d yX11_spaceWithRoots cX11_spaceWithRoots 3 (some (.object "HeckeSeries$Space")) [.ref a0, .int a1] h (some (.ref q.1)) q.2 := by
  refine j_start rfl (Nat.le_of_ble_eq_true rfl) ?_
  intro p e s m args below meth c C hret hnm
  refine x_loc [(0, .ref a0), (1, .int a1)] rfl ?_
  unfold f_X11_spaceWithRoots at hf
  refine x_aload_n (v := a0) C dX11_spaceWithRoots_0 rfl ?_
  obtain ⟨v1, e2, hf⟩ := j_bind hf
  refine x_get C dX11_spaceWithRoots_1 (jgR_some e2) fg_X11_45 ?_
  refine x_iload_n (v := a1) C dX11_spaceWithRoots_4 rfl ?_
  refine x_aload_n (v := a0) C dX11_spaceWithRoots_5 rfl ?_
  obtain ⟨v3, e4, hf⟩ := j_bind hf
  refine x_get C dX11_spaceWithRoots_6 (jgI_some e4) fg_X11_13 ?_
  refine x_iload_n (v := a1) C dX11_spaceWithRoots_9 rfl ?_
  obtain ⟨q5, e6, hf⟩ := j_bind hf
  refine x_callS (As := [.int a1]) (rest := [.int v3, .int a1, .ref v1]) C dX11_spaceWithRoots_10 (m_X11_cuspsOf (l := l) (E := E) (d := d - 1) (by omega) e6) km_X11_cuspsOf lk_X11_163 ks_X11_cuspsOf rfl (by omega) (Nat.le_of_ble_eq_true rfl) (j_le_of (q_X11_cuspsOf e6)) (Or.inr (q_X11_cuspsOf e6)) ?_
  refine x_iconst C dX11_spaceWithRoots_13 ki_2 ?_
  refine x_imul C dX11_spaceWithRoots_14 ?_
  obtain ⟨u39, e40, hf⟩ := j_bind hf
  obtain ⟨q7, e8, hf⟩ := j_bind hf
  have hle : j_le q7.2 q.2 := by
    obtain ⟨v9, e10, hf⟩ := j_bind hf
    obtain ⟨v11, e12, hf⟩ := j_bind hf
    rcases j_ite hf with hf | hf
    ·
      obtain rfl := j_inj hf
      exact j_le_refl _
    ·
      obtain ⟨v13, e14, hf⟩ := j_bind hf
      obtain ⟨u37, e38, hf⟩ := j_bind hf
      obtain ⟨q15, e16, hf⟩ := j_bind hf
      refine j_le_trans (j_le_of ((q_X5_load e16))) ?_
      obtain ⟨v17, e18, hf⟩ := j_bind hf
      obtain ⟨u35, e36, hf⟩ := j_bind hf
      obtain ⟨q19, e20, hf⟩ := j_bind hf
      refine j_le_trans (j_le_of ((q_X5_findPolynomial e20))) ?_
      obtain ⟨v21, e22, hf⟩ := j_bind hf
      obtain ⟨v23, e24, hf⟩ := j_bind hf
      obtain ⟨u33, e34, hf⟩ := j_bind hf
      obtain ⟨q25, e26, hf⟩ := j_bind hf
      refine j_le_trans (j_le_of ((q_X5_findRoots e26))) ?_
      obtain ⟨h27, e28, hf⟩ := j_bind hf
      refine j_le_trans (j_le_of (jput_n e28)) ?_
      obtain ⟨v29, e30, hf⟩ := j_bind hf
      obtain ⟨h31, e32, hf⟩ := j_bind hf
      refine j_le_trans (j_le_of (jput_n e32)) ?_
      obtain rfl := j_inj hf
      exact j_le_refl _
  refine x_callV (As := [.int a1, .int v3, .int (q5.1 * (2 : Int32))]) (rest := []) C dX11_spaceWithRoots_15 (m_X8_ready (l := l) (E := E) (d := d - 1) (by omega) e8) km_X8_ready lk_X11_150 kv_X8_ready (ci := 6) rfl e40 rfl (by omega) (Nat.le_of_ble_eq_true rfl) (n_X8_ready e8) (Or.inl hle) ?_
  refine x_astore_n C dX11_spaceWithRoots_18 (by decide) ?_
  refine x_aload_n (v := q7.1) C dX11_spaceWithRoots_19 rfl ?_
  obtain ⟨v9, e10, hf⟩ := j_bind hf
  refine x_get C dX11_spaceWithRoots_20 (jgI_some e10) fg_X11_271 ?_
  refine x_aload_n (v := a0) C dX11_spaceWithRoots_23 rfl ?_
  obtain ⟨v11, e12, hf⟩ := j_bind hf
  refine x_get C dX11_spaceWithRoots_24 (jgI_some e12) fg_X11_13 ?_
  refine x_icmp_eq (tgt := 69) C dX11_spaceWithRoots_27 (by decide) (fun c41 => ?_) (fun c41 => ?_)
  · have hf := j_ifp hf c41
    refine x_aload_n (v := q7.1) C dX11_spaceWithRoots_69 rfl ?_
    obtain rfl := j_inj hf
    exact x_aret C hret (Or.inl ⟨_, rfl⟩) dX11_spaceWithRoots_70
  · have hf := j_ifn hf c41
    refine x_aload_n (v := a0) C dX11_spaceWithRoots_30 rfl ?_
    obtain ⟨v13, e14, hf⟩ := j_bind hf
    refine x_get C dX11_spaceWithRoots_31 (jgR_some e14) fg_X11_52 ?_
    refine x_aload_n (v := q7.1) C dX11_spaceWithRoots_34 rfl ?_
    refine x_iconst C dX11_spaceWithRoots_35 ki_2 ?_
    obtain ⟨u37, e38, hf⟩ := j_bind hf
    obtain ⟨q15, e16, hf⟩ := j_bind hf
    refine x_callV (As := [.ref q7.1, .int (2 : Int32)]) (rest := []) C dX11_spaceWithRoots_36 (m_X5_load (l := l) (E := E) (d := d - 1) (by omega) e16) km_X5_load lk_X11_251 kv_X5_load (ci := 3) rfl e38 rfl (by omega) (Nat.le_of_ble_eq_true rfl) (j_le_of (q_X5_load e16)) (Or.inr (q_X5_load e16)) ?_
    refine x_aload_n (v := a0) C dX11_spaceWithRoots_39 rfl ?_
    obtain ⟨v17, e18, hf⟩ := j_bind hf
    refine x_get C dX11_spaceWithRoots_40 (jgR_some e18) fg_X11_52 ?_
    obtain ⟨u35, e36, hf⟩ := j_bind hf
    obtain ⟨q19, e20, hf⟩ := j_bind hf
    refine x_callV (As := []) (rest := []) C dX11_spaceWithRoots_43 (m_X5_findPolynomial (l := l) (E := E) (d := d - 1) (by omega) e20) km_X5_findPolynomial lk_X11_255 kv_X5_findPolynomial (ci := 3) rfl e36 rfl (by omega) (Nat.le_of_ble_eq_true rfl) (j_le_of (q_X5_findPolynomial e20)) (Or.inr (q_X5_findPolynomial e20)) ?_
    refine x_aload_n (v := q7.1) C dX11_spaceWithRoots_46 rfl ?_
    refine x_aload_n (v := a0) C dX11_spaceWithRoots_47 rfl ?_
    obtain ⟨v21, e22, hf⟩ := j_bind hf
    refine x_get C dX11_spaceWithRoots_48 (jgR_some e22) fg_X11_52 ?_
    refine x_aload_n (v := q7.1) C dX11_spaceWithRoots_51 rfl ?_
    obtain ⟨v23, e24, hf⟩ := j_bind hf
    refine x_get C dX11_spaceWithRoots_52 (jgR_some e24) fg_X11_268 ?_
    obtain ⟨u33, e34, hf⟩ := j_bind hf
    obtain ⟨q25, e26, hf⟩ := j_bind hf
    refine x_callV (As := [.ref v23]) (rest := [.ref q7.1]) C dX11_spaceWithRoots_55 (m_X5_findRoots (l := l) (E := E) (d := d - 1) (by omega) e26) km_X5_findRoots lk_X11_274 kv_X5_findRoots (ci := 3) rfl e34 rfl (by omega) (Nat.le_of_ble_eq_true rfl) (j_le_of (q_X5_findRoots e26)) (Or.inr (q_X5_findRoots e26)) ?_
    obtain ⟨h27, e28, hf⟩ := j_bind hf
    refine x_put C dX11_spaceWithRoots_58 e28 fp_X11_265 rfl rfl ?_
    refine x_aload_n (v := q7.1) C dX11_spaceWithRoots_61 rfl ?_
    refine x_aload_n (v := a0) C dX11_spaceWithRoots_62 rfl ?_
    obtain ⟨v29, e30, hf⟩ := j_bind hf
    refine x_get C dX11_spaceWithRoots_63 (jgI_some e30) fg_X11_13 ?_
    obtain ⟨h31, e32, hf⟩ := j_bind hf
    refine x_put C dX11_spaceWithRoots_66 e32 fp_X11_271 rfl rfl ?_
    refine x_aload_n (v := q7.1) C dX11_spaceWithRoots_69 rfl ?_
    obtain rfl := j_inj hf
    exact x_aret C hret (Or.inl ⟨_, rfl⟩) dX11_spaceWithRoots_70
set_option maxHeartbeats 4000000 in
set_option maxRecDepth 100000 in
theorem m_X11_root {l : Launch} {E : JE} {d : Nat} (hdd : 7 ≤ d) {a0 : Nat} {a1 : Int32} {a2 : Int32} {h : JH} {q : Int32 × JH} (hf : f_X11_root a0 a1 a2 h = some q) : Con l E d yX11_root cX11_root 4 (some .int) [.ref a0, .int a1, .int a2] h (some (.int q.1)) q.2 := by
  refine j_start rfl (Nat.le_of_ble_eq_true rfl) ?_
  intro p e s m args below meth c C hret hnm
  refine x_loc [(0, .ref a0), (1, .int a1), (2, .int a2)] rfl ?_
  unfold f_X11_root at hf
  refine x_iload_n (v := a1) C dX11_root_0 rfl ?_
  obtain ⟨q1, e2, hf⟩ := j_bind hf
  refine x_callS (As := [.int a1]) (rest := []) C dX11_root_1 (m_X11_isWeight (l := l) (E := E) (d := d - 1) (by omega) e2) km_X11_isWeight lk_X11_160 ks_X11_isWeight rfl (by omega) (Nat.le_of_ble_eq_true rfl) (j_le_of (q_X11_isWeight e2)) (Or.inr (q_X11_isWeight e2)) ?_
  refine x_if_ne (tgt := 9) C dX11_root_4 (by decide) (fun c15 => ?_) (fun c15 => ?_)
  · have hf := j_ifn hf c15
    refine x_aload_n (v := a0) C dX11_root_9 rfl ?_
    refine x_iload_n (v := a1) C dX11_root_10 rfl ?_
    obtain ⟨u13, e14, hf⟩ := j_bind hf
    obtain ⟨q3, e4, hf⟩ := j_bind hf
    have hle : j_le q3.2 q.2 := by
      rcases j_ite hf with hf | hf
      ·
        obtain ⟨v11, e12, hf⟩ := j_bind hf
        obtain rfl := j_inj hf
        exact j_le_refl _
      ·
        rcases j_ite hf with hf | hf
        ·
          obtain rfl := j_inj hf
          exact j_le_refl _
        ·
          obtain ⟨v5, e6, hf⟩ := j_bind hf
          rcases j_ite hf with hf | hf
          ·
            obtain rfl := j_inj hf
            exact j_le_refl _
          ·
            obtain ⟨v7, e8, hf⟩ := j_bind hf
            obtain ⟨v9, e10, hf⟩ := j_bind hf
            obtain rfl := j_inj hf
            exact j_le_refl _
    refine x_callV (As := [.int a1]) (rest := []) C dX11_root_11 (m_X11_spaceWithRoots (l := l) (E := E) (d := d - 1) (by omega) e4) km_X11_spaceWithRoots lk_X11_261 kv_X11_spaceWithRoots (ci := 8) rfl e14 rfl (by omega) (Nat.le_of_ble_eq_true rfl) (n_X11_spaceWithRoots e4) (Or.inl hle) ?_
    refine x_astore_n C dX11_root_14 (by decide) ?_
    refine x_iload_n (v := a2) C dX11_root_15 rfl ?_
    refine x_iconst C dX11_root_16 ki_m1 ?_
    refine x_icmp_ne (tgt := 25) C dX11_root_17 (by decide) (fun c16 => ?_) (fun c16 => ?_)
    · have hf := j_ifn hf c16
      refine x_iload_n (v := a2) C dX11_root_25 rfl ?_
      refine x_if_lt (tgt := 46) C dX11_root_26 (by decide) (fun c17 => ?_) (fun c17 => ?_)
      · have hf := j_ifp hf c17
        refine x_iconst C dX11_root_46 ki_m1 ?_
        obtain rfl := j_inj hf
        exact x_iret C hret dX11_root_47
      · have hf := j_ifn hf c17
        refine x_iload_n (v := a2) C dX11_root_29 rfl ?_
        refine x_aload_n (v := q3.1) C dX11_root_30 rfl ?_
        obtain ⟨v5, e6, hf⟩ := j_bind hf
        refine x_get C dX11_root_31 (jgI_some e6) fg_X11_265 ?_
        refine x_icmp_ge (tgt := 46) C dX11_root_34 (by decide) (fun c18 => ?_) (fun c18 => ?_)
        · have hf := j_ifp hf c18
          refine x_iconst C dX11_root_46 ki_m1 ?_
          obtain rfl := j_inj hf
          exact x_iret C hret dX11_root_47
        · have hf := j_ifn hf c18
          refine x_aload_n (v := q3.1) C dX11_root_37 rfl ?_
          obtain ⟨v7, e8, hf⟩ := j_bind hf
          refine x_get C dX11_root_38 (jgR_some e8) fg_X11_268 ?_
          refine x_iload_n (v := a2) C dX11_root_41 rfl ?_
          obtain ⟨v9, e10, hf⟩ := j_bind hf
          refine x_iald C dX11_root_42 e10 ?_
          refine x_goto (tgt := 47) C dX11_root_43 (by decide) ?_
          obtain rfl := j_inj hf
          exact x_iret C hret dX11_root_47
    · have hf := j_ifp hf c16
      refine x_aload_n (v := q3.1) C dX11_root_20 rfl ?_
      obtain ⟨v11, e12, hf⟩ := j_bind hf
      refine x_get C dX11_root_21 (jgI_some e12) fg_X11_265 ?_
      obtain rfl := j_inj hf
      exact x_iret C hret dX11_root_24
  · have hf := j_ifp hf c15
    refine x_iconst C dX11_root_7 ki_m1 ?_
    obtain rfl := j_inj hf
    exact x_iret C hret dX11_root_8
set_option maxHeartbeats 4000000 in
set_option maxRecDepth 100000 in
theorem m_X11_own {l : Launch} {E : JE} {d : Nat} (hdd : 7 ≤ d) {a0 : Nat} {a1 : Int32} {a2 : Int32} {a3 : Int32} {h : JH} {q : Int32 × JH} (hf : f_X11_own a0 a1 a2 a3 h = some q) : Con l E d yX11_own cX11_own 5 (some .int) [.ref a0, .int a1, .int a2, .int a3] h (some (.int q.1)) q.2 := by
  refine j_start rfl (Nat.le_of_ble_eq_true rfl) ?_
  intro p e s m args below meth c C hret hnm
  refine x_loc [(0, .ref a0), (1, .int a1), (2, .int a2), (3, .int a3)] rfl ?_
  unfold f_X11_own at hf
  refine x_iload_n (v := a1) C dX11_own_0 rfl ?_
  obtain ⟨q1, e2, hf⟩ := j_bind hf
  refine x_callS (As := [.int a1]) (rest := []) C dX11_own_1 (m_X11_isRegister (l := l) (E := E) (d := d - 1) (by omega) e2) km_X11_isRegister lk_X11_143 ks_X11_isRegister rfl (by omega) (Nat.le_of_ble_eq_true rfl) (j_le_of (q_X11_isRegister e2)) (Or.inr (q_X11_isRegister e2)) ?_
  refine x_if_eq (tgt := 14) C dX11_own_4 (by decide) (fun c57 => ?_) (fun c57 => ?_)
  · have hf := j_ifp hf c57
    refine x_iconst C dX11_own_14 ki_m1 ?_
    obtain rfl := j_inj hf
    exact x_iret C hret dX11_own_15
  · have hf := j_ifn hf c57
    refine x_iload_n (v := a2) C dX11_own_7 rfl ?_
    obtain ⟨q3, e4, hf⟩ := j_bind hf
    refine x_callS (As := [.int a2]) (rest := []) C dX11_own_8 (m_X11_isWeight (l := l) (E := E) (d := d - 1) (by omega) e4) km_X11_isWeight lk_X11_160 ks_X11_isWeight rfl (by omega) (Nat.le_of_ble_eq_true rfl) (j_le_of (q_X11_isWeight e4)) (Or.inr (q_X11_isWeight e4)) ?_
    refine x_if_ne (tgt := 16) C dX11_own_11 (by decide) (fun c58 => ?_) (fun c58 => ?_)
    · have hf := j_ifn hf c58
      refine x_aload_n (v := a0) C dX11_own_16 rfl ?_
      refine x_iload_n (v := a2) C dX11_own_17 rfl ?_
      obtain ⟨u55, e56, hf⟩ := j_bind hf
      obtain ⟨q5, e6, hf⟩ := j_bind hf
      have hle : j_le q5.2 q.2 := by
        rcases j_ite hf with hf | hf
        ·
          obtain rfl := j_inj hf
          exact j_le_refl _
        ·
          obtain ⟨v7, e8, hf⟩ := j_bind hf
          rcases j_ite hf with hf | hf
          ·
            obtain ⟨v9, e10, hf⟩ := j_bind hf
            obtain ⟨u53, e54, hf⟩ := j_bind hf
            obtain ⟨q11, e12, hf⟩ := j_bind hf
            refine j_le_trans (j_le_of ((q_X5_load e12))) ?_
            obtain ⟨v13, e14, hf⟩ := j_bind hf
            obtain ⟨u51, e52, hf⟩ := j_bind hf
            obtain ⟨q15, e16, hf⟩ := j_bind hf
            refine j_le_trans (j_le_of ((q_X2_setNumber e16))) ?_
            obtain ⟨v17, e18, hf⟩ := j_bind hf
            obtain ⟨v19, e20, hf⟩ := j_bind hf
            obtain ⟨v21, e22, hf⟩ := j_bind hf
            obtain ⟨v23, e24, hf⟩ := j_bind hf
            obtain ⟨v25, e26, hf⟩ := j_bind hf
            obtain ⟨u49, e50, hf⟩ := j_bind hf
            obtain ⟨q27, e28, hf⟩ := j_bind hf
            refine j_le_trans (j_le_of ((q_X5_findOwn e28))) ?_
            rcases j_ite hf with hf | hf
            ·
              obtain rfl := j_inj hf
              exact j_le_refl _
            ·
              obtain ⟨v29, e30, hf⟩ := j_bind hf
              obtain ⟨u47, e48, hf⟩ := j_bind hf
              obtain ⟨q31, e32, hf⟩ := j_bind hf
              refine j_le_trans (j_le_of ((q_X7_complete e32))) ?_
              obtain ⟨v33, e34, hf⟩ := j_bind hf
              obtain ⟨v35, e36, hf⟩ := j_bind hf
              obtain ⟨v37, e38, hf⟩ := j_bind hf
              obtain ⟨u45, e46, hf⟩ := j_bind hf
              obtain ⟨q39, e40, hf⟩ := j_bind hf
              refine j_le_trans (j_le_of ((q_X2_copyFrom e40))) ?_
              obtain ⟨v41, e42, hf⟩ := j_bind hf
              obtain ⟨v43, e44, hf⟩ := j_bind hf
              obtain rfl := j_inj hf
              exact j_le_refl _
          ·
            obtain rfl := j_inj hf
            exact j_le_refl _
      refine x_callV (As := [.int a2]) (rest := []) C dX11_own_18 (m_X11_spaceWithRoots (l := l) (E := E) (d := d - 1) (by omega) e6) km_X11_spaceWithRoots lk_X11_261 kv_X11_spaceWithRoots (ci := 8) rfl e56 rfl (by omega) (Nat.le_of_ble_eq_true rfl) (n_X11_spaceWithRoots e6) (Or.inl hle) ?_
      refine x_astore C dX11_own_21 (by decide) ?_
      refine x_iload_n (v := a3) C dX11_own_23 rfl ?_
      refine x_if_lt (tgt := 36) C dX11_own_24 (by decide) (fun c59 => ?_) (fun c59 => ?_)
      · have hf := j_ifp hf c59
        refine x_iconst C dX11_own_36 ki_m1 ?_
        obtain rfl := j_inj hf
        exact x_iret C hret dX11_own_37
      · have hf := j_ifn hf c59
        refine x_iload_n (v := a3) C dX11_own_27 rfl ?_
        refine x_aload (v := q5.1) C dX11_own_28 rfl ?_
        obtain ⟨v7, e8, hf⟩ := j_bind hf
        refine x_get C dX11_own_30 (jgI_some e8) fg_X11_265 ?_
        refine x_icmp_lt (tgt := 38) C dX11_own_33 (by decide) (fun c60 => ?_) (fun c60 => ?_)
        · have hf := j_ifp hf c60
          refine x_aload_n (v := a0) C dX11_own_38 rfl ?_
          obtain ⟨v9, e10, hf⟩ := j_bind hf
          refine x_get C dX11_own_39 (jgR_some e10) fg_X11_52 ?_
          refine x_aload (v := q5.1) C dX11_own_42 rfl ?_
          refine x_iconst C dX11_own_44 ki_2 ?_
          obtain ⟨u53, e54, hf⟩ := j_bind hf
          obtain ⟨q11, e12, hf⟩ := j_bind hf
          refine x_callV (As := [.ref q5.1, .int (2 : Int32)]) (rest := []) C dX11_own_45 (m_X5_load (l := l) (E := E) (d := d - 1) (by omega) e12) km_X5_load lk_X11_251 kv_X5_load (ci := 3) rfl e54 rfl (by omega) (Nat.le_of_ble_eq_true rfl) (j_le_of (q_X5_load e12)) (Or.inr (q_X5_load e12)) ?_
          refine x_aload_n (v := a0) C dX11_own_48 rfl ?_
          obtain ⟨v13, e14, hf⟩ := j_bind hf
          refine x_get C dX11_own_49 (jgR_some e14) fg_X11_66 ?_
          refine x_iconst C dX11_own_52 ki_0 ?_
          obtain ⟨u51, e52, hf⟩ := j_bind hf
          obtain ⟨q15, e16, hf⟩ := j_bind hf
          refine x_callV (As := [.int (0 : Int32)]) (rest := []) C dX11_own_53 (m_X2_setNumber (l := l) (E := E) (d := d - 1) (by omega) e16) km_X2_setNumber lk_X11_115 kv_X2_setNumber (ci := 1) rfl e52 rfl (by omega) (Nat.le_of_ble_eq_true rfl) (j_le_of (q_X2_setNumber e16)) (Or.inr (q_X2_setNumber e16)) ?_
          refine x_aload_n (v := a0) C dX11_own_56 rfl ?_
          obtain ⟨v17, e18, hf⟩ := j_bind hf
          refine x_get C dX11_own_57 (jgR_some e18) fg_X11_52 ?_
          refine x_aload (v := q5.1) C dX11_own_60 rfl ?_
          obtain ⟨v19, e20, hf⟩ := j_bind hf
          refine x_get C dX11_own_62 (jgR_some e20) fg_X11_268 ?_
          refine x_iload_n (v := a3) C dX11_own_65 rfl ?_
          obtain ⟨v21, e22, hf⟩ := j_bind hf
          refine x_iald C dX11_own_66 e22 ?_
          refine x_aload_n (v := a0) C dX11_own_67 rfl ?_
          obtain ⟨v23, e24, hf⟩ := j_bind hf
          refine x_get C dX11_own_68 (jgR_some e24) fg_X11_66 ?_
          obtain ⟨v25, e26, hf⟩ := j_bind hf
          refine x_get C dX11_own_71 (jgR_some e26) fg_X11_139 ?_
          obtain ⟨u49, e50, hf⟩ := j_bind hf
          obtain ⟨q27, e28, hf⟩ := j_bind hf
          refine x_callV (As := [.int v21, .ref v25]) (rest := []) C dX11_own_74 (m_X5_findOwn (l := l) (E := E) (d := d - 1) (by omega) e28) km_X5_findOwn lk_X11_278 kv_X5_findOwn (ci := 3) rfl e50 rfl (by omega) (Nat.le_of_ble_eq_true rfl) (j_le_of (q_X5_findOwn e28)) (Or.inr (q_X5_findOwn e28)) ?_
          refine x_if_ne (tgt := 83) C dX11_own_77 (by decide) (fun c61 => ?_) (fun c61 => ?_)
          · have hf := j_ifn hf c61
            refine x_aload (v := q5.1) C dX11_own_83 rfl ?_
            refine x_aload_n (v := a0) C dX11_own_85 rfl ?_
            obtain ⟨v29, e30, hf⟩ := j_bind hf
            refine x_get C dX11_own_86 (jgR_some e30) fg_X11_66 ?_
            obtain ⟨u47, e48, hf⟩ := j_bind hf
            obtain ⟨q31, e32, hf⟩ := j_bind hf
            refine x_callV (As := [.ref v29]) (rest := []) C dX11_own_89 (m_X7_complete (l := l) (E := E) (d := d - 1) (by omega) e32) km_X7_complete lk_X11_234 kv_X7_complete (ci := 5) rfl e48 rfl (by omega) (Nat.le_of_ble_eq_true rfl) (j_le_of (q_X7_complete e32)) (Or.inr (q_X7_complete e32)) ?_
            refine x_aload_n (v := a0) C dX11_own_92 rfl ?_
            obtain ⟨v33, e34, hf⟩ := j_bind hf
            refine x_get C dX11_own_93 (jgR_some e34) fg_X11_25 ?_
            refine x_iload_n (v := a1) C dX11_own_96 rfl ?_
            obtain ⟨v35, e36, hf⟩ := j_bind hf
            refine x_aald C dX11_own_97 e36 ?_
            refine x_aload_n (v := a0) C dX11_own_98 rfl ?_
            obtain ⟨v37, e38, hf⟩ := j_bind hf
            refine x_get C dX11_own_99 (jgR_some e38) fg_X11_66 ?_
            obtain ⟨u45, e46, hf⟩ := j_bind hf
            obtain ⟨q39, e40, hf⟩ := j_bind hf
            refine x_callV (As := [.ref v37]) (rest := []) C dX11_own_102 (m_X2_copyFrom (l := l) (E := E) (d := d - 1) (by omega) e40) km_X2_copyFrom lk_X11_111 kv_X2_copyFrom (ci := 1) rfl e46 rfl (by omega) (Nat.le_of_ble_eq_true rfl) (j_le_of (q_X2_copyFrom e40)) (Or.inr (q_X2_copyFrom e40)) ?_
            refine x_aload (v := q5.1) C dX11_own_105 rfl ?_
            obtain ⟨v41, e42, hf⟩ := j_bind hf
            refine x_get C dX11_own_107 (jgR_some e42) fg_X11_268 ?_
            refine x_iload_n (v := a3) C dX11_own_110 rfl ?_
            obtain ⟨v43, e44, hf⟩ := j_bind hf
            refine x_iald C dX11_own_111 e44 ?_
            obtain rfl := j_inj hf
            exact x_iret C hret dX11_own_112
          · have hf := j_ifp hf c61
            refine x_bipush C dX11_own_80 kb_m2 ?_
            obtain rfl := j_inj hf
            exact x_iret C hret dX11_own_82
        · have hf := j_ifn hf c60
          refine x_iconst C dX11_own_36 ki_m1 ?_
          obtain rfl := j_inj hf
          exact x_iret C hret dX11_own_37
    · have hf := j_ifp hf c58
      refine x_iconst C dX11_own_14 ki_m1 ?_
      obtain rfl := j_inj hf
      exact x_iret C hret dX11_own_15
set_option maxHeartbeats 4000000 in
set_option maxRecDepth 100000 in
theorem s_X11_findFreshTraces_L2 {p : Program} {l : Launch} {e : Env} {R : Room} {s : State} {m : MethodId} {args : Array Value} {below : List Frame} {meth : Method} {c : Code} {E : JE} {h0 hF : JH} {rF : Option Value} {d : Nat} (C : j_C p s m args meth c R E cX11_findFreshTraces 3 RX11 h0 hF d) (hret : meth.sig.returnType = (some .boolean)) (hdd : 4 ≤ d) (a0 : Nat) (a1 : Int32) (z : Int32) (h : JH) (r : Int32 ⊕ (Int32 ⊕ Int32)) (h1 : JH) (hf : f_X11_findFreshTraces_L2 a0 a1 z h = some (r, h1)) (hk : Sum.elim (fun z => Xw p l e R s m args below meth c E 3 h0 rF hF 2 [(0, .ref a0), (1, .int a1), (2, .int z)] [] h1) (fun t => Sum.elim (fun rr => some (.int rr) = rF ∧ h1 = hF) (fun t => Xw p l e R s m args below meth c E 3 h0 rF hF 44 [(0, .ref a0), (1, .int a1), (2, .int t)] [] h1) t) r) : Xw p l e R s m args below meth c E 3 h0 rF hF 2 [(0, .ref a0), (1, .int a1), (2, .int z)] [] h := by
  unfold f_X11_findFreshTraces_L2 at hf
  refine x_iload_n (v := z) C dX11_findFreshTraces_2 rfl ?_
  refine x_bipush C dX11_findFreshTraces_3 kb_12 ?_
  refine x_icmp_gt (tgt := 44) C dX11_findFreshTraces_5 (by decide) (fun c11 => ?_) (fun c11 => ?_)
  · have hf := j_ifp hf c11
    obtain ⟨rfl, rfl⟩ := j_inj2 hf
    exact x_locr hk rfl
  · have hf := j_ifn hf c11
    refine x_aload_n (v := a0) C dX11_findFreshTraces_8 rfl ?_
    obtain ⟨v1, e2, hf⟩ := j_bind hf
    refine x_get C dX11_findFreshTraces_9 (jgR_some e2) fg_X11_70 ?_
    refine x_iload_n (v := z) C dX11_findFreshTraces_12 rfl ?_
    refine x_iconst C dX11_findFreshTraces_13 ki_1 ?_
    refine x_isub C dX11_findFreshTraces_14 ?_
    refine x_iload_n (v := a1) C dX11_findFreshTraces_15 rfl ?_
    refine x_iload_n (v := z) C dX11_findFreshTraces_16 rfl ?_
    obtain ⟨q3, e4, hf⟩ := j_bind hf
    refine x_callS (As := [.int a1, .int z]) (rest := [.int (z - (1 : Int32)), .ref v1]) C dX11_findFreshTraces_17 (m_X10_exact (l := l) (E := E) (d := d - 1) (by omega) e4) km_X10_exact lk_X11_185 ks_X10_exact rfl (by omega) (Nat.le_of_ble_eq_true rfl) (j_le_of (q_X10_exact e4)) (Or.inr (q_X10_exact e4)) ?_
    obtain ⟨h5, e6, hf⟩ := j_bind hf
    refine x_last C dX11_findFreshTraces_20 e6 ?_
    refine x_aload_n (v := a0) C dX11_findFreshTraces_21 rfl ?_
    obtain ⟨v7, e8, hf⟩ := j_bind hf
    refine x_get C dX11_findFreshTraces_22 (jgR_some e8) fg_X11_70 ?_
    refine x_iload_n (v := z) C dX11_findFreshTraces_25 rfl ?_
    refine x_iconst C dX11_findFreshTraces_26 ki_1 ?_
    refine x_isub C dX11_findFreshTraces_27 ?_
    obtain ⟨v9, e10, hf⟩ := j_bind hf
    refine x_lald C dX11_findFreshTraces_28 e10 ?_
    refine x_ldc2 C dX11_findFreshTraces_29 cn_X11_196 ?_
    refine x_lcmp C dX11_findFreshTraces_32 ?_
    refine x_if_ne (tgt := 38) C dX11_findFreshTraces_33 (by decide) (fun c12 => ?_) (fun c12 => ?_)
    · have hf := j_ifn hf c12
      refine x_iinc (v := z) C dX11_findFreshTraces_38 rfl ki_1 (by decide) ?_
      refine x_goto (tgt := 2) C dX11_findFreshTraces_41 (by decide) ?_
      obtain ⟨rfl, rfl⟩ := j_inj2 hf
      exact x_locr hk rfl
    · have hf := j_ifp hf c12
      refine x_iconst C dX11_findFreshTraces_36 ki_0 ?_
      obtain ⟨rfl, rfl⟩ := j_inj2 hf
      obtain ⟨rfl, rfl⟩ := hk
      exact x_zret C hret (Or.inl rfl) dX11_findFreshTraces_37
set_option maxHeartbeats 4000000 in
set_option maxRecDepth 100000 in
theorem m_X11_findFreshTraces {l : Launch} {E : JE} {d : Nat} (hdd : 4 ≤ d) {a0 : Nat} {a1 : Int32} {h : JH} {q : Int32 × JH} (hf : f_X11_findFreshTraces a0 a1 h = some q) : Con l E d yX11_findFreshTraces cX11_findFreshTraces 3 (some .boolean) [.ref a0, .int a1] h (some (.int q.1)) q.2 := by
  refine j_start rfl (Nat.le_of_ble_eq_true rfl) ?_
  intro p e s m args below meth c C hret hnm
  refine x_loc [(0, .ref a0), (1, .int a1)] rfl ?_
  unfold f_X11_findFreshTraces at hf
  refine x_iconst C dX11_findFreshTraces_0 ki_1 ?_
  refine x_istore_n C dX11_findFreshTraces_1 (by decide) ?_
  obtain ⟨q13, e14, hf⟩ := j_bind hf
  refine x_loc [(0, .ref a0), (1, .int a1), (2, .int (1 : Int32))] rfl ?_
  refine x_loop (s_X11_findFreshTraces_L2 C hret hdd a0 a1) e14 ?_
  cases y18 : q13.1 with
  | inl r16 =>
    rw [y18] at hf
    have hf := j_eliml hf
    obtain rfl := j_inj hf
    exact ⟨rfl, rfl⟩
  | inr t15 =>
    rw [y18] at hf
    have hf := j_elimr hf
    refine j_elimG ?_
    refine x_iconst C dX11_findFreshTraces_44 ki_1 ?_
    obtain rfl := j_inj hf
    exact x_zret C hret (Or.inr rfl) dX11_findFreshTraces_45
set_option maxHeartbeats 4000000 in
set_option maxRecDepth 100000 in
theorem m_X11_isRow {l : Launch} {E : JE} {d : Nat} (hdd : 0 ≤ d) {a0 : Int32} {a1 : Int32} {h : JH} {q : Int32 × JH} (hf : f_X11_isRow a0 a1 h = some q) : Con l E d yX11_isRow cX11_isRow 2 (some .boolean) [.int a0, .int a1] h (some (.int q.1)) q.2 := by
  refine j_start rfl (Nat.le_of_ble_eq_true rfl) ?_
  intro p e s m args below meth c C hret hnm
  refine x_loc [(0, .int a0), (1, .int a1)] rfl ?_
  unfold f_X11_isRow at hf
  refine x_iload_n (v := a0) C dX11_isRow_0 rfl ?_
  refine x_if_lt (tgt := 22) C dX11_isRow_1 (by decide) (fun c1 => ?_) (fun c1 => ?_)
  · have hf := j_ifp hf c1
    refine x_iconst C dX11_isRow_22 ki_0 ?_
    obtain rfl := j_inj hf
    exact x_zret C hret (Or.inl rfl) dX11_isRow_23
  · have hf := j_ifn hf c1
    refine x_iload_n (v := a0) C dX11_isRow_4 rfl ?_
    refine x_iconst C dX11_isRow_5 ki_2 ?_
    refine x_icmp_ge (tgt := 22) C dX11_isRow_6 (by decide) (fun c2 => ?_) (fun c2 => ?_)
    · have hf := j_ifp hf c2
      refine x_iconst C dX11_isRow_22 ki_0 ?_
      obtain rfl := j_inj hf
      exact x_zret C hret (Or.inl rfl) dX11_isRow_23
    · have hf := j_ifn hf c2
      refine x_iload_n (v := a1) C dX11_isRow_9 rfl ?_
      refine x_if_lt (tgt := 22) C dX11_isRow_10 (by decide) (fun c3 => ?_) (fun c3 => ?_)
      · have hf := j_ifp hf c3
        refine x_iconst C dX11_isRow_22 ki_0 ?_
        obtain rfl := j_inj hf
        exact x_zret C hret (Or.inl rfl) dX11_isRow_23
      · have hf := j_ifn hf c3
        refine x_iload_n (v := a1) C dX11_isRow_13 rfl ?_
        refine x_iconst C dX11_isRow_14 ki_4 ?_
        refine x_icmp_ge (tgt := 22) C dX11_isRow_15 (by decide) (fun c4 => ?_) (fun c4 => ?_)
        · have hf := j_ifp hf c4
          refine x_iconst C dX11_isRow_22 ki_0 ?_
          obtain rfl := j_inj hf
          exact x_zret C hret (Or.inl rfl) dX11_isRow_23
        · have hf := j_ifn hf c4
          refine x_iconst C dX11_isRow_18 ki_1 ?_
          refine x_goto (tgt := 23) C dX11_isRow_19 (by decide) ?_
          obtain rfl := j_inj hf
          exact x_zret C hret (Or.inr rfl) dX11_isRow_23
set_option maxHeartbeats 4000000 in
set_option maxRecDepth 100000 in
theorem s_X11_put_L83 {p : Program} {l : Launch} {e : Env} {R : Room} {s : State} {m : MethodId} {args : Array Value} {below : List Frame} {meth : Method} {c : Code} {E : JE} {h0 hF : JH} {rF : Option Value} {d : Nat} (C : j_C p s m args meth c R E cX11_put 7 RX11 h0 hF d) (hret : meth.sig.returnType = (some .boolean)) (hdd : 7 ≤ d) (a0 : Nat) (a1 : Int32) (a2 : Int32) (a5 : Nat) (z : Int32) (h : JH) (r : Int32 ⊕ Int32) (h1 : JH) (hf : f_X11_put_L83 a0 a1 a2 a5 z h = some (r, h1)) (hleF : j_le h1 hF) (hk : Sum.elim (fun z => Xw p l e R s m args below meth c E 7 h0 rF hF 83 [(0, .ref a0), (1, .int a1), (2, .int a2), (5, .ref a5), (6, .int z)] [] h1) (fun t => Xw p l e R s m args below meth c E 7 h0 rF hF 114 [(0, .ref a0), (1, .int a1), (2, .int a2), (5, .ref a5), (6, .int t)] [] h1) r) : Xw p l e R s m args below meth c E 7 h0 rF hF 83 [(0, .ref a0), (1, .int a1), (2, .int a2), (5, .ref a5), (6, .int z)] [] h := by
  unfold f_X11_put_L83 at hf
  refine x_iload (v := z) C dX11_put_83 rfl ?_
  refine x_bipush C dX11_put_85 kb_13 ?_
  refine x_icmp_ge (tgt := 114) C dX11_put_87 (by decide) (fun c27 => ?_) (fun c27 => ?_)
  · have hf := j_ifp hf c27
    obtain ⟨rfl, rfl⟩ := j_inj2 hf
    exact x_locr hk rfl
  · have hf := j_ifn hf c27
    refine x_aload (v := a5) C dX11_put_90 rfl ?_
    refine x_iload (v := z) C dX11_put_92 rfl ?_
    refine x_aload_n (v := a0) C dX11_put_94 rfl ?_
    refine x_aload_n (v := a0) C dX11_put_95 rfl ?_
    obtain ⟨v17, e18, hf⟩ := j_bind hf
    refine x_get C dX11_put_96 (jgR_some e18) fg_X11_25 ?_
    refine x_iconst C dX11_put_99 ki_0 ?_
    obtain ⟨v19, e20, hf⟩ := j_bind hf
    refine x_aald C dX11_put_100 e20 ?_
    refine x_iload (v := z) C dX11_put_101 rfl ?_
    obtain ⟨u25, e26, hf⟩ := j_bind hf
    obtain ⟨q21, e22, hf⟩ := j_bind hf
    have hle : j_le q21.2 hF := by
      obtain ⟨h23, e24, hf⟩ := j_bind hf
      refine j_le_trans (j_le_of (jsJ_n e24)) ?_
      obtain ⟨rfl, rfl⟩ := j_inj2 hf
      exact hleF
    refine x_callV (As := [.ref v19, .int z]) (rest := [.int z, .ref a5]) C dX11_put_103 (m_X11_coefficientOf (l := l) (E := E) (d := d - 1) (by omega) e22) km_X11_coefficientOf lk_X11_146 kv_X11_coefficientOf (ci := 8) rfl e26 rfl (by omega) (Nat.le_of_ble_eq_true rfl) (n_X11_coefficientOf e22) (Or.inl hle) ?_
    refine x_i2l C dX11_put_106 ?_
    obtain ⟨h23, e24, hf⟩ := j_bind hf
    refine x_last C dX11_put_107 e24 ?_
    refine x_iinc (v := z) C dX11_put_108 rfl ki_1 (by decide) ?_
    refine x_goto (tgt := 83) C dX11_put_111 (by decide) ?_
    obtain ⟨rfl, rfl⟩ := j_inj2 hf
    exact x_locr hk rfl
set_option maxHeartbeats 4000000 in
set_option maxRecDepth 100000 in
theorem m_X11_put {l : Launch} {E : JE} {d : Nat} (hdd : 7 ≤ d) {a0 : Nat} {a1 : Int32} {a2 : Int32} {a3 : Int32} {a4 : Int32} {h : JH} {q : Int32 × JH} (hf : f_X11_put a0 a1 a2 a3 a4 h = some q) : Con l E d yX11_put cX11_put 7 (some .boolean) [.ref a0, .int a1, .int a2, .int a3, .int a4] h (some (.int q.1)) q.2 := by
  refine j_start rfl (Nat.le_of_ble_eq_true rfl) ?_
  intro p e s m args below meth c C hret hnm
  refine x_loc [(0, .ref a0), (1, .int a1), (2, .int a2), (3, .int a3), (4, .int a4)] rfl ?_
  unfold f_X11_put at hf
  refine x_iload_n (v := a1) C dX11_put_0 rfl ?_
  refine x_iload_n (v := a2) C dX11_put_1 rfl ?_
  obtain ⟨q1, e2, hf⟩ := j_bind hf
  refine x_callS (As := [.int a1, .int a2]) (rest := []) C dX11_put_2 (m_X11_isRow (l := l) (E := E) (d := d - 1) (by omega) e2) km_X11_isRow lk_X11_282 ks_X11_isRow rfl (by omega) (Nat.le_of_ble_eq_true rfl) (j_le_of (q_X11_isRow e2)) (Or.inr (q_X11_isRow e2)) ?_
  refine x_if_eq (tgt := 34) C dX11_put_5 (by decide) (fun c96 => ?_) (fun c96 => ?_)
  · have hf := j_ifp hf c96
    refine x_iconst C dX11_put_34 ki_0 ?_
    obtain rfl := j_inj hf
    exact x_zret C hret (Or.inl rfl) dX11_put_35
  · have hf := j_ifn hf c96
    refine x_iload_n (v := a3) C dX11_put_8 rfl ?_
    refine x_if_eq (tgt := 21) C dX11_put_9 (by decide) (fun c97 => ?_) (fun c97 => ?_)
    · have hf := j_ifp hf c97
      refine x_aload_n (v := a0) C dX11_put_21 rfl ?_
      obtain ⟨v3, e4, hf⟩ := j_bind hf
      refine x_get C dX11_put_22 (jgR_some e4) fg_X11_32 ?_
      refine x_iload_n (v := a1) C dX11_put_25 rfl ?_
      obtain ⟨v5, e6, hf⟩ := j_bind hf
      refine x_aald C dX11_put_26 e6 ?_
      obtain ⟨v7, e8, hf⟩ := j_bind hf
      refine x_get C dX11_put_27 (jgI_some e8) fg_X11_75 ?_
      refine x_iload_n (v := a3) C dX11_put_30 rfl ?_
      refine x_icmp_eq (tgt := 36) C dX11_put_31 (by decide) (fun c98 => ?_) (fun c98 => ?_)
      · have hf := j_ifp hf c98
        refine x_aload_n (v := a0) C dX11_put_36 rfl ?_
        obtain ⟨v9, e10, hf⟩ := j_bind hf
        refine x_get C dX11_put_37 (jgR_some e10) fg_X11_32 ?_
        refine x_iload_n (v := a1) C dX11_put_40 rfl ?_
        obtain ⟨v11, e12, hf⟩ := j_bind hf
        refine x_aald C dX11_put_41 e12 ?_
        obtain ⟨v13, e14, hf⟩ := j_bind hf
        refine x_get C dX11_put_42 (jgR_some e14) fg_X11_285 ?_
        refine x_iload_n (v := a2) C dX11_put_45 rfl ?_
        obtain ⟨v15, e16, hf⟩ := j_bind hf
        refine x_aald C dX11_put_46 e16 ?_
        refine x_astore C dX11_put_47 (by decide) ?_
        refine x_iload_n (v := a3) C dX11_put_49 rfl ?_
        refine x_if_eq (tgt := 80) C dX11_put_50 (by decide) (fun c99 => ?_) (fun c99 => ?_)
        · have hf := j_ifp hf c99
          refine x_iconst C dX11_put_80 ki_0 ?_
          refine x_istore C dX11_put_81 (by decide) ?_
          obtain ⟨q28, e29, hf⟩ := j_bind hf
          have hle : j_le q28.2 q.2 := by
            obtain ⟨v30, e31, hf⟩ := j_bind hf
            obtain ⟨v32, e33, hf⟩ := j_bind hf
            obtain ⟨v34, e35, hf⟩ := j_bind hf
            obtain ⟨h36, e37, hf⟩ := j_bind hf
            refine j_le_trans (j_le_of (jsB_n e37)) ?_
            obtain rfl := j_inj hf
            exact j_le_refl _
          refine x_loc [(0, .ref a0), (1, .int a1), (2, .int a2), (5, .ref v15), (6, .int (0 : Int32))] rfl ?_
          refine x_loopA (s_X11_put_L83 C hret hdd a0 a1 a2 v15) (fun _ _ _ _ q => n_X11_put_L83 q) e29 hle ?_
          refine x_aload_n (v := a0) C dX11_put_114 rfl ?_
          obtain ⟨v30, e31, hf⟩ := j_bind hf
          refine x_get C dX11_put_115 (jgR_some e31) fg_X11_32 ?_
          refine x_iload_n (v := a1) C dX11_put_118 rfl ?_
          obtain ⟨v32, e33, hf⟩ := j_bind hf
          refine x_aald C dX11_put_119 e33 ?_
          obtain ⟨v34, e35, hf⟩ := j_bind hf
          refine x_get C dX11_put_120 (jgR_some e35) fg_X11_298 ?_
          refine x_iload_n (v := a2) C dX11_put_123 rfl ?_
          refine x_iconst C dX11_put_124 ki_1 ?_
          obtain ⟨h36, e37, hf⟩ := j_bind hf
          refine x_bast C dX11_put_125 e37 ?_
          refine x_iconst C dX11_put_126 ki_1 ?_
          obtain rfl := j_inj hf
          exact x_zret C hret (Or.inr rfl) dX11_put_127
        · have hf := j_ifn hf c99
          refine x_aload_n (v := a0) C dX11_put_53 rfl ?_
          refine x_iload (v := a4) C dX11_put_54 rfl ?_
          obtain ⟨u52, e53, hf⟩ := j_bind hf
          obtain ⟨q38, e39, hf⟩ := j_bind hf
          refine x_callV (As := [.int a4]) (rest := []) C dX11_put_56 (m_X11_findFreshTraces (l := l) (E := E) (d := d - 1) (by omega) e39) km_X11_findFreshTraces lk_X11_289 kv_X11_findFreshTraces (ci := 8) rfl e53 rfl (by omega) (Nat.le_of_ble_eq_true rfl) (j_le_of (q_X11_findFreshTraces e39)) (Or.inr (q_X11_findFreshTraces e39)) ?_
          refine x_if_ne (tgt := 64) C dX11_put_59 (by decide) (fun c100 => ?_) (fun c100 => ?_)
          · have hf := j_ifn hf c100
            refine x_aload_n (v := a0) C dX11_put_64 rfl ?_
            obtain ⟨v40, e41, hf⟩ := j_bind hf
            refine x_get C dX11_put_65 (jgR_some e41) fg_X11_70 ?_
            refine x_iconst C dX11_put_68 ki_0 ?_
            refine x_aload (v := v15) C dX11_put_69 rfl ?_
            refine x_iconst C dX11_put_71 ki_0 ?_
            refine x_bipush C dX11_put_72 kb_12 ?_
            obtain ⟨h42, e43, hf⟩ := j_bind hf
            refine x_copyl C dX11_put_74 e43 ⟨lk_X11_292, w_acp⟩ (by omega) (Nat.le_of_ble_eq_true rfl) ?_
            refine x_goto (tgt := 114) C dX11_put_77 (by decide) ?_
            refine x_aload_n (v := a0) C dX11_put_114 rfl ?_
            obtain ⟨v44, e45, hf⟩ := j_bind hf
            refine x_get C dX11_put_115 (jgR_some e45) fg_X11_32 ?_
            refine x_iload_n (v := a1) C dX11_put_118 rfl ?_
            obtain ⟨v46, e47, hf⟩ := j_bind hf
            refine x_aald C dX11_put_119 e47 ?_
            obtain ⟨v48, e49, hf⟩ := j_bind hf
            refine x_get C dX11_put_120 (jgR_some e49) fg_X11_298 ?_
            refine x_iload_n (v := a2) C dX11_put_123 rfl ?_
            refine x_iconst C dX11_put_124 ki_1 ?_
            obtain ⟨h50, e51, hf⟩ := j_bind hf
            refine x_bast C dX11_put_125 e51 ?_
            refine x_iconst C dX11_put_126 ki_1 ?_
            obtain rfl := j_inj hf
            exact x_zret C hret (Or.inr rfl) dX11_put_127
          · have hf := j_ifp hf c100
            refine x_iconst C dX11_put_62 ki_0 ?_
            obtain rfl := j_inj hf
            exact x_zret C hret (Or.inl rfl) dX11_put_63
      · have hf := j_ifn hf c98
        refine x_iconst C dX11_put_34 ki_0 ?_
        obtain rfl := j_inj hf
        exact x_zret C hret (Or.inl rfl) dX11_put_35
    · have hf := j_ifn hf c97
      refine x_iload (v := a4) C dX11_put_12 rfl ?_
      refine x_iconst C dX11_put_14 ki_1 ?_
      obtain ⟨q54, e55, hf⟩ := j_bind hf
      refine x_callS (As := [.int a4, .int (1 : Int32)]) (rest := []) C dX11_put_15 (m_X10_isAsked (l := l) (E := E) (d := d - 1) (by omega) e55) km_X10_isAsked lk_X11_177 ks_X10_isAsked rfl (by omega) (Nat.le_of_ble_eq_true rfl) (j_le_of (q_X10_isAsked e55)) (Or.inr (q_X10_isAsked e55)) ?_
      refine x_if_eq (tgt := 34) C dX11_put_18 (by decide) (fun c101 => ?_) (fun c101 => ?_)
      · have hf := j_ifp hf c101
        refine x_iconst C dX11_put_34 ki_0 ?_
        obtain rfl := j_inj hf
        exact x_zret C hret (Or.inl rfl) dX11_put_35
      · have hf := j_ifn hf c101
        refine x_aload_n (v := a0) C dX11_put_21 rfl ?_
        obtain ⟨v56, e57, hf⟩ := j_bind hf
        refine x_get C dX11_put_22 (jgR_some e57) fg_X11_32 ?_
        refine x_iload_n (v := a1) C dX11_put_25 rfl ?_
        obtain ⟨v58, e59, hf⟩ := j_bind hf
        refine x_aald C dX11_put_26 e59 ?_
        obtain ⟨v60, e61, hf⟩ := j_bind hf
        refine x_get C dX11_put_27 (jgI_some e61) fg_X11_75 ?_
        refine x_iload_n (v := a3) C dX11_put_30 rfl ?_
        refine x_icmp_eq (tgt := 36) C dX11_put_31 (by decide) (fun c102 => ?_) (fun c102 => ?_)
        · have hf := j_ifp hf c102
          refine x_aload_n (v := a0) C dX11_put_36 rfl ?_
          obtain ⟨v62, e63, hf⟩ := j_bind hf
          refine x_get C dX11_put_37 (jgR_some e63) fg_X11_32 ?_
          refine x_iload_n (v := a1) C dX11_put_40 rfl ?_
          obtain ⟨v64, e65, hf⟩ := j_bind hf
          refine x_aald C dX11_put_41 e65 ?_
          obtain ⟨v66, e67, hf⟩ := j_bind hf
          refine x_get C dX11_put_42 (jgR_some e67) fg_X11_285 ?_
          refine x_iload_n (v := a2) C dX11_put_45 rfl ?_
          obtain ⟨v68, e69, hf⟩ := j_bind hf
          refine x_aald C dX11_put_46 e69 ?_
          refine x_astore C dX11_put_47 (by decide) ?_
          refine x_iload_n (v := a3) C dX11_put_49 rfl ?_
          refine x_if_eq (tgt := 80) C dX11_put_50 (by decide) (fun c103 => ?_) (fun c103 => ?_)
          · have hf := j_ifp hf c103
            refine x_iconst C dX11_put_80 ki_0 ?_
            refine x_istore C dX11_put_81 (by decide) ?_
            obtain ⟨q70, e71, hf⟩ := j_bind hf
            have hle : j_le q70.2 q.2 := by
              obtain ⟨v72, e73, hf⟩ := j_bind hf
              obtain ⟨v74, e75, hf⟩ := j_bind hf
              obtain ⟨v76, e77, hf⟩ := j_bind hf
              obtain ⟨h78, e79, hf⟩ := j_bind hf
              refine j_le_trans (j_le_of (jsB_n e79)) ?_
              obtain rfl := j_inj hf
              exact j_le_refl _
            refine x_loc [(0, .ref a0), (1, .int a1), (2, .int a2), (5, .ref v68), (6, .int (0 : Int32))] rfl ?_
            refine x_loopA (s_X11_put_L83 C hret hdd a0 a1 a2 v68) (fun _ _ _ _ q => n_X11_put_L83 q) e71 hle ?_
            refine x_aload_n (v := a0) C dX11_put_114 rfl ?_
            obtain ⟨v72, e73, hf⟩ := j_bind hf
            refine x_get C dX11_put_115 (jgR_some e73) fg_X11_32 ?_
            refine x_iload_n (v := a1) C dX11_put_118 rfl ?_
            obtain ⟨v74, e75, hf⟩ := j_bind hf
            refine x_aald C dX11_put_119 e75 ?_
            obtain ⟨v76, e77, hf⟩ := j_bind hf
            refine x_get C dX11_put_120 (jgR_some e77) fg_X11_298 ?_
            refine x_iload_n (v := a2) C dX11_put_123 rfl ?_
            refine x_iconst C dX11_put_124 ki_1 ?_
            obtain ⟨h78, e79, hf⟩ := j_bind hf
            refine x_bast C dX11_put_125 e79 ?_
            refine x_iconst C dX11_put_126 ki_1 ?_
            obtain rfl := j_inj hf
            exact x_zret C hret (Or.inr rfl) dX11_put_127
          · have hf := j_ifn hf c103
            refine x_aload_n (v := a0) C dX11_put_53 rfl ?_
            refine x_iload (v := a4) C dX11_put_54 rfl ?_
            obtain ⟨u94, e95, hf⟩ := j_bind hf
            obtain ⟨q80, e81, hf⟩ := j_bind hf
            refine x_callV (As := [.int a4]) (rest := []) C dX11_put_56 (m_X11_findFreshTraces (l := l) (E := E) (d := d - 1) (by omega) e81) km_X11_findFreshTraces lk_X11_289 kv_X11_findFreshTraces (ci := 8) rfl e95 rfl (by omega) (Nat.le_of_ble_eq_true rfl) (j_le_of (q_X11_findFreshTraces e81)) (Or.inr (q_X11_findFreshTraces e81)) ?_
            refine x_if_ne (tgt := 64) C dX11_put_59 (by decide) (fun c104 => ?_) (fun c104 => ?_)
            · have hf := j_ifn hf c104
              refine x_aload_n (v := a0) C dX11_put_64 rfl ?_
              obtain ⟨v82, e83, hf⟩ := j_bind hf
              refine x_get C dX11_put_65 (jgR_some e83) fg_X11_70 ?_
              refine x_iconst C dX11_put_68 ki_0 ?_
              refine x_aload (v := v68) C dX11_put_69 rfl ?_
              refine x_iconst C dX11_put_71 ki_0 ?_
              refine x_bipush C dX11_put_72 kb_12 ?_
              obtain ⟨h84, e85, hf⟩ := j_bind hf
              refine x_copyl C dX11_put_74 e85 ⟨lk_X11_292, w_acp⟩ (by omega) (Nat.le_of_ble_eq_true rfl) ?_
              refine x_goto (tgt := 114) C dX11_put_77 (by decide) ?_
              refine x_aload_n (v := a0) C dX11_put_114 rfl ?_
              obtain ⟨v86, e87, hf⟩ := j_bind hf
              refine x_get C dX11_put_115 (jgR_some e87) fg_X11_32 ?_
              refine x_iload_n (v := a1) C dX11_put_118 rfl ?_
              obtain ⟨v88, e89, hf⟩ := j_bind hf
              refine x_aald C dX11_put_119 e89 ?_
              obtain ⟨v90, e91, hf⟩ := j_bind hf
              refine x_get C dX11_put_120 (jgR_some e91) fg_X11_298 ?_
              refine x_iload_n (v := a2) C dX11_put_123 rfl ?_
              refine x_iconst C dX11_put_124 ki_1 ?_
              obtain ⟨h92, e93, hf⟩ := j_bind hf
              refine x_bast C dX11_put_125 e93 ?_
              refine x_iconst C dX11_put_126 ki_1 ?_
              obtain rfl := j_inj hf
              exact x_zret C hret (Or.inr rfl) dX11_put_127
            · have hf := j_ifp hf c104
              refine x_iconst C dX11_put_62 ki_0 ?_
              obtain rfl := j_inj hf
              exact x_zret C hret (Or.inl rfl) dX11_put_63
        · have hf := j_ifn hf c102
          refine x_iconst C dX11_put_34 ki_0 ?_
          obtain rfl := j_inj hf
          exact x_zret C hret (Or.inl rfl) dX11_put_35
set_option maxHeartbeats 4000000 in
set_option maxRecDepth 100000 in
theorem v_X11_row {p : Program} {l : Launch} {e : Env} {R : Room} {s : State} {m : MethodId} {args : Array Value} {below : List Frame} {meth : Method} {c : Code} {E : JE} {Q : State → Prop} {d : Nat} {a0 : Nat} {a1 : Int32} {a2 : Int32} {a3 : Int32} {h : JH} {q : (Option Int64) × JH} (C : j_C p s m args meth c R E cX11_row 4 RX11 h q.2 d) (hdd : 1 ≤ d) (hf : f_X11_row a0 a1 a2 a3 h = some q) (hkr : ∀ (pc : Nat) (L : List (Nat × Value)) (v : Int64) (h2 : JH), decode cX11_row pc = .ok (.lreturn, 1) → q = (some v, h2) → Xq p l e R s m args below meth c E 4 h Q pc L [.long v] h2) (hkt : ∀ (L : List (Nat × Value)) (h2 : JH), q = (none, jexc h2) → Xq p l e R s m args below meth c E 4 h Q 39 L [] h2) : Xq p l e R s m args below meth c E 4 h Q 0 [(0, .ref a0), (1, .int a1), (2, .int a2), (3, .int a3)] [] h := by
  unfold f_X11_row at hf
  refine x_iload_n (v := a1) C dX11_row_0 rfl ?_
  refine x_iload_n (v := a2) C dX11_row_1 rfl ?_
  obtain ⟨q1, e2, hf⟩ := j_bind hf
  refine x_callS (As := [.int a1, .int a2]) (rest := []) C dX11_row_2 (m_X11_isRow (l := l) (E := E) (d := d - 1) (by omega) e2) km_X11_isRow lk_X11_282 ks_X11_isRow rfl (by omega) (Nat.le_of_ble_eq_true rfl) (j_le_of (q_X11_isRow e2)) (Or.inr (q_X11_isRow e2)) ?_
  refine x_if_eq (tgt := 39) C dX11_row_5 (by decide) (fun c29 => ?_) (fun c29 => ?_)
  · have hf := j_ifp hf c29
    exact hkt _ _ (j_inj hf)
  · have hf := j_ifn hf c29
    refine x_aload_n (v := a0) C dX11_row_8 rfl ?_
    obtain ⟨v3, e4, hf⟩ := j_bind hf
    refine x_get C dX11_row_9 (jgR_some e4) fg_X11_32 ?_
    refine x_iload_n (v := a1) C dX11_row_12 rfl ?_
    obtain ⟨v5, e6, hf⟩ := j_bind hf
    refine x_aald C dX11_row_13 e6 ?_
    obtain ⟨v7, e8, hf⟩ := j_bind hf
    refine x_get C dX11_row_14 (jgR_some e8) fg_X11_298 ?_
    refine x_iload_n (v := a2) C dX11_row_17 rfl ?_
    obtain ⟨v9, e10, hf⟩ := j_bind hf
    refine x_bald C dX11_row_18 e10 ?_
    refine x_if_eq (tgt := 39) C dX11_row_19 (by decide) (fun c30 => ?_) (fun c30 => ?_)
    · have hf := j_ifp hf c30
      exact hkt _ _ (j_inj hf)
    · have hf := j_ifn hf c30
      refine x_iload_n (v := a3) C dX11_row_22 rfl ?_
      refine x_if_lt (tgt := 39) C dX11_row_23 (by decide) (fun c31 => ?_) (fun c31 => ?_)
      · have hf := j_ifp hf c31
        exact hkt _ _ (j_inj hf)
      · have hf := j_ifn hf c31
        refine x_iload_n (v := a3) C dX11_row_26 rfl ?_
        refine x_aload_n (v := a0) C dX11_row_27 rfl ?_
        obtain ⟨v11, e12, hf⟩ := j_bind hf
        refine x_get C dX11_row_28 (jgR_some e12) fg_X11_32 ?_
        refine x_iload_n (v := a1) C dX11_row_31 rfl ?_
        obtain ⟨v13, e14, hf⟩ := j_bind hf
        refine x_aald C dX11_row_32 e14 ?_
        obtain ⟨u27, e28, hf⟩ := j_bind hf
        obtain ⟨q15, e16, hf⟩ := j_bind hf
        refine x_callV (As := []) (rest := [.int a3]) C dX11_row_33 (m_X6_numbersInRow (l := l) (E := E) (d := d - 1) (by omega) e16) km_X6_numbersInRow lk_X11_302 kv_X6_numbersInRow (ci := 4) rfl e28 rfl (by omega) (Nat.le_of_ble_eq_true rfl) (j_le_of (q_X6_numbersInRow e16)) (Or.inr (q_X6_numbersInRow e16)) ?_
        refine x_icmp_lt (tgt := 47) C dX11_row_36 (by decide) (fun c32 => ?_) (fun c32 => ?_)
        · have hf := j_ifp hf c32
          refine x_aload_n (v := a0) C dX11_row_47 rfl ?_
          obtain ⟨v17, e18, hf⟩ := j_bind hf
          refine x_get C dX11_row_48 (jgR_some e18) fg_X11_32 ?_
          refine x_iload_n (v := a1) C dX11_row_51 rfl ?_
          obtain ⟨v19, e20, hf⟩ := j_bind hf
          refine x_aald C dX11_row_52 e20 ?_
          obtain ⟨v21, e22, hf⟩ := j_bind hf
          refine x_get C dX11_row_53 (jgR_some e22) fg_X11_285 ?_
          refine x_iload_n (v := a2) C dX11_row_56 rfl ?_
          obtain ⟨v23, e24, hf⟩ := j_bind hf
          refine x_aald C dX11_row_57 e24 ?_
          refine x_iload_n (v := a3) C dX11_row_58 rfl ?_
          obtain ⟨v25, e26, hf⟩ := j_bind hf
          refine x_lald C dX11_row_59 e26 ?_
          exact hkr _ _ _ _ dX11_row_60 (j_inj hf)
        · have hf := j_ifn hf c32
          exact hkt _ _ (j_inj hf)
set_option maxHeartbeats 4000000 in
set_option maxRecDepth 100000 in
theorem s_X11_swap_L2 {p : Program} {l : Launch} {e : Env} {R : Room} {s : State} {m : MethodId} {args : Array Value} {below : List Frame} {meth : Method} {c : Code} {E : JE} {h0 hF : JH} {rF : Option Value} {d : Nat} (C : j_C p s m args meth c R E cX11_swap 2 RX11 h0 hF d) (hret : meth.sig.returnType = (some .int)) (hdd : 1 ≤ d) (a0 : Nat) (z : Int32) (h : JH) (r : Int32 ⊕ Int32) (h1 : JH) (hf : f_X11_swap_L2 a0 z h = some (r, h1)) (hk : Sum.elim (fun z => Xw p l e R s m args below meth c E 2 h0 rF hF 2 [(0, .ref a0), (1, .int z)] [] h1) (fun t => Xw p l e R s m args below meth c E 2 h0 rF hF 48 [(0, .ref a0), (1, .int t)] [] h1) r) : Xw p l e R s m args below meth c E 2 h0 rF hF 2 [(0, .ref a0), (1, .int z)] [] h := by
  unfold f_X11_swap_L2 at hf
  refine x_iload_n (v := z) C dX11_swap_2 rfl ?_
  refine x_iconst C dX11_swap_3 ki_2 ?_
  refine x_icmp_ge (tgt := 48) C dX11_swap_4 (by decide) (fun c31 => ?_) (fun c31 => ?_)
  · have hf := j_ifp hf c31
    obtain ⟨rfl, rfl⟩ := j_inj2 hf
    exact x_locr hk rfl
  · have hf := j_ifn hf c31
    refine x_aload_n (v := a0) C dX11_swap_7 rfl ?_
    obtain ⟨v1, e2, hf⟩ := j_bind hf
    refine x_get C dX11_swap_8 (jgR_some e2) fg_X11_32 ?_
    refine x_iload_n (v := z) C dX11_swap_11 rfl ?_
    obtain ⟨v3, e4, hf⟩ := j_bind hf
    refine x_aald C dX11_swap_12 e4 ?_
    refine x_aload_n (v := a0) C dX11_swap_13 rfl ?_
    obtain ⟨v5, e6, hf⟩ := j_bind hf
    refine x_get C dX11_swap_14 (jgR_some e6) fg_X11_32 ?_
    refine x_iload_n (v := z) C dX11_swap_17 rfl ?_
    obtain ⟨v7, e8, hf⟩ := j_bind hf
    refine x_aald C dX11_swap_18 e8 ?_
    obtain ⟨v9, e10, hf⟩ := j_bind hf
    refine x_get C dX11_swap_19 (jgI_some e10) fg_X11_75 ?_
    refine x_if_ne (tgt := 29) C dX11_swap_22 (by decide) (fun c32 => ?_) (fun c32 => ?_)
    · have hf := j_ifn hf c32
      refine x_iconst C dX11_swap_29 ki_0 ?_
      obtain ⟨h11, e12, hf⟩ := j_bind hf
      refine x_put C dX11_swap_30 e12 fp_X11_75 rfl rfl ?_
      refine x_aload_n (v := a0) C dX11_swap_33 rfl ?_
      obtain ⟨v13, e14, hf⟩ := j_bind hf
      refine x_get C dX11_swap_34 (jgR_some e14) fg_X11_32 ?_
      refine x_iload_n (v := z) C dX11_swap_37 rfl ?_
      obtain ⟨v15, e16, hf⟩ := j_bind hf
      refine x_aald C dX11_swap_38 e16 ?_
      obtain ⟨u19, e20, hf⟩ := j_bind hf
      obtain ⟨q17, e18, hf⟩ := j_bind hf
      refine x_callV (As := []) (rest := []) C dX11_swap_39 (m_X6_empty (l := l) (E := E) (d := d - 1) (by omega) e18) km_X6_empty lk_X11_118 kv_X6_empty (ci := 4) rfl e20 rfl (by omega) (Nat.le_of_ble_eq_true rfl) (j_le_of (q_X6_empty e18)) (Or.inr (q_X6_empty e18)) ?_
      refine x_iinc (v := z) C dX11_swap_42 rfl ki_1 (by decide) ?_
      refine x_goto (tgt := 2) C dX11_swap_45 (by decide) ?_
      obtain ⟨rfl, rfl⟩ := j_inj2 hf
      exact x_locr hk rfl
    · have hf := j_ifp hf c32
      refine x_iconst C dX11_swap_25 ki_1 ?_
      refine x_goto (tgt := 30) C dX11_swap_26 (by decide) ?_
      obtain ⟨h21, e22, hf⟩ := j_bind hf
      refine x_put C dX11_swap_30 e22 fp_X11_75 rfl rfl ?_
      refine x_aload_n (v := a0) C dX11_swap_33 rfl ?_
      obtain ⟨v23, e24, hf⟩ := j_bind hf
      refine x_get C dX11_swap_34 (jgR_some e24) fg_X11_32 ?_
      refine x_iload_n (v := z) C dX11_swap_37 rfl ?_
      obtain ⟨v25, e26, hf⟩ := j_bind hf
      refine x_aald C dX11_swap_38 e26 ?_
      obtain ⟨u29, e30, hf⟩ := j_bind hf
      obtain ⟨q27, e28, hf⟩ := j_bind hf
      refine x_callV (As := []) (rest := []) C dX11_swap_39 (m_X6_empty (l := l) (E := E) (d := d - 1) (by omega) e28) km_X6_empty lk_X11_118 kv_X6_empty (ci := 4) rfl e30 rfl (by omega) (Nat.le_of_ble_eq_true rfl) (j_le_of (q_X6_empty e28)) (Or.inr (q_X6_empty e28)) ?_
      refine x_iinc (v := z) C dX11_swap_42 rfl ki_1 (by decide) ?_
      refine x_goto (tgt := 2) C dX11_swap_45 (by decide) ?_
      obtain ⟨rfl, rfl⟩ := j_inj2 hf
      exact x_locr hk rfl
set_option maxHeartbeats 4000000 in
set_option maxRecDepth 100000 in
theorem m_X11_swap {l : Launch} {E : JE} {d : Nat} (hdd : 1 ≤ d) {a0 : Nat} {h : JH} {q : Int32 × JH} (hf : f_X11_swap a0 h = some q) : Con l E d yX11_swap cX11_swap 2 (some .int) [.ref a0] h (some (.int q.1)) q.2 := by
  refine j_start rfl (Nat.le_of_ble_eq_true rfl) ?_
  intro p e s m args below meth c C hret hnm
  refine x_loc [(0, .ref a0)] rfl ?_
  unfold f_X11_swap at hf
  refine x_iconst C dX11_swap_0 ki_0 ?_
  refine x_istore_n C dX11_swap_1 (by decide) ?_
  obtain ⟨q33, e34, hf⟩ := j_bind hf
  refine x_loc [(0, .ref a0), (1, .int (0 : Int32))] rfl ?_
  refine x_loop (s_X11_swap_L2 C hret hdd a0) e34 ?_
  refine x_aload_n (v := a0) C dX11_swap_48 rfl ?_
  obtain ⟨v35, e36, hf⟩ := j_bind hf
  refine x_get C dX11_swap_49 (jgR_some e36) fg_X11_32 ?_
  refine x_iconst C dX11_swap_52 ki_0 ?_
  obtain ⟨v37, e38, hf⟩ := j_bind hf
  refine x_aald C dX11_swap_53 e38 ?_
  obtain ⟨v39, e40, hf⟩ := j_bind hf
  refine x_get C dX11_swap_54 (jgI_some e40) fg_X11_75 ?_
  refine x_if_eq (tgt := 64) C dX11_swap_57 (by decide) (fun c41 => ?_) (fun c41 => ?_)
  · have hf := j_ifp hf c41
    refine x_iconst C dX11_swap_64 ki_0 ?_
    obtain rfl := j_inj hf
    exact x_iret C hret dX11_swap_65
  · have hf := j_ifn hf c41
    refine x_iconst C dX11_swap_60 ki_1 ?_
    refine x_goto (tgt := 65) C dX11_swap_61 (by decide) ?_
    obtain rfl := j_inj hf
    exact x_iret C hret dX11_swap_65
set_option maxHeartbeats 4000000 in
set_option maxRecDepth 100000 in
theorem m_X11_image {l : Launch} {E : JE} {d : Nat} (hdd : 4 ≤ d) {a0 : Nat} {a1 : Int32} {a2 : Int32} {h : JH} {q : Int32 × JH} (hf : f_X11_image a0 a1 a2 h = some q) : Con l E d yX11_image cX11_image 3 (some .boolean) [.ref a0, .int a1, .int a2] h (some (.int q.1)) q.2 := by
  refine j_start rfl (Nat.le_of_ble_eq_true rfl) ?_
  intro p e s m args below meth c C hret hnm
  refine x_loc [(0, .ref a0), (1, .int a1), (2, .int a2)] rfl ?_
  unfold f_X11_image at hf
  refine x_iload_n (v := a1) C dX11_image_0 rfl ?_
  refine x_if_lt (tgt := 9) C dX11_image_1 (by decide) (fun c27 => ?_) (fun c27 => ?_)
  · have hf := j_ifp hf c27
    refine x_iconst C dX11_image_9 ki_0 ?_
    obtain rfl := j_inj hf
    exact x_zret C hret (Or.inl rfl) dX11_image_10
  · have hf := j_ifn hf c27
    refine x_iload_n (v := a1) C dX11_image_4 rfl ?_
    refine x_iconst C dX11_image_5 ki_2 ?_
    refine x_icmp_lt (tgt := 11) C dX11_image_6 (by decide) (fun c28 => ?_) (fun c28 => ?_)
    · have hf := j_ifp hf c28
      refine x_iload_n (v := a2) C dX11_image_11 rfl ?_
      refine x_if_ne (tgt := 34) C dX11_image_12 (by decide) (fun c29 => ?_) (fun c29 => ?_)
      · have hf := j_ifn hf c29
        refine x_aload_n (v := a0) C dX11_image_34 rfl ?_
        obtain ⟨v1, e2, hf⟩ := j_bind hf
        refine x_get C dX11_image_35 (jgR_some e2) fg_X11_38 ?_
        refine x_iload_n (v := a1) C dX11_image_38 rfl ?_
        obtain ⟨v3, e4, hf⟩ := j_bind hf
        refine x_aald C dX11_image_39 e4 ?_
        refine x_aload_n (v := a0) C dX11_image_40 rfl ?_
        obtain ⟨v5, e6, hf⟩ := j_bind hf
        refine x_get C dX11_image_41 (jgR_some e6) fg_X11_25 ?_
        refine x_aload_n (v := a0) C dX11_image_44 rfl ?_
        obtain ⟨v7, e8, hf⟩ := j_bind hf
        refine x_get C dX11_image_45 (jgR_some e8) fg_X11_32 ?_
        obtain ⟨u13, e14, hf⟩ := j_bind hf
        obtain ⟨q9, e10, hf⟩ := j_bind hf
        refine x_callV (As := [.ref v5, .ref v7]) (rest := []) C dX11_image_48 (m_X3_bringBack (l := l) (E := E) (d := d - 1) (by omega) e10) km_X3_bringBack lk_X11_309 kv_X3_bringBack (ci := 2) rfl e14 rfl (by omega) (Nat.le_of_ble_eq_true rfl) (j_le_of (q_X3_bringBack e10)) (Or.inr (q_X3_bringBack e10)) ?_
        obtain ⟨u11, e12, hf⟩ := j_bind hf
        obtain rfl := j_inj hf
        exact x_zret C hret (jzb_some e12) dX11_image_51
      · have hf := j_ifp hf c29
        refine x_aload_n (v := a0) C dX11_image_15 rfl ?_
        obtain ⟨v15, e16, hf⟩ := j_bind hf
        refine x_get C dX11_image_16 (jgR_some e16) fg_X11_38 ?_
        refine x_iload_n (v := a1) C dX11_image_19 rfl ?_
        obtain ⟨v17, e18, hf⟩ := j_bind hf
        refine x_aald C dX11_image_20 e18 ?_
        refine x_aload_n (v := a0) C dX11_image_21 rfl ?_
        obtain ⟨v19, e20, hf⟩ := j_bind hf
        refine x_get C dX11_image_22 (jgR_some e20) fg_X11_25 ?_
        refine x_aload_n (v := a0) C dX11_image_25 rfl ?_
        obtain ⟨v21, e22, hf⟩ := j_bind hf
        refine x_get C dX11_image_26 (jgR_some e22) fg_X11_32 ?_
        obtain ⟨u25, e26, hf⟩ := j_bind hf
        obtain ⟨q23, e24, hf⟩ := j_bind hf
        refine x_callV (As := [.ref v19, .ref v21]) (rest := []) C dX11_image_29 (m_X3_lay (l := l) (E := E) (d := d - 1) (by omega) e24) km_X3_lay lk_X11_305 kv_X3_lay (ci := 2) rfl e26 rfl (by omega) (Nat.le_of_ble_eq_true rfl) (j_le_of (q_X3_lay e24)) (Or.inr (q_X3_lay e24)) ?_
        refine x_iconst C dX11_image_32 ki_1 ?_
        obtain rfl := j_inj hf
        exact x_zret C hret (Or.inr rfl) dX11_image_33
    · have hf := j_ifn hf c28
      refine x_iconst C dX11_image_9 ki_0 ?_
      obtain rfl := j_inj hf
      exact x_zret C hret (Or.inl rfl) dX11_image_10
set_option maxHeartbeats 4000000 in
set_option maxRecDepth 100000 in
theorem m_X12_thrown {l : Launch} {E : JE} {d : Nat} (hdd : 0 ≤ d) {a0 : Nat} {h : JH} {q : Int32 × JH} (hf : f_X12_thrown a0 h = some q) : Con l E d yX12_thrown cX12_thrown 1 (some .int) [.ref a0] h (some (.int q.1)) q.2 := by
  refine j_start rfl (Nat.le_of_ble_eq_true rfl) ?_
  intro p e s m args below meth c C hret hnm
  refine x_loc [(0, .ref a0)] rfl ?_
  unfold f_X12_thrown at hf
  refine x_aload_n (v := a0) C dX12_thrown_0 rfl ?_
  obtain ⟨v1, e2, hf⟩ := j_bind hf
  refine x_get C dX12_thrown_1 (jgI_some e2) fg_X12_1 ?_
  obtain rfl := j_inj hf
  exact x_iret C hret dX12_thrown_4
set_option maxHeartbeats 4000000 in
set_option maxRecDepth 100000 in
theorem m_X12_within {l : Launch} {E : JE} {d : Nat} (hdd : 0 ≤ d) {a0 : Int32} {a1 : Int32} {a2 : Int32} {h : JH} {q : Int32 × JH} (hf : f_X12_within a0 a1 a2 h = some q) : Con l E d yX12_within cX12_within 3 (some .boolean) [.int a0, .int a1, .int a2] h (some (.int q.1)) q.2 := by
  refine j_start rfl (Nat.le_of_ble_eq_true rfl) ?_
  intro p e s m args below meth c C hret hnm
  refine x_loc [(0, .int a0), (1, .int a1), (2, .int a2)] rfl ?_
  unfold f_X12_within at hf
  refine x_iload_n (v := a0) C dX12_within_0 rfl ?_
  refine x_iload_n (v := a1) C dX12_within_1 rfl ?_
  refine x_icmp_lt (tgt := 14) C dX12_within_2 (by decide) (fun c1 => ?_) (fun c1 => ?_)
  · have hf := j_ifp hf c1
    refine x_iconst C dX12_within_14 ki_0 ?_
    obtain rfl := j_inj hf
    exact x_zret C hret (Or.inl rfl) dX12_within_15
  · have hf := j_ifn hf c1
    refine x_iload_n (v := a0) C dX12_within_5 rfl ?_
    refine x_iload_n (v := a2) C dX12_within_6 rfl ?_
    refine x_icmp_gt (tgt := 14) C dX12_within_7 (by decide) (fun c2 => ?_) (fun c2 => ?_)
    · have hf := j_ifp hf c2
      refine x_iconst C dX12_within_14 ki_0 ?_
      obtain rfl := j_inj hf
      exact x_zret C hret (Or.inl rfl) dX12_within_15
    · have hf := j_ifn hf c2
      refine x_iconst C dX12_within_10 ki_1 ?_
      refine x_goto (tgt := 15) C dX12_within_11 (by decide) ?_
      obtain rfl := j_inj hf
      exact x_zret C hret (Or.inr rfl) dX12_within_15
set_option maxHeartbeats 4000000 in
set_option maxRecDepth 100000 in
theorem m_X12_left {l : Launch} {E : JE} {d : Nat} (hdd : 0 ≤ d) {a0 : Nat} {a1 : Int64} {h : JH} {q : Int32 × JH} (hf : f_X12_left a0 a1 h = some q) : Con l E d yX12_left cX12_left 5 (some .int) [.ref a0, .long a1] h (some (.int q.1)) q.2 := by
  refine j_start rfl (Nat.le_of_ble_eq_true rfl) ?_
  intro p e s m args below meth c C hret hnm
  refine x_loc [(0, .ref a0), (1, .long a1)] rfl ?_
  unfold f_X12_left at hf
  refine x_lload_n (v := a1) C dX12_left_0 rfl ?_
  refine x_aload_n (v := a0) C dX12_left_1 rfl ?_
  obtain ⟨v1, e2, hf⟩ := j_bind hf
  refine x_get C dX12_left_2 (jgI_some e2) fg_X12_7 ?_
  refine x_i2l C dX12_left_5 ?_
  obtain ⟨u3, e4, hf⟩ := j_bind hf
  refine x_lrem C dX12_left_6 (jnzL_some e4) ?_
  refine x_lstore_n C dX12_left_7 (by decide) ?_
  refine x_lload_n (v := jremL a1 v1.toInt64) C dX12_left_8 rfl ?_
  refine x_lconst C dX12_left_9 kl_0 ?_
  refine x_lcmp C dX12_left_10 ?_
  refine x_if_ge (tgt := 24) C dX12_left_11 (by decide) (fun c7 => ?_) (fun c7 => ?_)
  · have hf := j_ifp hf c7
    refine x_lload_n (v := jremL a1 v1.toInt64) C dX12_left_24 rfl ?_
    refine x_l2i C dX12_left_25 ?_
    obtain rfl := j_inj hf
    exact x_iret C hret dX12_left_26
  · have hf := j_ifn hf c7
    refine x_lload_n (v := jremL a1 v1.toInt64) C dX12_left_14 rfl ?_
    refine x_aload_n (v := a0) C dX12_left_15 rfl ?_
    obtain ⟨v5, e6, hf⟩ := j_bind hf
    refine x_get C dX12_left_16 (jgI_some e6) fg_X12_7 ?_
    refine x_i2l C dX12_left_19 ?_
    refine x_ladd C dX12_left_20 ?_
    refine x_goto (tgt := 25) C dX12_left_21 (by decide) ?_
    refine x_l2i C dX12_left_25 ?_
    obtain rfl := j_inj hf
    exact x_iret C hret dX12_left_26
set_option maxHeartbeats 4000000 in
set_option maxRecDepth 100000 in
theorem s_X12_power_L5 {p : Program} {l : Launch} {e : Env} {R : Room} {s : State} {m : MethodId} {args : Array Value} {below : List Frame} {meth : Method} {c : Code} {E : JE} {h0 hF : JH} {rF : Option Value} {d : Nat} (C : j_C p s m args meth c R E cX12_power 6 RX12 h0 hF d) (hret : meth.sig.returnType = (some .int)) (hdd : 0 ≤ d) (a0 : Nat) (a1 : Int32) (a2 : Int32) (z : (Int64 × Int32)) (h : JH) (r : (Int64 × Int32) ⊕ (Int64 × Int32)) (h1 : JH) (hf : f_X12_power_L5 a0 a1 a2 z h = some (r, h1)) (hk : Sum.elim (fun z => Xw p l e R s m args below meth c E 6 h0 rF hF 5 [(0, .ref a0), (1, .int a1), (2, .int a2), (3, .long z.1), (5, .int z.2)] [] h1) (fun t => Xw p l e R s m args below meth c E 6 h0 rF hF 28 [(0, .ref a0), (1, .int a1), (2, .int a2), (3, .long t.1), (5, .int t.2)] [] h1) r) : Xw p l e R s m args below meth c E 6 h0 rF hF 5 [(0, .ref a0), (1, .int a1), (2, .int a2), (3, .long z.1), (5, .int z.2)] [] h := by
  unfold f_X12_power_L5 at hf
  refine x_iload (v := z.2) C dX12_power_5 rfl ?_
  refine x_iload_n (v := a2) C dX12_power_7 rfl ?_
  refine x_icmp_ge (tgt := 28) C dX12_power_8 (by decide) (fun c5 => ?_) (fun c5 => ?_)
  · have hf := j_ifp hf c5
    obtain ⟨rfl, rfl⟩ := j_inj2 hf
    exact x_locr hk rfl
  · have hf := j_ifn hf c5
    refine x_lload_n (v := z.1) C dX12_power_11 rfl ?_
    refine x_iload_n (v := a1) C dX12_power_12 rfl ?_
    refine x_i2l C dX12_power_13 ?_
    refine x_lmul C dX12_power_14 ?_
    refine x_aload_n (v := a0) C dX12_power_15 rfl ?_
    obtain ⟨v1, e2, hf⟩ := j_bind hf
    refine x_get C dX12_power_16 (jgI_some e2) fg_X12_7 ?_
    refine x_i2l C dX12_power_19 ?_
    obtain ⟨u3, e4, hf⟩ := j_bind hf
    refine x_lrem C dX12_power_20 (jnzL_some e4) ?_
    refine x_lstore_n C dX12_power_21 (by decide) ?_
    refine x_iinc (v := z.2) C dX12_power_22 rfl ki_1 (by decide) ?_
    refine x_goto (tgt := 5) C dX12_power_25 (by decide) ?_
    obtain ⟨rfl, rfl⟩ := j_inj2 hf
    exact x_locr hk rfl
set_option maxHeartbeats 4000000 in
set_option maxRecDepth 100000 in
theorem m_X12_power {l : Launch} {E : JE} {d : Nat} (hdd : 0 ≤ d) {a0 : Nat} {a1 : Int32} {a2 : Int32} {h : JH} {q : Int32 × JH} (hf : f_X12_power a0 a1 a2 h = some q) : Con l E d yX12_power cX12_power 6 (some .int) [.ref a0, .int a1, .int a2] h (some (.int q.1)) q.2 := by
  refine j_start rfl (Nat.le_of_ble_eq_true rfl) ?_
  intro p e s m args below meth c C hret hnm
  refine x_loc [(0, .ref a0), (1, .int a1), (2, .int a2)] rfl ?_
  unfold f_X12_power at hf
  refine x_lconst C dX12_power_0 kl_1 ?_
  refine x_lstore_n C dX12_power_1 (by decide) ?_
  refine x_iconst C dX12_power_2 ki_0 ?_
  refine x_istore C dX12_power_3 (by decide) ?_
  obtain ⟨q6, e7, hf⟩ := j_bind hf
  refine x_loc [(0, .ref a0), (1, .int a1), (2, .int a2), (3, .long (1 : Int64)), (5, .int (0 : Int32))] rfl ?_
  refine x_loop (s_X12_power_L5 C hret hdd a0 a1 a2) e7 ?_
  refine x_lload_n (v := q6.1.1) C dX12_power_28 rfl ?_
  refine x_l2i C dX12_power_29 ?_
  obtain rfl := j_inj hf
  exact x_iret C hret dX12_power_30
set_option maxHeartbeats 4000000 in
set_option maxRecDepth 100000 in
theorem s_X12_inverse_L14 {p : Program} {l : Launch} {e : Env} {R : Room} {s : State} {m : MethodId} {args : Array Value} {below : List Frame} {meth : Method} {c : Code} {E : JE} {h0 hF : JH} {rF : Option Value} {d : Nat} (C : j_C p s m args meth c R E cX12_inverse 7 RX12 h0 hF d) (hret : meth.sig.returnType = (some .int)) (hdd : 0 ≤ d) (a0 : Nat) (z : (Int64 × Int64 × Int32)) (h : JH) (r : (Int64 × Int64 × Int32) ⊕ (Int64 × Int64 × Int32)) (h1 : JH) (hf : f_X12_inverse_L14 a0 z h = some (r, h1)) (hk : Sum.elim (fun z => Xw p l e R s m args below meth c E 7 h0 rF hF 14 [(0, .ref a0), (2, .long z.1), (4, .long z.2.1), (6, .int z.2.2)] [] h1) (fun t => Xw p l e R s m args below meth c E 7 h0 rF hF 64 [(0, .ref a0), (2, .long t.1), (4, .long t.2.1), (6, .int t.2.2)] [] h1) r) : Xw p l e R s m args below meth c E 7 h0 rF hF 14 [(0, .ref a0), (2, .long z.1), (4, .long z.2.1), (6, .int z.2.2)] [] h := by
  unfold f_X12_inverse_L14 at hf
  refine x_iload (v := z.2.2) C dX12_inverse_14 rfl ?_
  refine x_if_le (tgt := 64) C dX12_inverse_16 (by decide) (fun c15 => ?_) (fun c15 => ?_)
  · have hf := j_ifp hf c15
    obtain ⟨rfl, rfl⟩ := j_inj2 hf
    exact x_locr hk rfl
  · have hf := j_ifn hf c15
    refine x_iload (v := z.2.2) C dX12_inverse_19 rfl ?_
    refine x_iconst C dX12_inverse_21 ki_2 ?_
    refine x_irem C dX12_inverse_22 (by decide) ?_
    refine x_iconst C dX12_inverse_23 ki_1 ?_
    refine x_icmp_ne (tgt := 40) C dX12_inverse_24 (by decide) (fun c16 => ?_) (fun c16 => ?_)
    · have hf := j_ifn hf c16
      refine x_lload_n (v := z.1) C dX12_inverse_40 rfl ?_
      refine x_lstore_n C dX12_inverse_41 (by decide) ?_
      refine x_lload (v := z.2.1) C dX12_inverse_42 rfl ?_
      refine x_lload (v := z.2.1) C dX12_inverse_44 rfl ?_
      refine x_lmul C dX12_inverse_46 ?_
      refine x_aload_n (v := a0) C dX12_inverse_47 rfl ?_
      obtain ⟨v3, e4, hf⟩ := j_bind hf
      refine x_get C dX12_inverse_48 (jgI_some e4) fg_X12_7 ?_
      refine x_i2l C dX12_inverse_51 ?_
      obtain ⟨u5, e6, hf⟩ := j_bind hf
      refine x_lrem C dX12_inverse_52 (jnzL_some e6) ?_
      refine x_lstore C dX12_inverse_53 (by decide) ?_
      refine x_iload (v := z.2.2) C dX12_inverse_55 rfl ?_
      refine x_iconst C dX12_inverse_57 ki_2 ?_
      refine x_idiv C dX12_inverse_58 (by decide) ?_
      refine x_istore C dX12_inverse_59 (by decide) ?_
      refine x_goto (tgt := 14) C dX12_inverse_61 (by decide) ?_
      obtain ⟨rfl, rfl⟩ := j_inj2 hf
      exact x_locr hk rfl
    · have hf := j_ifp hf c16
      refine x_lload_n (v := z.1) C dX12_inverse_27 rfl ?_
      refine x_lload (v := z.2.1) C dX12_inverse_28 rfl ?_
      refine x_lmul C dX12_inverse_30 ?_
      refine x_aload_n (v := a0) C dX12_inverse_31 rfl ?_
      obtain ⟨v7, e8, hf⟩ := j_bind hf
      refine x_get C dX12_inverse_32 (jgI_some e8) fg_X12_7 ?_
      refine x_i2l C dX12_inverse_35 ?_
      obtain ⟨u9, e10, hf⟩ := j_bind hf
      refine x_lrem C dX12_inverse_36 (jnzL_some e10) ?_
      refine x_goto (tgt := 41) C dX12_inverse_37 (by decide) ?_
      refine x_lstore_n C dX12_inverse_41 (by decide) ?_
      refine x_lload (v := z.2.1) C dX12_inverse_42 rfl ?_
      refine x_lload (v := z.2.1) C dX12_inverse_44 rfl ?_
      refine x_lmul C dX12_inverse_46 ?_
      refine x_aload_n (v := a0) C dX12_inverse_47 rfl ?_
      obtain ⟨v11, e12, hf⟩ := j_bind hf
      refine x_get C dX12_inverse_48 (jgI_some e12) fg_X12_7 ?_
      refine x_i2l C dX12_inverse_51 ?_
      obtain ⟨u13, e14, hf⟩ := j_bind hf
      refine x_lrem C dX12_inverse_52 (jnzL_some e14) ?_
      refine x_lstore C dX12_inverse_53 (by decide) ?_
      refine x_iload (v := z.2.2) C dX12_inverse_55 rfl ?_
      refine x_iconst C dX12_inverse_57 ki_2 ?_
      refine x_idiv C dX12_inverse_58 (by decide) ?_
      refine x_istore C dX12_inverse_59 (by decide) ?_
      refine x_goto (tgt := 14) C dX12_inverse_61 (by decide) ?_
      obtain ⟨rfl, rfl⟩ := j_inj2 hf
      exact x_locr hk rfl
set_option maxHeartbeats 4000000 in
set_option maxRecDepth 100000 in
theorem m_X12_inverse {l : Launch} {E : JE} {d : Nat} (hdd : 0 ≤ d) {a0 : Nat} {a1 : Int32} {h : JH} {q : Int32 × JH} (hf : f_X12_inverse a0 a1 h = some q) : Con l E d yX12_inverse cX12_inverse 7 (some .int) [.ref a0, .int a1] h (some (.int q.1)) q.2 := by
  refine j_start rfl (Nat.le_of_ble_eq_true rfl) ?_
  intro p e s m args below meth c C hret hnm
  refine x_loc [(0, .ref a0), (1, .int a1)] rfl ?_
  unfold f_X12_inverse at hf
  refine x_lconst C dX12_inverse_0 kl_1 ?_
  refine x_lstore_n C dX12_inverse_1 (by decide) ?_
  refine x_iload_n (v := a1) C dX12_inverse_2 rfl ?_
  refine x_i2l C dX12_inverse_3 ?_
  refine x_lstore C dX12_inverse_4 (by decide) ?_
  refine x_aload_n (v := a0) C dX12_inverse_6 rfl ?_
  obtain ⟨v1, e2, hf⟩ := j_bind hf
  refine x_get C dX12_inverse_7 (jgI_some e2) fg_X12_7 ?_
  refine x_iconst C dX12_inverse_10 ki_2 ?_
  refine x_isub C dX12_inverse_11 ?_
  refine x_istore C dX12_inverse_12 (by decide) ?_
  obtain ⟨q17, e18, hf⟩ := j_bind hf
  refine x_loc [(0, .ref a0), (2, .long (1 : Int64)), (4, .long a1.toInt64), (6, .int (v1 - (2 : Int32)))] rfl ?_
  refine x_loop (s_X12_inverse_L14 C hret hdd a0) e18 ?_
  refine x_lload_n (v := q17.1.1) C dX12_inverse_64 rfl ?_
  refine x_l2i C dX12_inverse_65 ?_
  obtain rfl := j_inj hf
  exact x_iret C hret dX12_inverse_66
set_option maxHeartbeats 4000000 in
set_option maxRecDepth 100000 in
theorem s_X12_isPrime_L4 {p : Program} {l : Launch} {e : Env} {R : Room} {s : State} {m : MethodId} {args : Array Value} {below : List Frame} {meth : Method} {c : Code} {E : JE} {h0 hF : JH} {rF : Option Value} {d : Nat} (C : j_C p s m args meth c R E cX12_isPrime 3 RX12 h0 hF d) (hret : meth.sig.returnType = (some .boolean)) (hdd : 0 ≤ d) (a0 : Int32) (z : (Int32 × Int32)) (h : JH) (r : (Int32 × Int32) ⊕ (Int32 × Int32)) (h1 : JH) (hf : f_X12_isPrime_L4 a0 z h = some (r, h1)) (hk : Sum.elim (fun z => Xw p l e R s m args below meth c E 3 h0 rF hF 4 [(0, .int a0), (1, .int z.1), (2, .int z.2)] [] h1) (fun t => Xw p l e R s m args below meth c E 3 h0 rF hF 33 [(0, .int a0), (1, .int t.1), (2, .int t.2)] [] h1) r) : Xw p l e R s m args below meth c E 3 h0 rF hF 4 [(0, .int a0), (1, .int z.1), (2, .int z.2)] [] h := by
  unfold f_X12_isPrime_L4 at hf
  refine x_iload_n (v := z.2) C dX12_isPrime_4 rfl ?_
  refine x_iload_n (v := z.2) C dX12_isPrime_5 rfl ?_
  refine x_imul C dX12_isPrime_6 ?_
  refine x_iload_n (v := a0) C dX12_isPrime_7 rfl ?_
  refine x_icmp_gt (tgt := 33) C dX12_isPrime_8 (by decide) (fun c3 => ?_) (fun c3 => ?_)
  · have hf := j_ifp hf c3
    obtain ⟨rfl, rfl⟩ := j_inj2 hf
    exact x_locr hk rfl
  · have hf := j_ifn hf c3
    refine x_iload_n (v := z.1) C dX12_isPrime_11 rfl ?_
    refine x_if_eq (tgt := 33) C dX12_isPrime_12 (by decide) (fun c4 => ?_) (fun c4 => ?_)
    · have hf := j_ifp hf c4
      obtain ⟨rfl, rfl⟩ := j_inj2 hf
      exact x_locr hk rfl
    · have hf := j_ifn hf c4
      refine x_iload_n (v := a0) C dX12_isPrime_15 rfl ?_
      refine x_iload_n (v := z.2) C dX12_isPrime_16 rfl ?_
      obtain ⟨u1, e2, hf⟩ := j_bind hf
      refine x_irem C dX12_isPrime_17 (jnz_some e2) ?_
      refine x_if_eq (tgt := 25) C dX12_isPrime_18 (by decide) (fun c5 => ?_) (fun c5 => ?_)
      · have hf := j_ifp hf c5
        refine x_iconst C dX12_isPrime_25 ki_0 ?_
        refine x_istore_n C dX12_isPrime_26 (by decide) ?_
        refine x_iinc (v := z.2) C dX12_isPrime_27 rfl ki_1 (by decide) ?_
        refine x_goto (tgt := 4) C dX12_isPrime_30 (by decide) ?_
        obtain ⟨rfl, rfl⟩ := j_inj2 hf
        exact x_locr hk rfl
      · have hf := j_ifn hf c5
        refine x_iconst C dX12_isPrime_21 ki_1 ?_
        refine x_goto (tgt := 26) C dX12_isPrime_22 (by decide) ?_
        refine x_istore_n C dX12_isPrime_26 (by decide) ?_
        refine x_iinc (v := z.2) C dX12_isPrime_27 rfl ki_1 (by decide) ?_
        refine x_goto (tgt := 4) C dX12_isPrime_30 (by decide) ?_
        obtain ⟨rfl, rfl⟩ := j_inj2 hf
        exact x_locr hk rfl
set_option maxHeartbeats 4000000 in
set_option maxRecDepth 100000 in
theorem m_X12_isPrime {l : Launch} {E : JE} {d : Nat} (hdd : 0 ≤ d) {a0 : Int32} {h : JH} {q : Int32 × JH} (hf : f_X12_isPrime a0 h = some q) : Con l E d yX12_isPrime cX12_isPrime 3 (some .boolean) [.int a0] h (some (.int q.1)) q.2 := by
  refine j_start rfl (Nat.le_of_ble_eq_true rfl) ?_
  intro p e s m args below meth c C hret hnm
  refine x_loc [(0, .int a0)] rfl ?_
  unfold f_X12_isPrime at hf
  refine x_iconst C dX12_isPrime_0 ki_1 ?_
  refine x_istore_n C dX12_isPrime_1 (by decide) ?_
  refine x_iconst C dX12_isPrime_2 ki_2 ?_
  refine x_istore_n C dX12_isPrime_3 (by decide) ?_
  obtain ⟨q6, e7, hf⟩ := j_bind hf
  refine x_loc [(0, .int a0), (1, .int (1 : Int32)), (2, .int (2 : Int32))] rfl ?_
  refine x_loop (s_X12_isPrime_L4 C hret hdd a0) e7 ?_
  refine x_iload_n (v := q6.1.1) C dX12_isPrime_33 rfl ?_
  obtain ⟨u8, e9, hf⟩ := j_bind hf
  obtain rfl := j_inj hf
  exact x_zret C hret (jzb_some e9) dX12_isPrime_34
set_option maxHeartbeats 4000000 in
set_option maxRecDepth 100000 in
theorem s_X12_copies_L3 {p : Program} {l : Launch} {e : Env} {R : Room} {s : State} {m : MethodId} {args : Array Value} {below : List Frame} {meth : Method} {c : Code} {E : JE} {h0 hF : JH} {rF : Option Value} {d : Nat} (C : j_C p s m args meth c R E cX12_copies 5 RX12 h0 hF d) (hret : meth.sig.returnType = none) (hdd : 0 ≤ d) (a0 : Nat) (a1 : Int32) (a2 : Nat) (a3 : Int32) (z : Int32) (h : JH) (r : Int32 ⊕ Int32) (h1 : JH) (hf : f_X12_copies_L3 a0 a1 a2 a3 z h = some (r, h1)) (hk : Sum.elim (fun z => Xw p l e R s m args below meth c E 5 h0 rF hF 3 [(0, .ref a0), (1, .int a1), (2, .ref a2), (3, .int a3), (4, .int z)] [] h1) (fun t => Xw p l e R s m args below meth c E 5 h0 rF hF 29 [(0, .ref a0), (1, .int a1), (2, .ref a2), (3, .int a3), (4, .int t)] [] h1) r) : Xw p l e R s m args below meth c E 5 h0 rF hF 3 [(0, .ref a0), (1, .int a1), (2, .ref a2), (3, .int a3), (4, .int z)] [] h := by
  unfold f_X12_copies_L3 at hf
  refine x_iload (v := z) C dX12_copies_3 rfl ?_
  refine x_sipush C dX12_copies_5 ks_181 ?_
  refine x_icmp_ge (tgt := 29) C dX12_copies_8 (by decide) (fun c5 => ?_) (fun c5 => ?_)
  · have hf := j_ifp hf c5
    obtain ⟨rfl, rfl⟩ := j_inj2 hf
    exact x_locr hk rfl
  · have hf := j_ifn hf c5
    refine x_aload_n (v := a2) C dX12_copies_11 rfl ?_
    refine x_iload_n (v := a3) C dX12_copies_12 rfl ?_
    refine x_iload (v := z) C dX12_copies_13 rfl ?_
    refine x_iadd C dX12_copies_15 ?_
    refine x_aload_n (v := a0) C dX12_copies_16 rfl ?_
    refine x_iload_n (v := a1) C dX12_copies_17 rfl ?_
    refine x_iload (v := z) C dX12_copies_18 rfl ?_
    refine x_iadd C dX12_copies_20 ?_
    obtain ⟨v1, e2, hf⟩ := j_bind hf
    refine x_iald C dX12_copies_21 e2 ?_
    obtain ⟨h3, e4, hf⟩ := j_bind hf
    refine x_iast C dX12_copies_22 e4 ?_
    refine x_iinc (v := z) C dX12_copies_23 rfl ki_1 (by decide) ?_
    refine x_goto (tgt := 3) C dX12_copies_26 (by decide) ?_
    obtain ⟨rfl, rfl⟩ := j_inj2 hf
    exact x_locr hk rfl
set_option maxHeartbeats 4000000 in
set_option maxRecDepth 100000 in
theorem m_X12_copies {l : Launch} {E : JE} {d : Nat} (hdd : 0 ≤ d) {a0 : Nat} {a1 : Int32} {a2 : Nat} {a3 : Int32} {h : JH} {q : Unit × JH} (hf : f_X12_copies a0 a1 a2 a3 h = some q) : Con l E d yX12_copies cX12_copies 5 none [.ref a0, .int a1, .ref a2, .int a3] h (none) q.2 := by
  refine j_start rfl (Nat.le_of_ble_eq_true rfl) ?_
  intro p e s m args below meth c C hret hnm
  refine x_loc [(0, .ref a0), (1, .int a1), (2, .ref a2), (3, .int a3)] rfl ?_
  unfold f_X12_copies at hf
  refine x_iconst C dX12_copies_0 ki_0 ?_
  refine x_istore C dX12_copies_1 (by decide) ?_
  obtain ⟨q6, e7, hf⟩ := j_bind hf
  refine x_loc [(0, .ref a0), (1, .int a1), (2, .ref a2), (3, .int a3), (4, .int (0 : Int32))] rfl ?_
  refine x_loop (s_X12_copies_L3 C hret hdd a0 a1 a2 a3) e7 ?_
  obtain rfl := j_inj hf
  exact x_vret C hret dX12_copies_29
set_option maxHeartbeats 4000000 in
set_option maxRecDepth 100000 in
theorem s_X12_multiplies_L17 {p : Program} {l : Launch} {e : Env} {R : Room} {s : State} {m : MethodId} {args : Array Value} {below : List Frame} {meth : Method} {c : Code} {E : JE} {h0 hF : JH} {rF : Option Value} {d : Nat} (C : j_C p s m args meth c R E cX12_multiplies 10 RX12 h0 hF d) (hret : meth.sig.returnType = none) (hdd : 1 ≤ d) (a0 : Nat) (a1 : Nat) (a2 : Int32) (a3 : Nat) (a4 : Int32) (a5 : Nat) (a6 : Int32) (z : (Int64 × Int32)) (h : JH) (r : (Int64 × Int32) ⊕ (Int64 × Int32)) (h1 : JH) (hf : f_X12_multiplies_L17 a0 a1 a2 a3 a4 a5 a6 z h = some (r, h1)) (hk : Sum.elim (fun z => Xw p l e R s m args below meth c E 10 h0 rF hF 17 [(0, .ref a0), (1, .ref a1), (2, .int a2), (3, .ref a3), (4, .int a4), (5, .ref a5), (6, .int a6), (7, .long z.1), (9, .int z.2)] [] h1) (fun t => Xw p l e R s m args below meth c E 10 h0 rF hF 54 [(0, .ref a0), (1, .ref a1), (2, .int a2), (3, .ref a3), (4, .int a4), (5, .ref a5), (6, .int a6), (7, .long t.1), (9, .int t.2)] [] h1) r) : Xw p l e R s m args below meth c E 10 h0 rF hF 17 [(0, .ref a0), (1, .ref a1), (2, .int a2), (3, .ref a3), (4, .int a4), (5, .ref a5), (6, .int a6), (7, .long z.1), (9, .int z.2)] [] h := by
  unfold f_X12_multiplies_L17 at hf
  refine x_iload (v := z.2) C dX12_multiplies_17 rfl ?_
  refine x_iload (v := a6) C dX12_multiplies_19 rfl ?_
  refine x_icmp_gt (tgt := 54) C dX12_multiplies_21 (by decide) (fun c5 => ?_) (fun c5 => ?_)
  · have hf := j_ifp hf c5
    obtain ⟨rfl, rfl⟩ := j_inj2 hf
    exact x_locr hk rfl
  · have hf := j_ifn hf c5
    refine x_lload (v := z.1) C dX12_multiplies_24 rfl ?_
    refine x_aload_n (v := a1) C dX12_multiplies_26 rfl ?_
    refine x_iload_n (v := a2) C dX12_multiplies_27 rfl ?_
    refine x_iload (v := z.2) C dX12_multiplies_28 rfl ?_
    refine x_iadd C dX12_multiplies_30 ?_
    obtain ⟨v1, e2, hf⟩ := j_bind hf
    refine x_iald C dX12_multiplies_31 e2 ?_
    refine x_i2l C dX12_multiplies_32 ?_
    refine x_aload_n (v := a3) C dX12_multiplies_33 rfl ?_
    refine x_iload (v := a4) C dX12_multiplies_34 rfl ?_
    refine x_iload (v := a6) C dX12_multiplies_36 rfl ?_
    refine x_iadd C dX12_multiplies_38 ?_
    refine x_iload (v := z.2) C dX12_multiplies_39 rfl ?_
    refine x_isub C dX12_multiplies_41 ?_
    obtain ⟨v3, e4, hf⟩ := j_bind hf
    refine x_iald C dX12_multiplies_42 e4 ?_
    refine x_i2l C dX12_multiplies_43 ?_
    refine x_lmul C dX12_multiplies_44 ?_
    refine x_ladd C dX12_multiplies_45 ?_
    refine x_lstore C dX12_multiplies_46 (by decide) ?_
    refine x_iinc (v := z.2) C dX12_multiplies_48 rfl ki_1 (by decide) ?_
    refine x_goto (tgt := 17) C dX12_multiplies_51 (by decide) ?_
    obtain ⟨rfl, rfl⟩ := j_inj2 hf
    exact x_locr hk rfl
set_option maxHeartbeats 4000000 in
set_option maxRecDepth 100000 in
theorem s_X12_multiplies_L3 {p : Program} {l : Launch} {e : Env} {R : Room} {s : State} {m : MethodId} {args : Array Value} {below : List Frame} {meth : Method} {c : Code} {E : JE} {h0 hF : JH} {rF : Option Value} {d : Nat} (C : j_C p s m args meth c R E cX12_multiplies 10 RX12 h0 hF d) (hret : meth.sig.returnType = none) (hdd : 1 ≤ d) (a0 : Nat) (a1 : Nat) (a2 : Int32) (a3 : Nat) (a4 : Int32) (a5 : Nat) (z : Int32) (h : JH) (r : Int32 ⊕ Int32) (h1 : JH) (hf : f_X12_multiplies_L3 a0 a1 a2 a3 a4 a5 z h = some (r, h1)) (hk : Sum.elim (fun z => Xw p l e R s m args below meth c E 10 h0 rF hF 3 [(0, .ref a0), (1, .ref a1), (2, .int a2), (3, .ref a3), (4, .int a4), (5, .ref a5), (6, .int z)] [] h1) (fun t => Xw p l e R s m args below meth c E 10 h0 rF hF 71 [(0, .ref a0), (1, .ref a1), (2, .int a2), (3, .ref a3), (4, .int a4), (5, .ref a5), (6, .int t)] [] h1) r) : Xw p l e R s m args below meth c E 10 h0 rF hF 3 [(0, .ref a0), (1, .ref a1), (2, .int a2), (3, .ref a3), (4, .int a4), (5, .ref a5), (6, .int z)] [] h := by
  unfold f_X12_multiplies_L3 at hf
  refine x_iload (v := z) C dX12_multiplies_3 rfl ?_
  refine x_sipush C dX12_multiplies_5 ks_181 ?_
  refine x_icmp_ge (tgt := 71) C dX12_multiplies_8 (by decide) (fun c9 => ?_) (fun c9 => ?_)
  · have hf := j_ifp hf c9
    obtain ⟨rfl, rfl⟩ := j_inj2 hf
    exact x_locr hk rfl
  · have hf := j_ifn hf c9
    refine x_lconst C dX12_multiplies_11 kl_0 ?_
    refine x_lstore C dX12_multiplies_12 (by decide) ?_
    refine x_iconst C dX12_multiplies_14 ki_0 ?_
    refine x_istore C dX12_multiplies_15 (by decide) ?_
    obtain ⟨q1, e2, hf⟩ := j_bind hf
    refine x_loc [(0, .ref a0), (1, .ref a1), (2, .int a2), (3, .ref a3), (4, .int a4), (5, .ref a5), (6, .int z), (7, .long (0 : Int64)), (9, .int (0 : Int32))] rfl ?_
    refine x_loop (s_X12_multiplies_L17 C hret hdd a0 a1 a2 a3 a4 a5 z) e2 ?_
    refine x_aload (v := a5) C dX12_multiplies_54 rfl ?_
    refine x_iload (v := z) C dX12_multiplies_56 rfl ?_
    refine x_aload_n (v := a0) C dX12_multiplies_58 rfl ?_
    refine x_lload (v := q1.1.1) C dX12_multiplies_59 rfl ?_
    obtain ⟨u7, e8, hf⟩ := j_bind hf
    obtain ⟨q3, e4, hf⟩ := j_bind hf
    refine x_callV (As := [.long q1.1.1]) (rest := [.int z, .ref a5]) C dX12_multiplies_61 (m_X12_left (l := l) (E := E) (d := d - 1) (by omega) e4) km_X12_left lk_X12_10 kv_X12_left (ci := 9) rfl e8 rfl (by omega) (Nat.le_of_ble_eq_true rfl) (j_le_of (q_X12_left e4)) (Or.inr (q_X12_left e4)) ?_
    obtain ⟨h5, e6, hf⟩ := j_bind hf
    refine x_iast C dX12_multiplies_64 e6 ?_
    refine x_iinc (v := z) C dX12_multiplies_65 rfl ki_1 (by decide) ?_
    refine x_goto (tgt := 3) C dX12_multiplies_68 (by decide) ?_
    obtain ⟨rfl, rfl⟩ := j_inj2 hf
    exact x_locr hk rfl
set_option maxHeartbeats 4000000 in
set_option maxRecDepth 100000 in
theorem m_X12_multiplies {l : Launch} {E : JE} {d : Nat} (hdd : 1 ≤ d) {a0 : Nat} {a1 : Nat} {a2 : Int32} {a3 : Nat} {a4 : Int32} {a5 : Nat} {h : JH} {q : Unit × JH} (hf : f_X12_multiplies a0 a1 a2 a3 a4 a5 h = some q) : Con l E d yX12_multiplies cX12_multiplies 10 none [.ref a0, .ref a1, .int a2, .ref a3, .int a4, .ref a5] h (none) q.2 := by
  refine j_start rfl (Nat.le_of_ble_eq_true rfl) ?_
  intro p e s m args below meth c C hret hnm
  refine x_loc [(0, .ref a0), (1, .ref a1), (2, .int a2), (3, .ref a3), (4, .int a4), (5, .ref a5)] rfl ?_
  unfold f_X12_multiplies at hf
  refine x_iconst C dX12_multiplies_0 ki_0 ?_
  refine x_istore C dX12_multiplies_1 (by decide) ?_
  obtain ⟨q10, e11, hf⟩ := j_bind hf
  refine x_loc [(0, .ref a0), (1, .ref a1), (2, .int a2), (3, .ref a3), (4, .int a4), (5, .ref a5), (6, .int (0 : Int32))] rfl ?_
  refine x_loop (s_X12_multiplies_L3 C hret hdd a0 a1 a2 a3 a4 a5) e11 ?_
  obtain rfl := j_inj hf
  exact x_vret C hret dX12_multiplies_71
