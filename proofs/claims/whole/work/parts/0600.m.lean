set_option maxHeartbeats 4000000 in
set_option maxRecDepth 100000 in
theorem m_X2_init {l : Launch} {E : JE} {d : Nat} (hdd : 1 ≤ d) {a0 : Nat} {h : JH} {q : Unit × JH} (hf : f_X2_init a0 h = some q) : Con l E d yX2_init cX2_init 1 none [.ref a0] h (none) q.2 := by
  refine j_start rfl (Nat.le_of_ble_eq_true rfl) ?_
  intro p e s m args below meth c C hret hnm
  have hin : meth.name = "<init>" := hnm
  refine x_loc [(0, .ref a0)] rfl ?_
  unfold f_X2_init at hf
  refine x_aload_n (v := a0) C dX2_init_0 rfl ?_
  refine x_objInit C dX2_init_1 ⟨lk_X2_3, w_obj⟩ (by omega) (Nat.le_of_ble_eq_true rfl) ?_
  refine x_aload_n (v := a0) C dX2_init_4 rfl ?_
  refine x_bipush C dX2_init_5 kb_6 ?_
  obtain ⟨q1, e2, hf⟩ := j_bind hf
  have hle : j_le q1.2 q.2 := by
    obtain ⟨h3, e4, hf⟩ := j_bind hf
    refine j_le_trans (j_le_of (jput_n e4)) ?_
    obtain rfl := j_inj hf
    exact j_le_refl _
  refine x_newa (q := q1.1) (h1 := q1.2) C dX2_init_7 rfl (by decide) (by decide) (fun q => q) wi_int e2 hle ?_
  obtain ⟨h3, e4, hf⟩ := j_bind hf
  refine x_putF C hin dX2_init_9 e4 fp_X2_9 rfl rfl ?_
  obtain rfl := j_inj hf
  exact x_vret C hret dX2_init_12
set_option maxHeartbeats 4000000 in
set_option maxRecDepth 100000 in
theorem s_X11_newForms_L7 {p : Program} {l : Launch} {e : Env} {R : Room} {s : State} {m : MethodId} {args : Array Value} {below : List Frame} {meth : Method} {c : Code} {E : JE} {h0 hF : JH} {rF : Option Value} {d : Nat} (C : j_C p s m args meth c R E cX11_newForms 3 RX11 h0 hF d) (hret : meth.sig.returnType = (some (.array (.object "HeckeSeries$Form")))) (hdd : 2 ≤ d) (a0 : Int32) (a1 : Nat) (z : Int32) (h : JH) (r : Int32 ⊕ Int32) (h1 : JH) (hf : f_X11_newForms_L7 a0 a1 z h = some (r, h1)) (hleF : j_le h1 hF) (hk : Sum.elim (fun z => Xw p l e R s m args below meth c E 3 h0 rF hF 7 [(0, .int a0), (1, .ref a1), (2, .int z)] [] h1) (fun t => Xw p l e R s m args below meth c E 3 h0 rF hF 28 [(0, .int a0), (1, .ref a1), (2, .int t)] [] h1) r) : Xw p l e R s m args below meth c E 3 h0 rF hF 7 [(0, .int a0), (1, .ref a1), (2, .int z)] [] h := by
  unfold f_X11_newForms_L7 at hf
  refine x_iload_n (v := z) C dX11_newForms_7 rfl ?_
  refine x_iload_n (v := a0) C dX11_newForms_8 rfl ?_
  refine x_icmp_ge (tgt := 28) C dX11_newForms_9 (by decide) (fun c9 => ?_) (fun c9 => ?_)
  · have hf := j_ifp hf c9
    obtain ⟨rfl, rfl⟩ := j_inj2 hf
    exact x_locr hk rfl
  · have hf := j_ifn hf c9
    refine x_aload_n (v := a1) C dX11_newForms_12 rfl ?_
    refine x_iload_n (v := z) C dX11_newForms_13 rfl ?_
    obtain ⟨q3, e4, hf⟩ := j_bind hf
    have hle : j_le q3.2 hF := by
      obtain ⟨q5, e6, hf⟩ := j_bind hf
      refine j_le_trans (n_X2_init e6) ?_
      obtain ⟨h7, e8, hf⟩ := j_bind hf
      refine j_le_trans (j_le_of (jsR_n e8)) ?_
      obtain ⟨rfl, rfl⟩ := j_inj2 hf
      exact hleF
    refine x_new C dX11_newForms_14 nc_X11_63 e4 hle ?_
    refine x_dup C dX11_newForms_17 rfl ?_
    obtain ⟨q5, e6, hf⟩ := j_bind hf
    have hle : j_le q5.2 hF := by
      obtain ⟨h7, e8, hf⟩ := j_bind hf
      refine j_le_trans (j_le_of (jsR_n e8)) ?_
      obtain ⟨rfl, rfl⟩ := j_inj2 hf
      exact hleF
    refine x_callIN (As := []) (rest := [.ref q3.1, .int z, .ref a1]) C dX11_newForms_18 (m_X2_init (l := l) (E := E) (d := d - 1) (by omega) e6) km_X2_init lk_X11_65 ki_X2_init rfl (by omega) (Nat.le_of_ble_eq_true rfl) (n_X2_init e6) (Or.inl hle) ?_
    obtain ⟨h7, e8, hf⟩ := j_bind hf
    refine x_aast C dX11_newForms_21 e8 ?_
    refine x_iinc (v := z) C dX11_newForms_22 rfl ki_1 (by decide) ?_
    refine x_goto (tgt := 7) C dX11_newForms_25 (by decide) ?_
    obtain ⟨rfl, rfl⟩ := j_inj2 hf
    exact x_locr hk rfl
set_option maxHeartbeats 4000000 in
set_option maxRecDepth 100000 in
theorem m_X11_newForms {l : Launch} {E : JE} {d : Nat} (hdd : 2 ≤ d) {a0 : Int32} {h : JH} {q : Nat × JH} (hf : f_X11_newForms a0 h = some q) : Con l E d yX11_newForms cX11_newForms 3 (some (.array (.object "HeckeSeries$Form"))) [.int a0] h (some (.ref q.1)) q.2 := by
  refine j_start rfl (Nat.le_of_ble_eq_true rfl) ?_
  intro p e s m args below meth c C hret hnm
  refine x_loc [(0, .int a0)] rfl ?_
  unfold f_X11_newForms at hf
  refine x_iload_n (v := a0) C dX11_newForms_0 rfl ?_
  obtain ⟨q1, e2, hf⟩ := j_bind hf
  have hle : j_le q1.2 q.2 := by
    obtain ⟨q10, e11, hf⟩ := j_bind hf
    refine j_le_trans ((jloop_le (fun _ _ _ _ q => n_X11_newForms_L7 q) e11)) ?_
    obtain rfl := j_inj hf
    exact j_le_refl _
  refine x_newq (q := q1.1) (h1 := q1.2) C dX11_newForms_1 (by decide) wc_X11_63 wo_X2 e2 hle ?_
  refine x_astore_n C dX11_newForms_4 (by decide) ?_
  refine x_iconst C dX11_newForms_5 ki_0 ?_
  refine x_istore_n C dX11_newForms_6 (by decide) ?_
  obtain ⟨q10, e11, hf⟩ := j_bind hf
  have hle : j_le q10.2 q.2 := by
    obtain rfl := j_inj hf
    exact j_le_refl _
  refine x_loc [(0, .int a0), (1, .ref q1.1), (2, .int (0 : Int32))] rfl ?_
  refine x_loopA (s_X11_newForms_L7 C hret hdd a0 q1.1) (fun _ _ _ _ q => n_X11_newForms_L7 q) e11 hle ?_
  refine x_aload_n (v := q1.1) C dX11_newForms_28 rfl ?_
  obtain rfl := j_inj hf
  exact x_aret C hret (Or.inr ⟨_, rfl⟩) dX11_newForms_29
set_option maxHeartbeats 4000000 in
set_option maxRecDepth 100000 in
theorem m_X9_init {l : Launch} {E : JE} {d : Nat} (hdd : 1 ≤ d) {a0 : Nat} {h : JH} {q : Unit × JH} (hf : f_X9_init a0 h = some q) : Con l E d yX9_init cX9_init 1 none [.ref a0] h (none) q.2 := by
  refine j_start rfl (Nat.le_of_ble_eq_true rfl) ?_
  intro p e s m args below meth c C hret hnm
  have hin : meth.name = "<init>" := hnm
  refine x_loc [(0, .ref a0)] rfl ?_
  unfold f_X9_init at hf
  refine x_aload_n (v := a0) C dX9_init_0 rfl ?_
  refine x_objInit C dX9_init_1 ⟨lk_X9_3, w_obj⟩ (by omega) (Nat.le_of_ble_eq_true rfl) ?_
  refine x_aload_n (v := a0) C dX9_init_4 rfl ?_
  refine x_sipush C dX9_init_5 ks_601 ?_
  obtain ⟨q1, e2, hf⟩ := j_bind hf
  have hle : j_le q1.2 q.2 := by
    obtain ⟨h3, e4, hf⟩ := j_bind hf
    refine j_le_trans (j_le_of (jput_n e4)) ?_
    obtain ⟨q5, e6, hf⟩ := j_bind hf
    refine j_le_trans (jnA_le e6) ?_
    obtain ⟨h7, e8, hf⟩ := j_bind hf
    refine j_le_trans (j_le_of (jput_n e8)) ?_
    obtain ⟨q9, e10, hf⟩ := j_bind hf
    refine j_le_trans (jnA_le e10) ?_
    obtain ⟨h11, e12, hf⟩ := j_bind hf
    refine j_le_trans (j_le_of (jput_n e12)) ?_
    obtain rfl := j_inj hf
    exact j_le_refl _
  refine x_newa (q := q1.1) (h1 := q1.2) C dX9_init_8 rfl (by decide) (by decide) (fun q => q) wi_int e2 hle ?_
  obtain ⟨h3, e4, hf⟩ := j_bind hf
  refine x_putF C hin dX9_init_10 e4 fp_X9_9 rfl rfl ?_
  refine x_aload_n (v := a0) C dX9_init_13 rfl ?_
  refine x_sipush C dX9_init_14 ks_601 ?_
  obtain ⟨q5, e6, hf⟩ := j_bind hf
  have hle : j_le q5.2 q.2 := by
    obtain ⟨h7, e8, hf⟩ := j_bind hf
    refine j_le_trans (j_le_of (jput_n e8)) ?_
    obtain ⟨q9, e10, hf⟩ := j_bind hf
    refine j_le_trans (jnA_le e10) ?_
    obtain ⟨h11, e12, hf⟩ := j_bind hf
    refine j_le_trans (j_le_of (jput_n e12)) ?_
    obtain rfl := j_inj hf
    exact j_le_refl _
  refine x_newa (q := q5.1) (h1 := q5.2) C dX9_init_17 rfl (by decide) (by decide) (fun q => q) wi_int e6 hle ?_
  obtain ⟨h7, e8, hf⟩ := j_bind hf
  refine x_putF C hin dX9_init_19 e8 fp_X9_15 rfl rfl ?_
  refine x_aload_n (v := a0) C dX9_init_22 rfl ?_
  refine x_sipush C dX9_init_23 ks_601 ?_
  obtain ⟨q9, e10, hf⟩ := j_bind hf
  have hle : j_le q9.2 q.2 := by
    obtain ⟨h11, e12, hf⟩ := j_bind hf
    refine j_le_trans (j_le_of (jput_n e12)) ?_
    obtain rfl := j_inj hf
    exact j_le_refl _
  refine x_newa (q := q9.1) (h1 := q9.2) C dX9_init_26 rfl (by decide) (by decide) (fun q => q) wi_int e10 hle ?_
  obtain ⟨h11, e12, hf⟩ := j_bind hf
  refine x_putF C hin dX9_init_28 e12 fp_X9_18 rfl rfl ?_
  obtain rfl := j_inj hf
  exact x_vret C hret dX9_init_31
set_option maxHeartbeats 4000000 in
set_option maxRecDepth 100000 in
theorem m_X0_init {l : Launch} {E : JE} {d : Nat} (hdd : 3 ≤ d) {a0 : Nat} {h : JH} {q : Unit × JH} (hf : f_X0_init a0 h = some q) : Con l E d yX0_init cX0_init 1 none [.ref a0] h (none) q.2 := by
  refine j_start rfl (Nat.le_of_ble_eq_true rfl) ?_
  intro p e s m args below meth c C hret hnm
  have hin : meth.name = "<init>" := hnm
  refine x_loc [(0, .ref a0)] rfl ?_
  unfold f_X0_init at hf
  refine x_aload_n (v := a0) C dX0_init_0 rfl ?_
  refine x_objInit C dX0_init_1 ⟨lk_X0_3, w_obj⟩ (by omega) (Nat.le_of_ble_eq_true rfl) ?_
  refine x_aload_n (v := a0) C dX0_init_4 rfl ?_
  refine x_bipush C dX0_init_5 kb_6 ?_
  obtain ⟨q1, e2, hf⟩ := j_bind hf
  have hle : j_le q1.2 q.2 := by
    obtain ⟨h3, e4, hf⟩ := j_bind hf
    refine j_le_trans (j_le_of (jput_n e4)) ?_
    obtain ⟨q5, e6, hf⟩ := j_bind hf
    refine j_le_trans (jnA_le e6) ?_
    obtain ⟨h7, e8, hf⟩ := j_bind hf
    refine j_le_trans (j_le_of (jput_n e8)) ?_
    obtain ⟨q9, e10, hf⟩ := j_bind hf
    refine j_le_trans (jnO_le e10) ?_
    obtain ⟨q11, e12, hf⟩ := j_bind hf
    refine j_le_trans (n_X9_init e12) ?_
    obtain ⟨h13, e14, hf⟩ := j_bind hf
    refine j_le_trans (j_le_of (jput_n e14)) ?_
    obtain ⟨q15, e16, hf⟩ := j_bind hf
    refine j_le_trans (n_X11_newForms e16) ?_
    obtain ⟨h17, e18, hf⟩ := j_bind hf
    refine j_le_trans (j_le_of (jput_n e18)) ?_
    obtain ⟨q19, e20, hf⟩ := j_bind hf
    refine j_le_trans (n_X11_newForms e20) ?_
    obtain ⟨h21, e22, hf⟩ := j_bind hf
    refine j_le_trans (j_le_of (jput_n e22)) ?_
    obtain ⟨q23, e24, hf⟩ := j_bind hf
    refine j_le_trans (n_X11_newForms e24) ?_
    obtain ⟨h25, e26, hf⟩ := j_bind hf
    refine j_le_trans (j_le_of (jput_n e26)) ?_
    obtain ⟨q27, e28, hf⟩ := j_bind hf
    refine j_le_trans (jnO_le e28) ?_
    obtain ⟨q29, e30, hf⟩ := j_bind hf
    refine j_le_trans (n_X2_init e30) ?_
    obtain ⟨h31, e32, hf⟩ := j_bind hf
    refine j_le_trans (j_le_of (jput_n e32)) ?_
    obtain rfl := j_inj hf
    exact j_le_refl _
  refine x_callSN (As := [.int (6 : Int32)]) (rest := [.ref a0]) C dX0_init_7 (m_X11_newForms (l := l) (E := E) (d := d - 1) (by omega) e2) km_X11_newForms lk_X0_9 ks_X11_newForms rfl (by omega) (Nat.le_of_ble_eq_true rfl) (n_X11_newForms e2) (Or.inl hle) ?_
  obtain ⟨h3, e4, hf⟩ := j_bind hf
  refine x_putF C hin dX0_init_10 e4 fp_X0_13 rfl rfl ?_
  refine x_aload_n (v := a0) C dX0_init_13 rfl ?_
  refine x_bipush C dX0_init_14 kb_6 ?_
  obtain ⟨q5, e6, hf⟩ := j_bind hf
  have hle : j_le q5.2 q.2 := by
    obtain ⟨h7, e8, hf⟩ := j_bind hf
    refine j_le_trans (j_le_of (jput_n e8)) ?_
    obtain ⟨q9, e10, hf⟩ := j_bind hf
    refine j_le_trans (jnO_le e10) ?_
    obtain ⟨q11, e12, hf⟩ := j_bind hf
    refine j_le_trans (n_X9_init e12) ?_
    obtain ⟨h13, e14, hf⟩ := j_bind hf
    refine j_le_trans (j_le_of (jput_n e14)) ?_
    obtain ⟨q15, e16, hf⟩ := j_bind hf
    refine j_le_trans (n_X11_newForms e16) ?_
    obtain ⟨h17, e18, hf⟩ := j_bind hf
    refine j_le_trans (j_le_of (jput_n e18)) ?_
    obtain ⟨q19, e20, hf⟩ := j_bind hf
    refine j_le_trans (n_X11_newForms e20) ?_
    obtain ⟨h21, e22, hf⟩ := j_bind hf
    refine j_le_trans (j_le_of (jput_n e22)) ?_
    obtain ⟨q23, e24, hf⟩ := j_bind hf
    refine j_le_trans (n_X11_newForms e24) ?_
    obtain ⟨h25, e26, hf⟩ := j_bind hf
    refine j_le_trans (j_le_of (jput_n e26)) ?_
    obtain ⟨q27, e28, hf⟩ := j_bind hf
    refine j_le_trans (jnO_le e28) ?_
    obtain ⟨q29, e30, hf⟩ := j_bind hf
    refine j_le_trans (n_X2_init e30) ?_
    obtain ⟨h31, e32, hf⟩ := j_bind hf
    refine j_le_trans (j_le_of (jput_n e32)) ?_
    obtain rfl := j_inj hf
    exact j_le_refl _
  refine x_newa (q := q5.1) (h1 := q5.2) C dX0_init_16 rfl (by decide) (by decide) (fun q => q) wi_int e6 hle ?_
  obtain ⟨h7, e8, hf⟩ := j_bind hf
  refine x_putF C hin dX0_init_18 e8 fp_X0_19 rfl rfl ?_
  refine x_aload_n (v := a0) C dX0_init_21 rfl ?_
  obtain ⟨q9, e10, hf⟩ := j_bind hf
  have hle : j_le q9.2 q.2 := by
    obtain ⟨q11, e12, hf⟩ := j_bind hf
    refine j_le_trans (n_X9_init e12) ?_
    obtain ⟨h13, e14, hf⟩ := j_bind hf
    refine j_le_trans (j_le_of (jput_n e14)) ?_
    obtain ⟨q15, e16, hf⟩ := j_bind hf
    refine j_le_trans (n_X11_newForms e16) ?_
    obtain ⟨h17, e18, hf⟩ := j_bind hf
    refine j_le_trans (j_le_of (jput_n e18)) ?_
    obtain ⟨q19, e20, hf⟩ := j_bind hf
    refine j_le_trans (n_X11_newForms e20) ?_
    obtain ⟨h21, e22, hf⟩ := j_bind hf
    refine j_le_trans (j_le_of (jput_n e22)) ?_
    obtain ⟨q23, e24, hf⟩ := j_bind hf
    refine j_le_trans (n_X11_newForms e24) ?_
    obtain ⟨h25, e26, hf⟩ := j_bind hf
    refine j_le_trans (j_le_of (jput_n e26)) ?_
    obtain ⟨q27, e28, hf⟩ := j_bind hf
    refine j_le_trans (jnO_le e28) ?_
    obtain ⟨q29, e30, hf⟩ := j_bind hf
    refine j_le_trans (n_X2_init e30) ?_
    obtain ⟨h31, e32, hf⟩ := j_bind hf
    refine j_le_trans (j_le_of (jput_n e32)) ?_
    obtain rfl := j_inj hf
    exact j_le_refl _
  refine x_new C dX0_init_22 nc_X0_23 e10 hle ?_
  refine x_dup C dX0_init_25 rfl ?_
  obtain ⟨q11, e12, hf⟩ := j_bind hf
  have hle : j_le q11.2 q.2 := by
    obtain ⟨h13, e14, hf⟩ := j_bind hf
    refine j_le_trans (j_le_of (jput_n e14)) ?_
    obtain ⟨q15, e16, hf⟩ := j_bind hf
    refine j_le_trans (n_X11_newForms e16) ?_
    obtain ⟨h17, e18, hf⟩ := j_bind hf
    refine j_le_trans (j_le_of (jput_n e18)) ?_
    obtain ⟨q19, e20, hf⟩ := j_bind hf
    refine j_le_trans (n_X11_newForms e20) ?_
    obtain ⟨h21, e22, hf⟩ := j_bind hf
    refine j_le_trans (j_le_of (jput_n e22)) ?_
    obtain ⟨q23, e24, hf⟩ := j_bind hf
    refine j_le_trans (n_X11_newForms e24) ?_
    obtain ⟨h25, e26, hf⟩ := j_bind hf
    refine j_le_trans (j_le_of (jput_n e26)) ?_
    obtain ⟨q27, e28, hf⟩ := j_bind hf
    refine j_le_trans (jnO_le e28) ?_
    obtain ⟨q29, e30, hf⟩ := j_bind hf
    refine j_le_trans (n_X2_init e30) ?_
    obtain ⟨h31, e32, hf⟩ := j_bind hf
    refine j_le_trans (j_le_of (jput_n e32)) ?_
    obtain rfl := j_inj hf
    exact j_le_refl _
  refine x_callIN (As := []) (rest := [.ref q9.1, .ref a0]) C dX0_init_26 (m_X9_init (l := l) (E := E) (d := d - 1) (by omega) e12) km_X9_init lk_X0_25 ki_X9_init rfl (by omega) (Nat.le_of_ble_eq_true rfl) (n_X9_init e12) (Or.inl hle) ?_
  obtain ⟨h13, e14, hf⟩ := j_bind hf
  refine x_putF C hin dX0_init_29 e14 fp_X0_26 rfl rfl ?_
  refine x_aload_n (v := a0) C dX0_init_32 rfl ?_
  refine x_bipush C dX0_init_33 kb_9 ?_
  obtain ⟨q15, e16, hf⟩ := j_bind hf
  have hle : j_le q15.2 q.2 := by
    obtain ⟨h17, e18, hf⟩ := j_bind hf
    refine j_le_trans (j_le_of (jput_n e18)) ?_
    obtain ⟨q19, e20, hf⟩ := j_bind hf
    refine j_le_trans (n_X11_newForms e20) ?_
    obtain ⟨h21, e22, hf⟩ := j_bind hf
    refine j_le_trans (j_le_of (jput_n e22)) ?_
    obtain ⟨q23, e24, hf⟩ := j_bind hf
    refine j_le_trans (n_X11_newForms e24) ?_
    obtain ⟨h25, e26, hf⟩ := j_bind hf
    refine j_le_trans (j_le_of (jput_n e26)) ?_
    obtain ⟨q27, e28, hf⟩ := j_bind hf
    refine j_le_trans (jnO_le e28) ?_
    obtain ⟨q29, e30, hf⟩ := j_bind hf
    refine j_le_trans (n_X2_init e30) ?_
    obtain ⟨h31, e32, hf⟩ := j_bind hf
    refine j_le_trans (j_le_of (jput_n e32)) ?_
    obtain rfl := j_inj hf
    exact j_le_refl _
  refine x_callSN (As := [.int (9 : Int32)]) (rest := [.ref a0]) C dX0_init_35 (m_X11_newForms (l := l) (E := E) (d := d - 1) (by omega) e16) km_X11_newForms lk_X0_9 ks_X11_newForms rfl (by omega) (Nat.le_of_ble_eq_true rfl) (n_X11_newForms e16) (Or.inl hle) ?_
  obtain ⟨h17, e18, hf⟩ := j_bind hf
  refine x_putF C hin dX0_init_38 e18 fp_X0_30 rfl rfl ?_
  refine x_aload_n (v := a0) C dX0_init_41 rfl ?_
  refine x_bipush C dX0_init_42 kb_9 ?_
  obtain ⟨q19, e20, hf⟩ := j_bind hf
  have hle : j_le q19.2 q.2 := by
    obtain ⟨h21, e22, hf⟩ := j_bind hf
    refine j_le_trans (j_le_of (jput_n e22)) ?_
    obtain ⟨q23, e24, hf⟩ := j_bind hf
    refine j_le_trans (n_X11_newForms e24) ?_
    obtain ⟨h25, e26, hf⟩ := j_bind hf
    refine j_le_trans (j_le_of (jput_n e26)) ?_
    obtain ⟨q27, e28, hf⟩ := j_bind hf
    refine j_le_trans (jnO_le e28) ?_
    obtain ⟨q29, e30, hf⟩ := j_bind hf
    refine j_le_trans (n_X2_init e30) ?_
    obtain ⟨h31, e32, hf⟩ := j_bind hf
    refine j_le_trans (j_le_of (jput_n e32)) ?_
    obtain rfl := j_inj hf
    exact j_le_refl _
  refine x_callSN (As := [.int (9 : Int32)]) (rest := [.ref a0]) C dX0_init_44 (m_X11_newForms (l := l) (E := E) (d := d - 1) (by omega) e20) km_X11_newForms lk_X0_9 ks_X11_newForms rfl (by omega) (Nat.le_of_ble_eq_true rfl) (n_X11_newForms e20) (Or.inl hle) ?_
  obtain ⟨h21, e22, hf⟩ := j_bind hf
  refine x_putF C hin dX0_init_47 e22 fp_X0_33 rfl rfl ?_
  refine x_aload_n (v := a0) C dX0_init_50 rfl ?_
  refine x_bipush C dX0_init_51 kb_9 ?_
  obtain ⟨q23, e24, hf⟩ := j_bind hf
  have hle : j_le q23.2 q.2 := by
    obtain ⟨h25, e26, hf⟩ := j_bind hf
    refine j_le_trans (j_le_of (jput_n e26)) ?_
    obtain ⟨q27, e28, hf⟩ := j_bind hf
    refine j_le_trans (jnO_le e28) ?_
    obtain ⟨q29, e30, hf⟩ := j_bind hf
    refine j_le_trans (n_X2_init e30) ?_
    obtain ⟨h31, e32, hf⟩ := j_bind hf
    refine j_le_trans (j_le_of (jput_n e32)) ?_
    obtain rfl := j_inj hf
    exact j_le_refl _
  refine x_callSN (As := [.int (9 : Int32)]) (rest := [.ref a0]) C dX0_init_53 (m_X11_newForms (l := l) (E := E) (d := d - 1) (by omega) e24) km_X11_newForms lk_X0_9 ks_X11_newForms rfl (by omega) (Nat.le_of_ble_eq_true rfl) (n_X11_newForms e24) (Or.inl hle) ?_
  obtain ⟨h25, e26, hf⟩ := j_bind hf
  refine x_putF C hin dX0_init_56 e26 fp_X0_36 rfl rfl ?_
  refine x_aload_n (v := a0) C dX0_init_59 rfl ?_
  obtain ⟨q27, e28, hf⟩ := j_bind hf
  have hle : j_le q27.2 q.2 := by
    obtain ⟨q29, e30, hf⟩ := j_bind hf
    refine j_le_trans (n_X2_init e30) ?_
    obtain ⟨h31, e32, hf⟩ := j_bind hf
    refine j_le_trans (j_le_of (jput_n e32)) ?_
    obtain rfl := j_inj hf
    exact j_le_refl _
  refine x_new C dX0_init_60 nc_X0_39 e28 hle ?_
  refine x_dup C dX0_init_63 rfl ?_
  obtain ⟨q29, e30, hf⟩ := j_bind hf
  have hle : j_le q29.2 q.2 := by
    obtain ⟨h31, e32, hf⟩ := j_bind hf
    refine j_le_trans (j_le_of (jput_n e32)) ?_
    obtain rfl := j_inj hf
    exact j_le_refl _
  refine x_callIN (As := []) (rest := [.ref q27.1, .ref a0]) C dX0_init_64 (m_X2_init (l := l) (E := E) (d := d - 1) (by omega) e30) km_X2_init lk_X0_41 ki_X2_init rfl (by omega) (Nat.le_of_ble_eq_true rfl) (n_X2_init e30) (Or.inl hle) ?_
  obtain ⟨h31, e32, hf⟩ := j_bind hf
  refine x_putF C hin dX0_init_67 e32 fp_X0_42 rfl rfl ?_
  obtain rfl := j_inj hf
  exact x_vret C hret dX0_init_70
set_option maxHeartbeats 4000000 in
set_option maxRecDepth 100000 in
theorem m_X9_addToken {l : Launch} {E : JE} {d : Nat} (hdd : 0 ≤ d) {a0 : Nat} {a1 : Int32} {a2 : Int32} {a3 : Int32} {h : JH} {q : Unit × JH} (hf : f_X9_addToken a0 a1 a2 a3 h = some q) : Con l E d yX9_addToken cX9_addToken 4 none [.ref a0, .int a1, .int a2, .int a3] h (none) q.2 := by
  refine j_start rfl (Nat.le_of_ble_eq_true rfl) ?_
  intro p e s m args below meth c C hret hnm
  refine x_loc [(0, .ref a0), (1, .int a1), (2, .int a2), (3, .int a3)] rfl ?_
  unfold f_X9_addToken at hf
  refine x_aload_n (v := a0) C dX9_addToken_0 rfl ?_
  obtain ⟨v1, e2, hf⟩ := j_bind hf
  refine x_get C dX9_addToken_1 (jgR_some e2) fg_X9_9 ?_
  refine x_aload_n (v := a0) C dX9_addToken_4 rfl ?_
  obtain ⟨v3, e4, hf⟩ := j_bind hf
  refine x_get C dX9_addToken_5 (jgI_some e4) fg_X9_21 ?_
  refine x_iload_n (v := a1) C dX9_addToken_8 rfl ?_
  obtain ⟨h5, e6, hf⟩ := j_bind hf
  refine x_iast C dX9_addToken_9 e6 ?_
  refine x_aload_n (v := a0) C dX9_addToken_10 rfl ?_
  obtain ⟨v7, e8, hf⟩ := j_bind hf
  refine x_get C dX9_addToken_11 (jgR_some e8) fg_X9_15 ?_
  refine x_aload_n (v := a0) C dX9_addToken_14 rfl ?_
  obtain ⟨v9, e10, hf⟩ := j_bind hf
  refine x_get C dX9_addToken_15 (jgI_some e10) fg_X9_21 ?_
  refine x_iload_n (v := a2) C dX9_addToken_18 rfl ?_
  obtain ⟨h11, e12, hf⟩ := j_bind hf
  refine x_iast C dX9_addToken_19 e12 ?_
  refine x_aload_n (v := a0) C dX9_addToken_20 rfl ?_
  obtain ⟨v13, e14, hf⟩ := j_bind hf
  refine x_get C dX9_addToken_21 (jgR_some e14) fg_X9_18 ?_
  refine x_aload_n (v := a0) C dX9_addToken_24 rfl ?_
  obtain ⟨v15, e16, hf⟩ := j_bind hf
  refine x_get C dX9_addToken_25 (jgI_some e16) fg_X9_21 ?_
  refine x_iload_n (v := a3) C dX9_addToken_28 rfl ?_
  obtain ⟨h17, e18, hf⟩ := j_bind hf
  refine x_iast C dX9_addToken_29 e18 ?_
  refine x_aload_n (v := a0) C dX9_addToken_30 rfl ?_
  refine x_dup C dX9_addToken_31 rfl ?_
  obtain ⟨v19, e20, hf⟩ := j_bind hf
  refine x_get C dX9_addToken_32 (jgI_some e20) fg_X9_21 ?_
  refine x_iconst C dX9_addToken_35 ki_1 ?_
  refine x_iadd C dX9_addToken_36 ?_
  obtain ⟨h21, e22, hf⟩ := j_bind hf
  refine x_put C dX9_addToken_37 e22 fp_X9_21 rfl rfl ?_
  obtain rfl := j_inj hf
  exact x_vret C hret dX9_addToken_40
set_option maxHeartbeats 4000000 in
set_option maxRecDepth 100000 in
theorem s_X9_addWord_L22 {p : Program} {l : Launch} {e : Env} {R : Room} {s : State} {m : MethodId} {args : Array Value} {below : List Frame} {meth : Method} {c : Code} {E : JE} {h0 hF : JH} {rF : Option Value} {d : Nat} (C : j_C p s m args meth c R E cX9_addWord 6 RX9 h0 hF d) (hret : meth.sig.returnType = none) (hdd : 11 ≤ d) (a0 : Nat) (a1 : Nat) (a2 : Int32) (a3 : Int32) (z : (Int32 × Int32)) (h : JH) (r : (Int32 × Int32) ⊕ (Int32 × Int32)) (h1 : JH) (hf : f_X9_addWord_L22 a0 a1 a2 a3 z h = some (r, h1)) (hk : Sum.elim (fun z => Xw p l e R s m args below meth c E 6 h0 rF hF 22 [(0, .ref a0), (1, .ref a1), (2, .int a2), (3, .int a3), (4, .int z.1), (5, .int z.2)] [] h1) (fun t => Xw p l e R s m args below meth c E 6 h0 rF hF 51 [(0, .ref a0), (1, .ref a1), (2, .int a2), (3, .int a3), (4, .int t.1), (5, .int t.2)] [] h1) r) : Xw p l e R s m args below meth c E 6 h0 rF hF 22 [(0, .ref a0), (1, .ref a1), (2, .int a2), (3, .int a3), (4, .int z.1), (5, .int z.2)] [] h := by
  unfold f_X9_addWord_L22 at hf
  refine x_iload (v := z.2) C dX9_addWord_22 rfl ?_
  refine x_iload_n (v := a3) C dX9_addWord_24 rfl ?_
  refine x_icmp_ge (tgt := 51) C dX9_addWord_25 (by decide) (fun c3 => ?_) (fun c3 => ?_)
  · have hf := j_ifp hf c3
    obtain ⟨rfl, rfl⟩ := j_inj2 hf
    exact x_locr hk rfl
  · have hf := j_ifn hf c3
    refine x_iload (v := z.1) C dX9_addWord_28 rfl ?_
    refine x_bipush C dX9_addWord_30 kb_32 ?_
    refine x_imul C dX9_addWord_32 ?_
    refine x_aload_n (v := a1) C dX9_addWord_33 rfl ?_
    refine x_iload (v := z.2) C dX9_addWord_34 rfl ?_
    obtain ⟨v1, e2, hf⟩ := j_bind hf
    refine x_bald C dX9_addWord_36 e2 ?_
    refine x_bipush C dX9_addWord_37 kb_97 ?_
    refine x_isub C dX9_addWord_39 ?_
    refine x_iconst C dX9_addWord_40 ki_1 ?_
    refine x_iadd C dX9_addWord_41 ?_
    refine x_iadd C dX9_addWord_42 ?_
    refine x_istore C dX9_addWord_43 (by decide) ?_
    refine x_iinc (v := z.2) C dX9_addWord_45 rfl ki_1 (by decide) ?_
    refine x_goto (tgt := 22) C dX9_addWord_48 (by decide) ?_
    obtain ⟨rfl, rfl⟩ := j_inj2 hf
    exact x_locr hk rfl
set_option maxHeartbeats 4000000 in
set_option maxRecDepth 100000 in
theorem m_X9_addWord {l : Launch} {E : JE} {d : Nat} (hdd : 11 ≤ d) {a0 : Nat} {a1 : Nat} {a2 : Int32} {a3 : Int32} {h : JH} {q : Unit × JH} (hf : f_X9_addWord a0 a1 a2 a3 h = some q) : Con l E d yX9_addWord cX9_addWord 6 none [.ref a0, .ref a1, .int a2, .int a3] h (none) q.2 := by
  refine j_start rfl (Nat.le_of_ble_eq_true rfl) ?_
  intro p e s m args below meth c C hret hnm
  refine x_loc [(0, .ref a0), (1, .ref a1), (2, .int a2), (3, .int a3)] rfl ?_
  unfold f_X9_addWord at hf
  refine x_iload_n (v := a3) C dX9_addWord_0 rfl ?_
  refine x_iload_n (v := a2) C dX9_addWord_1 rfl ?_
  refine x_isub C dX9_addWord_2 ?_
  refine x_bipush C dX9_addWord_3 kb_6 ?_
  refine x_icmp_le (tgt := 16) C dX9_addWord_5 (by decide) (fun c16 => ?_) (fun c16 => ?_)
  · have hf := j_ifp hf c16
    refine x_iconst C dX9_addWord_16 ki_0 ?_
    refine x_istore C dX9_addWord_17 (by decide) ?_
    refine x_iload_n (v := a2) C dX9_addWord_19 rfl ?_
    refine x_istore C dX9_addWord_20 (by decide) ?_
    obtain ⟨q4, e5, hf⟩ := j_bind hf
    refine x_loc [(0, .ref a0), (1, .ref a1), (2, .int a2), (3, .int a3), (4, .int (0 : Int32)), (5, .int a2)] rfl ?_
    refine x_loop (s_X9_addWord_L22 C hret hdd a0 a1 a2 a3) e5 ?_
    refine x_aload_n (v := a0) C dX9_addWord_51 rfl ?_
    refine x_aload_n (v := a1) C dX9_addWord_52 rfl ?_
    refine x_iload_n (v := a2) C dX9_addWord_53 rfl ?_
    refine x_iload_n (v := a3) C dX9_addWord_54 rfl ?_
    obtain ⟨q6, e7, hf⟩ := j_bind hf
    refine x_callS (As := [.ref a1, .int a2, .int a3]) (rest := [.ref a0]) C dX9_addWord_55 (m_X9_kindOfWord (l := l) (E := E) (d := d - 1) (by omega) e7) km_X9_kindOfWord lk_X9_53 ks_X9_kindOfWord rfl (by omega) (Nat.le_of_ble_eq_true rfl) (j_le_of (q_X9_kindOfWord e7)) (Or.inr (q_X9_kindOfWord e7)) ?_
    refine x_iload_n (v := a2) C dX9_addWord_58 rfl ?_
    refine x_iload (v := q4.1.1) C dX9_addWord_59 rfl ?_
    obtain ⟨u10, e11, hf⟩ := j_bind hf
    obtain ⟨q8, e9, hf⟩ := j_bind hf
    refine x_callV (As := [.int q6.1, .int a2, .int q4.1.1]) (rest := []) C dX9_addWord_61 (m_X9_addToken (l := l) (E := E) (d := d - 1) (by omega) e9) km_X9_addToken lk_X9_46 kv_X9_addToken (ci := 7) rfl e11 rfl (by omega) (Nat.le_of_ble_eq_true rfl) (j_le_of (q_X9_addToken e9)) (Or.inr (q_X9_addToken e9)) ?_
    obtain rfl := j_inj hf
    exact x_vret C hret dX9_addWord_64
  · have hf := j_ifn hf c16
    refine x_aload_n (v := a0) C dX9_addWord_8 rfl ?_
    refine x_iconst C dX9_addWord_9 ki_1 ?_
    refine x_iload_n (v := a2) C dX9_addWord_10 rfl ?_
    refine x_iconst C dX9_addWord_11 ki_0 ?_
    obtain ⟨u14, e15, hf⟩ := j_bind hf
    obtain ⟨q12, e13, hf⟩ := j_bind hf
    refine x_callV (As := [.int (1 : Int32), .int a2, .int (0 : Int32)]) (rest := []) C dX9_addWord_12 (m_X9_addToken (l := l) (E := E) (d := d - 1) (by omega) e13) km_X9_addToken lk_X9_46 kv_X9_addToken (ci := 7) rfl e15 rfl (by omega) (Nat.le_of_ble_eq_true rfl) (j_le_of (q_X9_addToken e13)) (Or.inr (q_X9_addToken e13)) ?_
    obtain rfl := j_inj hf
    exact x_vret C hret dX9_addWord_15
set_option maxHeartbeats 4000000 in
set_option maxRecDepth 100000 in
theorem m_X9_isDigit {l : Launch} {E : JE} {d : Nat} (hdd : 0 ≤ d) {a0 : Int32} {h : JH} {q : Int32 × JH} (hf : f_X9_isDigit a0 h = some q) : Con l E d yX9_isDigit cX9_isDigit 1 (some .boolean) [.int a0] h (some (.int q.1)) q.2 := by
  refine j_start rfl (Nat.le_of_ble_eq_true rfl) ?_
  intro p e s m args below meth c C hret hnm
  refine x_loc [(0, .int a0)] rfl ?_
  unfold f_X9_isDigit at hf
  refine x_iload_n (v := a0) C dX9_isDigit_0 rfl ?_
  refine x_bipush C dX9_isDigit_1 kb_48 ?_
  refine x_icmp_lt (tgt := 16) C dX9_isDigit_3 (by decide) (fun c1 => ?_) (fun c1 => ?_)
  · have hf := j_ifp hf c1
    refine x_iconst C dX9_isDigit_16 ki_0 ?_
    obtain rfl := j_inj hf
    exact x_zret C hret (Or.inl rfl) dX9_isDigit_17
  · have hf := j_ifn hf c1
    refine x_iload_n (v := a0) C dX9_isDigit_6 rfl ?_
    refine x_bipush C dX9_isDigit_7 kb_57 ?_
    refine x_icmp_gt (tgt := 16) C dX9_isDigit_9 (by decide) (fun c2 => ?_) (fun c2 => ?_)
    · have hf := j_ifp hf c2
      refine x_iconst C dX9_isDigit_16 ki_0 ?_
      obtain rfl := j_inj hf
      exact x_zret C hret (Or.inl rfl) dX9_isDigit_17
    · have hf := j_ifn hf c2
      refine x_iconst C dX9_isDigit_12 ki_1 ?_
      refine x_goto (tgt := 17) C dX9_isDigit_13 (by decide) ?_
      obtain rfl := j_inj hf
      exact x_zret C hret (Or.inr rfl) dX9_isDigit_17
set_option maxHeartbeats 4000000 in
set_option maxRecDepth 100000 in
theorem s_X9_endOfNumber_L2 {p : Program} {l : Launch} {e : Env} {R : Room} {s : State} {m : MethodId} {args : Array Value} {below : List Frame} {meth : Method} {c : Code} {E : JE} {h0 hF : JH} {rF : Option Value} {d : Nat} (C : j_C p s m args meth c R E cX9_endOfNumber 4 RX9 h0 hF d) (hret : meth.sig.returnType = (some .int)) (hdd : 1 ≤ d) (a0 : Nat) (a2 : Int32) (z : Int32) (h : JH) (r : Int32 ⊕ Int32) (h1 : JH) (hf : f_X9_endOfNumber_L2 a0 a2 z h = some (r, h1)) (hk : Sum.elim (fun z => Xw p l e R s m args below meth c E 4 h0 rF hF 2 [(0, .ref a0), (2, .int a2), (3, .int z)] [] h1) (fun t => Xw p l e R s m args below meth c E 4 h0 rF hF 22 [(0, .ref a0), (2, .int a2), (3, .int t)] [] h1) r) : Xw p l e R s m args below meth c E 4 h0 rF hF 2 [(0, .ref a0), (2, .int a2), (3, .int z)] [] h := by
  unfold f_X9_endOfNumber_L2 at hf
  refine x_iload_n (v := z) C dX9_endOfNumber_2 rfl ?_
  refine x_iload_n (v := a2) C dX9_endOfNumber_3 rfl ?_
  refine x_icmp_ge (tgt := 22) C dX9_endOfNumber_4 (by decide) (fun c5 => ?_) (fun c5 => ?_)
  · have hf := j_ifp hf c5
    obtain ⟨rfl, rfl⟩ := j_inj2 hf
    exact x_locr hk rfl
  · have hf := j_ifn hf c5
    refine x_aload_n (v := a0) C dX9_endOfNumber_7 rfl ?_
    refine x_iload_n (v := z) C dX9_endOfNumber_8 rfl ?_
    obtain ⟨v1, e2, hf⟩ := j_bind hf
    refine x_bald C dX9_endOfNumber_9 e2 ?_
    obtain ⟨q3, e4, hf⟩ := j_bind hf
    refine x_callS (As := [.int v1]) (rest := []) C dX9_endOfNumber_10 (m_X9_isDigit (l := l) (E := E) (d := d - 1) (by omega) e4) km_X9_isDigit lk_X9_37 ks_X9_isDigit rfl (by omega) (Nat.le_of_ble_eq_true rfl) (j_le_of (q_X9_isDigit e4)) (Or.inr (q_X9_isDigit e4)) ?_
    refine x_if_eq (tgt := 22) C dX9_endOfNumber_13 (by decide) (fun c6 => ?_) (fun c6 => ?_)
    · have hf := j_ifp hf c6
      obtain ⟨rfl, rfl⟩ := j_inj2 hf
      exact x_locr hk rfl
    · have hf := j_ifn hf c6
      refine x_iinc (v := z) C dX9_endOfNumber_16 rfl ki_1 (by decide) ?_
      refine x_goto (tgt := 2) C dX9_endOfNumber_19 (by decide) ?_
      obtain ⟨rfl, rfl⟩ := j_inj2 hf
      exact x_locr hk rfl
set_option maxHeartbeats 4000000 in
set_option maxRecDepth 100000 in
theorem m_X9_endOfNumber {l : Launch} {E : JE} {d : Nat} (hdd : 1 ≤ d) {a0 : Nat} {a1 : Int32} {a2 : Int32} {h : JH} {q : Int32 × JH} (hf : f_X9_endOfNumber a0 a1 a2 h = some q) : Con l E d yX9_endOfNumber cX9_endOfNumber 4 (some .int) [.ref a0, .int a1, .int a2] h (some (.int q.1)) q.2 := by
  refine j_start rfl (Nat.le_of_ble_eq_true rfl) ?_
  intro p e s m args below meth c C hret hnm
  refine x_loc [(0, .ref a0), (1, .int a1), (2, .int a2)] rfl ?_
  unfold f_X9_endOfNumber at hf
  refine x_iload_n (v := a1) C dX9_endOfNumber_0 rfl ?_
  refine x_istore_n C dX9_endOfNumber_1 (by decide) ?_
  obtain ⟨q7, e8, hf⟩ := j_bind hf
  refine x_loc [(0, .ref a0), (2, .int a2), (3, .int a1)] rfl ?_
  refine x_loop (s_X9_endOfNumber_L2 C hret hdd a0 a2) e8 ?_
  refine x_iload_n (v := q7.1) C dX9_endOfNumber_22 rfl ?_
  obtain rfl := j_inj hf
  exact x_iret C hret dX9_endOfNumber_23
set_option maxHeartbeats 4000000 in
set_option maxRecDepth 100000 in
theorem m_X9_isLetter {l : Launch} {E : JE} {d : Nat} (hdd : 0 ≤ d) {a0 : Int32} {h : JH} {q : Int32 × JH} (hf : f_X9_isLetter a0 h = some q) : Con l E d yX9_isLetter cX9_isLetter 1 (some .boolean) [.int a0] h (some (.int q.1)) q.2 := by
  refine j_start rfl (Nat.le_of_ble_eq_true rfl) ?_
  intro p e s m args below meth c C hret hnm
  refine x_loc [(0, .int a0)] rfl ?_
  unfold f_X9_isLetter at hf
  refine x_iload_n (v := a0) C dX9_isLetter_0 rfl ?_
  refine x_bipush C dX9_isLetter_1 kb_97 ?_
  refine x_icmp_lt (tgt := 16) C dX9_isLetter_3 (by decide) (fun c1 => ?_) (fun c1 => ?_)
  · have hf := j_ifp hf c1
    refine x_iconst C dX9_isLetter_16 ki_0 ?_
    obtain rfl := j_inj hf
    exact x_zret C hret (Or.inl rfl) dX9_isLetter_17
  · have hf := j_ifn hf c1
    refine x_iload_n (v := a0) C dX9_isLetter_6 rfl ?_
    refine x_bipush C dX9_isLetter_7 kb_122 ?_
    refine x_icmp_gt (tgt := 16) C dX9_isLetter_9 (by decide) (fun c2 => ?_) (fun c2 => ?_)
    · have hf := j_ifp hf c2
      refine x_iconst C dX9_isLetter_16 ki_0 ?_
      obtain rfl := j_inj hf
      exact x_zret C hret (Or.inl rfl) dX9_isLetter_17
    · have hf := j_ifn hf c2
      refine x_iconst C dX9_isLetter_12 ki_1 ?_
      refine x_goto (tgt := 17) C dX9_isLetter_13 (by decide) ?_
      obtain rfl := j_inj hf
      exact x_zret C hret (Or.inr rfl) dX9_isLetter_17
set_option maxHeartbeats 4000000 in
set_option maxRecDepth 100000 in
theorem s_X9_endOfWord_L2 {p : Program} {l : Launch} {e : Env} {R : Room} {s : State} {m : MethodId} {args : Array Value} {below : List Frame} {meth : Method} {c : Code} {E : JE} {h0 hF : JH} {rF : Option Value} {d : Nat} (C : j_C p s m args meth c R E cX9_endOfWord 4 RX9 h0 hF d) (hret : meth.sig.returnType = (some .int)) (hdd : 1 ≤ d) (a0 : Nat) (a2 : Int32) (z : Int32) (h : JH) (r : Int32 ⊕ Int32) (h1 : JH) (hf : f_X9_endOfWord_L2 a0 a2 z h = some (r, h1)) (hk : Sum.elim (fun z => Xw p l e R s m args below meth c E 4 h0 rF hF 2 [(0, .ref a0), (2, .int a2), (3, .int z)] [] h1) (fun t => Xw p l e R s m args below meth c E 4 h0 rF hF 22 [(0, .ref a0), (2, .int a2), (3, .int t)] [] h1) r) : Xw p l e R s m args below meth c E 4 h0 rF hF 2 [(0, .ref a0), (2, .int a2), (3, .int z)] [] h := by
  unfold f_X9_endOfWord_L2 at hf
  refine x_iload_n (v := z) C dX9_endOfWord_2 rfl ?_
  refine x_iload_n (v := a2) C dX9_endOfWord_3 rfl ?_
  refine x_icmp_ge (tgt := 22) C dX9_endOfWord_4 (by decide) (fun c5 => ?_) (fun c5 => ?_)
  · have hf := j_ifp hf c5
    obtain ⟨rfl, rfl⟩ := j_inj2 hf
    exact x_locr hk rfl
  · have hf := j_ifn hf c5
    refine x_aload_n (v := a0) C dX9_endOfWord_7 rfl ?_
    refine x_iload_n (v := z) C dX9_endOfWord_8 rfl ?_
    obtain ⟨v1, e2, hf⟩ := j_bind hf
    refine x_bald C dX9_endOfWord_9 e2 ?_
    obtain ⟨q3, e4, hf⟩ := j_bind hf
    refine x_callS (As := [.int v1]) (rest := []) C dX9_endOfWord_10 (m_X9_isLetter (l := l) (E := E) (d := d - 1) (by omega) e4) km_X9_isLetter lk_X9_25 ks_X9_isLetter rfl (by omega) (Nat.le_of_ble_eq_true rfl) (j_le_of (q_X9_isLetter e4)) (Or.inr (q_X9_isLetter e4)) ?_
    refine x_if_eq (tgt := 22) C dX9_endOfWord_13 (by decide) (fun c6 => ?_) (fun c6 => ?_)
    · have hf := j_ifp hf c6
      obtain ⟨rfl, rfl⟩ := j_inj2 hf
      exact x_locr hk rfl
    · have hf := j_ifn hf c6
      refine x_iinc (v := z) C dX9_endOfWord_16 rfl ki_1 (by decide) ?_
      refine x_goto (tgt := 2) C dX9_endOfWord_19 (by decide) ?_
      obtain ⟨rfl, rfl⟩ := j_inj2 hf
      exact x_locr hk rfl
set_option maxHeartbeats 4000000 in
set_option maxRecDepth 100000 in
theorem m_X9_endOfWord {l : Launch} {E : JE} {d : Nat} (hdd : 1 ≤ d) {a0 : Nat} {a1 : Int32} {a2 : Int32} {h : JH} {q : Int32 × JH} (hf : f_X9_endOfWord a0 a1 a2 h = some q) : Con l E d yX9_endOfWord cX9_endOfWord 4 (some .int) [.ref a0, .int a1, .int a2] h (some (.int q.1)) q.2 := by
  refine j_start rfl (Nat.le_of_ble_eq_true rfl) ?_
  intro p e s m args below meth c C hret hnm
  refine x_loc [(0, .ref a0), (1, .int a1), (2, .int a2)] rfl ?_
  unfold f_X9_endOfWord at hf
  refine x_iload_n (v := a1) C dX9_endOfWord_0 rfl ?_
  refine x_istore_n C dX9_endOfWord_1 (by decide) ?_
  obtain ⟨q7, e8, hf⟩ := j_bind hf
  refine x_loc [(0, .ref a0), (2, .int a2), (3, .int a1)] rfl ?_
  refine x_loop (s_X9_endOfWord_L2 C hret hdd a0 a2) e8 ?_
  refine x_iload_n (v := q7.1) C dX9_endOfWord_22 rfl ?_
  obtain rfl := j_inj hf
  exact x_iret C hret dX9_endOfWord_23
set_option maxHeartbeats 4000000 in
set_option maxRecDepth 100000 in
theorem m_X9_isSign {l : Launch} {E : JE} {d : Nat} (hdd : 0 ≤ d) {a0 : Int32} {h : JH} {q : Int32 × JH} (hf : f_X9_isSign a0 h = some q) : Con l E d yX9_isSign cX9_isSign 1 (some .boolean) [.int a0] h (some (.int q.1)) q.2 := by
  refine j_start rfl (Nat.le_of_ble_eq_true rfl) ?_
  intro p e s m args below meth c C hret hnm
  refine x_loc [(0, .int a0)] rfl ?_
  unfold f_X9_isSign at hf
  refine x_iload_n (v := a0) C dX9_isSign_0 rfl ?_
  refine x_bipush C dX9_isSign_1 kb_59 ?_
  refine x_icmp_eq (tgt := 42) C dX9_isSign_3 (by decide) (fun c1 => ?_) (fun c1 => ?_)
  · have hf := j_ifp hf c1
    refine x_iconst C dX9_isSign_42 ki_1 ?_
    refine x_goto (tgt := 47) C dX9_isSign_43 (by decide) ?_
    obtain rfl := j_inj hf
    exact x_zret C hret (Or.inr rfl) dX9_isSign_47
  · have hf := j_ifn hf c1
    refine x_iload_n (v := a0) C dX9_isSign_6 rfl ?_
    refine x_bipush C dX9_isSign_7 kb_43 ?_
    refine x_icmp_eq (tgt := 42) C dX9_isSign_9 (by decide) (fun c2 => ?_) (fun c2 => ?_)
    · have hf := j_ifp hf c2
      refine x_iconst C dX9_isSign_42 ki_1 ?_
      refine x_goto (tgt := 47) C dX9_isSign_43 (by decide) ?_
      obtain rfl := j_inj hf
      exact x_zret C hret (Or.inr rfl) dX9_isSign_47
    · have hf := j_ifn hf c2
      refine x_iload_n (v := a0) C dX9_isSign_12 rfl ?_
      refine x_bipush C dX9_isSign_13 kb_45 ?_
      refine x_icmp_eq (tgt := 42) C dX9_isSign_15 (by decide) (fun c3 => ?_) (fun c3 => ?_)
      · have hf := j_ifp hf c3
        refine x_iconst C dX9_isSign_42 ki_1 ?_
        refine x_goto (tgt := 47) C dX9_isSign_43 (by decide) ?_
        obtain rfl := j_inj hf
        exact x_zret C hret (Or.inr rfl) dX9_isSign_47
      · have hf := j_ifn hf c3
        refine x_iload_n (v := a0) C dX9_isSign_18 rfl ?_
        refine x_bipush C dX9_isSign_19 kb_42 ?_
        refine x_icmp_eq (tgt := 42) C dX9_isSign_21 (by decide) (fun c4 => ?_) (fun c4 => ?_)
        · have hf := j_ifp hf c4
          refine x_iconst C dX9_isSign_42 ki_1 ?_
          refine x_goto (tgt := 47) C dX9_isSign_43 (by decide) ?_
          obtain rfl := j_inj hf
          exact x_zret C hret (Or.inr rfl) dX9_isSign_47
        · have hf := j_ifn hf c4
          refine x_iload_n (v := a0) C dX9_isSign_24 rfl ?_
          refine x_bipush C dX9_isSign_25 kb_94 ?_
          refine x_icmp_eq (tgt := 42) C dX9_isSign_27 (by decide) (fun c5 => ?_) (fun c5 => ?_)
          · have hf := j_ifp hf c5
            refine x_iconst C dX9_isSign_42 ki_1 ?_
            refine x_goto (tgt := 47) C dX9_isSign_43 (by decide) ?_
            obtain rfl := j_inj hf
            exact x_zret C hret (Or.inr rfl) dX9_isSign_47
          · have hf := j_ifn hf c5
            refine x_iload_n (v := a0) C dX9_isSign_30 rfl ?_
            refine x_bipush C dX9_isSign_31 kb_40 ?_
            refine x_icmp_eq (tgt := 42) C dX9_isSign_33 (by decide) (fun c6 => ?_) (fun c6 => ?_)
            · have hf := j_ifp hf c6
              refine x_iconst C dX9_isSign_42 ki_1 ?_
              refine x_goto (tgt := 47) C dX9_isSign_43 (by decide) ?_
              obtain rfl := j_inj hf
              exact x_zret C hret (Or.inr rfl) dX9_isSign_47
            · have hf := j_ifn hf c6
              refine x_iload_n (v := a0) C dX9_isSign_36 rfl ?_
              refine x_bipush C dX9_isSign_37 kb_41 ?_
              refine x_icmp_ne (tgt := 46) C dX9_isSign_39 (by decide) (fun c7 => ?_) (fun c7 => ?_)
              · have hf := j_ifn hf c7
                refine x_iconst C dX9_isSign_46 ki_0 ?_
                obtain rfl := j_inj hf
                exact x_zret C hret (Or.inl rfl) dX9_isSign_47
              · have hf := j_ifp hf c7
                refine x_iconst C dX9_isSign_42 ki_1 ?_
                refine x_goto (tgt := 47) C dX9_isSign_43 (by decide) ?_
                obtain rfl := j_inj hf
                exact x_zret C hret (Or.inr rfl) dX9_isSign_47
set_option maxHeartbeats 4000000 in
set_option maxRecDepth 100000 in
theorem s_X9_numberOf_L14 {p : Program} {l : Launch} {e : Env} {R : Room} {s : State} {m : MethodId} {args : Array Value} {below : List Frame} {meth : Method} {c : Code} {E : JE} {h0 hF : JH} {rF : Option Value} {d : Nat} (C : j_C p s m args meth c R E cX9_numberOf 5 RX9 h0 hF d) (hret : meth.sig.returnType = (some .int)) (hdd : 0 ≤ d) (a0 : Nat) (a2 : Int32) (z : (Int32 × Int32)) (h : JH) (r : (Int32 × Int32) ⊕ (Int32 × Int32)) (h1 : JH) (hf : f_X9_numberOf_L14 a0 a2 z h = some (r, h1)) (hk : Sum.elim (fun z => Xw p l e R s m args below meth c E 5 h0 rF hF 14 [(0, .ref a0), (2, .int a2), (3, .int z.1), (4, .int z.2)] [] h1) (fun t => Xw p l e R s m args below meth c E 5 h0 rF hF 39 [(0, .ref a0), (2, .int a2), (3, .int t.1), (4, .int t.2)] [] h1) r) : Xw p l e R s m args below meth c E 5 h0 rF hF 14 [(0, .ref a0), (2, .int a2), (3, .int z.1), (4, .int z.2)] [] h := by
  unfold f_X9_numberOf_L14 at hf
  refine x_iload (v := z.2) C dX9_numberOf_14 rfl ?_
  refine x_iload_n (v := a2) C dX9_numberOf_16 rfl ?_
  refine x_icmp_ge (tgt := 39) C dX9_numberOf_17 (by decide) (fun c3 => ?_) (fun c3 => ?_)
  · have hf := j_ifp hf c3
    obtain ⟨rfl, rfl⟩ := j_inj2 hf
    exact x_locr hk rfl
  · have hf := j_ifn hf c3
    refine x_iload_n (v := z.1) C dX9_numberOf_20 rfl ?_
    refine x_bipush C dX9_numberOf_21 kb_10 ?_
    refine x_imul C dX9_numberOf_23 ?_
    refine x_aload_n (v := a0) C dX9_numberOf_24 rfl ?_
    refine x_iload (v := z.2) C dX9_numberOf_25 rfl ?_
    obtain ⟨v1, e2, hf⟩ := j_bind hf
    refine x_bald C dX9_numberOf_27 e2 ?_
    refine x_bipush C dX9_numberOf_28 kb_48 ?_
    refine x_isub C dX9_numberOf_30 ?_
    refine x_iadd C dX9_numberOf_31 ?_
    refine x_istore_n C dX9_numberOf_32 (by decide) ?_
    refine x_iinc (v := z.2) C dX9_numberOf_33 rfl ki_1 (by decide) ?_
    refine x_goto (tgt := 14) C dX9_numberOf_36 (by decide) ?_
    obtain ⟨rfl, rfl⟩ := j_inj2 hf
    exact x_locr hk rfl
set_option maxHeartbeats 4000000 in
set_option maxRecDepth 100000 in
theorem m_X9_numberOf {l : Launch} {E : JE} {d : Nat} (hdd : 0 ≤ d) {a0 : Nat} {a1 : Int32} {a2 : Int32} {h : JH} {q : Int32 × JH} (hf : f_X9_numberOf a0 a1 a2 h = some q) : Con l E d yX9_numberOf cX9_numberOf 5 (some .int) [.ref a0, .int a1, .int a2] h (some (.int q.1)) q.2 := by
  refine j_start rfl (Nat.le_of_ble_eq_true rfl) ?_
  intro p e s m args below meth c C hret hnm
  refine x_loc [(0, .ref a0), (1, .int a1), (2, .int a2)] rfl ?_
  unfold f_X9_numberOf at hf
  refine x_iload_n (v := a2) C dX9_numberOf_0 rfl ?_
  refine x_iload_n (v := a1) C dX9_numberOf_1 rfl ?_
  refine x_isub C dX9_numberOf_2 ?_
  refine x_iconst C dX9_numberOf_3 ki_4 ?_
  refine x_icmp_le (tgt := 9) C dX9_numberOf_4 (by decide) (fun c6 => ?_) (fun c6 => ?_)
  · have hf := j_ifp hf c6
    refine x_iconst C dX9_numberOf_9 ki_0 ?_
    refine x_istore_n C dX9_numberOf_10 (by decide) ?_
    refine x_iload_n (v := a1) C dX9_numberOf_11 rfl ?_
    refine x_istore C dX9_numberOf_12 (by decide) ?_
    obtain ⟨q4, e5, hf⟩ := j_bind hf
    refine x_loc [(0, .ref a0), (2, .int a2), (3, .int (0 : Int32)), (4, .int a1)] rfl ?_
    refine x_loop (s_X9_numberOf_L14 C hret hdd a0 a2) e5 ?_
    refine x_iload_n (v := q4.1.1) C dX9_numberOf_39 rfl ?_
    obtain rfl := j_inj hf
    exact x_iret C hret dX9_numberOf_40
  · have hf := j_ifn hf c6
    refine x_iconst C dX9_numberOf_7 ki_m1 ?_
    obtain rfl := j_inj hf
    exact x_iret C hret dX9_numberOf_8
set_option maxHeartbeats 4000000 in
set_option maxRecDepth 100000 in
theorem s_X9_scan_L7 {p : Program} {l : Launch} {e : Env} {R : Room} {s : State} {m : MethodId} {args : Array Value} {below : List Frame} {meth : Method} {c : Code} {E : JE} {h0 hF : JH} {rF : Option Value} {d : Nat} (C : j_C p s m args meth c R E cX9_scan 6 RX9 h0 hF d) (hret : meth.sig.returnType = none) (hdd : 12 ≤ d) (a0 : Nat) (a1 : Nat) (a2 : Int32) (z : Int32) (h : JH) (r : Int32 ⊕ Int32) (h1 : JH) (hf : f_X9_scan_L7 a0 a1 a2 z h = some (r, h1)) (hk : Sum.elim (fun z => Xw p l e R s m args below meth c E 6 h0 rF hF 7 [(0, .ref a0), (1, .ref a1), (2, .int a2), (3, .int z)] [] h1) (fun t => Xw p l e R s m args below meth c E 6 h0 rF hF 140 [(0, .ref a0), (1, .ref a1), (2, .int a2), (3, .int t)] [] h1) r) : Xw p l e R s m args below meth c E 6 h0 rF hF 7 [(0, .ref a0), (1, .ref a1), (2, .int a2), (3, .int z)] [] h := by
  unfold f_X9_scan_L7 at hf
  refine x_iload_n (v := z) C dX9_scan_7 rfl ?_
  refine x_iload_n (v := a2) C dX9_scan_8 rfl ?_
  refine x_icmp_ge (tgt := 140) C dX9_scan_9 (by decide) (fun c71 => ?_) (fun c71 => ?_)
  · have hf := j_ifp hf c71
    obtain ⟨rfl, rfl⟩ := j_inj2 hf
    exact x_locr hk rfl
  · have hf := j_ifn hf c71
    refine x_aload_n (v := a1) C dX9_scan_12 rfl ?_
    refine x_iload_n (v := z) C dX9_scan_13 rfl ?_
    obtain ⟨v3, e4, hf⟩ := j_bind hf
    refine x_bald C dX9_scan_14 e4 ?_
    refine x_istore C dX9_scan_15 (by decide) ?_
    refine x_iload_n (v := z) C dX9_scan_17 rfl ?_
    refine x_if_le (tgt := 29) C dX9_scan_18 (by decide) (fun c72 => ?_) (fun c72 => ?_)
    · have hf := j_ifp hf c72
      refine x_bipush C dX9_scan_29 kb_32 ?_
      refine x_istore C dX9_scan_31 (by decide) ?_
      refine x_iload (v := v3) C dX9_scan_33 rfl ?_
      obtain ⟨q5, e6, hf⟩ := j_bind hf
      refine x_callS (As := [.int v3]) (rest := []) C dX9_scan_35 (m_X9_isLetter (l := l) (E := E) (d := d - 1) (by omega) e6) km_X9_isLetter lk_X9_25 ks_X9_isLetter rfl (by omega) (Nat.le_of_ble_eq_true rfl) (j_le_of (q_X9_isLetter e6)) (Or.inr (q_X9_isLetter e6)) ?_
      refine x_if_eq (tgt := 64) C dX9_scan_38 (by decide) (fun c73 => ?_) (fun c73 => ?_)
      · have hf := j_ifp hf c73
        refine x_iload (v := v3) C dX9_scan_64 rfl ?_
        obtain ⟨q7, e8, hf⟩ := j_bind hf
        refine x_callS (As := [.int v3]) (rest := []) C dX9_scan_66 (m_X9_isDigit (l := l) (E := E) (d := d - 1) (by omega) e8) km_X9_isDigit lk_X9_37 ks_X9_isDigit rfl (by omega) (Nat.le_of_ble_eq_true rfl) (j_le_of (q_X9_isDigit e8)) (Or.inr (q_X9_isDigit e8)) ?_
        refine x_if_eq (tgt := 100) C dX9_scan_69 (by decide) (fun c74 => ?_) (fun c74 => ?_)
        · have hf := j_ifp hf c74
          refine x_iload (v := v3) C dX9_scan_100 rfl ?_
          refine x_bipush C dX9_scan_102 kb_32 ?_
          refine x_icmp_eq (tgt := 134) C dX9_scan_104 (by decide) (fun c75 => ?_) (fun c75 => ?_)
          · have hf := j_ifp hf c75
            refine x_iinc (v := z) C dX9_scan_134 rfl ki_1 (by decide) ?_
            refine x_goto (tgt := 7) C dX9_scan_137 (by decide) ?_
            obtain ⟨rfl, rfl⟩ := j_inj2 hf
            exact x_locr hk rfl
          · have hf := j_ifn hf c75
            refine x_iload (v := v3) C dX9_scan_107 rfl ?_
            refine x_bipush C dX9_scan_109 kb_10 ?_
            refine x_icmp_eq (tgt := 134) C dX9_scan_111 (by decide) (fun c76 => ?_) (fun c76 => ?_)
            · have hf := j_ifp hf c76
              refine x_iinc (v := z) C dX9_scan_134 rfl ki_1 (by decide) ?_
              refine x_goto (tgt := 7) C dX9_scan_137 (by decide) ?_
              obtain ⟨rfl, rfl⟩ := j_inj2 hf
              exact x_locr hk rfl
            · have hf := j_ifn hf c76
              refine x_aload_n (v := a0) C dX9_scan_114 rfl ?_
              refine x_iload (v := v3) C dX9_scan_115 rfl ?_
              obtain ⟨q9, e10, hf⟩ := j_bind hf
              refine x_callS (As := [.int v3]) (rest := [.ref a0]) C dX9_scan_117 (m_X9_isSign (l := l) (E := E) (d := d - 1) (by omega) e10) km_X9_isSign lk_X9_50 ks_X9_isSign rfl (by omega) (Nat.le_of_ble_eq_true rfl) (j_le_of (q_X9_isSign e10)) (Or.inr (q_X9_isSign e10)) ?_
              refine x_if_eq (tgt := 128) C dX9_scan_120 (by decide) (fun c77 => ?_) (fun c77 => ?_)
              · have hf := j_ifp hf c77
                refine x_iconst C dX9_scan_128 ki_1 ?_
                refine x_iload_n (v := z) C dX9_scan_129 rfl ?_
                refine x_iconst C dX9_scan_130 ki_0 ?_
                obtain ⟨u13, e14, hf⟩ := j_bind hf
                obtain ⟨q11, e12, hf⟩ := j_bind hf
                refine x_callV (As := [.int (1 : Int32), .int z, .int (0 : Int32)]) (rest := []) C dX9_scan_131 (m_X9_addToken (l := l) (E := E) (d := d - 1) (by omega) e12) km_X9_addToken lk_X9_46 kv_X9_addToken (ci := 7) rfl e14 rfl (by omega) (Nat.le_of_ble_eq_true rfl) (j_le_of (q_X9_addToken e12)) (Or.inr (q_X9_addToken e12)) ?_
                refine x_iinc (v := z) C dX9_scan_134 rfl ki_1 (by decide) ?_
                refine x_goto (tgt := 7) C dX9_scan_137 (by decide) ?_
                obtain ⟨rfl, rfl⟩ := j_inj2 hf
                exact x_locr hk rfl
              · have hf := j_ifn hf c77
                refine x_iload (v := v3) C dX9_scan_123 rfl ?_
                refine x_goto (tgt := 129) C dX9_scan_125 (by decide) ?_
                refine x_iload_n (v := z) C dX9_scan_129 rfl ?_
                refine x_iconst C dX9_scan_130 ki_0 ?_
                obtain ⟨u17, e18, hf⟩ := j_bind hf
                obtain ⟨q15, e16, hf⟩ := j_bind hf
                refine x_callV (As := [.int v3, .int z, .int (0 : Int32)]) (rest := []) C dX9_scan_131 (m_X9_addToken (l := l) (E := E) (d := d - 1) (by omega) e16) km_X9_addToken lk_X9_46 kv_X9_addToken (ci := 7) rfl e18 rfl (by omega) (Nat.le_of_ble_eq_true rfl) (j_le_of (q_X9_addToken e16)) (Or.inr (q_X9_addToken e16)) ?_
                refine x_iinc (v := z) C dX9_scan_134 rfl ki_1 (by decide) ?_
                refine x_goto (tgt := 7) C dX9_scan_137 (by decide) ?_
                obtain ⟨rfl, rfl⟩ := j_inj2 hf
                exact x_locr hk rfl
        · have hf := j_ifn hf c74
          refine x_iload (v := (32 : Int32)) C dX9_scan_72 rfl ?_
          obtain ⟨q19, e20, hf⟩ := j_bind hf
          refine x_callS (As := [.int (32 : Int32)]) (rest := []) C dX9_scan_74 (m_X9_isDigit (l := l) (E := E) (d := d - 1) (by omega) e20) km_X9_isDigit lk_X9_37 ks_X9_isDigit rfl (by omega) (Nat.le_of_ble_eq_true rfl) (j_le_of (q_X9_isDigit e20)) (Or.inr (q_X9_isDigit e20)) ?_
          refine x_if_ne (tgt := 134) C dX9_scan_77 (by decide) (fun c78 => ?_) (fun c78 => ?_)
          · have hf := j_ifn hf c78
            refine x_iinc (v := z) C dX9_scan_134 rfl ki_1 (by decide) ?_
            refine x_goto (tgt := 7) C dX9_scan_137 (by decide) ?_
            obtain ⟨rfl, rfl⟩ := j_inj2 hf
            exact x_locr hk rfl
          · have hf := j_ifp hf c78
            refine x_aload_n (v := a0) C dX9_scan_80 rfl ?_
            refine x_iconst C dX9_scan_81 ki_3 ?_
            refine x_iload_n (v := z) C dX9_scan_82 rfl ?_
            refine x_aload_n (v := a1) C dX9_scan_83 rfl ?_
            refine x_iload_n (v := z) C dX9_scan_84 rfl ?_
            refine x_aload_n (v := a1) C dX9_scan_85 rfl ?_
            refine x_iload_n (v := z) C dX9_scan_86 rfl ?_
            refine x_iload_n (v := a2) C dX9_scan_87 rfl ?_
            obtain ⟨q21, e22, hf⟩ := j_bind hf
            refine x_callS (As := [.ref a1, .int z, .int a2]) (rest := [.int z, .ref a1, .int z, .int (3 : Int32), .ref a0]) C dX9_scan_88 (m_X9_endOfNumber (l := l) (E := E) (d := d - 1) (by omega) e22) km_X9_endOfNumber lk_X9_40 ks_X9_endOfNumber rfl (by omega) (Nat.le_of_ble_eq_true rfl) (j_le_of (q_X9_endOfNumber e22)) (Or.inr (q_X9_endOfNumber e22)) ?_
            obtain ⟨q23, e24, hf⟩ := j_bind hf
            refine x_callS (As := [.ref a1, .int z, .int q21.1]) (rest := [.int z, .int (3 : Int32), .ref a0]) C dX9_scan_91 (m_X9_numberOf (l := l) (E := E) (d := d - 1) (by omega) e24) km_X9_numberOf lk_X9_43 ks_X9_numberOf rfl (by omega) (Nat.le_of_ble_eq_true rfl) (j_le_of (q_X9_numberOf e24)) (Or.inr (q_X9_numberOf e24)) ?_
            obtain ⟨u27, e28, hf⟩ := j_bind hf
            obtain ⟨q25, e26, hf⟩ := j_bind hf
            refine x_callV (As := [.int (3 : Int32), .int z, .int q23.1]) (rest := []) C dX9_scan_94 (m_X9_addToken (l := l) (E := E) (d := d - 1) (by omega) e26) km_X9_addToken lk_X9_46 kv_X9_addToken (ci := 7) rfl e28 rfl (by omega) (Nat.le_of_ble_eq_true rfl) (j_le_of (q_X9_addToken e26)) (Or.inr (q_X9_addToken e26)) ?_
            refine x_goto (tgt := 134) C dX9_scan_97 (by decide) ?_
            refine x_iinc (v := z) C dX9_scan_134 rfl ki_1 (by decide) ?_
            refine x_goto (tgt := 7) C dX9_scan_137 (by decide) ?_
            obtain ⟨rfl, rfl⟩ := j_inj2 hf
            exact x_locr hk rfl
      · have hf := j_ifn hf c73
        refine x_iload (v := (32 : Int32)) C dX9_scan_41 rfl ?_
        obtain ⟨q29, e30, hf⟩ := j_bind hf
        refine x_callS (As := [.int (32 : Int32)]) (rest := []) C dX9_scan_43 (m_X9_isLetter (l := l) (E := E) (d := d - 1) (by omega) e30) km_X9_isLetter lk_X9_25 ks_X9_isLetter rfl (by omega) (Nat.le_of_ble_eq_true rfl) (j_le_of (q_X9_isLetter e30)) (Or.inr (q_X9_isLetter e30)) ?_
        refine x_if_ne (tgt := 134) C dX9_scan_46 (by decide) (fun c79 => ?_) (fun c79 => ?_)
        · have hf := j_ifn hf c79
          refine x_iinc (v := z) C dX9_scan_134 rfl ki_1 (by decide) ?_
          refine x_goto (tgt := 7) C dX9_scan_137 (by decide) ?_
          obtain ⟨rfl, rfl⟩ := j_inj2 hf
          exact x_locr hk rfl
        · have hf := j_ifp hf c79
          refine x_aload_n (v := a0) C dX9_scan_49 rfl ?_
          refine x_aload_n (v := a1) C dX9_scan_50 rfl ?_
          refine x_iload_n (v := z) C dX9_scan_51 rfl ?_
          refine x_aload_n (v := a1) C dX9_scan_52 rfl ?_
          refine x_iload_n (v := z) C dX9_scan_53 rfl ?_
          refine x_iload_n (v := a2) C dX9_scan_54 rfl ?_
          obtain ⟨q31, e32, hf⟩ := j_bind hf
          refine x_callS (As := [.ref a1, .int z, .int a2]) (rest := [.int z, .ref a1, .ref a0]) C dX9_scan_55 (m_X9_endOfWord (l := l) (E := E) (d := d - 1) (by omega) e32) km_X9_endOfWord lk_X9_29 ks_X9_endOfWord rfl (by omega) (Nat.le_of_ble_eq_true rfl) (j_le_of (q_X9_endOfWord e32)) (Or.inr (q_X9_endOfWord e32)) ?_
          obtain ⟨u35, e36, hf⟩ := j_bind hf
          obtain ⟨q33, e34, hf⟩ := j_bind hf
          refine x_callV (As := [.ref a1, .int z, .int q31.1]) (rest := []) C dX9_scan_58 (m_X9_addWord (l := l) (E := E) (d := d - 1) (by omega) e34) km_X9_addWord lk_X9_33 kv_X9_addWord (ci := 7) rfl e36 rfl (by omega) (Nat.le_of_ble_eq_true rfl) (j_le_of (q_X9_addWord e34)) (Or.inr (q_X9_addWord e34)) ?_
          refine x_goto (tgt := 134) C dX9_scan_61 (by decide) ?_
          refine x_iinc (v := z) C dX9_scan_134 rfl ki_1 (by decide) ?_
          refine x_goto (tgt := 7) C dX9_scan_137 (by decide) ?_
          obtain ⟨rfl, rfl⟩ := j_inj2 hf
          exact x_locr hk rfl
    · have hf := j_ifn hf c72
      refine x_aload_n (v := a1) C dX9_scan_21 rfl ?_
      refine x_iload_n (v := z) C dX9_scan_22 rfl ?_
      refine x_iconst C dX9_scan_23 ki_1 ?_
      refine x_isub C dX9_scan_24 ?_
      obtain ⟨v37, e38, hf⟩ := j_bind hf
      refine x_bald C dX9_scan_25 e38 ?_
      refine x_goto (tgt := 31) C dX9_scan_26 (by decide) ?_
      refine x_istore C dX9_scan_31 (by decide) ?_
      refine x_iload (v := v3) C dX9_scan_33 rfl ?_
      obtain ⟨q39, e40, hf⟩ := j_bind hf
      refine x_callS (As := [.int v3]) (rest := []) C dX9_scan_35 (m_X9_isLetter (l := l) (E := E) (d := d - 1) (by omega) e40) km_X9_isLetter lk_X9_25 ks_X9_isLetter rfl (by omega) (Nat.le_of_ble_eq_true rfl) (j_le_of (q_X9_isLetter e40)) (Or.inr (q_X9_isLetter e40)) ?_
      refine x_if_eq (tgt := 64) C dX9_scan_38 (by decide) (fun c80 => ?_) (fun c80 => ?_)
      · have hf := j_ifp hf c80
        refine x_iload (v := v3) C dX9_scan_64 rfl ?_
        obtain ⟨q41, e42, hf⟩ := j_bind hf
        refine x_callS (As := [.int v3]) (rest := []) C dX9_scan_66 (m_X9_isDigit (l := l) (E := E) (d := d - 1) (by omega) e42) km_X9_isDigit lk_X9_37 ks_X9_isDigit rfl (by omega) (Nat.le_of_ble_eq_true rfl) (j_le_of (q_X9_isDigit e42)) (Or.inr (q_X9_isDigit e42)) ?_
        refine x_if_eq (tgt := 100) C dX9_scan_69 (by decide) (fun c81 => ?_) (fun c81 => ?_)
        · have hf := j_ifp hf c81
          refine x_iload (v := v3) C dX9_scan_100 rfl ?_
          refine x_bipush C dX9_scan_102 kb_32 ?_
          refine x_icmp_eq (tgt := 134) C dX9_scan_104 (by decide) (fun c82 => ?_) (fun c82 => ?_)
          · have hf := j_ifp hf c82
            refine x_iinc (v := z) C dX9_scan_134 rfl ki_1 (by decide) ?_
            refine x_goto (tgt := 7) C dX9_scan_137 (by decide) ?_
            obtain ⟨rfl, rfl⟩ := j_inj2 hf
            exact x_locr hk rfl
          · have hf := j_ifn hf c82
            refine x_iload (v := v3) C dX9_scan_107 rfl ?_
            refine x_bipush C dX9_scan_109 kb_10 ?_
            refine x_icmp_eq (tgt := 134) C dX9_scan_111 (by decide) (fun c83 => ?_) (fun c83 => ?_)
            · have hf := j_ifp hf c83
              refine x_iinc (v := z) C dX9_scan_134 rfl ki_1 (by decide) ?_
              refine x_goto (tgt := 7) C dX9_scan_137 (by decide) ?_
              obtain ⟨rfl, rfl⟩ := j_inj2 hf
              exact x_locr hk rfl
            · have hf := j_ifn hf c83
              refine x_aload_n (v := a0) C dX9_scan_114 rfl ?_
              refine x_iload (v := v3) C dX9_scan_115 rfl ?_
              obtain ⟨q43, e44, hf⟩ := j_bind hf
              refine x_callS (As := [.int v3]) (rest := [.ref a0]) C dX9_scan_117 (m_X9_isSign (l := l) (E := E) (d := d - 1) (by omega) e44) km_X9_isSign lk_X9_50 ks_X9_isSign rfl (by omega) (Nat.le_of_ble_eq_true rfl) (j_le_of (q_X9_isSign e44)) (Or.inr (q_X9_isSign e44)) ?_
              refine x_if_eq (tgt := 128) C dX9_scan_120 (by decide) (fun c84 => ?_) (fun c84 => ?_)
              · have hf := j_ifp hf c84
                refine x_iconst C dX9_scan_128 ki_1 ?_
                refine x_iload_n (v := z) C dX9_scan_129 rfl ?_
                refine x_iconst C dX9_scan_130 ki_0 ?_
                obtain ⟨u47, e48, hf⟩ := j_bind hf
                obtain ⟨q45, e46, hf⟩ := j_bind hf
                refine x_callV (As := [.int (1 : Int32), .int z, .int (0 : Int32)]) (rest := []) C dX9_scan_131 (m_X9_addToken (l := l) (E := E) (d := d - 1) (by omega) e46) km_X9_addToken lk_X9_46 kv_X9_addToken (ci := 7) rfl e48 rfl (by omega) (Nat.le_of_ble_eq_true rfl) (j_le_of (q_X9_addToken e46)) (Or.inr (q_X9_addToken e46)) ?_
                refine x_iinc (v := z) C dX9_scan_134 rfl ki_1 (by decide) ?_
                refine x_goto (tgt := 7) C dX9_scan_137 (by decide) ?_
                obtain ⟨rfl, rfl⟩ := j_inj2 hf
                exact x_locr hk rfl
              · have hf := j_ifn hf c84
                refine x_iload (v := v3) C dX9_scan_123 rfl ?_
                refine x_goto (tgt := 129) C dX9_scan_125 (by decide) ?_
                refine x_iload_n (v := z) C dX9_scan_129 rfl ?_
                refine x_iconst C dX9_scan_130 ki_0 ?_
                obtain ⟨u51, e52, hf⟩ := j_bind hf
                obtain ⟨q49, e50, hf⟩ := j_bind hf
                refine x_callV (As := [.int v3, .int z, .int (0 : Int32)]) (rest := []) C dX9_scan_131 (m_X9_addToken (l := l) (E := E) (d := d - 1) (by omega) e50) km_X9_addToken lk_X9_46 kv_X9_addToken (ci := 7) rfl e52 rfl (by omega) (Nat.le_of_ble_eq_true rfl) (j_le_of (q_X9_addToken e50)) (Or.inr (q_X9_addToken e50)) ?_
                refine x_iinc (v := z) C dX9_scan_134 rfl ki_1 (by decide) ?_
                refine x_goto (tgt := 7) C dX9_scan_137 (by decide) ?_
                obtain ⟨rfl, rfl⟩ := j_inj2 hf
                exact x_locr hk rfl
        · have hf := j_ifn hf c81
          refine x_iload (v := v37) C dX9_scan_72 rfl ?_
          obtain ⟨q53, e54, hf⟩ := j_bind hf
          refine x_callS (As := [.int v37]) (rest := []) C dX9_scan_74 (m_X9_isDigit (l := l) (E := E) (d := d - 1) (by omega) e54) km_X9_isDigit lk_X9_37 ks_X9_isDigit rfl (by omega) (Nat.le_of_ble_eq_true rfl) (j_le_of (q_X9_isDigit e54)) (Or.inr (q_X9_isDigit e54)) ?_
          refine x_if_ne (tgt := 134) C dX9_scan_77 (by decide) (fun c85 => ?_) (fun c85 => ?_)
          · have hf := j_ifn hf c85
            refine x_iinc (v := z) C dX9_scan_134 rfl ki_1 (by decide) ?_
            refine x_goto (tgt := 7) C dX9_scan_137 (by decide) ?_
            obtain ⟨rfl, rfl⟩ := j_inj2 hf
            exact x_locr hk rfl
          · have hf := j_ifp hf c85
            refine x_aload_n (v := a0) C dX9_scan_80 rfl ?_
            refine x_iconst C dX9_scan_81 ki_3 ?_
            refine x_iload_n (v := z) C dX9_scan_82 rfl ?_
            refine x_aload_n (v := a1) C dX9_scan_83 rfl ?_
            refine x_iload_n (v := z) C dX9_scan_84 rfl ?_
            refine x_aload_n (v := a1) C dX9_scan_85 rfl ?_
            refine x_iload_n (v := z) C dX9_scan_86 rfl ?_
            refine x_iload_n (v := a2) C dX9_scan_87 rfl ?_
            obtain ⟨q55, e56, hf⟩ := j_bind hf
            refine x_callS (As := [.ref a1, .int z, .int a2]) (rest := [.int z, .ref a1, .int z, .int (3 : Int32), .ref a0]) C dX9_scan_88 (m_X9_endOfNumber (l := l) (E := E) (d := d - 1) (by omega) e56) km_X9_endOfNumber lk_X9_40 ks_X9_endOfNumber rfl (by omega) (Nat.le_of_ble_eq_true rfl) (j_le_of (q_X9_endOfNumber e56)) (Or.inr (q_X9_endOfNumber e56)) ?_
            obtain ⟨q57, e58, hf⟩ := j_bind hf
            refine x_callS (As := [.ref a1, .int z, .int q55.1]) (rest := [.int z, .int (3 : Int32), .ref a0]) C dX9_scan_91 (m_X9_numberOf (l := l) (E := E) (d := d - 1) (by omega) e58) km_X9_numberOf lk_X9_43 ks_X9_numberOf rfl (by omega) (Nat.le_of_ble_eq_true rfl) (j_le_of (q_X9_numberOf e58)) (Or.inr (q_X9_numberOf e58)) ?_
            obtain ⟨u61, e62, hf⟩ := j_bind hf
            obtain ⟨q59, e60, hf⟩ := j_bind hf
            refine x_callV (As := [.int (3 : Int32), .int z, .int q57.1]) (rest := []) C dX9_scan_94 (m_X9_addToken (l := l) (E := E) (d := d - 1) (by omega) e60) km_X9_addToken lk_X9_46 kv_X9_addToken (ci := 7) rfl e62 rfl (by omega) (Nat.le_of_ble_eq_true rfl) (j_le_of (q_X9_addToken e60)) (Or.inr (q_X9_addToken e60)) ?_
            refine x_goto (tgt := 134) C dX9_scan_97 (by decide) ?_
            refine x_iinc (v := z) C dX9_scan_134 rfl ki_1 (by decide) ?_
            refine x_goto (tgt := 7) C dX9_scan_137 (by decide) ?_
            obtain ⟨rfl, rfl⟩ := j_inj2 hf
            exact x_locr hk rfl
      · have hf := j_ifn hf c80
        refine x_iload (v := v37) C dX9_scan_41 rfl ?_
        obtain ⟨q63, e64, hf⟩ := j_bind hf
        refine x_callS (As := [.int v37]) (rest := []) C dX9_scan_43 (m_X9_isLetter (l := l) (E := E) (d := d - 1) (by omega) e64) km_X9_isLetter lk_X9_25 ks_X9_isLetter rfl (by omega) (Nat.le_of_ble_eq_true rfl) (j_le_of (q_X9_isLetter e64)) (Or.inr (q_X9_isLetter e64)) ?_
        refine x_if_ne (tgt := 134) C dX9_scan_46 (by decide) (fun c86 => ?_) (fun c86 => ?_)
        · have hf := j_ifn hf c86
          refine x_iinc (v := z) C dX9_scan_134 rfl ki_1 (by decide) ?_
          refine x_goto (tgt := 7) C dX9_scan_137 (by decide) ?_
          obtain ⟨rfl, rfl⟩ := j_inj2 hf
          exact x_locr hk rfl
        · have hf := j_ifp hf c86
          refine x_aload_n (v := a0) C dX9_scan_49 rfl ?_
          refine x_aload_n (v := a1) C dX9_scan_50 rfl ?_
          refine x_iload_n (v := z) C dX9_scan_51 rfl ?_
          refine x_aload_n (v := a1) C dX9_scan_52 rfl ?_
          refine x_iload_n (v := z) C dX9_scan_53 rfl ?_
          refine x_iload_n (v := a2) C dX9_scan_54 rfl ?_
          obtain ⟨q65, e66, hf⟩ := j_bind hf
          refine x_callS (As := [.ref a1, .int z, .int a2]) (rest := [.int z, .ref a1, .ref a0]) C dX9_scan_55 (m_X9_endOfWord (l := l) (E := E) (d := d - 1) (by omega) e66) km_X9_endOfWord lk_X9_29 ks_X9_endOfWord rfl (by omega) (Nat.le_of_ble_eq_true rfl) (j_le_of (q_X9_endOfWord e66)) (Or.inr (q_X9_endOfWord e66)) ?_
          obtain ⟨u69, e70, hf⟩ := j_bind hf
          obtain ⟨q67, e68, hf⟩ := j_bind hf
          refine x_callV (As := [.ref a1, .int z, .int q65.1]) (rest := []) C dX9_scan_58 (m_X9_addWord (l := l) (E := E) (d := d - 1) (by omega) e68) km_X9_addWord lk_X9_33 kv_X9_addWord (ci := 7) rfl e70 rfl (by omega) (Nat.le_of_ble_eq_true rfl) (j_le_of (q_X9_addWord e68)) (Or.inr (q_X9_addWord e68)) ?_
          refine x_goto (tgt := 134) C dX9_scan_61 (by decide) ?_
          refine x_iinc (v := z) C dX9_scan_134 rfl ki_1 (by decide) ?_
          refine x_goto (tgt := 7) C dX9_scan_137 (by decide) ?_
          obtain ⟨rfl, rfl⟩ := j_inj2 hf
          exact x_locr hk rfl
set_option maxHeartbeats 4000000 in
set_option maxRecDepth 100000 in
theorem m_X9_scan {l : Launch} {E : JE} {d : Nat} (hdd : 12 ≤ d) {a0 : Nat} {a1 : Nat} {a2 : Int32} {h : JH} {q : Unit × JH} (hf : f_X9_scan a0 a1 a2 h = some q) : Con l E d yX9_scan cX9_scan 6 none [.ref a0, .ref a1, .int a2] h (none) q.2 := by
  refine j_start rfl (Nat.le_of_ble_eq_true rfl) ?_
  intro p e s m args below meth c C hret hnm
  refine x_loc [(0, .ref a0), (1, .ref a1), (2, .int a2)] rfl ?_
  unfold f_X9_scan at hf
  refine x_aload_n (v := a0) C dX9_scan_0 rfl ?_
  refine x_iconst C dX9_scan_1 ki_0 ?_
  obtain ⟨h1, e2, hf⟩ := j_bind hf
  refine x_put C dX9_scan_2 e2 fp_X9_21 rfl rfl ?_
  refine x_iconst C dX9_scan_5 ki_0 ?_
  refine x_istore_n C dX9_scan_6 (by decide) ?_
  obtain ⟨q87, e88, hf⟩ := j_bind hf
  refine x_loc [(0, .ref a0), (1, .ref a1), (2, .int a2), (3, .int (0 : Int32))] rfl ?_
  refine x_loop (s_X9_scan_L7 C hret hdd a0 a1 a2) e88 ?_
  refine x_aload_n (v := a0) C dX9_scan_140 rfl ?_
  obtain ⟨v89, e90, hf⟩ := j_bind hf
  refine x_get C dX9_scan_141 (jgR_some e90) fg_X9_9 ?_
  refine x_aload_n (v := a0) C dX9_scan_144 rfl ?_
  obtain ⟨v91, e92, hf⟩ := j_bind hf
  refine x_get C dX9_scan_145 (jgI_some e92) fg_X9_21 ?_
  refine x_iconst C dX9_scan_148 ki_0 ?_
  obtain ⟨h93, e94, hf⟩ := j_bind hf
  refine x_iast C dX9_scan_149 e94 ?_
  refine x_aload_n (v := a0) C dX9_scan_150 rfl ?_
  obtain ⟨v95, e96, hf⟩ := j_bind hf
  refine x_get C dX9_scan_151 (jgR_some e96) fg_X9_15 ?_
  refine x_aload_n (v := a0) C dX9_scan_154 rfl ?_
  obtain ⟨v97, e98, hf⟩ := j_bind hf
  refine x_get C dX9_scan_155 (jgI_some e98) fg_X9_21 ?_
  refine x_iload_n (v := a2) C dX9_scan_158 rfl ?_
  obtain ⟨h99, e100, hf⟩ := j_bind hf
  refine x_iast C dX9_scan_159 e100 ?_
  obtain rfl := j_inj hf
  exact x_vret C hret dX9_scan_160
set_option maxHeartbeats 4000000 in
set_option maxRecDepth 100000 in
theorem m_X0_open {l : Launch} {E : JE} {d : Nat} (hdd : 13 ≤ d) {a0 : Nat} {a1 : Nat} {a2 : Int32} {h : JH} {q : Unit × JH} (hf : f_X0_open a0 a1 a2 h = some q) : Con l E d yX0_open cX0_open 3 none [.ref a0, .ref a1, .int a2] h (none) q.2 := by
  refine j_start rfl (Nat.le_of_ble_eq_true rfl) ?_
  intro p e s m args below meth c C hret hnm
  refine x_loc [(0, .ref a0), (1, .ref a1), (2, .int a2)] rfl ?_
  unfold f_X0_open at hf
  refine x_aload_n (v := a0) C dX0_open_0 rfl ?_
  obtain ⟨v1, e2, hf⟩ := j_bind hf
  refine x_get C dX0_open_1 (jgR_some e2) fg_X0_26 ?_
  refine x_aload_n (v := a1) C dX0_open_4 rfl ?_
  refine x_iload_n (v := a2) C dX0_open_5 rfl ?_
  obtain ⟨u11, e12, hf⟩ := j_bind hf
  obtain ⟨q3, e4, hf⟩ := j_bind hf
  refine x_callV (As := [.ref a1, .int a2]) (rest := []) C dX0_open_6 (m_X9_scan (l := l) (E := E) (d := d - 1) (by omega) e4) km_X9_scan lk_X0_46 kv_X9_scan (ci := 7) rfl e12 rfl (by omega) (Nat.le_of_ble_eq_true rfl) (j_le_of (q_X9_scan e4)) (Or.inr (q_X9_scan e4)) ?_
  refine x_aload_n (v := a0) C dX0_open_9 rfl ?_
  refine x_iconst C dX0_open_10 ki_0 ?_
  obtain ⟨h5, e6, hf⟩ := j_bind hf
  refine x_put C dX0_open_11 e6 fp_X0_50 rfl rfl ?_
  refine x_aload_n (v := a0) C dX0_open_14 rfl ?_
  refine x_sipush C dX0_open_15 ks_1009 ?_
  obtain ⟨h7, e8, hf⟩ := j_bind hf
  refine x_put C dX0_open_18 e8 fp_X0_54 rfl rfl ?_
  refine x_aload_n (v := a0) C dX0_open_21 rfl ?_
  refine x_iconst C dX0_open_22 ki_0 ?_
  obtain ⟨h9, e10, hf⟩ := j_bind hf
  refine x_put C dX0_open_23 e10 fp_X0_57 rfl rfl ?_
  obtain rfl := j_inj hf
  exact x_vret C hret dX0_open_26
set_option maxHeartbeats 4000000 in
set_option maxRecDepth 100000 in
theorem m_X0_kind {l : Launch} {E : JE} {d : Nat} (hdd : 0 ≤ d) {a0 : Nat} {h : JH} {q : Int32 × JH} (hf : f_X0_kind a0 h = some q) : Con l E d yX0_kind cX0_kind 1 (some .int) [.ref a0] h (some (.int q.1)) q.2 := by
  refine j_start rfl (Nat.le_of_ble_eq_true rfl) ?_
  intro p e s m args below meth c C hret hnm
  refine x_loc [(0, .ref a0)] rfl ?_
  unfold f_X0_kind at hf
  refine x_aload_n (v := a0) C dX0_kind_0 rfl ?_
  obtain ⟨v1, e2, hf⟩ := j_bind hf
  refine x_get C dX0_kind_1 (jgR_some e2) fg_X0_26 ?_
  obtain ⟨v3, e4, hf⟩ := j_bind hf
  refine x_get C dX0_kind_4 (jgR_some e4) fg_X0_60 ?_
  refine x_aload_n (v := a0) C dX0_kind_7 rfl ?_
  obtain ⟨v5, e6, hf⟩ := j_bind hf
  refine x_get C dX0_kind_8 (jgI_some e6) fg_X0_50 ?_
  obtain ⟨v7, e8, hf⟩ := j_bind hf
  refine x_iald C dX0_kind_11 e8 ?_
  obtain rfl := j_inj hf
  exact x_iret C hret dX0_kind_12
set_option maxHeartbeats 4000000 in
set_option maxRecDepth 100000 in
theorem m_X0_value {l : Launch} {E : JE} {d : Nat} (hdd : 0 ≤ d) {a0 : Nat} {h : JH} {q : Int32 × JH} (hf : f_X0_value a0 h = some q) : Con l E d yX0_value cX0_value 1 (some .int) [.ref a0] h (some (.int q.1)) q.2 := by
  refine j_start rfl (Nat.le_of_ble_eq_true rfl) ?_
  intro p e s m args below meth c C hret hnm
  refine x_loc [(0, .ref a0)] rfl ?_
  unfold f_X0_value at hf
  refine x_aload_n (v := a0) C dX0_value_0 rfl ?_
  obtain ⟨v1, e2, hf⟩ := j_bind hf
  refine x_get C dX0_value_1 (jgR_some e2) fg_X0_26 ?_
  obtain ⟨v3, e4, hf⟩ := j_bind hf
  refine x_get C dX0_value_4 (jgR_some e4) fg_X0_63 ?_
  refine x_aload_n (v := a0) C dX0_value_7 rfl ?_
  obtain ⟨v5, e6, hf⟩ := j_bind hf
  refine x_get C dX0_value_8 (jgI_some e6) fg_X0_50 ?_
  obtain ⟨v7, e8, hf⟩ := j_bind hf
  refine x_iald C dX0_value_11 e8 ?_
  obtain rfl := j_inj hf
  exact x_iret C hret dX0_value_12
set_option maxHeartbeats 4000000 in
set_option maxRecDepth 100000 in
theorem m_X0_goOn {l : Launch} {E : JE} {d : Nat} (hdd : 0 ≤ d) {a0 : Nat} {h : JH} {q : Unit × JH} (hf : f_X0_goOn a0 h = some q) : Con l E d yX0_goOn cX0_goOn 1 none [.ref a0] h (none) q.2 := by
  refine j_start rfl (Nat.le_of_ble_eq_true rfl) ?_
  intro p e s m args below meth c C hret hnm
  refine x_loc [(0, .ref a0)] rfl ?_
  unfold f_X0_goOn at hf
  refine x_aload_n (v := a0) C dX0_goOn_0 rfl ?_
  obtain ⟨v1, e2, hf⟩ := j_bind hf
  refine x_get C dX0_goOn_1 (jgI_some e2) fg_X0_50 ?_
  refine x_aload_n (v := a0) C dX0_goOn_4 rfl ?_
  obtain ⟨v3, e4, hf⟩ := j_bind hf
  refine x_get C dX0_goOn_5 (jgR_some e4) fg_X0_26 ?_
  obtain ⟨v5, e6, hf⟩ := j_bind hf
  refine x_get C dX0_goOn_8 (jgI_some e6) fg_X0_66 ?_
  refine x_icmp_ge (tgt := 24) C dX0_goOn_11 (by decide) (fun c11 => ?_) (fun c11 => ?_)
  · have hf := j_ifp hf c11
    obtain rfl := j_inj hf
    exact x_vret C hret dX0_goOn_24
  · have hf := j_ifn hf c11
    refine x_aload_n (v := a0) C dX0_goOn_14 rfl ?_
    refine x_dup C dX0_goOn_15 rfl ?_
    obtain ⟨v7, e8, hf⟩ := j_bind hf
    refine x_get C dX0_goOn_16 (jgI_some e8) fg_X0_50 ?_
    refine x_iconst C dX0_goOn_19 ki_1 ?_
    refine x_iadd C dX0_goOn_20 ?_
    obtain ⟨h9, e10, hf⟩ := j_bind hf
    refine x_put C dX0_goOn_21 e10 fp_X0_50 rfl rfl ?_
    obtain rfl := j_inj hf
    exact x_vret C hret dX0_goOn_24
set_option maxHeartbeats 4000000 in
set_option maxRecDepth 100000 in
theorem m_X0_fail {l : Launch} {E : JE} {d : Nat} (hdd : 0 ≤ d) {a0 : Nat} {a1 : Int32} {a2 : Int32} {h : JH} {q : Int32 × JH} (hf : f_X0_fail a0 a1 a2 h = some q) : Con l E d yX0_fail cX0_fail 3 (some .boolean) [.ref a0, .int a1, .int a2] h (some (.int q.1)) q.2 := by
  refine j_start rfl (Nat.le_of_ble_eq_true rfl) ?_
  intro p e s m args below meth c C hret hnm
  refine x_loc [(0, .ref a0), (1, .int a1), (2, .int a2)] rfl ?_
  unfold f_X0_fail at hf
  refine x_aload_n (v := a0) C dX0_fail_0 rfl ?_
  refine x_bipush C dX0_fail_1 kb_8 ?_
  refine x_aload_n (v := a0) C dX0_fail_3 rfl ?_
  obtain ⟨v1, e2, hf⟩ := j_bind hf
  refine x_get C dX0_fail_4 (jgR_some e2) fg_X0_26 ?_
  obtain ⟨v3, e4, hf⟩ := j_bind hf
  refine x_get C dX0_fail_7 (jgR_some e4) fg_X0_69 ?_
  refine x_iload_n (v := a2) C dX0_fail_10 rfl ?_
  obtain ⟨v5, e6, hf⟩ := j_bind hf
  refine x_iald C dX0_fail_11 e6 ?_
  refine x_imul C dX0_fail_12 ?_
  refine x_iload_n (v := a1) C dX0_fail_13 rfl ?_
  refine x_iadd C dX0_fail_14 ?_
  obtain ⟨h7, e8, hf⟩ := j_bind hf
  refine x_put C dX0_fail_15 e8 fp_X0_72 rfl rfl ?_
  refine x_iconst C dX0_fail_18 ki_0 ?_
  obtain rfl := j_inj hf
  exact x_zret C hret (Or.inl rfl) dX0_fail_19
set_option maxHeartbeats 4000000 in
set_option maxRecDepth 100000 in
theorem m_X0_expect {l : Launch} {E : JE} {d : Nat} (hdd : 1 ≤ d) {a0 : Nat} {a1 : Int32} {h : JH} {q : Int32 × JH} (hf : f_X0_expect a0 a1 h = some q) : Con l E d yX0_expect cX0_expect 2 (some .boolean) [.ref a0, .int a1] h (some (.int q.1)) q.2 := by
  refine j_start rfl (Nat.le_of_ble_eq_true rfl) ?_
  intro p e s m args below meth c C hret hnm
  refine x_loc [(0, .ref a0), (1, .int a1)] rfl ?_
  unfold f_X0_expect at hf
  refine x_aload_n (v := a0) C dX0_expect_0 rfl ?_
  obtain ⟨u15, e16, hf⟩ := j_bind hf
  obtain ⟨q1, e2, hf⟩ := j_bind hf
  refine x_callV (As := []) (rest := []) C dX0_expect_1 (m_X0_kind (l := l) (E := E) (d := d - 1) (by omega) e2) km_X0_kind lk_X0_75 kv_X0_kind (ci := 0) rfl e16 rfl (by omega) (Nat.le_of_ble_eq_true rfl) (j_le_of (q_X0_kind e2)) (Or.inr (q_X0_kind e2)) ?_
  refine x_iload_n (v := a1) C dX0_expect_4 rfl ?_
  refine x_icmp_eq (tgt := 18) C dX0_expect_5 (by decide) (fun c17 => ?_) (fun c17 => ?_)
  · have hf := j_ifp hf c17
    refine x_aload_n (v := a0) C dX0_expect_18 rfl ?_
    obtain ⟨u5, e6, hf⟩ := j_bind hf
    obtain ⟨q3, e4, hf⟩ := j_bind hf
    refine x_callV (As := []) (rest := []) C dX0_expect_19 (m_X0_goOn (l := l) (E := E) (d := d - 1) (by omega) e4) km_X0_goOn lk_X0_83 kv_X0_goOn (ci := 0) rfl e6 rfl (by omega) (Nat.le_of_ble_eq_true rfl) (j_le_of (q_X0_goOn e4)) (Or.inr (q_X0_goOn e4)) ?_
    refine x_iconst C dX0_expect_22 ki_1 ?_
    obtain rfl := j_inj hf
    exact x_zret C hret (Or.inr rfl) dX0_expect_23
  · have hf := j_ifn hf c17
    refine x_aload_n (v := a0) C dX0_expect_8 rfl ?_
    refine x_iconst C dX0_expect_9 ki_1 ?_
    refine x_aload_n (v := a0) C dX0_expect_10 rfl ?_
    obtain ⟨v7, e8, hf⟩ := j_bind hf
    refine x_get C dX0_expect_11 (jgI_some e8) fg_X0_50 ?_
    obtain ⟨u13, e14, hf⟩ := j_bind hf
    obtain ⟨q9, e10, hf⟩ := j_bind hf
    refine x_callV (As := [.int (1 : Int32), .int v7]) (rest := []) C dX0_expect_14 (m_X0_fail (l := l) (E := E) (d := d - 1) (by omega) e10) km_X0_fail lk_X0_79 kv_X0_fail (ci := 0) rfl e14 rfl (by omega) (Nat.le_of_ble_eq_true rfl) (j_le_of (q_X0_fail e10)) (Or.inr (q_X0_fail e10)) ?_
    obtain ⟨u11, e12, hf⟩ := j_bind hf
    obtain rfl := j_inj hf
    exact x_zret C hret (jzb_some e12) dX0_expect_17
set_option maxHeartbeats 4000000 in
set_option maxRecDepth 100000 in
theorem s_X0_isPrime_L17 {p : Program} {l : Launch} {e : Env} {R : Room} {s : State} {m : MethodId} {args : Array Value} {below : List Frame} {meth : Method} {c : Code} {E : JE} {h0 hF : JH} {rF : Option Value} {d : Nat} (C : j_C p s m args meth c R E cX0_isPrime 2 RX0 h0 hF d) (hret : meth.sig.returnType = (some .boolean)) (hdd : 0 ≤ d) (a0 : Int32) (z : Int32) (h : JH) (r : Int32 ⊕ (Int32 ⊕ Int32)) (h1 : JH) (hf : f_X0_isPrime_L17 a0 z h = some (r, h1)) (hk : Sum.elim (fun z => Xw p l e R s m args below meth c E 2 h0 rF hF 17 [(0, .int a0), (1, .int z)] [] h1) (fun t => Sum.elim (fun rr => some (.int rr) = rF ∧ h1 = hF) (fun t => Xw p l e R s m args below meth c E 2 h0 rF hF 38 [(0, .int a0), (1, .int t)] [] h1) t) r) : Xw p l e R s m args below meth c E 2 h0 rF hF 17 [(0, .int a0), (1, .int z)] [] h := by
  unfold f_X0_isPrime_L17 at hf
  refine x_iload_n (v := z) C dX0_isPrime_17 rfl ?_
  refine x_iload_n (v := z) C dX0_isPrime_18 rfl ?_
  refine x_imul C dX0_isPrime_19 ?_
  refine x_iload_n (v := a0) C dX0_isPrime_20 rfl ?_
  refine x_icmp_gt (tgt := 38) C dX0_isPrime_21 (by decide) (fun c3 => ?_) (fun c3 => ?_)
  · have hf := j_ifp hf c3
    obtain ⟨rfl, rfl⟩ := j_inj2 hf
    exact x_locr hk rfl
  · have hf := j_ifn hf c3
    refine x_iload_n (v := a0) C dX0_isPrime_24 rfl ?_
    refine x_iload_n (v := z) C dX0_isPrime_25 rfl ?_
    obtain ⟨u1, e2, hf⟩ := j_bind hf
    refine x_irem C dX0_isPrime_26 (jnz_some e2) ?_
    refine x_if_ne (tgt := 32) C dX0_isPrime_27 (by decide) (fun c4 => ?_) (fun c4 => ?_)
    · have hf := j_ifn hf c4
      refine x_iinc (v := z) C dX0_isPrime_32 rfl ki_1 (by decide) ?_
      refine x_goto (tgt := 17) C dX0_isPrime_35 (by decide) ?_
      obtain ⟨rfl, rfl⟩ := j_inj2 hf
      exact x_locr hk rfl
    · have hf := j_ifp hf c4
      refine x_iconst C dX0_isPrime_30 ki_0 ?_
      obtain ⟨rfl, rfl⟩ := j_inj2 hf
      obtain ⟨rfl, rfl⟩ := hk
      exact x_zret C hret (Or.inl rfl) dX0_isPrime_31
set_option maxHeartbeats 4000000 in
set_option maxRecDepth 100000 in
theorem m_X0_isPrime {l : Launch} {E : JE} {d : Nat} (hdd : 0 ≤ d) {a0 : Int32} {h : JH} {q : Int32 × JH} (hf : f_X0_isPrime a0 h = some q) : Con l E d yX0_isPrime cX0_isPrime 2 (some .boolean) [.int a0] h (some (.int q.1)) q.2 := by
  refine j_start rfl (Nat.le_of_ble_eq_true rfl) ?_
  intro p e s m args below meth c C hret hnm
  refine x_loc [(0, .int a0)] rfl ?_
  unfold f_X0_isPrime at hf
  refine x_iload_n (v := a0) C dX0_isPrime_0 rfl ?_
  refine x_bipush C dX0_isPrime_1 kb_101 ?_
  refine x_icmp_lt (tgt := 13) C dX0_isPrime_3 (by decide) (fun c10 => ?_) (fun c10 => ?_)
  · have hf := j_ifp hf c10
    refine x_iconst C dX0_isPrime_13 ki_0 ?_
    obtain rfl := j_inj hf
    exact x_zret C hret (Or.inl rfl) dX0_isPrime_14
  · have hf := j_ifn hf c10
    refine x_iload_n (v := a0) C dX0_isPrime_6 rfl ?_
    refine x_sipush C dX0_isPrime_7 ks_9973 ?_
    refine x_icmp_le (tgt := 15) C dX0_isPrime_10 (by decide) (fun c11 => ?_) (fun c11 => ?_)
    · have hf := j_ifp hf c11
      refine x_iconst C dX0_isPrime_15 ki_2 ?_
      refine x_istore_n C dX0_isPrime_16 (by decide) ?_
      obtain ⟨q5, e6, hf⟩ := j_bind hf
      refine x_loc [(0, .int a0), (1, .int (2 : Int32))] rfl ?_
      refine x_loop (s_X0_isPrime_L17 C hret hdd a0) e6 ?_
      cases y12 : q5.1 with
      | inl r8 =>
        rw [y12] at hf
        have hf := j_eliml hf
        obtain rfl := j_inj hf
        exact ⟨rfl, rfl⟩
      | inr t7 =>
        rw [y12] at hf
        have hf := j_elimr hf
        refine j_elimG ?_
        refine x_iconst C dX0_isPrime_38 ki_1 ?_
        obtain rfl := j_inj hf
        exact x_zret C hret (Or.inr rfl) dX0_isPrime_39
    · have hf := j_ifn hf c11
      refine x_iconst C dX0_isPrime_13 ki_0 ?_
      obtain rfl := j_inj hf
      exact x_zret C hret (Or.inl rfl) dX0_isPrime_14
set_option maxHeartbeats 4000000 in
set_option maxRecDepth 100000 in
theorem m_X0_readPrime {l : Launch} {E : JE} {d : Nat} (hdd : 2 ≤ d) {a0 : Nat} {h : JH} {q : Int32 × JH} (hf : f_X0_readPrime a0 h = some q) : Con l E d yX0_readPrime cX0_readPrime 1 (some .boolean) [.ref a0] h (some (.int q.1)) q.2 := by
  refine j_start rfl (Nat.le_of_ble_eq_true rfl) ?_
  intro p e s m args below meth c C hret hnm
  refine x_loc [(0, .ref a0)] rfl ?_
  unfold f_X0_readPrime at hf
  refine x_aload_n (v := a0) C dX0_readPrime_0 rfl ?_
  obtain ⟨u49, e50, hf⟩ := j_bind hf
  obtain ⟨q1, e2, hf⟩ := j_bind hf
  refine x_callV (As := []) (rest := []) C dX0_readPrime_1 (m_X0_kind (l := l) (E := E) (d := d - 1) (by omega) e2) km_X0_kind lk_X0_75 kv_X0_kind (ci := 0) rfl e50 rfl (by omega) (Nat.le_of_ble_eq_true rfl) (j_le_of (q_X0_kind e2)) (Or.inr (q_X0_kind e2)) ?_
  refine x_iconst C dX0_readPrime_4 ki_4 ?_
  refine x_icmp_eq (tgt := 10) C dX0_readPrime_5 (by decide) (fun c51 => ?_) (fun c51 => ?_)
  · have hf := j_ifp hf c51
    refine x_aload_n (v := a0) C dX0_readPrime_10 rfl ?_
    obtain ⟨u47, e48, hf⟩ := j_bind hf
    obtain ⟨q3, e4, hf⟩ := j_bind hf
    refine x_callV (As := []) (rest := []) C dX0_readPrime_11 (m_X0_goOn (l := l) (E := E) (d := d - 1) (by omega) e4) km_X0_goOn lk_X0_83 kv_X0_goOn (ci := 0) rfl e48 rfl (by omega) (Nat.le_of_ble_eq_true rfl) (j_le_of (q_X0_goOn e4)) (Or.inr (q_X0_goOn e4)) ?_
    refine x_aload_n (v := a0) C dX0_readPrime_14 rfl ?_
    obtain ⟨u45, e46, hf⟩ := j_bind hf
    obtain ⟨q5, e6, hf⟩ := j_bind hf
    refine x_callV (As := []) (rest := []) C dX0_readPrime_15 (m_X0_kind (l := l) (E := E) (d := d - 1) (by omega) e6) km_X0_kind lk_X0_75 kv_X0_kind (ci := 0) rfl e46 rfl (by omega) (Nat.le_of_ble_eq_true rfl) (j_le_of (q_X0_kind e6)) (Or.inr (q_X0_kind e6)) ?_
    refine x_iconst C dX0_readPrime_18 ki_3 ?_
    refine x_icmp_eq (tgt := 32) C dX0_readPrime_19 (by decide) (fun c52 => ?_) (fun c52 => ?_)
    · have hf := j_ifp hf c52
      refine x_aload_n (v := a0) C dX0_readPrime_32 rfl ?_
      obtain ⟨u35, e36, hf⟩ := j_bind hf
      obtain ⟨q7, e8, hf⟩ := j_bind hf
      refine x_callV (As := []) (rest := []) C dX0_readPrime_33 (m_X0_value (l := l) (E := E) (d := d - 1) (by omega) e8) km_X0_value lk_X0_86 kv_X0_value (ci := 0) rfl e36 rfl (by omega) (Nat.le_of_ble_eq_true rfl) (j_le_of (q_X0_value e8)) (Or.inr (q_X0_value e8)) ?_
      obtain ⟨q9, e10, hf⟩ := j_bind hf
      refine x_callS (As := [.int q7.1]) (rest := []) C dX0_readPrime_36 (m_X0_isPrime (l := l) (E := E) (d := d - 1) (by omega) e10) km_X0_isPrime lk_X0_89 ks_X0_isPrime rfl (by omega) (Nat.le_of_ble_eq_true rfl) (j_le_of (q_X0_isPrime e10)) (Or.inr (q_X0_isPrime e10)) ?_
      refine x_if_ne (tgt := 52) C dX0_readPrime_39 (by decide) (fun c53 => ?_) (fun c53 => ?_)
      · have hf := j_ifn hf c53
        refine x_aload_n (v := a0) C dX0_readPrime_52 rfl ?_
        refine x_aload_n (v := a0) C dX0_readPrime_53 rfl ?_
        obtain ⟨u25, e26, hf⟩ := j_bind hf
        obtain ⟨q11, e12, hf⟩ := j_bind hf
        refine x_callV (As := []) (rest := [.ref a0]) C dX0_readPrime_54 (m_X0_value (l := l) (E := E) (d := d - 1) (by omega) e12) km_X0_value lk_X0_86 kv_X0_value (ci := 0) rfl e26 rfl (by omega) (Nat.le_of_ble_eq_true rfl) (j_le_of (q_X0_value e12)) (Or.inr (q_X0_value e12)) ?_
        obtain ⟨h13, e14, hf⟩ := j_bind hf
        refine x_put C dX0_readPrime_57 e14 fp_X0_54 rfl rfl ?_
        refine x_aload_n (v := a0) C dX0_readPrime_60 rfl ?_
        obtain ⟨u23, e24, hf⟩ := j_bind hf
        obtain ⟨q15, e16, hf⟩ := j_bind hf
        refine x_callV (As := []) (rest := []) C dX0_readPrime_61 (m_X0_goOn (l := l) (E := E) (d := d - 1) (by omega) e16) km_X0_goOn lk_X0_83 kv_X0_goOn (ci := 0) rfl e24 rfl (by omega) (Nat.le_of_ble_eq_true rfl) (j_le_of (q_X0_goOn e16)) (Or.inr (q_X0_goOn e16)) ?_
        refine x_aload_n (v := a0) C dX0_readPrime_64 rfl ?_
        refine x_bipush C dX0_readPrime_65 kb_59 ?_
        obtain ⟨u21, e22, hf⟩ := j_bind hf
        obtain ⟨q17, e18, hf⟩ := j_bind hf
        refine x_callV (As := [.int (59 : Int32)]) (rest := []) C dX0_readPrime_67 (m_X0_expect (l := l) (E := E) (d := d - 1) (by omega) e18) km_X0_expect lk_X0_93 kv_X0_expect (ci := 0) rfl e22 rfl (by omega) (Nat.le_of_ble_eq_true rfl) (j_le_of (q_X0_expect e18)) (Or.inr (q_X0_expect e18)) ?_
        obtain ⟨u19, e20, hf⟩ := j_bind hf
        obtain rfl := j_inj hf
        exact x_zret C hret (jzb_some e20) dX0_readPrime_70
      · have hf := j_ifp hf c53
        refine x_aload_n (v := a0) C dX0_readPrime_42 rfl ?_
        refine x_iconst C dX0_readPrime_43 ki_4 ?_
        refine x_aload_n (v := a0) C dX0_readPrime_44 rfl ?_
        obtain ⟨v27, e28, hf⟩ := j_bind hf
        refine x_get C dX0_readPrime_45 (jgI_some e28) fg_X0_50 ?_
        obtain ⟨u33, e34, hf⟩ := j_bind hf
        obtain ⟨q29, e30, hf⟩ := j_bind hf
        refine x_callV (As := [.int (4 : Int32), .int v27]) (rest := []) C dX0_readPrime_48 (m_X0_fail (l := l) (E := E) (d := d - 1) (by omega) e30) km_X0_fail lk_X0_79 kv_X0_fail (ci := 0) rfl e34 rfl (by omega) (Nat.le_of_ble_eq_true rfl) (j_le_of (q_X0_fail e30)) (Or.inr (q_X0_fail e30)) ?_
        obtain ⟨u31, e32, hf⟩ := j_bind hf
        obtain rfl := j_inj hf
        exact x_zret C hret (jzb_some e32) dX0_readPrime_51
    · have hf := j_ifn hf c52
      refine x_aload_n (v := a0) C dX0_readPrime_22 rfl ?_
      refine x_iconst C dX0_readPrime_23 ki_1 ?_
      refine x_aload_n (v := a0) C dX0_readPrime_24 rfl ?_
      obtain ⟨v37, e38, hf⟩ := j_bind hf
      refine x_get C dX0_readPrime_25 (jgI_some e38) fg_X0_50 ?_
      obtain ⟨u43, e44, hf⟩ := j_bind hf
      obtain ⟨q39, e40, hf⟩ := j_bind hf
      refine x_callV (As := [.int (1 : Int32), .int v37]) (rest := []) C dX0_readPrime_28 (m_X0_fail (l := l) (E := E) (d := d - 1) (by omega) e40) km_X0_fail lk_X0_79 kv_X0_fail (ci := 0) rfl e44 rfl (by omega) (Nat.le_of_ble_eq_true rfl) (j_le_of (q_X0_fail e40)) (Or.inr (q_X0_fail e40)) ?_
      obtain ⟨u41, e42, hf⟩ := j_bind hf
      obtain rfl := j_inj hf
      exact x_zret C hret (jzb_some e42) dX0_readPrime_31
  · have hf := j_ifn hf c51
    refine x_iconst C dX0_readPrime_8 ki_1 ?_
    obtain rfl := j_inj hf
    exact x_zret C hret (Or.inr rfl) dX0_readPrime_9
set_option maxHeartbeats 4000000 in
set_option maxRecDepth 100000 in
theorem s_X0_findLet_L2 {p : Program} {l : Launch} {e : Env} {R : Room} {s : State} {m : MethodId} {args : Array Value} {below : List Frame} {meth : Method} {c : Code} {E : JE} {h0 hF : JH} {rF : Option Value} {d : Nat} (C : j_C p s m args meth c R E cX0_findLet 3 RX0 h0 hF d) (hret : meth.sig.returnType = (some .int)) (hdd : 0 ≤ d) (a0 : Nat) (a1 : Int32) (z : Int32) (h : JH) (r : Int32 ⊕ (Int32 ⊕ Int32)) (h1 : JH) (hf : f_X0_findLet_L2 a0 a1 z h = some (r, h1)) (hk : Sum.elim (fun z => Xw p l e R s m args below meth c E 3 h0 rF hF 2 [(0, .ref a0), (1, .int a1), (2, .int z)] [] h1) (fun t => Sum.elim (fun rr => some (.int rr) = rF ∧ h1 = hF) (fun t => Xw p l e R s m args below meth c E 3 h0 rF hF 28 [(0, .ref a0), (1, .int a1), (2, .int t)] [] h1) t) r) : Xw p l e R s m args below meth c E 3 h0 rF hF 2 [(0, .ref a0), (1, .int a1), (2, .int z)] [] h := by
  unfold f_X0_findLet_L2 at hf
  refine x_iload_n (v := z) C dX0_findLet_2 rfl ?_
  refine x_aload_n (v := a0) C dX0_findLet_3 rfl ?_
  obtain ⟨v1, e2, hf⟩ := j_bind hf
  refine x_get C dX0_findLet_4 (jgI_some e2) fg_X0_57 ?_
  refine x_icmp_ge (tgt := 28) C dX0_findLet_7 (by decide) (fun c7 => ?_) (fun c7 => ?_)
  · have hf := j_ifp hf c7
    obtain ⟨rfl, rfl⟩ := j_inj2 hf
    exact x_locr hk rfl
  · have hf := j_ifn hf c7
    refine x_aload_n (v := a0) C dX0_findLet_10 rfl ?_
    obtain ⟨v3, e4, hf⟩ := j_bind hf
    refine x_get C dX0_findLet_11 (jgR_some e4) fg_X0_19 ?_
    refine x_iload_n (v := z) C dX0_findLet_14 rfl ?_
    obtain ⟨v5, e6, hf⟩ := j_bind hf
    refine x_iald C dX0_findLet_15 e6 ?_
    refine x_iload_n (v := a1) C dX0_findLet_16 rfl ?_
    refine x_icmp_ne (tgt := 22) C dX0_findLet_17 (by decide) (fun c8 => ?_) (fun c8 => ?_)
    · have hf := j_ifn hf c8
      refine x_iinc (v := z) C dX0_findLet_22 rfl ki_1 (by decide) ?_
      refine x_goto (tgt := 2) C dX0_findLet_25 (by decide) ?_
      obtain ⟨rfl, rfl⟩ := j_inj2 hf
      exact x_locr hk rfl
    · have hf := j_ifp hf c8
      refine x_iload_n (v := z) C dX0_findLet_20 rfl ?_
      obtain ⟨rfl, rfl⟩ := j_inj2 hf
      obtain ⟨rfl, rfl⟩ := hk
      exact x_iret C hret dX0_findLet_21
set_option maxHeartbeats 4000000 in
set_option maxRecDepth 100000 in
theorem m_X0_findLet {l : Launch} {E : JE} {d : Nat} (hdd : 0 ≤ d) {a0 : Nat} {a1 : Int32} {h : JH} {q : Int32 × JH} (hf : f_X0_findLet a0 a1 h = some q) : Con l E d yX0_findLet cX0_findLet 3 (some .int) [.ref a0, .int a1] h (some (.int q.1)) q.2 := by
  refine j_start rfl (Nat.le_of_ble_eq_true rfl) ?_
  intro p e s m args below meth c C hret hnm
  refine x_loc [(0, .ref a0), (1, .int a1)] rfl ?_
  unfold f_X0_findLet at hf
  refine x_iconst C dX0_findLet_0 ki_0 ?_
  refine x_istore_n C dX0_findLet_1 (by decide) ?_
  obtain ⟨q9, e10, hf⟩ := j_bind hf
  refine x_loc [(0, .ref a0), (1, .int a1), (2, .int (0 : Int32))] rfl ?_
  refine x_loop (s_X0_findLet_L2 C hret hdd a0 a1) e10 ?_
  cases y14 : q9.1 with
  | inl r12 =>
    rw [y14] at hf
    have hf := j_eliml hf
    obtain rfl := j_inj hf
    exact ⟨rfl, rfl⟩
  | inr t11 =>
    rw [y14] at hf
    have hf := j_elimr hf
    refine j_elimG ?_
    refine x_iconst C dX0_findLet_28 ki_m1 ?_
    obtain rfl := j_inj hf
    exact x_iret C hret dX0_findLet_29
set_option maxHeartbeats 4000000 in
set_option maxRecDepth 100000 in
theorem m_X2_copyFrom {l : Launch} {E : JE} {d : Nat} (hdd : 1 ≤ d) {a0 : Nat} {a1 : Nat} {h : JH} {q : Unit × JH} (hf : f_X2_copyFrom a0 a1 h = some q) : Con l E d yX2_copyFrom cX2_copyFrom 2 none [.ref a0, .ref a1] h (none) q.2 := by
  refine j_start rfl (Nat.le_of_ble_eq_true rfl) ?_
  intro p e s m args below meth c C hret hnm
  refine x_loc [(0, .ref a0), (1, .ref a1)] rfl ?_
  unfold f_X2_copyFrom at hf
  refine x_aload_n (v := a0) C dX2_copyFrom_0 rfl ?_
  refine x_aload_n (v := a1) C dX2_copyFrom_1 rfl ?_
  obtain ⟨v1, e2, hf⟩ := j_bind hf
  refine x_get C dX2_copyFrom_2 (jgI_some e2) fg_X2_15 ?_
  obtain ⟨h3, e4, hf⟩ := j_bind hf
  refine x_put C dX2_copyFrom_5 e4 fp_X2_15 rfl rfl ?_
  refine x_aload_n (v := a1) C dX2_copyFrom_8 rfl ?_
  obtain ⟨v5, e6, hf⟩ := j_bind hf
  refine x_get C dX2_copyFrom_9 (jgR_some e6) fg_X2_9 ?_
  refine x_iconst C dX2_copyFrom_12 ki_0 ?_
  refine x_aload_n (v := a0) C dX2_copyFrom_13 rfl ?_
  obtain ⟨v7, e8, hf⟩ := j_bind hf
  refine x_get C dX2_copyFrom_14 (jgR_some e8) fg_X2_9 ?_
  refine x_iconst C dX2_copyFrom_17 ki_0 ?_
  refine x_bipush C dX2_copyFrom_18 kb_6 ?_
  obtain ⟨h9, e10, hf⟩ := j_bind hf
  refine x_copyi C dX2_copyFrom_20 e10 ⟨lk_X2_25, w_acp⟩ (by omega) (Nat.le_of_ble_eq_true rfl) ?_
  obtain rfl := j_inj hf
  exact x_vret C hret dX2_copyFrom_23
set_option maxHeartbeats 4000000 in
set_option maxRecDepth 100000 in
theorem m_X4_of {l : Launch} {E : JE} {d : Nat} (hdd : 0 ≤ d) {a0 : Int64} {a2 : Int32} {h : JH} {q : Int32 × JH} (hf : f_X4_of a0 a2 h = some q) : Con l E d yX4_of cX4_of 4 (some .int) [.long a0, .int a2] h (some (.int q.1)) q.2 := by
  refine j_start rfl (Nat.le_of_ble_eq_true rfl) ?_
  intro p e s m args below meth c C hret hnm
  refine x_loc [(0, .long a0), (2, .int a2)] rfl ?_
  unfold f_X4_of at hf
  refine x_iload_n (v := a2) C dX4_of_0 rfl ?_
  refine x_if_gt (tgt := 6) C dX4_of_1 (by decide) (fun c3 => ?_) (fun c3 => ?_)
  · have hf := j_ifp hf c3
    refine x_lload_n (v := a0) C dX4_of_6 rfl ?_
    refine x_iload_n (v := a2) C dX4_of_7 rfl ?_
    refine x_i2l C dX4_of_8 ?_
    obtain ⟨u1, e2, hf⟩ := j_bind hf
    refine x_lrem C dX4_of_9 (jnzL_some e2) ?_
    refine x_l2i C dX4_of_10 ?_
    refine x_istore_n C dX4_of_11 (by decide) ?_
    refine x_iload_n (v := (jremL a0 a2.toInt64).toInt32) C dX4_of_12 rfl ?_
    refine x_if_ge (tgt := 22) C dX4_of_13 (by decide) (fun c4 => ?_) (fun c4 => ?_)
    · have hf := j_ifp hf c4
      refine x_iload_n (v := (jremL a0 a2.toInt64).toInt32) C dX4_of_22 rfl ?_
      obtain rfl := j_inj hf
      exact x_iret C hret dX4_of_23
    · have hf := j_ifn hf c4
      refine x_iload_n (v := (jremL a0 a2.toInt64).toInt32) C dX4_of_16 rfl ?_
      refine x_iload_n (v := a2) C dX4_of_17 rfl ?_
      refine x_iadd C dX4_of_18 ?_
      refine x_goto (tgt := 23) C dX4_of_19 (by decide) ?_
      obtain rfl := j_inj hf
      exact x_iret C hret dX4_of_23
  · have hf := j_ifn hf c3
    refine x_iconst C dX4_of_4 ki_0 ?_
    obtain rfl := j_inj hf
    exact x_iret C hret dX4_of_5
set_option maxHeartbeats 4000000 in
set_option maxRecDepth 100000 in
theorem s_X2_multiplyBy_L12 {p : Program} {l : Launch} {e : Env} {R : Room} {s : State} {m : MethodId} {args : Array Value} {below : List Frame} {meth : Method} {c : Code} {E : JE} {h0 hF : JH} {rF : Option Value} {d : Nat} (C : j_C p s m args meth c R E cX2_multiplyBy 7 RX2 h0 hF d) (hret : meth.sig.returnType = none) (hdd : 1 ≤ d) (a0 : Nat) (a1 : Nat) (a2 : Int32) (a3 : Int32) (z : (Int64 × Int32)) (h : JH) (r : (Int64 × Int32) ⊕ (Int64 × Int32)) (h1 : JH) (hf : f_X2_multiplyBy_L12 a0 a1 a2 a3 z h = some (r, h1)) (hk : Sum.elim (fun z => Xw p l e R s m args below meth c E 7 h0 rF hF 12 [(0, .ref a0), (1, .ref a1), (2, .int a2), (3, .int a3), (4, .long z.1), (6, .int z.2)] [] h1) (fun t => Xw p l e R s m args below meth c E 7 h0 rF hF 48 [(0, .ref a0), (1, .ref a1), (2, .int a2), (3, .int a3), (4, .long t.1), (6, .int t.2)] [] h1) r) : Xw p l e R s m args below meth c E 7 h0 rF hF 12 [(0, .ref a0), (1, .ref a1), (2, .int a2), (3, .int a3), (4, .long z.1), (6, .int z.2)] [] h := by
  unfold f_X2_multiplyBy_L12 at hf
  refine x_iload (v := z.2) C dX2_multiplyBy_12 rfl ?_
  refine x_iload_n (v := a3) C dX2_multiplyBy_14 rfl ?_
  refine x_icmp_gt (tgt := 48) C dX2_multiplyBy_15 (by decide) (fun c9 => ?_) (fun c9 => ?_)
  · have hf := j_ifp hf c9
    obtain ⟨rfl, rfl⟩ := j_inj2 hf
    exact x_locr hk rfl
  · have hf := j_ifn hf c9
    refine x_lload (v := z.1) C dX2_multiplyBy_18 rfl ?_
    refine x_aload_n (v := a0) C dX2_multiplyBy_20 rfl ?_
    obtain ⟨v1, e2, hf⟩ := j_bind hf
    refine x_get C dX2_multiplyBy_21 (jgR_some e2) fg_X2_9 ?_
    refine x_iload (v := z.2) C dX2_multiplyBy_24 rfl ?_
    obtain ⟨v3, e4, hf⟩ := j_bind hf
    refine x_iald C dX2_multiplyBy_26 e4 ?_
    refine x_i2l C dX2_multiplyBy_27 ?_
    refine x_aload_n (v := a1) C dX2_multiplyBy_28 rfl ?_
    obtain ⟨v5, e6, hf⟩ := j_bind hf
    refine x_get C dX2_multiplyBy_29 (jgR_some e6) fg_X2_9 ?_
    refine x_iload_n (v := a3) C dX2_multiplyBy_32 rfl ?_
    refine x_iload (v := z.2) C dX2_multiplyBy_33 rfl ?_
    refine x_isub C dX2_multiplyBy_35 ?_
    obtain ⟨v7, e8, hf⟩ := j_bind hf
    refine x_iald C dX2_multiplyBy_36 e8 ?_
    refine x_i2l C dX2_multiplyBy_37 ?_
    refine x_lmul C dX2_multiplyBy_38 ?_
    refine x_ladd C dX2_multiplyBy_39 ?_
    refine x_lstore C dX2_multiplyBy_40 (by decide) ?_
    refine x_iinc (v := z.2) C dX2_multiplyBy_42 rfl ki_1 (by decide) ?_
    refine x_goto (tgt := 12) C dX2_multiplyBy_45 (by decide) ?_
    obtain ⟨rfl, rfl⟩ := j_inj2 hf
    exact x_locr hk rfl
set_option maxHeartbeats 4000000 in
set_option maxRecDepth 100000 in
theorem s_X2_multiplyBy_L2 {p : Program} {l : Launch} {e : Env} {R : Room} {s : State} {m : MethodId} {args : Array Value} {below : List Frame} {meth : Method} {c : Code} {E : JE} {h0 hF : JH} {rF : Option Value} {d : Nat} (C : j_C p s m args meth c R E cX2_multiplyBy 7 RX2 h0 hF d) (hret : meth.sig.returnType = none) (hdd : 1 ≤ d) (a0 : Nat) (a1 : Nat) (a2 : Int32) (z : Int32) (h : JH) (r : Int32 ⊕ Int32) (h1 : JH) (hf : f_X2_multiplyBy_L2 a0 a1 a2 z h = some (r, h1)) (hk : Sum.elim (fun z => Xw p l e R s m args below meth c E 7 h0 rF hF 2 [(0, .ref a0), (1, .ref a1), (2, .int a2), (3, .int z)] [] h1) (fun t => Xw p l e R s m args below meth c E 7 h0 rF hF 66 [(0, .ref a0), (1, .ref a1), (2, .int a2), (3, .int t)] [] h1) r) : Xw p l e R s m args below meth c E 7 h0 rF hF 2 [(0, .ref a0), (1, .ref a1), (2, .int a2), (3, .int z)] [] h := by
  unfold f_X2_multiplyBy_L2 at hf
  refine x_iload_n (v := z) C dX2_multiplyBy_2 rfl ?_
  refine x_if_lt (tgt := 66) C dX2_multiplyBy_3 (by decide) (fun c9 => ?_) (fun c9 => ?_)
  · have hf := j_ifp hf c9
    obtain ⟨rfl, rfl⟩ := j_inj2 hf
    exact x_locr hk rfl
  · have hf := j_ifn hf c9
    refine x_lconst C dX2_multiplyBy_6 kl_0 ?_
    refine x_lstore C dX2_multiplyBy_7 (by decide) ?_
    refine x_iconst C dX2_multiplyBy_9 ki_0 ?_
    refine x_istore C dX2_multiplyBy_10 (by decide) ?_
    obtain ⟨q1, e2, hf⟩ := j_bind hf
    refine x_loc [(0, .ref a0), (1, .ref a1), (2, .int a2), (3, .int z), (4, .long (0 : Int64)), (6, .int (0 : Int32))] rfl ?_
    refine x_loop (s_X2_multiplyBy_L12 C hret hdd a0 a1 a2 z) e2 ?_
    refine x_aload_n (v := a0) C dX2_multiplyBy_48 rfl ?_
    obtain ⟨v3, e4, hf⟩ := j_bind hf
    refine x_get C dX2_multiplyBy_49 (jgR_some e4) fg_X2_9 ?_
    refine x_iload_n (v := z) C dX2_multiplyBy_52 rfl ?_
    refine x_lload (v := q1.1.1) C dX2_multiplyBy_53 rfl ?_
    refine x_iload_n (v := a2) C dX2_multiplyBy_55 rfl ?_
    obtain ⟨q5, e6, hf⟩ := j_bind hf
    refine x_callS (As := [.long q1.1.1, .int a2]) (rest := [.int z, .ref v3]) C dX2_multiplyBy_56 (m_X4_of (l := l) (E := E) (d := d - 1) (by omega) e6) km_X4_of lk_X2_31 ks_X4_of rfl (by omega) (Nat.le_of_ble_eq_true rfl) (j_le_of (q_X4_of e6)) (Or.inr (q_X4_of e6)) ?_
    obtain ⟨h7, e8, hf⟩ := j_bind hf
    refine x_iast C dX2_multiplyBy_59 e8 ?_
    refine x_iinc (v := z) C dX2_multiplyBy_60 rfl ki_m1 (by decide) ?_
    refine x_goto (tgt := 2) C dX2_multiplyBy_63 (by decide) ?_
    obtain ⟨rfl, rfl⟩ := j_inj2 hf
    exact x_locr hk rfl
set_option maxHeartbeats 4000000 in
set_option maxRecDepth 100000 in
theorem m_X2_multiplyBy {l : Launch} {E : JE} {d : Nat} (hdd : 1 ≤ d) {a0 : Nat} {a1 : Nat} {a2 : Int32} {h : JH} {q : Unit × JH} (hf : f_X2_multiplyBy a0 a1 a2 h = some q) : Con l E d yX2_multiplyBy cX2_multiplyBy 7 none [.ref a0, .ref a1, .int a2] h (none) q.2 := by
  refine j_start rfl (Nat.le_of_ble_eq_true rfl) ?_
  intro p e s m args below meth c C hret hnm
  refine x_loc [(0, .ref a0), (1, .ref a1), (2, .int a2)] rfl ?_
  unfold f_X2_multiplyBy at hf
  refine x_iconst C dX2_multiplyBy_0 ki_5 ?_
  refine x_istore_n C dX2_multiplyBy_1 (by decide) ?_
  obtain ⟨q10, e11, hf⟩ := j_bind hf
  refine x_loc [(0, .ref a0), (1, .ref a1), (2, .int a2), (3, .int (5 : Int32))] rfl ?_
  refine x_loop (s_X2_multiplyBy_L2 C hret hdd a0 a1 a2) e11 ?_
  refine x_aload_n (v := a0) C dX2_multiplyBy_66 rfl ?_
  refine x_dup C dX2_multiplyBy_67 rfl ?_
  obtain ⟨v12, e13, hf⟩ := j_bind hf
  refine x_get C dX2_multiplyBy_68 (jgI_some e13) fg_X2_15 ?_
  refine x_aload_n (v := a1) C dX2_multiplyBy_71 rfl ?_
  obtain ⟨v14, e15, hf⟩ := j_bind hf
  refine x_get C dX2_multiplyBy_72 (jgI_some e15) fg_X2_15 ?_
  refine x_iadd C dX2_multiplyBy_75 ?_
  obtain ⟨h16, e17, hf⟩ := j_bind hf
  refine x_put C dX2_multiplyBy_76 e17 fp_X2_15 rfl rfl ?_
  obtain rfl := j_inj hf
  exact x_vret C hret dX2_multiplyBy_79
set_option maxHeartbeats 4000000 in
set_option maxRecDepth 100000 in
theorem s_J7_fill_53178_L5 {p : Program} {l : Launch} {e : Env} {R : Room} {s : State} {m : MethodId} {args : Array Value} {below : List Frame} {meth : Method} {c : Code} {E : JE} {h0 hF : JH} {rF : Option Value} {d : Nat} (C : j_C p s m args meth c R E cJ7_fill_53178 4 RJ7 h0 hF d) (hret : meth.sig.returnType = none) (hdd : 0 ≤ d) (a0 : Nat) (a1 : Int32) (a3 : Int32) (z : Int32) (h : JH) (r : Int32 ⊕ Int32) (h1 : JH) (hf : f_J7_fill_53178_L5 a0 a1 a3 z h = some (r, h1)) (hk : Sum.elim (fun z => Xw p l e R s m args below meth c E 4 h0 rF hF 5 [(0, .ref a0), (1, .int a1), (2, .int z), (3, .int a3)] [] h1) (fun t => Xw p l e R s m args below meth c E 4 h0 rF hF 20 [(0, .ref a0), (1, .int a1), (2, .int t), (3, .int a3)] [] h1) r) : Xw p l e R s m args below meth c E 4 h0 rF hF 5 [(0, .ref a0), (1, .int a1), (2, .int z), (3, .int a3)] [] h := by
  unfold f_J7_fill_53178_L5 at hf
  refine x_iload_n (v := z) C dJ7_fill_53178_5 rfl ?_
  refine x_iload_n (v := a3) C dJ7_fill_53178_6 rfl ?_
  refine x_icmp_ge (tgt := 20) C dJ7_fill_53178_7 (by decide) (fun c5 => ?_) (fun c5 => ?_)
  · have hf := j_ifp hf c5
    obtain ⟨rfl, rfl⟩ := j_inj2 hf
    exact x_locr hk rfl
  · have hf := j_ifn hf c5
    refine x_aload_n (v := a0) C dJ7_fill_53178_10 rfl ?_
    refine x_iload_n (v := z) C dJ7_fill_53178_11 rfl ?_
    refine x_iload_n (v := a1) C dJ7_fill_53178_12 rfl ?_
    obtain ⟨h3, e4, hf⟩ := j_bind hf
    refine x_iast C dJ7_fill_53178_13 e4 ?_
    refine x_iinc (v := z) C dJ7_fill_53178_14 rfl ki_1 (by decide) ?_
    refine x_goto (tgt := 5) C dJ7_fill_53178_17 (by decide) ?_
    obtain ⟨rfl, rfl⟩ := j_inj2 hf
    exact x_locr hk rfl
set_option maxHeartbeats 4000000 in
set_option maxRecDepth 100000 in
theorem m_J7_fill_53178 {l : Launch} {E : JE} {d : Nat} (hdd : 0 ≤ d) {a0 : Nat} {a1 : Int32} {h : JH} {q : Unit × JH} (hf : f_J7_fill_53178 a0 a1 h = some q) : Con l E d yJ7_fill_53178 cJ7_fill_53178 4 none [.ref a0, .int a1] h (none) q.2 := by
  refine j_start rfl (Nat.le_of_ble_eq_true rfl) ?_
  intro p e s m args below meth c C hret hnm
  refine x_loc [(0, .ref a0), (1, .int a1)] rfl ?_
  unfold f_J7_fill_53178 at hf
  refine x_iconst C dJ7_fill_53178_0 ki_0 ?_
  refine x_istore_n C dJ7_fill_53178_1 (by decide) ?_
  refine x_aload_n (v := a0) C dJ7_fill_53178_2 rfl ?_
  obtain ⟨v1, e2, hf⟩ := j_bind hf
  refine x_alen C dJ7_fill_53178_3 e2 ?_
  refine x_istore_n C dJ7_fill_53178_4 (by decide) ?_
  obtain ⟨q6, e7, hf⟩ := j_bind hf
  refine x_loc [(0, .ref a0), (1, .int a1), (2, .int (0 : Int32)), (3, .int v1)] rfl ?_
  refine x_loop (s_J7_fill_53178_L5 C hret hdd a0 a1 v1) e7 ?_
  obtain rfl := j_inj hf
  exact x_vret C hret dJ7_fill_53178_20
set_option maxHeartbeats 4000000 in
set_option maxRecDepth 100000 in
theorem m_X2_setNumber {l : Launch} {E : JE} {d : Nat} (hdd : 1 ≤ d) {a0 : Nat} {a1 : Int32} {h : JH} {q : Unit × JH} (hf : f_X2_setNumber a0 a1 h = some q) : Con l E d yX2_setNumber cX2_setNumber 2 none [.ref a0, .int a1] h (none) q.2 := by
  refine j_start rfl (Nat.le_of_ble_eq_true rfl) ?_
  intro p e s m args below meth c C hret hnm
  refine x_loc [(0, .ref a0), (1, .int a1)] rfl ?_
  unfold f_X2_setNumber at hf
  refine x_aload_n (v := a0) C dX2_setNumber_0 rfl ?_
  refine x_iconst C dX2_setNumber_1 ki_0 ?_
  obtain ⟨h1, e2, hf⟩ := j_bind hf
  refine x_put C dX2_setNumber_2 e2 fp_X2_15 rfl rfl ?_
  refine x_aload_n (v := a0) C dX2_setNumber_5 rfl ?_
  obtain ⟨v3, e4, hf⟩ := j_bind hf
  refine x_get C dX2_setNumber_6 (jgR_some e4) fg_X2_9 ?_
  refine x_iconst C dX2_setNumber_9 ki_0 ?_
  obtain ⟨q5, e6, hf⟩ := j_bind hf
  refine x_callS (As := [.ref v3, .int (0 : Int32)]) (rest := []) C dX2_setNumber_10 (m_J7_fill_53178 (l := l) (E := E) (d := d - 1) (by omega) e6) km_J7_fill_53178 lk_X2_19 ks_J7_fill_53178 rfl (by omega) (Nat.le_of_ble_eq_true rfl) (j_le_of (q_J7_fill_53178 e6)) (Or.inr (q_J7_fill_53178 e6)) ?_
  refine x_aload_n (v := a0) C dX2_setNumber_13 rfl ?_
  obtain ⟨v7, e8, hf⟩ := j_bind hf
  refine x_get C dX2_setNumber_14 (jgR_some e8) fg_X2_9 ?_
  refine x_iconst C dX2_setNumber_17 ki_0 ?_
  refine x_iload_n (v := a1) C dX2_setNumber_18 rfl ?_
  obtain ⟨h9, e10, hf⟩ := j_bind hf
  refine x_iast C dX2_setNumber_19 e10 ?_
  obtain rfl := j_inj hf
  exact x_vret C hret dX2_setNumber_20
set_option maxHeartbeats 4000000 in
set_option maxRecDepth 100000 in
theorem s_X0_raise_L15 {p : Program} {l : Launch} {e : Env} {R : Room} {s : State} {m : MethodId} {args : Array Value} {below : List Frame} {meth : Method} {c : Code} {E : JE} {h0 hF : JH} {rF : Option Value} {d : Nat} (C : j_C p s m args meth c R E cX0_raise 4 RX0 h0 hF d) (hret : meth.sig.returnType = none) (hdd : 2 ≤ d) (a0 : Nat) (a1 : Nat) (a2 : Int32) (z : Int32) (h : JH) (r : Int32 ⊕ Int32) (h1 : JH) (hf : f_X0_raise_L15 a0 a1 a2 z h = some (r, h1)) (hk : Sum.elim (fun z => Xw p l e R s m args below meth c E 4 h0 rF hF 15 [(0, .ref a0), (1, .ref a1), (2, .int a2), (3, .int z)] [] h1) (fun t => Xw p l e R s m args below meth c E 4 h0 rF hF 38 [(0, .ref a0), (1, .ref a1), (2, .int a2), (3, .int t)] [] h1) r) : Xw p l e R s m args below meth c E 4 h0 rF hF 15 [(0, .ref a0), (1, .ref a1), (2, .int a2), (3, .int z)] [] h := by
  unfold f_X0_raise_L15 at hf
  refine x_iload_n (v := z) C dX0_raise_15 rfl ?_
  refine x_iload_n (v := a2) C dX0_raise_16 rfl ?_
  refine x_icmp_ge (tgt := 38) C dX0_raise_17 (by decide) (fun c15 => ?_) (fun c15 => ?_)
  · have hf := j_ifp hf c15
    obtain ⟨rfl, rfl⟩ := j_inj2 hf
    exact x_locr hk rfl
  · have hf := j_ifn hf c15
    refine x_aload_n (v := a1) C dX0_raise_20 rfl ?_
    refine x_aload_n (v := a0) C dX0_raise_21 rfl ?_
    obtain ⟨v7, e8, hf⟩ := j_bind hf
    refine x_get C dX0_raise_22 (jgR_some e8) fg_X0_42 ?_
    refine x_aload_n (v := a0) C dX0_raise_25 rfl ?_
    obtain ⟨v9, e10, hf⟩ := j_bind hf
    refine x_get C dX0_raise_26 (jgI_some e10) fg_X0_54 ?_
    obtain ⟨u13, e14, hf⟩ := j_bind hf
    obtain ⟨q11, e12, hf⟩ := j_bind hf
    refine x_callV (As := [.ref v7, .int v9]) (rest := []) C dX0_raise_29 (m_X2_multiplyBy (l := l) (E := E) (d := d - 1) (by omega) e12) km_X2_multiplyBy lk_X0_120 kv_X2_multiplyBy (ci := 1) rfl e14 rfl (by omega) (Nat.le_of_ble_eq_true rfl) (j_le_of (q_X2_multiplyBy e12)) (Or.inr (q_X2_multiplyBy e12)) ?_
    refine x_iinc (v := z) C dX0_raise_32 rfl ki_1 (by decide) ?_
    refine x_goto (tgt := 15) C dX0_raise_35 (by decide) ?_
    obtain ⟨rfl, rfl⟩ := j_inj2 hf
    exact x_locr hk rfl
set_option maxHeartbeats 4000000 in
set_option maxRecDepth 100000 in
theorem m_X0_raise {l : Launch} {E : JE} {d : Nat} (hdd : 2 ≤ d) {a0 : Nat} {a1 : Nat} {a2 : Int32} {h : JH} {q : Unit × JH} (hf : f_X0_raise a0 a1 a2 h = some q) : Con l E d yX0_raise cX0_raise 4 none [.ref a0, .ref a1, .int a2] h (none) q.2 := by
  refine j_start rfl (Nat.le_of_ble_eq_true rfl) ?_
  intro p e s m args below meth c C hret hnm
  refine x_loc [(0, .ref a0), (1, .ref a1), (2, .int a2)] rfl ?_
  unfold f_X0_raise at hf
  refine x_aload_n (v := a0) C dX0_raise_0 rfl ?_
  obtain ⟨v1, e2, hf⟩ := j_bind hf
  refine x_get C dX0_raise_1 (jgR_some e2) fg_X0_42 ?_
  refine x_aload_n (v := a1) C dX0_raise_4 rfl ?_
  obtain ⟨u20, e21, hf⟩ := j_bind hf
  obtain ⟨q3, e4, hf⟩ := j_bind hf
  refine x_callV (As := [.ref a1]) (rest := []) C dX0_raise_5 (m_X2_copyFrom (l := l) (E := E) (d := d - 1) (by omega) e4) km_X2_copyFrom lk_X0_103 kv_X2_copyFrom (ci := 1) rfl e21 rfl (by omega) (Nat.le_of_ble_eq_true rfl) (j_le_of (q_X2_copyFrom e4)) (Or.inr (q_X2_copyFrom e4)) ?_
  refine x_aload_n (v := a1) C dX0_raise_8 rfl ?_
  refine x_iconst C dX0_raise_9 ki_1 ?_
  obtain ⟨u18, e19, hf⟩ := j_bind hf
  obtain ⟨q5, e6, hf⟩ := j_bind hf
  refine x_callV (As := [.int (1 : Int32)]) (rest := []) C dX0_raise_10 (m_X2_setNumber (l := l) (E := E) (d := d - 1) (by omega) e6) km_X2_setNumber lk_X0_130 kv_X2_setNumber (ci := 1) rfl e19 rfl (by omega) (Nat.le_of_ble_eq_true rfl) (j_le_of (q_X2_setNumber e6)) (Or.inr (q_X2_setNumber e6)) ?_
  refine x_iconst C dX0_raise_13 ki_0 ?_
  refine x_istore_n C dX0_raise_14 (by decide) ?_
  obtain ⟨q16, e17, hf⟩ := j_bind hf
  refine x_loc [(0, .ref a0), (1, .ref a1), (2, .int a2), (3, .int (0 : Int32))] rfl ?_
  refine x_loop (s_X0_raise_L15 C hret hdd a0 a1 a2) e17 ?_
  obtain rfl := j_inj hf
  exact x_vret C hret dX0_raise_38
set_option maxHeartbeats 4000000 in
set_option maxRecDepth 100000 in
theorem s_X0_setKnown_L8 {p : Program} {l : Launch} {e : Env} {R : Room} {s : State} {m : MethodId} {args : Array Value} {below : List Frame} {meth : Method} {c : Code} {E : JE} {h0 hF : JH} {rF : Option Value} {d : Nat} (C : j_C p s m args meth c R E cX0_setKnown 5 RX0 h0 hF d) (hret : meth.sig.returnType = none) (hdd : 1 ≤ d) (a0 : Nat) (a1 : Nat) (a3 : Nat) (z : Int32) (h : JH) (r : Int32 ⊕ Int32) (h1 : JH) (hf : f_X0_setKnown_L8 a0 a1 a3 z h = some (r, h1)) (hk : Sum.elim (fun z => Xw p l e R s m args below meth c E 5 h0 rF hF 8 [(0, .ref a0), (1, .ref a1), (3, .ref a3), (4, .int z)] [] h1) (fun t => Xw p l e R s m args below meth c E 5 h0 rF hF 40 [(0, .ref a0), (1, .ref a1), (3, .ref a3), (4, .int t)] [] h1) r) : Xw p l e R s m args below meth c E 5 h0 rF hF 8 [(0, .ref a0), (1, .ref a1), (3, .ref a3), (4, .int z)] [] h := by
  unfold f_X0_setKnown_L8 at hf
  refine x_iload (v := z) C dX0_setKnown_8 rfl ?_
  refine x_bipush C dX0_setKnown_10 kb_6 ?_
  refine x_icmp_ge (tgt := 40) C dX0_setKnown_12 (by decide) (fun c13 => ?_) (fun c13 => ?_)
  · have hf := j_ifp hf c13
    obtain ⟨rfl, rfl⟩ := j_inj2 hf
    exact x_locr hk rfl
  · have hf := j_ifn hf c13
    refine x_aload_n (v := a1) C dX0_setKnown_15 rfl ?_
    obtain ⟨v3, e4, hf⟩ := j_bind hf
    refine x_get C dX0_setKnown_16 (jgR_some e4) fg_X0_153 ?_
    refine x_iload (v := z) C dX0_setKnown_19 rfl ?_
    refine x_aload_n (v := a3) C dX0_setKnown_21 rfl ?_
    refine x_iload (v := z) C dX0_setKnown_22 rfl ?_
    obtain ⟨v5, e6, hf⟩ := j_bind hf
    refine x_iald C dX0_setKnown_24 e6 ?_
    refine x_i2l C dX0_setKnown_25 ?_
    refine x_aload_n (v := a0) C dX0_setKnown_26 rfl ?_
    obtain ⟨v7, e8, hf⟩ := j_bind hf
    refine x_get C dX0_setKnown_27 (jgI_some e8) fg_X0_54 ?_
    obtain ⟨q9, e10, hf⟩ := j_bind hf
    refine x_callS (As := [.long v5.toInt64, .int v7]) (rest := [.int z, .ref v3]) C dX0_setKnown_30 (m_X4_of (l := l) (E := E) (d := d - 1) (by omega) e10) km_X4_of lk_X0_134 ks_X4_of rfl (by omega) (Nat.le_of_ble_eq_true rfl) (j_le_of (q_X4_of e10)) (Or.inr (q_X4_of e10)) ?_
    obtain ⟨h11, e12, hf⟩ := j_bind hf
    refine x_iast C dX0_setKnown_33 e12 ?_
    refine x_iinc (v := z) C dX0_setKnown_34 rfl ki_1 (by decide) ?_
    refine x_goto (tgt := 8) C dX0_setKnown_37 (by decide) ?_
    obtain ⟨rfl, rfl⟩ := j_inj2 hf
    exact x_locr hk rfl
set_option maxHeartbeats 4000000 in
set_option maxRecDepth 100000 in
theorem m_X0_setKnown {l : Launch} {E : JE} {d : Nat} (hdd : 1 ≤ d) {a0 : Nat} {a1 : Nat} {a2 : Int32} {a3 : Nat} {h : JH} {q : Unit × JH} (hf : f_X0_setKnown a0 a1 a2 a3 h = some q) : Con l E d yX0_setKnown cX0_setKnown 5 none [.ref a0, .ref a1, .int a2, .ref a3] h (none) q.2 := by
  refine j_start rfl (Nat.le_of_ble_eq_true rfl) ?_
  intro p e s m args below meth c C hret hnm
  refine x_loc [(0, .ref a0), (1, .ref a1), (2, .int a2), (3, .ref a3)] rfl ?_
  unfold f_X0_setKnown at hf
  refine x_aload_n (v := a1) C dX0_setKnown_0 rfl ?_
  refine x_iload_n (v := a2) C dX0_setKnown_1 rfl ?_
  obtain ⟨h1, e2, hf⟩ := j_bind hf
  refine x_put C dX0_setKnown_2 e2 fp_X0_110 rfl rfl ?_
  refine x_iconst C dX0_setKnown_5 ki_0 ?_
  refine x_istore C dX0_setKnown_6 (by decide) ?_
  obtain ⟨q14, e15, hf⟩ := j_bind hf
  refine x_loc [(0, .ref a0), (1, .ref a1), (3, .ref a3), (4, .int (0 : Int32))] rfl ?_
  refine x_loop (s_X0_setKnown_L8 C hret hdd a0 a1 a3) e15 ?_
  obtain rfl := j_inj hf
  exact x_vret C hret dX0_setKnown_40
set_option maxHeartbeats 4000000 in
set_option maxRecDepth 100000 in
theorem m_X0_readAtom {l : Launch} {E : JE} {d : Nat} {rec : Nat → Int32 → JH → Option (Int32 × JH)} {DR : Nat} (hDR : 8 ≤ DR) (hrec : ∀ (d1 : Nat), DR ≤ d1 → ∀ {x0 : Nat} {x1 : Int32} {hh : JH} {qq : Int32 × JH}, rec x0 x1 hh = some qq → Con l E d1 yX0_readSum cX0_readSum 7 (some .boolean) [.ref x0, .int x1] hh (some (.int qq.1)) qq.2) (hrecq : ∀ {x0 : Nat} {x1 : Int32} {hh : JH} {qq : Int32 × JH}, rec x0 x1 hh = some qq → qq.2.2.1 = hh.2.1) (hdd : DR + 1 ≤ d) {a0 : Nat} {a1 : Int32} {h : JH} {q : Int32 × JH} (hf : f_X0_readAtom rec a0 a1 h = some q) : Con l E d yX0_readAtom cX0_readAtom 3 (some .boolean) [.ref a0, .int a1] h (some (.int q.1)) q.2 := by
  refine j_start rfl (Nat.le_of_ble_eq_true rfl) ?_
  intro p e s m args below meth c C hret hnm
  refine x_loc [(0, .ref a0), (1, .int a1)] rfl ?_
  unfold f_X0_readAtom at hf
  refine x_aload_n (v := a0) C dX0_readAtom_0 rfl ?_
  obtain ⟨v1, e2, hf⟩ := j_bind hf
  refine x_get C dX0_readAtom_1 (jgR_some e2) fg_X0_36 ?_
  refine x_iload_n (v := a1) C dX0_readAtom_4 rfl ?_
  obtain ⟨v3, e4, hf⟩ := j_bind hf
  refine x_aald C dX0_readAtom_5 e4 ?_
  refine x_astore_n C dX0_readAtom_6 (by decide) ?_
  refine x_aload_n (v := a0) C dX0_readAtom_7 rfl ?_
  obtain ⟨u143, e144, hf⟩ := j_bind hf
  obtain ⟨q5, e6, hf⟩ := j_bind hf
  refine x_callV (As := []) (rest := []) C dX0_readAtom_8 (m_X0_kind (l := l) (E := E) (d := d - 1) (by omega) e6) km_X0_kind lk_X0_75 kv_X0_kind (ci := 0) rfl e144 rfl (by omega) (Nat.le_of_ble_eq_true rfl) (j_le_of (q_X0_kind e6)) (Or.inr (q_X0_kind e6)) ?_
  by_cases c145 : q5.1 = (2 : Int32)
  · have hf := j_ifp hf c145
    refine x_lookup C dX0_readAtom_11 (by decide) 142 (131) (by rw [c145]; decide) (by decide) ?_
    refine x_aload_n (v := a0) C dX0_readAtom_142 rfl ?_
    refine x_aload_n (v := a0) C dX0_readAtom_143 rfl ?_
    obtain ⟨u41, e42, hf⟩ := j_bind hf
    obtain ⟨q7, e8, hf⟩ := j_bind hf
    refine x_callV (As := []) (rest := [.ref a0]) C dX0_readAtom_144 (m_X0_value (l := l) (E := E) (d := d - 1) (by omega) e8) km_X0_value lk_X0_86 kv_X0_value (ci := 0) rfl e42 rfl (by omega) (Nat.le_of_ble_eq_true rfl) (j_le_of (q_X0_value e8)) (Or.inr (q_X0_value e8)) ?_
    obtain ⟨u39, e40, hf⟩ := j_bind hf
    obtain ⟨q9, e10, hf⟩ := j_bind hf
    refine x_callV (As := [.int q7.1]) (rest := []) C dX0_readAtom_147 (m_X0_findLet (l := l) (E := E) (d := d - 1) (by omega) e10) km_X0_findLet lk_X0_96 kv_X0_findLet (ci := 0) rfl e40 rfl (by omega) (Nat.le_of_ble_eq_true rfl) (j_le_of (q_X0_findLet e10)) (Or.inr (q_X0_findLet e10)) ?_
    refine x_iconst C dX0_readAtom_150 ki_m1 ?_
    refine x_icmp_ne (tgt := 164) C dX0_readAtom_151 (by decide) (fun c146 => ?_) (fun c146 => ?_)
    · have hf := j_ifn hf c146
      refine x_aload_n (v := v3) C dX0_readAtom_164 rfl ?_
      refine x_aload_n (v := a0) C dX0_readAtom_165 rfl ?_
      obtain ⟨v11, e12, hf⟩ := j_bind hf
      refine x_get C dX0_readAtom_166 (jgR_some e12) fg_X0_13 ?_
      refine x_aload_n (v := a0) C dX0_readAtom_169 rfl ?_
      refine x_aload_n (v := a0) C dX0_readAtom_170 rfl ?_
      obtain ⟨u29, e30, hf⟩ := j_bind hf
      obtain ⟨q13, e14, hf⟩ := j_bind hf
      refine x_callV (As := []) (rest := [.ref a0, .ref v11, .ref v3]) C dX0_readAtom_171 (m_X0_value (l := l) (E := E) (d := d - 1) (by omega) e14) km_X0_value lk_X0_86 kv_X0_value (ci := 0) rfl e30 rfl (by omega) (Nat.le_of_ble_eq_true rfl) (j_le_of (q_X0_value e14)) (Or.inr (q_X0_value e14)) ?_
      obtain ⟨u27, e28, hf⟩ := j_bind hf
      obtain ⟨q15, e16, hf⟩ := j_bind hf
      refine x_callV (As := [.int q13.1]) (rest := [.ref v11, .ref v3]) C dX0_readAtom_174 (m_X0_findLet (l := l) (E := E) (d := d - 1) (by omega) e16) km_X0_findLet lk_X0_96 kv_X0_findLet (ci := 0) rfl e28 rfl (by omega) (Nat.le_of_ble_eq_true rfl) (j_le_of (q_X0_findLet e16)) (Or.inr (q_X0_findLet e16)) ?_
      obtain ⟨v17, e18, hf⟩ := j_bind hf
      refine x_aald C dX0_readAtom_177 e18 ?_
      obtain ⟨u25, e26, hf⟩ := j_bind hf
      obtain ⟨q19, e20, hf⟩ := j_bind hf
      refine x_callV (As := [.ref v17]) (rest := []) C dX0_readAtom_178 (m_X2_copyFrom (l := l) (E := E) (d := d - 1) (by omega) e20) km_X2_copyFrom lk_X0_103 kv_X2_copyFrom (ci := 1) rfl e26 rfl (by omega) (Nat.le_of_ble_eq_true rfl) (j_le_of (q_X2_copyFrom e20)) (Or.inr (q_X2_copyFrom e20)) ?_
      refine x_goto (tgt := 260) C dX0_readAtom_181 (by decide) ?_
      refine x_aload_n (v := a0) C dX0_readAtom_260 rfl ?_
      obtain ⟨u23, e24, hf⟩ := j_bind hf
      obtain ⟨q21, e22, hf⟩ := j_bind hf
      refine x_callV (As := []) (rest := []) C dX0_readAtom_261 (m_X0_goOn (l := l) (E := E) (d := d - 1) (by omega) e22) km_X0_goOn lk_X0_83 kv_X0_goOn (ci := 0) rfl e24 rfl (by omega) (Nat.le_of_ble_eq_true rfl) (j_le_of (q_X0_goOn e22)) (Or.inr (q_X0_goOn e22)) ?_
      refine x_iconst C dX0_readAtom_264 ki_1 ?_
      obtain rfl := j_inj hf
      exact x_zret C hret (Or.inr rfl) dX0_readAtom_265
    · have hf := j_ifp hf c146
      refine x_aload_n (v := a0) C dX0_readAtom_154 rfl ?_
      refine x_iconst C dX0_readAtom_155 ki_3 ?_
      refine x_aload_n (v := a0) C dX0_readAtom_156 rfl ?_
      obtain ⟨v31, e32, hf⟩ := j_bind hf
      refine x_get C dX0_readAtom_157 (jgI_some e32) fg_X0_50 ?_
      obtain ⟨u37, e38, hf⟩ := j_bind hf
      obtain ⟨q33, e34, hf⟩ := j_bind hf
      refine x_callV (As := [.int (3 : Int32), .int v31]) (rest := []) C dX0_readAtom_160 (m_X0_fail (l := l) (E := E) (d := d - 1) (by omega) e34) km_X0_fail lk_X0_79 kv_X0_fail (ci := 0) rfl e38 rfl (by omega) (Nat.le_of_ble_eq_true rfl) (j_le_of (q_X0_fail e34)) (Or.inr (q_X0_fail e34)) ?_
      obtain ⟨u35, e36, hf⟩ := j_bind hf
      obtain rfl := j_inj hf
      exact x_zret C hret (jzb_some e36) dX0_readAtom_163
  have hf := j_ifn hf c145
  by_cases c147 : q5.1 = (3 : Int32)
  · have hf := j_ifp hf c147
    refine x_lookup C dX0_readAtom_11 (by decide) 68 (57) (by rw [c147]; decide) (by decide) ?_
    refine x_aload_n (v := a0) C dX0_readAtom_68 rfl ?_
    obtain ⟨u69, e70, hf⟩ := j_bind hf
    obtain ⟨q43, e44, hf⟩ := j_bind hf
    refine x_callV (As := []) (rest := []) C dX0_readAtom_69 (m_X0_value (l := l) (E := E) (d := d - 1) (by omega) e44) km_X0_value lk_X0_86 kv_X0_value (ci := 0) rfl e70 rfl (by omega) (Nat.le_of_ble_eq_true rfl) (j_le_of (q_X0_value e44)) (Or.inr (q_X0_value e44)) ?_
    refine x_if_ge (tgt := 85) C dX0_readAtom_72 (by decide) (fun c148 => ?_) (fun c148 => ?_)
    · have hf := j_ifp hf c148
      refine x_aload_n (v := v3) C dX0_readAtom_85 rfl ?_
      refine x_aload_n (v := a0) C dX0_readAtom_86 rfl ?_
      obtain ⟨u59, e60, hf⟩ := j_bind hf
      obtain ⟨q45, e46, hf⟩ := j_bind hf
      refine x_callV (As := []) (rest := [.ref v3]) C dX0_readAtom_87 (m_X0_value (l := l) (E := E) (d := d - 1) (by omega) e46) km_X0_value lk_X0_86 kv_X0_value (ci := 0) rfl e60 rfl (by omega) (Nat.le_of_ble_eq_true rfl) (j_le_of (q_X0_value e46)) (Or.inr (q_X0_value e46)) ?_
      refine x_i2l C dX0_readAtom_90 ?_
      refine x_aload_n (v := a0) C dX0_readAtom_91 rfl ?_
      obtain ⟨v47, e48, hf⟩ := j_bind hf
      refine x_get C dX0_readAtom_92 (jgI_some e48) fg_X0_54 ?_
      obtain ⟨q49, e50, hf⟩ := j_bind hf
      refine x_callS (As := [.long q45.1.toInt64, .int v47]) (rest := [.ref v3]) C dX0_readAtom_95 (m_X4_of (l := l) (E := E) (d := d - 1) (by omega) e50) km_X4_of lk_X0_134 ks_X4_of rfl (by omega) (Nat.le_of_ble_eq_true rfl) (j_le_of (q_X4_of e50)) (Or.inr (q_X4_of e50)) ?_
      obtain ⟨u57, e58, hf⟩ := j_bind hf
      obtain ⟨q51, e52, hf⟩ := j_bind hf
      refine x_callV (As := [.int q49.1]) (rest := []) C dX0_readAtom_98 (m_X2_setNumber (l := l) (E := E) (d := d - 1) (by omega) e52) km_X2_setNumber lk_X0_130 kv_X2_setNumber (ci := 1) rfl e58 rfl (by omega) (Nat.le_of_ble_eq_true rfl) (j_le_of (q_X2_setNumber e52)) (Or.inr (q_X2_setNumber e52)) ?_
      refine x_goto (tgt := 260) C dX0_readAtom_101 (by decide) ?_
      refine x_aload_n (v := a0) C dX0_readAtom_260 rfl ?_
      obtain ⟨u55, e56, hf⟩ := j_bind hf
      obtain ⟨q53, e54, hf⟩ := j_bind hf
      refine x_callV (As := []) (rest := []) C dX0_readAtom_261 (m_X0_goOn (l := l) (E := E) (d := d - 1) (by omega) e54) km_X0_goOn lk_X0_83 kv_X0_goOn (ci := 0) rfl e56 rfl (by omega) (Nat.le_of_ble_eq_true rfl) (j_le_of (q_X0_goOn e54)) (Or.inr (q_X0_goOn e54)) ?_
      refine x_iconst C dX0_readAtom_264 ki_1 ?_
      obtain rfl := j_inj hf
      exact x_zret C hret (Or.inr rfl) dX0_readAtom_265
    · have hf := j_ifn hf c148
      refine x_aload_n (v := a0) C dX0_readAtom_75 rfl ?_
      refine x_iconst C dX0_readAtom_76 ki_4 ?_
      refine x_aload_n (v := a0) C dX0_readAtom_77 rfl ?_
      obtain ⟨v61, e62, hf⟩ := j_bind hf
      refine x_get C dX0_readAtom_78 (jgI_some e62) fg_X0_50 ?_
      obtain ⟨u67, e68, hf⟩ := j_bind hf
      obtain ⟨q63, e64, hf⟩ := j_bind hf
      refine x_callV (As := [.int (4 : Int32), .int v61]) (rest := []) C dX0_readAtom_81 (m_X0_fail (l := l) (E := E) (d := d - 1) (by omega) e64) km_X0_fail lk_X0_79 kv_X0_fail (ci := 0) rfl e68 rfl (by omega) (Nat.le_of_ble_eq_true rfl) (j_le_of (q_X0_fail e64)) (Or.inr (q_X0_fail e64)) ?_
      obtain ⟨u65, e66, hf⟩ := j_bind hf
      obtain rfl := j_inj hf
      exact x_zret C hret (jzb_some e66) dX0_readAtom_84
  have hf := j_ifn hf c147
  by_cases c149 : q5.1 = (7 : Int32)
  · have hf := j_ifp hf c149
    refine x_lookup C dX0_readAtom_11 (by decide) 104 (93) (by rw [c149]; decide) (by decide) ?_
    refine x_aload_n (v := a0) C dX0_readAtom_104 rfl ?_
    refine x_aload_n (v := v3) C dX0_readAtom_105 rfl ?_
    refine x_iconst C dX0_readAtom_106 ki_4 ?_
    refine x_gets (i := 0) C dX0_readAtom_107 ws_X0_140 (Or.inl ⟨rfl, rfl⟩) ?_
    obtain ⟨u77, e78, hf⟩ := j_bind hf
    obtain ⟨q71, e72, hf⟩ := j_bind hf
    refine x_callV (As := [.ref v3, .int (4 : Int32), .ref (q5.2.2.2 0)]) (rest := []) C dX0_readAtom_110 (m_X0_setKnown (l := l) (E := E) (d := d - 1) (by omega) e72) km_X0_setKnown lk_X0_143 kv_X0_setKnown (ci := 0) rfl e78 rfl (by omega) (Nat.le_of_ble_eq_true rfl) (j_le_of (q_X0_setKnown e72)) (Or.inr (q_X0_setKnown e72)) ?_
    refine x_goto (tgt := 260) C dX0_readAtom_113 (by decide) ?_
    refine x_aload_n (v := a0) C dX0_readAtom_260 rfl ?_
    obtain ⟨u75, e76, hf⟩ := j_bind hf
    obtain ⟨q73, e74, hf⟩ := j_bind hf
    refine x_callV (As := []) (rest := []) C dX0_readAtom_261 (m_X0_goOn (l := l) (E := E) (d := d - 1) (by omega) e74) km_X0_goOn lk_X0_83 kv_X0_goOn (ci := 0) rfl e76 rfl (by omega) (Nat.le_of_ble_eq_true rfl) (j_le_of (q_X0_goOn e74)) (Or.inr (q_X0_goOn e74)) ?_
    refine x_iconst C dX0_readAtom_264 ki_1 ?_
    obtain rfl := j_inj hf
    exact x_zret C hret (Or.inr rfl) dX0_readAtom_265
  have hf := j_ifn hf c149
  by_cases c150 : q5.1 = (8 : Int32)
  · have hf := j_ifp hf c150
    refine x_lookup C dX0_readAtom_11 (by decide) 116 (105) (by rw [c150]; decide) (by decide) ?_
    refine x_aload_n (v := a0) C dX0_readAtom_116 rfl ?_
    refine x_aload_n (v := v3) C dX0_readAtom_117 rfl ?_
    refine x_bipush C dX0_readAtom_118 kb_6 ?_
    refine x_gets (i := 1) C dX0_readAtom_120 ws_X0_147 (Or.inr (Or.inl ⟨rfl, rfl⟩)) ?_
    obtain ⟨u85, e86, hf⟩ := j_bind hf
    obtain ⟨q79, e80, hf⟩ := j_bind hf
    refine x_callV (As := [.ref v3, .int (6 : Int32), .ref (q5.2.2.2 1)]) (rest := []) C dX0_readAtom_123 (m_X0_setKnown (l := l) (E := E) (d := d - 1) (by omega) e80) km_X0_setKnown lk_X0_143 kv_X0_setKnown (ci := 0) rfl e86 rfl (by omega) (Nat.le_of_ble_eq_true rfl) (j_le_of (q_X0_setKnown e80)) (Or.inr (q_X0_setKnown e80)) ?_
    refine x_goto (tgt := 260) C dX0_readAtom_126 (by decide) ?_
    refine x_aload_n (v := a0) C dX0_readAtom_260 rfl ?_
    obtain ⟨u83, e84, hf⟩ := j_bind hf
    obtain ⟨q81, e82, hf⟩ := j_bind hf
    refine x_callV (As := []) (rest := []) C dX0_readAtom_261 (m_X0_goOn (l := l) (E := E) (d := d - 1) (by omega) e82) km_X0_goOn lk_X0_83 kv_X0_goOn (ci := 0) rfl e84 rfl (by omega) (Nat.le_of_ble_eq_true rfl) (j_le_of (q_X0_goOn e82)) (Or.inr (q_X0_goOn e82)) ?_
    refine x_iconst C dX0_readAtom_264 ki_1 ?_
    obtain rfl := j_inj hf
    exact x_zret C hret (Or.inr rfl) dX0_readAtom_265
  have hf := j_ifn hf c150
  by_cases c151 : q5.1 = (9 : Int32)
  · have hf := j_ifp hf c151
    refine x_lookup C dX0_readAtom_11 (by decide) 129 (118) (by rw [c151]; decide) (by decide) ?_
    refine x_aload_n (v := a0) C dX0_readAtom_129 rfl ?_
    refine x_aload_n (v := v3) C dX0_readAtom_130 rfl ?_
    refine x_bipush C dX0_readAtom_131 kb_12 ?_
    refine x_gets (i := 2) C dX0_readAtom_133 ws_X0_150 (Or.inr (Or.inr ⟨rfl, rfl⟩)) ?_
    obtain ⟨u93, e94, hf⟩ := j_bind hf
    obtain ⟨q87, e88, hf⟩ := j_bind hf
    refine x_callV (As := [.ref v3, .int (12 : Int32), .ref (q5.2.2.2 2)]) (rest := []) C dX0_readAtom_136 (m_X0_setKnown (l := l) (E := E) (d := d - 1) (by omega) e88) km_X0_setKnown lk_X0_143 kv_X0_setKnown (ci := 0) rfl e94 rfl (by omega) (Nat.le_of_ble_eq_true rfl) (j_le_of (q_X0_setKnown e88)) (Or.inr (q_X0_setKnown e88)) ?_
    refine x_goto (tgt := 260) C dX0_readAtom_139 (by decide) ?_
    refine x_aload_n (v := a0) C dX0_readAtom_260 rfl ?_
    obtain ⟨u91, e92, hf⟩ := j_bind hf
    obtain ⟨q89, e90, hf⟩ := j_bind hf
    refine x_callV (As := []) (rest := []) C dX0_readAtom_261 (m_X0_goOn (l := l) (E := E) (d := d - 1) (by omega) e90) km_X0_goOn lk_X0_83 kv_X0_goOn (ci := 0) rfl e92 rfl (by omega) (Nat.le_of_ble_eq_true rfl) (j_le_of (q_X0_goOn e90)) (Or.inr (q_X0_goOn e90)) ?_
    refine x_iconst C dX0_readAtom_264 ki_1 ?_
    obtain rfl := j_inj hf
    exact x_zret C hret (Or.inr rfl) dX0_readAtom_265
  have hf := j_ifn hf c151
  by_cases c152 : q5.1 = (40 : Int32)
  · have hf := j_ifp hf c152
    refine x_lookup C dX0_readAtom_11 (by decide) 184 (173) (by rw [c152]; decide) (by decide) ?_
    refine x_iload_n (v := a1) C dX0_readAtom_184 rfl ?_
    refine x_bipush C dX0_readAtom_185 kb_8 ?_
    refine x_icmp_lt (tgt := 200) C dX0_readAtom_187 (by decide) (fun c153 => ?_) (fun c153 => ?_)
    · have hf := j_ifp hf c153
      refine x_aload_n (v := a0) C dX0_readAtom_200 rfl ?_
      obtain ⟨u125, e126, hf⟩ := j_bind hf
      obtain ⟨q95, e96, hf⟩ := j_bind hf
      refine x_callV (As := []) (rest := []) C dX0_readAtom_201 (m_X0_goOn (l := l) (E := E) (d := d - 1) (by omega) e96) km_X0_goOn lk_X0_83 kv_X0_goOn (ci := 0) rfl e126 rfl (by omega) (Nat.le_of_ble_eq_true rfl) (j_le_of (q_X0_goOn e96)) (Or.inr (q_X0_goOn e96)) ?_
      refine x_aload_n (v := a0) C dX0_readAtom_204 rfl ?_
      refine x_iload_n (v := a1) C dX0_readAtom_205 rfl ?_
      refine x_iconst C dX0_readAtom_206 ki_1 ?_
      refine x_iadd C dX0_readAtom_207 ?_
      obtain ⟨u123, e124, hf⟩ := j_bind hf
      obtain ⟨q97, e98, hf⟩ := j_bind hf
      refine x_callV (As := [.int (a1 + (1 : Int32))]) (rest := []) C dX0_readAtom_208 (hrec (d - 1) (by omega) e98) km_X0_readSum lk_X0_100 kv_X0_readSum (ci := 0) rfl e124 rfl (by omega) (Nat.le_of_ble_eq_true rfl) (j_le_of (hrecq e98)) (Or.inr (hrecq e98)) ?_
      refine x_if_ne (tgt := 216) C dX0_readAtom_211 (by decide) (fun c154 => ?_) (fun c154 => ?_)
      · have hf := j_ifn hf c154
        refine x_aload_n (v := a0) C dX0_readAtom_216 rfl ?_
        obtain ⟨u121, e122, hf⟩ := j_bind hf
        obtain ⟨q99, e100, hf⟩ := j_bind hf
        refine x_callV (As := []) (rest := []) C dX0_readAtom_217 (m_X0_kind (l := l) (E := E) (d := d - 1) (by omega) e100) km_X0_kind lk_X0_75 kv_X0_kind (ci := 0) rfl e122 rfl (by omega) (Nat.le_of_ble_eq_true rfl) (j_le_of (q_X0_kind e100)) (Or.inr (q_X0_kind e100)) ?_
        refine x_bipush C dX0_readAtom_220 kb_41 ?_
        refine x_icmp_eq (tgt := 235) C dX0_readAtom_222 (by decide) (fun c155 => ?_) (fun c155 => ?_)
        · have hf := j_ifp hf c155
          refine x_aload_n (v := v3) C dX0_readAtom_235 rfl ?_
          refine x_aload_n (v := a0) C dX0_readAtom_236 rfl ?_
          obtain ⟨v101, e102, hf⟩ := j_bind hf
          refine x_get C dX0_readAtom_237 (jgR_some e102) fg_X0_30 ?_
          refine x_iload_n (v := a1) C dX0_readAtom_240 rfl ?_
          refine x_iconst C dX0_readAtom_241 ki_1 ?_
          refine x_iadd C dX0_readAtom_242 ?_
          obtain ⟨v103, e104, hf⟩ := j_bind hf
          refine x_aald C dX0_readAtom_243 e104 ?_
          obtain ⟨u111, e112, hf⟩ := j_bind hf
          obtain ⟨q105, e106, hf⟩ := j_bind hf
          refine x_callV (As := [.ref v103]) (rest := []) C dX0_readAtom_244 (m_X2_copyFrom (l := l) (E := E) (d := d - 1) (by omega) e106) km_X2_copyFrom lk_X0_103 kv_X2_copyFrom (ci := 1) rfl e112 rfl (by omega) (Nat.le_of_ble_eq_true rfl) (j_le_of (q_X2_copyFrom e106)) (Or.inr (q_X2_copyFrom e106)) ?_
          refine x_goto (tgt := 260) C dX0_readAtom_247 (by decide) ?_
          refine x_aload_n (v := a0) C dX0_readAtom_260 rfl ?_
          obtain ⟨u109, e110, hf⟩ := j_bind hf
          obtain ⟨q107, e108, hf⟩ := j_bind hf
          refine x_callV (As := []) (rest := []) C dX0_readAtom_261 (m_X0_goOn (l := l) (E := E) (d := d - 1) (by omega) e108) km_X0_goOn lk_X0_83 kv_X0_goOn (ci := 0) rfl e110 rfl (by omega) (Nat.le_of_ble_eq_true rfl) (j_le_of (q_X0_goOn e108)) (Or.inr (q_X0_goOn e108)) ?_
          refine x_iconst C dX0_readAtom_264 ki_1 ?_
          obtain rfl := j_inj hf
          exact x_zret C hret (Or.inr rfl) dX0_readAtom_265
        · have hf := j_ifn hf c155
          refine x_aload_n (v := a0) C dX0_readAtom_225 rfl ?_
          refine x_iconst C dX0_readAtom_226 ki_1 ?_
          refine x_aload_n (v := a0) C dX0_readAtom_227 rfl ?_
          obtain ⟨v113, e114, hf⟩ := j_bind hf
          refine x_get C dX0_readAtom_228 (jgI_some e114) fg_X0_50 ?_
          obtain ⟨u119, e120, hf⟩ := j_bind hf
          obtain ⟨q115, e116, hf⟩ := j_bind hf
          refine x_callV (As := [.int (1 : Int32), .int v113]) (rest := []) C dX0_readAtom_231 (m_X0_fail (l := l) (E := E) (d := d - 1) (by omega) e116) km_X0_fail lk_X0_79 kv_X0_fail (ci := 0) rfl e120 rfl (by omega) (Nat.le_of_ble_eq_true rfl) (j_le_of (q_X0_fail e116)) (Or.inr (q_X0_fail e116)) ?_
          obtain ⟨u117, e118, hf⟩ := j_bind hf
          obtain rfl := j_inj hf
          exact x_zret C hret (jzb_some e118) dX0_readAtom_234
      · have hf := j_ifp hf c154
        refine x_iconst C dX0_readAtom_214 ki_0 ?_
        obtain rfl := j_inj hf
        exact x_zret C hret (Or.inl rfl) dX0_readAtom_215
    · have hf := j_ifn hf c153
      refine x_aload_n (v := a0) C dX0_readAtom_190 rfl ?_
      refine x_iconst C dX0_readAtom_191 ki_5 ?_
      refine x_aload_n (v := a0) C dX0_readAtom_192 rfl ?_
      obtain ⟨v127, e128, hf⟩ := j_bind hf
      refine x_get C dX0_readAtom_193 (jgI_some e128) fg_X0_50 ?_
      obtain ⟨u133, e134, hf⟩ := j_bind hf
      obtain ⟨q129, e130, hf⟩ := j_bind hf
      refine x_callV (As := [.int (5 : Int32), .int v127]) (rest := []) C dX0_readAtom_196 (m_X0_fail (l := l) (E := E) (d := d - 1) (by omega) e130) km_X0_fail lk_X0_79 kv_X0_fail (ci := 0) rfl e134 rfl (by omega) (Nat.le_of_ble_eq_true rfl) (j_le_of (q_X0_fail e130)) (Or.inr (q_X0_fail e130)) ?_
      obtain ⟨u131, e132, hf⟩ := j_bind hf
      obtain rfl := j_inj hf
      exact x_zret C hret (jzb_some e132) dX0_readAtom_199
  have hf := j_ifn hf c152
  refine x_lookup C dX0_readAtom_11 (by decide) 250 (239) (by simp [Op.lookupswitch.offset, (j_ne c145 (show (2 : Int32).toInt = 2 by decide)).symm, (j_ne c147 (show (3 : Int32).toInt = 3 by decide)).symm, (j_ne c149 (show (7 : Int32).toInt = 7 by decide)).symm, (j_ne c150 (show (8 : Int32).toInt = 8 by decide)).symm, (j_ne c151 (show (9 : Int32).toInt = 9 by decide)).symm, (j_ne c152 (show (40 : Int32).toInt = 40 by decide)).symm]) (by decide) ?_
  refine x_aload_n (v := a0) C dX0_readAtom_250 rfl ?_
  refine x_iconst C dX0_readAtom_251 ki_1 ?_
  refine x_aload_n (v := a0) C dX0_readAtom_252 rfl ?_
  obtain ⟨v135, e136, hf⟩ := j_bind hf
  refine x_get C dX0_readAtom_253 (jgI_some e136) fg_X0_50 ?_
  obtain ⟨u141, e142, hf⟩ := j_bind hf
  obtain ⟨q137, e138, hf⟩ := j_bind hf
  refine x_callV (As := [.int (1 : Int32), .int v135]) (rest := []) C dX0_readAtom_256 (m_X0_fail (l := l) (E := E) (d := d - 1) (by omega) e138) km_X0_fail lk_X0_79 kv_X0_fail (ci := 0) rfl e142 rfl (by omega) (Nat.le_of_ble_eq_true rfl) (j_le_of (q_X0_fail e138)) (Or.inr (q_X0_fail e138)) ?_
  obtain ⟨u139, e140, hf⟩ := j_bind hf
  obtain rfl := j_inj hf
  exact x_zret C hret (jzb_some e140) dX0_readAtom_259
