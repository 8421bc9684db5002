set_option maxHeartbeats 4000000 in
set_option maxRecDepth 100000 in
theorem m_X12_init {l : Launch} {E : JE} {d : Nat} (hdd : 3 ≤ d) {a0 : Nat} {h : JH} {q : Unit × JH} (hf : f_X12_init a0 h = some q) : Con l E d yX12_init cX12_init 1 none [.ref a0] h (none) q.2 := by
  refine j_start rfl (Nat.le_of_ble_eq_true rfl) ?_
  intro p e s m args below meth c C hret hnm
  have hin : meth.name = "<init>" := hnm
  refine x_loc [(0, .ref a0)] rfl ?_
  unfold f_X12_init at hf
  refine x_aload_n (v := a0) C dX12_init_0 rfl ?_
  refine x_objInit C dX12_init_1 ⟨lk_X12_228, w_obj⟩ (by omega) (Nat.le_of_ble_eq_true rfl) ?_
  refine x_aload_n (v := a0) C dX12_init_4 rfl ?_
  refine x_sipush C dX12_init_5 ks_1009 ?_
  obtain ⟨h1, e2, hf⟩ := j_bind hf
  refine x_put C dX12_init_8 e2 fp_X12_7 rfl rfl ?_
  refine x_aload_n (v := a0) C dX12_init_11 rfl ?_
  refine x_sipush C dX12_init_12 ks_181 ?_
  obtain ⟨q3, e4, hf⟩ := j_bind hf
  have hle : j_le q3.2 q.2 := by
    obtain ⟨h5, e6, hf⟩ := j_bind hf
    refine j_le_trans (j_le_of (jput_n e6)) ?_
    obtain ⟨q7, e8, hf⟩ := j_bind hf
    refine j_le_trans (jnA_le e8) ?_
    obtain ⟨h9, e10, hf⟩ := j_bind hf
    refine j_le_trans (j_le_of (jput_n e10)) ?_
    obtain ⟨q11, e12, hf⟩ := j_bind hf
    refine j_le_trans (jnA_le e12) ?_
    obtain ⟨h13, e14, hf⟩ := j_bind hf
    refine j_le_trans (j_le_of (jput_n e14)) ?_
    obtain ⟨q15, e16, hf⟩ := j_bind hf
    refine j_le_trans (jnA_le e16) ?_
    obtain ⟨h17, e18, hf⟩ := j_bind hf
    refine j_le_trans (j_le_of (jput_n e18)) ?_
    obtain ⟨q19, e20, hf⟩ := j_bind hf
    refine j_le_trans (jnA_le e20) ?_
    obtain ⟨h21, e22, hf⟩ := j_bind hf
    refine j_le_trans (j_le_of (jput_n e22)) ?_
    obtain ⟨h23, e24, hf⟩ := j_bind hf
    refine j_le_trans (j_le_of (jput_n e24)) ?_
    obtain ⟨q25, e26, hf⟩ := j_bind hf
    refine j_le_trans (jnA_le e26) ?_
    obtain ⟨h27, e28, hf⟩ := j_bind hf
    refine j_le_trans (j_le_of (jput_n e28)) ?_
    obtain ⟨q29, e30, hf⟩ := j_bind hf
    refine j_le_trans (jnA_le e30) ?_
    obtain ⟨h31, e32, hf⟩ := j_bind hf
    refine j_le_trans (j_le_of (jput_n e32)) ?_
    obtain ⟨q33, e34, hf⟩ := j_bind hf
    refine j_le_trans (jnA_le e34) ?_
    obtain ⟨h35, e36, hf⟩ := j_bind hf
    refine j_le_trans (j_le_of (jput_n e36)) ?_
    obtain ⟨q37, e38, hf⟩ := j_bind hf
    refine j_le_trans (jnA_le e38) ?_
    obtain ⟨h39, e40, hf⟩ := j_bind hf
    refine j_le_trans (j_le_of (jput_n e40)) ?_
    obtain ⟨q41, e42, hf⟩ := j_bind hf
    refine j_le_trans (jnA_le e42) ?_
    obtain ⟨h43, e44, hf⟩ := j_bind hf
    refine j_le_trans (j_le_of (jput_n e44)) ?_
    obtain ⟨q45, e46, hf⟩ := j_bind hf
    refine j_le_trans (jnA_le e46) ?_
    obtain ⟨h47, e48, hf⟩ := j_bind hf
    refine j_le_trans (j_le_of (jput_n e48)) ?_
    obtain ⟨q49, e50, hf⟩ := j_bind hf
    refine j_le_trans (jnA_le e50) ?_
    obtain ⟨h51, e52, hf⟩ := j_bind hf
    refine j_le_trans (j_le_of (jput_n e52)) ?_
    obtain ⟨q53, e54, hf⟩ := j_bind hf
    refine j_le_trans (jnA_le e54) ?_
    obtain ⟨h55, e56, hf⟩ := j_bind hf
    refine j_le_trans (j_le_of (jput_n e56)) ?_
    obtain ⟨q57, e58, hf⟩ := j_bind hf
    refine j_le_trans (jnA_le e58) ?_
    obtain ⟨h59, e60, hf⟩ := j_bind hf
    refine j_le_trans (j_le_of (jput_n e60)) ?_
    obtain ⟨q61, e62, hf⟩ := j_bind hf
    refine j_le_trans (jnA_le e62) ?_
    obtain ⟨h63, e64, hf⟩ := j_bind hf
    refine j_le_trans (j_le_of (jput_n e64)) ?_
    obtain ⟨q65, e66, hf⟩ := j_bind hf
    refine j_le_trans (jnA_le e66) ?_
    obtain ⟨h67, e68, hf⟩ := j_bind hf
    refine j_le_trans (j_le_of (jput_n e68)) ?_
    obtain ⟨q69, e70, hf⟩ := j_bind hf
    refine j_le_trans (jnA_le e70) ?_
    obtain ⟨h71, e72, hf⟩ := j_bind hf
    refine j_le_trans (j_le_of (jput_n e72)) ?_
    obtain ⟨q73, e74, hf⟩ := j_bind hf
    refine j_le_trans (jnA_le e74) ?_
    obtain ⟨h75, e76, hf⟩ := j_bind hf
    refine j_le_trans (j_le_of (jput_n e76)) ?_
    obtain ⟨q77, e78, hf⟩ := j_bind hf
    refine j_le_trans (jnA_le e78) ?_
    obtain ⟨h79, e80, hf⟩ := j_bind hf
    refine j_le_trans (j_le_of (jput_n e80)) ?_
    obtain ⟨q81, e82, hf⟩ := j_bind hf
    refine j_le_trans (jnA_le e82) ?_
    obtain ⟨h83, e84, hf⟩ := j_bind hf
    refine j_le_trans (j_le_of (jput_n e84)) ?_
    obtain ⟨q85, e86, hf⟩ := j_bind hf
    refine j_le_trans (jnA_le e86) ?_
    obtain ⟨h87, e88, hf⟩ := j_bind hf
    refine j_le_trans (j_le_of (jput_n e88)) ?_
    obtain ⟨q89, e90, hf⟩ := j_bind hf
    refine j_le_trans (jnA_le e90) ?_
    obtain ⟨h91, e92, hf⟩ := j_bind hf
    refine j_le_trans (j_le_of (jput_n e92)) ?_
    obtain ⟨q93, e94, hf⟩ := j_bind hf
    refine j_le_trans (jnA_le e94) ?_
    obtain ⟨h95, e96, hf⟩ := j_bind hf
    refine j_le_trans (j_le_of (jput_n e96)) ?_
    obtain ⟨q97, e98, hf⟩ := j_bind hf
    refine j_le_trans (jnA_le e98) ?_
    obtain ⟨h99, e100, hf⟩ := j_bind hf
    refine j_le_trans (j_le_of (jput_n e100)) ?_
    obtain ⟨q101, e102, hf⟩ := j_bind hf
    refine j_le_trans (jnA_le e102) ?_
    obtain ⟨h103, e104, hf⟩ := j_bind hf
    refine j_le_trans (j_le_of (jput_n e104)) ?_
    obtain ⟨q105, e106, hf⟩ := j_bind hf
    refine j_le_trans (jnA_le e106) ?_
    obtain ⟨h107, e108, hf⟩ := j_bind hf
    refine j_le_trans (j_le_of (jput_n e108)) ?_
    obtain ⟨q109, e110, hf⟩ := j_bind hf
    refine j_le_trans (jnA_le e110) ?_
    obtain ⟨h111, e112, hf⟩ := j_bind hf
    refine j_le_trans (j_le_of (jput_n e112)) ?_
    obtain ⟨q113, e114, hf⟩ := j_bind hf
    refine j_le_trans (jnA_le e114) ?_
    obtain ⟨h115, e116, hf⟩ := j_bind hf
    refine j_le_trans (j_le_of (jput_n e116)) ?_
    obtain ⟨q117, e118, hf⟩ := j_bind hf
    refine j_le_trans (jnA_le e118) ?_
    obtain ⟨h119, e120, hf⟩ := j_bind hf
    refine j_le_trans (j_le_of (jput_n e120)) ?_
    obtain ⟨q121, e122, hf⟩ := j_bind hf
    refine j_le_trans (jnA_le e122) ?_
    obtain ⟨h123, e124, hf⟩ := j_bind hf
    refine j_le_trans (j_le_of (jput_n e124)) ?_
    obtain ⟨q125, e126, hf⟩ := j_bind hf
    refine j_le_trans (jnA_le e126) ?_
    obtain ⟨h127, e128, hf⟩ := j_bind hf
    refine j_le_trans (j_le_of (jput_n e128)) ?_
    obtain ⟨q129, e130, hf⟩ := j_bind hf
    refine j_le_trans (jnA_le e130) ?_
    obtain ⟨h131, e132, hf⟩ := j_bind hf
    refine j_le_trans (j_le_of (jput_n e132)) ?_
    obtain ⟨q133, e134, hf⟩ := j_bind hf
    refine j_le_trans (jnA_le e134) ?_
    obtain ⟨h135, e136, hf⟩ := j_bind hf
    refine j_le_trans (j_le_of (jput_n e136)) ?_
    obtain ⟨u143, e144, hf⟩ := j_bind hf
    obtain ⟨q137, e138, hf⟩ := j_bind hf
    refine j_le_trans (j_le_of ((q_X12_laysBasic e138))) ?_
    obtain ⟨u141, e142, hf⟩ := j_bind hf
    obtain ⟨q139, e140, hf⟩ := j_bind hf
    refine j_le_trans (j_le_of ((q_X12_takes e140))) ?_
    obtain rfl := j_inj hf
    exact j_le_refl _
  refine x_newa (q := q3.1) (h1 := q3.2) C dX12_init_15 rfl (by decide) (by decide) (fun q => q) wi_int e4 hle ?_
  obtain ⟨h5, e6, hf⟩ := j_bind hf
  refine x_putF C hin dX12_init_17 e6 fp_X12_18 rfl rfl ?_
  refine x_aload_n (v := a0) C dX12_init_20 rfl ?_
  refine x_sipush C dX12_init_21 ks_181 ?_
  obtain ⟨q7, e8, hf⟩ := j_bind hf
  have hle : j_le q7.2 q.2 := by
    obtain ⟨h9, e10, hf⟩ := j_bind hf
    refine j_le_trans (j_le_of (jput_n e10)) ?_
    obtain ⟨q11, e12, hf⟩ := j_bind hf
    refine j_le_trans (jnA_le e12) ?_
    obtain ⟨h13, e14, hf⟩ := j_bind hf
    refine j_le_trans (j_le_of (jput_n e14)) ?_
    obtain ⟨q15, e16, hf⟩ := j_bind hf
    refine j_le_trans (jnA_le e16) ?_
    obtain ⟨h17, e18, hf⟩ := j_bind hf
    refine j_le_trans (j_le_of (jput_n e18)) ?_
    obtain ⟨q19, e20, hf⟩ := j_bind hf
    refine j_le_trans (jnA_le e20) ?_
    obtain ⟨h21, e22, hf⟩ := j_bind hf
    refine j_le_trans (j_le_of (jput_n e22)) ?_
    obtain ⟨h23, e24, hf⟩ := j_bind hf
    refine j_le_trans (j_le_of (jput_n e24)) ?_
    obtain ⟨q25, e26, hf⟩ := j_bind hf
    refine j_le_trans (jnA_le e26) ?_
    obtain ⟨h27, e28, hf⟩ := j_bind hf
    refine j_le_trans (j_le_of (jput_n e28)) ?_
    obtain ⟨q29, e30, hf⟩ := j_bind hf
    refine j_le_trans (jnA_le e30) ?_
    obtain ⟨h31, e32, hf⟩ := j_bind hf
    refine j_le_trans (j_le_of (jput_n e32)) ?_
    obtain ⟨q33, e34, hf⟩ := j_bind hf
    refine j_le_trans (jnA_le e34) ?_
    obtain ⟨h35, e36, hf⟩ := j_bind hf
    refine j_le_trans (j_le_of (jput_n e36)) ?_
    obtain ⟨q37, e38, hf⟩ := j_bind hf
    refine j_le_trans (jnA_le e38) ?_
    obtain ⟨h39, e40, hf⟩ := j_bind hf
    refine j_le_trans (j_le_of (jput_n e40)) ?_
    obtain ⟨q41, e42, hf⟩ := j_bind hf
    refine j_le_trans (jnA_le e42) ?_
    obtain ⟨h43, e44, hf⟩ := j_bind hf
    refine j_le_trans (j_le_of (jput_n e44)) ?_
    obtain ⟨q45, e46, hf⟩ := j_bind hf
    refine j_le_trans (jnA_le e46) ?_
    obtain ⟨h47, e48, hf⟩ := j_bind hf
    refine j_le_trans (j_le_of (jput_n e48)) ?_
    obtain ⟨q49, e50, hf⟩ := j_bind hf
    refine j_le_trans (jnA_le e50) ?_
    obtain ⟨h51, e52, hf⟩ := j_bind hf
    refine j_le_trans (j_le_of (jput_n e52)) ?_
    obtain ⟨q53, e54, hf⟩ := j_bind hf
    refine j_le_trans (jnA_le e54) ?_
    obtain ⟨h55, e56, hf⟩ := j_bind hf
    refine j_le_trans (j_le_of (jput_n e56)) ?_
    obtain ⟨q57, e58, hf⟩ := j_bind hf
    refine j_le_trans (jnA_le e58) ?_
    obtain ⟨h59, e60, hf⟩ := j_bind hf
    refine j_le_trans (j_le_of (jput_n e60)) ?_
    obtain ⟨q61, e62, hf⟩ := j_bind hf
    refine j_le_trans (jnA_le e62) ?_
    obtain ⟨h63, e64, hf⟩ := j_bind hf
    refine j_le_trans (j_le_of (jput_n e64)) ?_
    obtain ⟨q65, e66, hf⟩ := j_bind hf
    refine j_le_trans (jnA_le e66) ?_
    obtain ⟨h67, e68, hf⟩ := j_bind hf
    refine j_le_trans (j_le_of (jput_n e68)) ?_
    obtain ⟨q69, e70, hf⟩ := j_bind hf
    refine j_le_trans (jnA_le e70) ?_
    obtain ⟨h71, e72, hf⟩ := j_bind hf
    refine j_le_trans (j_le_of (jput_n e72)) ?_
    obtain ⟨q73, e74, hf⟩ := j_bind hf
    refine j_le_trans (jnA_le e74) ?_
    obtain ⟨h75, e76, hf⟩ := j_bind hf
    refine j_le_trans (j_le_of (jput_n e76)) ?_
    obtain ⟨q77, e78, hf⟩ := j_bind hf
    refine j_le_trans (jnA_le e78) ?_
    obtain ⟨h79, e80, hf⟩ := j_bind hf
    refine j_le_trans (j_le_of (jput_n e80)) ?_
    obtain ⟨q81, e82, hf⟩ := j_bind hf
    refine j_le_trans (jnA_le e82) ?_
    obtain ⟨h83, e84, hf⟩ := j_bind hf
    refine j_le_trans (j_le_of (jput_n e84)) ?_
    obtain ⟨q85, e86, hf⟩ := j_bind hf
    refine j_le_trans (jnA_le e86) ?_
    obtain ⟨h87, e88, hf⟩ := j_bind hf
    refine j_le_trans (j_le_of (jput_n e88)) ?_
    obtain ⟨q89, e90, hf⟩ := j_bind hf
    refine j_le_trans (jnA_le e90) ?_
    obtain ⟨h91, e92, hf⟩ := j_bind hf
    refine j_le_trans (j_le_of (jput_n e92)) ?_
    obtain ⟨q93, e94, hf⟩ := j_bind hf
    refine j_le_trans (jnA_le e94) ?_
    obtain ⟨h95, e96, hf⟩ := j_bind hf
    refine j_le_trans (j_le_of (jput_n e96)) ?_
    obtain ⟨q97, e98, hf⟩ := j_bind hf
    refine j_le_trans (jnA_le e98) ?_
    obtain ⟨h99, e100, hf⟩ := j_bind hf
    refine j_le_trans (j_le_of (jput_n e100)) ?_
    obtain ⟨q101, e102, hf⟩ := j_bind hf
    refine j_le_trans (jnA_le e102) ?_
    obtain ⟨h103, e104, hf⟩ := j_bind hf
    refine j_le_trans (j_le_of (jput_n e104)) ?_
    obtain ⟨q105, e106, hf⟩ := j_bind hf
    refine j_le_trans (jnA_le e106) ?_
    obtain ⟨h107, e108, hf⟩ := j_bind hf
    refine j_le_trans (j_le_of (jput_n e108)) ?_
    obtain ⟨q109, e110, hf⟩ := j_bind hf
    refine j_le_trans (jnA_le e110) ?_
    obtain ⟨h111, e112, hf⟩ := j_bind hf
    refine j_le_trans (j_le_of (jput_n e112)) ?_
    obtain ⟨q113, e114, hf⟩ := j_bind hf
    refine j_le_trans (jnA_le e114) ?_
    obtain ⟨h115, e116, hf⟩ := j_bind hf
    refine j_le_trans (j_le_of (jput_n e116)) ?_
    obtain ⟨q117, e118, hf⟩ := j_bind hf
    refine j_le_trans (jnA_le e118) ?_
    obtain ⟨h119, e120, hf⟩ := j_bind hf
    refine j_le_trans (j_le_of (jput_n e120)) ?_
    obtain ⟨q121, e122, hf⟩ := j_bind hf
    refine j_le_trans (jnA_le e122) ?_
    obtain ⟨h123, e124, hf⟩ := j_bind hf
    refine j_le_trans (j_le_of (jput_n e124)) ?_
    obtain ⟨q125, e126, hf⟩ := j_bind hf
    refine j_le_trans (jnA_le e126) ?_
    obtain ⟨h127, e128, hf⟩ := j_bind hf
    refine j_le_trans (j_le_of (jput_n e128)) ?_
    obtain ⟨q129, e130, hf⟩ := j_bind hf
    refine j_le_trans (jnA_le e130) ?_
    obtain ⟨h131, e132, hf⟩ := j_bind hf
    refine j_le_trans (j_le_of (jput_n e132)) ?_
    obtain ⟨q133, e134, hf⟩ := j_bind hf
    refine j_le_trans (jnA_le e134) ?_
    obtain ⟨h135, e136, hf⟩ := j_bind hf
    refine j_le_trans (j_le_of (jput_n e136)) ?_
    obtain ⟨u143, e144, hf⟩ := j_bind hf
    obtain ⟨q137, e138, hf⟩ := j_bind hf
    refine j_le_trans (j_le_of ((q_X12_laysBasic e138))) ?_
    obtain ⟨u141, e142, hf⟩ := j_bind hf
    obtain ⟨q139, e140, hf⟩ := j_bind hf
    refine j_le_trans (j_le_of ((q_X12_takes e140))) ?_
    obtain rfl := j_inj hf
    exact j_le_refl _
  refine x_newa (q := q7.1) (h1 := q7.2) C dX12_init_24 rfl (by decide) (by decide) (fun q => q) wi_int e8 hle ?_
  obtain ⟨h9, e10, hf⟩ := j_bind hf
  refine x_putF C hin dX12_init_26 e10 fp_X12_24 rfl rfl ?_
  refine x_aload_n (v := a0) C dX12_init_29 rfl ?_
  refine x_sipush C dX12_init_30 ks_181 ?_
  obtain ⟨q11, e12, hf⟩ := j_bind hf
  have hle : j_le q11.2 q.2 := by
    obtain ⟨h13, e14, hf⟩ := j_bind hf
    refine j_le_trans (j_le_of (jput_n e14)) ?_
    obtain ⟨q15, e16, hf⟩ := j_bind hf
    refine j_le_trans (jnA_le e16) ?_
    obtain ⟨h17, e18, hf⟩ := j_bind hf
    refine j_le_trans (j_le_of (jput_n e18)) ?_
    obtain ⟨q19, e20, hf⟩ := j_bind hf
    refine j_le_trans (jnA_le e20) ?_
    obtain ⟨h21, e22, hf⟩ := j_bind hf
    refine j_le_trans (j_le_of (jput_n e22)) ?_
    obtain ⟨h23, e24, hf⟩ := j_bind hf
    refine j_le_trans (j_le_of (jput_n e24)) ?_
    obtain ⟨q25, e26, hf⟩ := j_bind hf
    refine j_le_trans (jnA_le e26) ?_
    obtain ⟨h27, e28, hf⟩ := j_bind hf
    refine j_le_trans (j_le_of (jput_n e28)) ?_
    obtain ⟨q29, e30, hf⟩ := j_bind hf
    refine j_le_trans (jnA_le e30) ?_
    obtain ⟨h31, e32, hf⟩ := j_bind hf
    refine j_le_trans (j_le_of (jput_n e32)) ?_
    obtain ⟨q33, e34, hf⟩ := j_bind hf
    refine j_le_trans (jnA_le e34) ?_
    obtain ⟨h35, e36, hf⟩ := j_bind hf
    refine j_le_trans (j_le_of (jput_n e36)) ?_
    obtain ⟨q37, e38, hf⟩ := j_bind hf
    refine j_le_trans (jnA_le e38) ?_
    obtain ⟨h39, e40, hf⟩ := j_bind hf
    refine j_le_trans (j_le_of (jput_n e40)) ?_
    obtain ⟨q41, e42, hf⟩ := j_bind hf
    refine j_le_trans (jnA_le e42) ?_
    obtain ⟨h43, e44, hf⟩ := j_bind hf
    refine j_le_trans (j_le_of (jput_n e44)) ?_
    obtain ⟨q45, e46, hf⟩ := j_bind hf
    refine j_le_trans (jnA_le e46) ?_
    obtain ⟨h47, e48, hf⟩ := j_bind hf
    refine j_le_trans (j_le_of (jput_n e48)) ?_
    obtain ⟨q49, e50, hf⟩ := j_bind hf
    refine j_le_trans (jnA_le e50) ?_
    obtain ⟨h51, e52, hf⟩ := j_bind hf
    refine j_le_trans (j_le_of (jput_n e52)) ?_
    obtain ⟨q53, e54, hf⟩ := j_bind hf
    refine j_le_trans (jnA_le e54) ?_
    obtain ⟨h55, e56, hf⟩ := j_bind hf
    refine j_le_trans (j_le_of (jput_n e56)) ?_
    obtain ⟨q57, e58, hf⟩ := j_bind hf
    refine j_le_trans (jnA_le e58) ?_
    obtain ⟨h59, e60, hf⟩ := j_bind hf
    refine j_le_trans (j_le_of (jput_n e60)) ?_
    obtain ⟨q61, e62, hf⟩ := j_bind hf
    refine j_le_trans (jnA_le e62) ?_
    obtain ⟨h63, e64, hf⟩ := j_bind hf
    refine j_le_trans (j_le_of (jput_n e64)) ?_
    obtain ⟨q65, e66, hf⟩ := j_bind hf
    refine j_le_trans (jnA_le e66) ?_
    obtain ⟨h67, e68, hf⟩ := j_bind hf
    refine j_le_trans (j_le_of (jput_n e68)) ?_
    obtain ⟨q69, e70, hf⟩ := j_bind hf
    refine j_le_trans (jnA_le e70) ?_
    obtain ⟨h71, e72, hf⟩ := j_bind hf
    refine j_le_trans (j_le_of (jput_n e72)) ?_
    obtain ⟨q73, e74, hf⟩ := j_bind hf
    refine j_le_trans (jnA_le e74) ?_
    obtain ⟨h75, e76, hf⟩ := j_bind hf
    refine j_le_trans (j_le_of (jput_n e76)) ?_
    obtain ⟨q77, e78, hf⟩ := j_bind hf
    refine j_le_trans (jnA_le e78) ?_
    obtain ⟨h79, e80, hf⟩ := j_bind hf
    refine j_le_trans (j_le_of (jput_n e80)) ?_
    obtain ⟨q81, e82, hf⟩ := j_bind hf
    refine j_le_trans (jnA_le e82) ?_
    obtain ⟨h83, e84, hf⟩ := j_bind hf
    refine j_le_trans (j_le_of (jput_n e84)) ?_
    obtain ⟨q85, e86, hf⟩ := j_bind hf
    refine j_le_trans (jnA_le e86) ?_
    obtain ⟨h87, e88, hf⟩ := j_bind hf
    refine j_le_trans (j_le_of (jput_n e88)) ?_
    obtain ⟨q89, e90, hf⟩ := j_bind hf
    refine j_le_trans (jnA_le e90) ?_
    obtain ⟨h91, e92, hf⟩ := j_bind hf
    refine j_le_trans (j_le_of (jput_n e92)) ?_
    obtain ⟨q93, e94, hf⟩ := j_bind hf
    refine j_le_trans (jnA_le e94) ?_
    obtain ⟨h95, e96, hf⟩ := j_bind hf
    refine j_le_trans (j_le_of (jput_n e96)) ?_
    obtain ⟨q97, e98, hf⟩ := j_bind hf
    refine j_le_trans (jnA_le e98) ?_
    obtain ⟨h99, e100, hf⟩ := j_bind hf
    refine j_le_trans (j_le_of (jput_n e100)) ?_
    obtain ⟨q101, e102, hf⟩ := j_bind hf
    refine j_le_trans (jnA_le e102) ?_
    obtain ⟨h103, e104, hf⟩ := j_bind hf
    refine j_le_trans (j_le_of (jput_n e104)) ?_
    obtain ⟨q105, e106, hf⟩ := j_bind hf
    refine j_le_trans (jnA_le e106) ?_
    obtain ⟨h107, e108, hf⟩ := j_bind hf
    refine j_le_trans (j_le_of (jput_n e108)) ?_
    obtain ⟨q109, e110, hf⟩ := j_bind hf
    refine j_le_trans (jnA_le e110) ?_
    obtain ⟨h111, e112, hf⟩ := j_bind hf
    refine j_le_trans (j_le_of (jput_n e112)) ?_
    obtain ⟨q113, e114, hf⟩ := j_bind hf
    refine j_le_trans (jnA_le e114) ?_
    obtain ⟨h115, e116, hf⟩ := j_bind hf
    refine j_le_trans (j_le_of (jput_n e116)) ?_
    obtain ⟨q117, e118, hf⟩ := j_bind hf
    refine j_le_trans (jnA_le e118) ?_
    obtain ⟨h119, e120, hf⟩ := j_bind hf
    refine j_le_trans (j_le_of (jput_n e120)) ?_
    obtain ⟨q121, e122, hf⟩ := j_bind hf
    refine j_le_trans (jnA_le e122) ?_
    obtain ⟨h123, e124, hf⟩ := j_bind hf
    refine j_le_trans (j_le_of (jput_n e124)) ?_
    obtain ⟨q125, e126, hf⟩ := j_bind hf
    refine j_le_trans (jnA_le e126) ?_
    obtain ⟨h127, e128, hf⟩ := j_bind hf
    refine j_le_trans (j_le_of (jput_n e128)) ?_
    obtain ⟨q129, e130, hf⟩ := j_bind hf
    refine j_le_trans (jnA_le e130) ?_
    obtain ⟨h131, e132, hf⟩ := j_bind hf
    refine j_le_trans (j_le_of (jput_n e132)) ?_
    obtain ⟨q133, e134, hf⟩ := j_bind hf
    refine j_le_trans (jnA_le e134) ?_
    obtain ⟨h135, e136, hf⟩ := j_bind hf
    refine j_le_trans (j_le_of (jput_n e136)) ?_
    obtain ⟨u143, e144, hf⟩ := j_bind hf
    obtain ⟨q137, e138, hf⟩ := j_bind hf
    refine j_le_trans (j_le_of ((q_X12_laysBasic e138))) ?_
    obtain ⟨u141, e142, hf⟩ := j_bind hf
    obtain ⟨q139, e140, hf⟩ := j_bind hf
    refine j_le_trans (j_le_of ((q_X12_takes e140))) ?_
    obtain rfl := j_inj hf
    exact j_le_refl _
  refine x_newa (q := q11.1) (h1 := q11.2) C dX12_init_33 rfl (by decide) (by decide) (fun q => q) wi_int e12 hle ?_
  obtain ⟨h13, e14, hf⟩ := j_bind hf
  refine x_putF C hin dX12_init_35 e14 fp_X12_36 rfl rfl ?_
  refine x_aload_n (v := a0) C dX12_init_38 rfl ?_
  refine x_sipush C dX12_init_39 ks_181 ?_
  obtain ⟨q15, e16, hf⟩ := j_bind hf
  have hle : j_le q15.2 q.2 := by
    obtain ⟨h17, e18, hf⟩ := j_bind hf
    refine j_le_trans (j_le_of (jput_n e18)) ?_
    obtain ⟨q19, e20, hf⟩ := j_bind hf
    refine j_le_trans (jnA_le e20) ?_
    obtain ⟨h21, e22, hf⟩ := j_bind hf
    refine j_le_trans (j_le_of (jput_n e22)) ?_
    obtain ⟨h23, e24, hf⟩ := j_bind hf
    refine j_le_trans (j_le_of (jput_n e24)) ?_
    obtain ⟨q25, e26, hf⟩ := j_bind hf
    refine j_le_trans (jnA_le e26) ?_
    obtain ⟨h27, e28, hf⟩ := j_bind hf
    refine j_le_trans (j_le_of (jput_n e28)) ?_
    obtain ⟨q29, e30, hf⟩ := j_bind hf
    refine j_le_trans (jnA_le e30) ?_
    obtain ⟨h31, e32, hf⟩ := j_bind hf
    refine j_le_trans (j_le_of (jput_n e32)) ?_
    obtain ⟨q33, e34, hf⟩ := j_bind hf
    refine j_le_trans (jnA_le e34) ?_
    obtain ⟨h35, e36, hf⟩ := j_bind hf
    refine j_le_trans (j_le_of (jput_n e36)) ?_
    obtain ⟨q37, e38, hf⟩ := j_bind hf
    refine j_le_trans (jnA_le e38) ?_
    obtain ⟨h39, e40, hf⟩ := j_bind hf
    refine j_le_trans (j_le_of (jput_n e40)) ?_
    obtain ⟨q41, e42, hf⟩ := j_bind hf
    refine j_le_trans (jnA_le e42) ?_
    obtain ⟨h43, e44, hf⟩ := j_bind hf
    refine j_le_trans (j_le_of (jput_n e44)) ?_
    obtain ⟨q45, e46, hf⟩ := j_bind hf
    refine j_le_trans (jnA_le e46) ?_
    obtain ⟨h47, e48, hf⟩ := j_bind hf
    refine j_le_trans (j_le_of (jput_n e48)) ?_
    obtain ⟨q49, e50, hf⟩ := j_bind hf
    refine j_le_trans (jnA_le e50) ?_
    obtain ⟨h51, e52, hf⟩ := j_bind hf
    refine j_le_trans (j_le_of (jput_n e52)) ?_
    obtain ⟨q53, e54, hf⟩ := j_bind hf
    refine j_le_trans (jnA_le e54) ?_
    obtain ⟨h55, e56, hf⟩ := j_bind hf
    refine j_le_trans (j_le_of (jput_n e56)) ?_
    obtain ⟨q57, e58, hf⟩ := j_bind hf
    refine j_le_trans (jnA_le e58) ?_
    obtain ⟨h59, e60, hf⟩ := j_bind hf
    refine j_le_trans (j_le_of (jput_n e60)) ?_
    obtain ⟨q61, e62, hf⟩ := j_bind hf
    refine j_le_trans (jnA_le e62) ?_
    obtain ⟨h63, e64, hf⟩ := j_bind hf
    refine j_le_trans (j_le_of (jput_n e64)) ?_
    obtain ⟨q65, e66, hf⟩ := j_bind hf
    refine j_le_trans (jnA_le e66) ?_
    obtain ⟨h67, e68, hf⟩ := j_bind hf
    refine j_le_trans (j_le_of (jput_n e68)) ?_
    obtain ⟨q69, e70, hf⟩ := j_bind hf
    refine j_le_trans (jnA_le e70) ?_
    obtain ⟨h71, e72, hf⟩ := j_bind hf
    refine j_le_trans (j_le_of (jput_n e72)) ?_
    obtain ⟨q73, e74, hf⟩ := j_bind hf
    refine j_le_trans (jnA_le e74) ?_
    obtain ⟨h75, e76, hf⟩ := j_bind hf
    refine j_le_trans (j_le_of (jput_n e76)) ?_
    obtain ⟨q77, e78, hf⟩ := j_bind hf
    refine j_le_trans (jnA_le e78) ?_
    obtain ⟨h79, e80, hf⟩ := j_bind hf
    refine j_le_trans (j_le_of (jput_n e80)) ?_
    obtain ⟨q81, e82, hf⟩ := j_bind hf
    refine j_le_trans (jnA_le e82) ?_
    obtain ⟨h83, e84, hf⟩ := j_bind hf
    refine j_le_trans (j_le_of (jput_n e84)) ?_
    obtain ⟨q85, e86, hf⟩ := j_bind hf
    refine j_le_trans (jnA_le e86) ?_
    obtain ⟨h87, e88, hf⟩ := j_bind hf
    refine j_le_trans (j_le_of (jput_n e88)) ?_
    obtain ⟨q89, e90, hf⟩ := j_bind hf
    refine j_le_trans (jnA_le e90) ?_
    obtain ⟨h91, e92, hf⟩ := j_bind hf
    refine j_le_trans (j_le_of (jput_n e92)) ?_
    obtain ⟨q93, e94, hf⟩ := j_bind hf
    refine j_le_trans (jnA_le e94) ?_
    obtain ⟨h95, e96, hf⟩ := j_bind hf
    refine j_le_trans (j_le_of (jput_n e96)) ?_
    obtain ⟨q97, e98, hf⟩ := j_bind hf
    refine j_le_trans (jnA_le e98) ?_
    obtain ⟨h99, e100, hf⟩ := j_bind hf
    refine j_le_trans (j_le_of (jput_n e100)) ?_
    obtain ⟨q101, e102, hf⟩ := j_bind hf
    refine j_le_trans (jnA_le e102) ?_
    obtain ⟨h103, e104, hf⟩ := j_bind hf
    refine j_le_trans (j_le_of (jput_n e104)) ?_
    obtain ⟨q105, e106, hf⟩ := j_bind hf
    refine j_le_trans (jnA_le e106) ?_
    obtain ⟨h107, e108, hf⟩ := j_bind hf
    refine j_le_trans (j_le_of (jput_n e108)) ?_
    obtain ⟨q109, e110, hf⟩ := j_bind hf
    refine j_le_trans (jnA_le e110) ?_
    obtain ⟨h111, e112, hf⟩ := j_bind hf
    refine j_le_trans (j_le_of (jput_n e112)) ?_
    obtain ⟨q113, e114, hf⟩ := j_bind hf
    refine j_le_trans (jnA_le e114) ?_
    obtain ⟨h115, e116, hf⟩ := j_bind hf
    refine j_le_trans (j_le_of (jput_n e116)) ?_
    obtain ⟨q117, e118, hf⟩ := j_bind hf
    refine j_le_trans (jnA_le e118) ?_
    obtain ⟨h119, e120, hf⟩ := j_bind hf
    refine j_le_trans (j_le_of (jput_n e120)) ?_
    obtain ⟨q121, e122, hf⟩ := j_bind hf
    refine j_le_trans (jnA_le e122) ?_
    obtain ⟨h123, e124, hf⟩ := j_bind hf
    refine j_le_trans (j_le_of (jput_n e124)) ?_
    obtain ⟨q125, e126, hf⟩ := j_bind hf
    refine j_le_trans (jnA_le e126) ?_
    obtain ⟨h127, e128, hf⟩ := j_bind hf
    refine j_le_trans (j_le_of (jput_n e128)) ?_
    obtain ⟨q129, e130, hf⟩ := j_bind hf
    refine j_le_trans (jnA_le e130) ?_
    obtain ⟨h131, e132, hf⟩ := j_bind hf
    refine j_le_trans (j_le_of (jput_n e132)) ?_
    obtain ⟨q133, e134, hf⟩ := j_bind hf
    refine j_le_trans (jnA_le e134) ?_
    obtain ⟨h135, e136, hf⟩ := j_bind hf
    refine j_le_trans (j_le_of (jput_n e136)) ?_
    obtain ⟨u143, e144, hf⟩ := j_bind hf
    obtain ⟨q137, e138, hf⟩ := j_bind hf
    refine j_le_trans (j_le_of ((q_X12_laysBasic e138))) ?_
    obtain ⟨u141, e142, hf⟩ := j_bind hf
    obtain ⟨q139, e140, hf⟩ := j_bind hf
    refine j_le_trans (j_le_of ((q_X12_takes e140))) ?_
    obtain rfl := j_inj hf
    exact j_le_refl _
  refine x_newa (q := q15.1) (h1 := q15.2) C dX12_init_42 rfl (by decide) (by decide) (fun q => q) wi_int e16 hle ?_
  obtain ⟨h17, e18, hf⟩ := j_bind hf
  refine x_putF C hin dX12_init_44 e18 fp_X12_29 rfl rfl ?_
  refine x_aload_n (v := a0) C dX12_init_47 rfl ?_
  refine x_sipush C dX12_init_48 ks_181 ?_
  obtain ⟨q19, e20, hf⟩ := j_bind hf
  have hle : j_le q19.2 q.2 := by
    obtain ⟨h21, e22, hf⟩ := j_bind hf
    refine j_le_trans (j_le_of (jput_n e22)) ?_
    obtain ⟨h23, e24, hf⟩ := j_bind hf
    refine j_le_trans (j_le_of (jput_n e24)) ?_
    obtain ⟨q25, e26, hf⟩ := j_bind hf
    refine j_le_trans (jnA_le e26) ?_
    obtain ⟨h27, e28, hf⟩ := j_bind hf
    refine j_le_trans (j_le_of (jput_n e28)) ?_
    obtain ⟨q29, e30, hf⟩ := j_bind hf
    refine j_le_trans (jnA_le e30) ?_
    obtain ⟨h31, e32, hf⟩ := j_bind hf
    refine j_le_trans (j_le_of (jput_n e32)) ?_
    obtain ⟨q33, e34, hf⟩ := j_bind hf
    refine j_le_trans (jnA_le e34) ?_
    obtain ⟨h35, e36, hf⟩ := j_bind hf
    refine j_le_trans (j_le_of (jput_n e36)) ?_
    obtain ⟨q37, e38, hf⟩ := j_bind hf
    refine j_le_trans (jnA_le e38) ?_
    obtain ⟨h39, e40, hf⟩ := j_bind hf
    refine j_le_trans (j_le_of (jput_n e40)) ?_
    obtain ⟨q41, e42, hf⟩ := j_bind hf
    refine j_le_trans (jnA_le e42) ?_
    obtain ⟨h43, e44, hf⟩ := j_bind hf
    refine j_le_trans (j_le_of (jput_n e44)) ?_
    obtain ⟨q45, e46, hf⟩ := j_bind hf
    refine j_le_trans (jnA_le e46) ?_
    obtain ⟨h47, e48, hf⟩ := j_bind hf
    refine j_le_trans (j_le_of (jput_n e48)) ?_
    obtain ⟨q49, e50, hf⟩ := j_bind hf
    refine j_le_trans (jnA_le e50) ?_
    obtain ⟨h51, e52, hf⟩ := j_bind hf
    refine j_le_trans (j_le_of (jput_n e52)) ?_
    obtain ⟨q53, e54, hf⟩ := j_bind hf
    refine j_le_trans (jnA_le e54) ?_
    obtain ⟨h55, e56, hf⟩ := j_bind hf
    refine j_le_trans (j_le_of (jput_n e56)) ?_
    obtain ⟨q57, e58, hf⟩ := j_bind hf
    refine j_le_trans (jnA_le e58) ?_
    obtain ⟨h59, e60, hf⟩ := j_bind hf
    refine j_le_trans (j_le_of (jput_n e60)) ?_
    obtain ⟨q61, e62, hf⟩ := j_bind hf
    refine j_le_trans (jnA_le e62) ?_
    obtain ⟨h63, e64, hf⟩ := j_bind hf
    refine j_le_trans (j_le_of (jput_n e64)) ?_
    obtain ⟨q65, e66, hf⟩ := j_bind hf
    refine j_le_trans (jnA_le e66) ?_
    obtain ⟨h67, e68, hf⟩ := j_bind hf
    refine j_le_trans (j_le_of (jput_n e68)) ?_
    obtain ⟨q69, e70, hf⟩ := j_bind hf
    refine j_le_trans (jnA_le e70) ?_
    obtain ⟨h71, e72, hf⟩ := j_bind hf
    refine j_le_trans (j_le_of (jput_n e72)) ?_
    obtain ⟨q73, e74, hf⟩ := j_bind hf
    refine j_le_trans (jnA_le e74) ?_
    obtain ⟨h75, e76, hf⟩ := j_bind hf
    refine j_le_trans (j_le_of (jput_n e76)) ?_
    obtain ⟨q77, e78, hf⟩ := j_bind hf
    refine j_le_trans (jnA_le e78) ?_
    obtain ⟨h79, e80, hf⟩ := j_bind hf
    refine j_le_trans (j_le_of (jput_n e80)) ?_
    obtain ⟨q81, e82, hf⟩ := j_bind hf
    refine j_le_trans (jnA_le e82) ?_
    obtain ⟨h83, e84, hf⟩ := j_bind hf
    refine j_le_trans (j_le_of (jput_n e84)) ?_
    obtain ⟨q85, e86, hf⟩ := j_bind hf
    refine j_le_trans (jnA_le e86) ?_
    obtain ⟨h87, e88, hf⟩ := j_bind hf
    refine j_le_trans (j_le_of (jput_n e88)) ?_
    obtain ⟨q89, e90, hf⟩ := j_bind hf
    refine j_le_trans (jnA_le e90) ?_
    obtain ⟨h91, e92, hf⟩ := j_bind hf
    refine j_le_trans (j_le_of (jput_n e92)) ?_
    obtain ⟨q93, e94, hf⟩ := j_bind hf
    refine j_le_trans (jnA_le e94) ?_
    obtain ⟨h95, e96, hf⟩ := j_bind hf
    refine j_le_trans (j_le_of (jput_n e96)) ?_
    obtain ⟨q97, e98, hf⟩ := j_bind hf
    refine j_le_trans (jnA_le e98) ?_
    obtain ⟨h99, e100, hf⟩ := j_bind hf
    refine j_le_trans (j_le_of (jput_n e100)) ?_
    obtain ⟨q101, e102, hf⟩ := j_bind hf
    refine j_le_trans (jnA_le e102) ?_
    obtain ⟨h103, e104, hf⟩ := j_bind hf
    refine j_le_trans (j_le_of (jput_n e104)) ?_
    obtain ⟨q105, e106, hf⟩ := j_bind hf
    refine j_le_trans (jnA_le e106) ?_
    obtain ⟨h107, e108, hf⟩ := j_bind hf
    refine j_le_trans (j_le_of (jput_n e108)) ?_
    obtain ⟨q109, e110, hf⟩ := j_bind hf
    refine j_le_trans (jnA_le e110) ?_
    obtain ⟨h111, e112, hf⟩ := j_bind hf
    refine j_le_trans (j_le_of (jput_n e112)) ?_
    obtain ⟨q113, e114, hf⟩ := j_bind hf
    refine j_le_trans (jnA_le e114) ?_
    obtain ⟨h115, e116, hf⟩ := j_bind hf
    refine j_le_trans (j_le_of (jput_n e116)) ?_
    obtain ⟨q117, e118, hf⟩ := j_bind hf
    refine j_le_trans (jnA_le e118) ?_
    obtain ⟨h119, e120, hf⟩ := j_bind hf
    refine j_le_trans (j_le_of (jput_n e120)) ?_
    obtain ⟨q121, e122, hf⟩ := j_bind hf
    refine j_le_trans (jnA_le e122) ?_
    obtain ⟨h123, e124, hf⟩ := j_bind hf
    refine j_le_trans (j_le_of (jput_n e124)) ?_
    obtain ⟨q125, e126, hf⟩ := j_bind hf
    refine j_le_trans (jnA_le e126) ?_
    obtain ⟨h127, e128, hf⟩ := j_bind hf
    refine j_le_trans (j_le_of (jput_n e128)) ?_
    obtain ⟨q129, e130, hf⟩ := j_bind hf
    refine j_le_trans (jnA_le e130) ?_
    obtain ⟨h131, e132, hf⟩ := j_bind hf
    refine j_le_trans (j_le_of (jput_n e132)) ?_
    obtain ⟨q133, e134, hf⟩ := j_bind hf
    refine j_le_trans (jnA_le e134) ?_
    obtain ⟨h135, e136, hf⟩ := j_bind hf
    refine j_le_trans (j_le_of (jput_n e136)) ?_
    obtain ⟨u143, e144, hf⟩ := j_bind hf
    obtain ⟨q137, e138, hf⟩ := j_bind hf
    refine j_le_trans (j_le_of ((q_X12_laysBasic e138))) ?_
    obtain ⟨u141, e142, hf⟩ := j_bind hf
    obtain ⟨q139, e140, hf⟩ := j_bind hf
    refine j_le_trans (j_le_of ((q_X12_takes e140))) ?_
    obtain rfl := j_inj hf
    exact j_le_refl _
  refine x_newa (q := q19.1) (h1 := q19.2) C dX12_init_51 rfl (by decide) (by decide) (fun q => q) wi_int e20 hle ?_
  obtain ⟨h21, e22, hf⟩ := j_bind hf
  refine x_putF C hin dX12_init_53 e22 fp_X12_55 rfl rfl ?_
  refine x_aload_n (v := a0) C dX12_init_56 rfl ?_
  refine x_iconst C dX12_init_57 ki_m1 ?_
  obtain ⟨h23, e24, hf⟩ := j_bind hf
  refine x_put C dX12_init_58 e24 fp_X12_49 rfl rfl ?_
  refine x_aload_n (v := a0) C dX12_init_61 rfl ?_
  refine x_sipush C dX12_init_62 ks_1086 ?_
  obtain ⟨q25, e26, hf⟩ := j_bind hf
  have hle : j_le q25.2 q.2 := by
    obtain ⟨h27, e28, hf⟩ := j_bind hf
    refine j_le_trans (j_le_of (jput_n e28)) ?_
    obtain ⟨q29, e30, hf⟩ := j_bind hf
    refine j_le_trans (jnA_le e30) ?_
    obtain ⟨h31, e32, hf⟩ := j_bind hf
    refine j_le_trans (j_le_of (jput_n e32)) ?_
    obtain ⟨q33, e34, hf⟩ := j_bind hf
    refine j_le_trans (jnA_le e34) ?_
    obtain ⟨h35, e36, hf⟩ := j_bind hf
    refine j_le_trans (j_le_of (jput_n e36)) ?_
    obtain ⟨q37, e38, hf⟩ := j_bind hf
    refine j_le_trans (jnA_le e38) ?_
    obtain ⟨h39, e40, hf⟩ := j_bind hf
    refine j_le_trans (j_le_of (jput_n e40)) ?_
    obtain ⟨q41, e42, hf⟩ := j_bind hf
    refine j_le_trans (jnA_le e42) ?_
    obtain ⟨h43, e44, hf⟩ := j_bind hf
    refine j_le_trans (j_le_of (jput_n e44)) ?_
    obtain ⟨q45, e46, hf⟩ := j_bind hf
    refine j_le_trans (jnA_le e46) ?_
    obtain ⟨h47, e48, hf⟩ := j_bind hf
    refine j_le_trans (j_le_of (jput_n e48)) ?_
    obtain ⟨q49, e50, hf⟩ := j_bind hf
    refine j_le_trans (jnA_le e50) ?_
    obtain ⟨h51, e52, hf⟩ := j_bind hf
    refine j_le_trans (j_le_of (jput_n e52)) ?_
    obtain ⟨q53, e54, hf⟩ := j_bind hf
    refine j_le_trans (jnA_le e54) ?_
    obtain ⟨h55, e56, hf⟩ := j_bind hf
    refine j_le_trans (j_le_of (jput_n e56)) ?_
    obtain ⟨q57, e58, hf⟩ := j_bind hf
    refine j_le_trans (jnA_le e58) ?_
    obtain ⟨h59, e60, hf⟩ := j_bind hf
    refine j_le_trans (j_le_of (jput_n e60)) ?_
    obtain ⟨q61, e62, hf⟩ := j_bind hf
    refine j_le_trans (jnA_le e62) ?_
    obtain ⟨h63, e64, hf⟩ := j_bind hf
    refine j_le_trans (j_le_of (jput_n e64)) ?_
    obtain ⟨q65, e66, hf⟩ := j_bind hf
    refine j_le_trans (jnA_le e66) ?_
    obtain ⟨h67, e68, hf⟩ := j_bind hf
    refine j_le_trans (j_le_of (jput_n e68)) ?_
    obtain ⟨q69, e70, hf⟩ := j_bind hf
    refine j_le_trans (jnA_le e70) ?_
    obtain ⟨h71, e72, hf⟩ := j_bind hf
    refine j_le_trans (j_le_of (jput_n e72)) ?_
    obtain ⟨q73, e74, hf⟩ := j_bind hf
    refine j_le_trans (jnA_le e74) ?_
    obtain ⟨h75, e76, hf⟩ := j_bind hf
    refine j_le_trans (j_le_of (jput_n e76)) ?_
    obtain ⟨q77, e78, hf⟩ := j_bind hf
    refine j_le_trans (jnA_le e78) ?_
    obtain ⟨h79, e80, hf⟩ := j_bind hf
    refine j_le_trans (j_le_of (jput_n e80)) ?_
    obtain ⟨q81, e82, hf⟩ := j_bind hf
    refine j_le_trans (jnA_le e82) ?_
    obtain ⟨h83, e84, hf⟩ := j_bind hf
    refine j_le_trans (j_le_of (jput_n e84)) ?_
    obtain ⟨q85, e86, hf⟩ := j_bind hf
    refine j_le_trans (jnA_le e86) ?_
    obtain ⟨h87, e88, hf⟩ := j_bind hf
    refine j_le_trans (j_le_of (jput_n e88)) ?_
    obtain ⟨q89, e90, hf⟩ := j_bind hf
    refine j_le_trans (jnA_le e90) ?_
    obtain ⟨h91, e92, hf⟩ := j_bind hf
    refine j_le_trans (j_le_of (jput_n e92)) ?_
    obtain ⟨q93, e94, hf⟩ := j_bind hf
    refine j_le_trans (jnA_le e94) ?_
    obtain ⟨h95, e96, hf⟩ := j_bind hf
    refine j_le_trans (j_le_of (jput_n e96)) ?_
    obtain ⟨q97, e98, hf⟩ := j_bind hf
    refine j_le_trans (jnA_le e98) ?_
    obtain ⟨h99, e100, hf⟩ := j_bind hf
    refine j_le_trans (j_le_of (jput_n e100)) ?_
    obtain ⟨q101, e102, hf⟩ := j_bind hf
    refine j_le_trans (jnA_le e102) ?_
    obtain ⟨h103, e104, hf⟩ := j_bind hf
    refine j_le_trans (j_le_of (jput_n e104)) ?_
    obtain ⟨q105, e106, hf⟩ := j_bind hf
    refine j_le_trans (jnA_le e106) ?_
    obtain ⟨h107, e108, hf⟩ := j_bind hf
    refine j_le_trans (j_le_of (jput_n e108)) ?_
    obtain ⟨q109, e110, hf⟩ := j_bind hf
    refine j_le_trans (jnA_le e110) ?_
    obtain ⟨h111, e112, hf⟩ := j_bind hf
    refine j_le_trans (j_le_of (jput_n e112)) ?_
    obtain ⟨q113, e114, hf⟩ := j_bind hf
    refine j_le_trans (jnA_le e114) ?_
    obtain ⟨h115, e116, hf⟩ := j_bind hf
    refine j_le_trans (j_le_of (jput_n e116)) ?_
    obtain ⟨q117, e118, hf⟩ := j_bind hf
    refine j_le_trans (jnA_le e118) ?_
    obtain ⟨h119, e120, hf⟩ := j_bind hf
    refine j_le_trans (j_le_of (jput_n e120)) ?_
    obtain ⟨q121, e122, hf⟩ := j_bind hf
    refine j_le_trans (jnA_le e122) ?_
    obtain ⟨h123, e124, hf⟩ := j_bind hf
    refine j_le_trans (j_le_of (jput_n e124)) ?_
    obtain ⟨q125, e126, hf⟩ := j_bind hf
    refine j_le_trans (jnA_le e126) ?_
    obtain ⟨h127, e128, hf⟩ := j_bind hf
    refine j_le_trans (j_le_of (jput_n e128)) ?_
    obtain ⟨q129, e130, hf⟩ := j_bind hf
    refine j_le_trans (jnA_le e130) ?_
    obtain ⟨h131, e132, hf⟩ := j_bind hf
    refine j_le_trans (j_le_of (jput_n e132)) ?_
    obtain ⟨q133, e134, hf⟩ := j_bind hf
    refine j_le_trans (jnA_le e134) ?_
    obtain ⟨h135, e136, hf⟩ := j_bind hf
    refine j_le_trans (j_le_of (jput_n e136)) ?_
    obtain ⟨u143, e144, hf⟩ := j_bind hf
    obtain ⟨q137, e138, hf⟩ := j_bind hf
    refine j_le_trans (j_le_of ((q_X12_laysBasic e138))) ?_
    obtain ⟨u141, e142, hf⟩ := j_bind hf
    obtain ⟨q139, e140, hf⟩ := j_bind hf
    refine j_le_trans (j_le_of ((q_X12_takes e140))) ?_
    obtain rfl := j_inj hf
    exact j_le_refl _
  refine x_newa (q := q25.1) (h1 := q25.2) C dX12_init_65 rfl (by decide) (by decide) (fun q => q) wi_int e26 hle ?_
  obtain ⟨h27, e28, hf⟩ := j_bind hf
  refine x_putF C hin dX12_init_67 e28 fp_X12_62 rfl rfl ?_
  refine x_aload_n (v := a0) C dX12_init_70 rfl ?_
  refine x_bipush C dX12_init_71 kb_6 ?_
  obtain ⟨q29, e30, hf⟩ := j_bind hf
  have hle : j_le q29.2 q.2 := by
    obtain ⟨h31, e32, hf⟩ := j_bind hf
    refine j_le_trans (j_le_of (jput_n e32)) ?_
    obtain ⟨q33, e34, hf⟩ := j_bind hf
    refine j_le_trans (jnA_le e34) ?_
    obtain ⟨h35, e36, hf⟩ := j_bind hf
    refine j_le_trans (j_le_of (jput_n e36)) ?_
    obtain ⟨q37, e38, hf⟩ := j_bind hf
    refine j_le_trans (jnA_le e38) ?_
    obtain ⟨h39, e40, hf⟩ := j_bind hf
    refine j_le_trans (j_le_of (jput_n e40)) ?_
    obtain ⟨q41, e42, hf⟩ := j_bind hf
    refine j_le_trans (jnA_le e42) ?_
    obtain ⟨h43, e44, hf⟩ := j_bind hf
    refine j_le_trans (j_le_of (jput_n e44)) ?_
    obtain ⟨q45, e46, hf⟩ := j_bind hf
    refine j_le_trans (jnA_le e46) ?_
    obtain ⟨h47, e48, hf⟩ := j_bind hf
    refine j_le_trans (j_le_of (jput_n e48)) ?_
    obtain ⟨q49, e50, hf⟩ := j_bind hf
    refine j_le_trans (jnA_le e50) ?_
    obtain ⟨h51, e52, hf⟩ := j_bind hf
    refine j_le_trans (j_le_of (jput_n e52)) ?_
    obtain ⟨q53, e54, hf⟩ := j_bind hf
    refine j_le_trans (jnA_le e54) ?_
    obtain ⟨h55, e56, hf⟩ := j_bind hf
    refine j_le_trans (j_le_of (jput_n e56)) ?_
    obtain ⟨q57, e58, hf⟩ := j_bind hf
    refine j_le_trans (jnA_le e58) ?_
    obtain ⟨h59, e60, hf⟩ := j_bind hf
    refine j_le_trans (j_le_of (jput_n e60)) ?_
    obtain ⟨q61, e62, hf⟩ := j_bind hf
    refine j_le_trans (jnA_le e62) ?_
    obtain ⟨h63, e64, hf⟩ := j_bind hf
    refine j_le_trans (j_le_of (jput_n e64)) ?_
    obtain ⟨q65, e66, hf⟩ := j_bind hf
    refine j_le_trans (jnA_le e66) ?_
    obtain ⟨h67, e68, hf⟩ := j_bind hf
    refine j_le_trans (j_le_of (jput_n e68)) ?_
    obtain ⟨q69, e70, hf⟩ := j_bind hf
    refine j_le_trans (jnA_le e70) ?_
    obtain ⟨h71, e72, hf⟩ := j_bind hf
    refine j_le_trans (j_le_of (jput_n e72)) ?_
    obtain ⟨q73, e74, hf⟩ := j_bind hf
    refine j_le_trans (jnA_le e74) ?_
    obtain ⟨h75, e76, hf⟩ := j_bind hf
    refine j_le_trans (j_le_of (jput_n e76)) ?_
    obtain ⟨q77, e78, hf⟩ := j_bind hf
    refine j_le_trans (jnA_le e78) ?_
    obtain ⟨h79, e80, hf⟩ := j_bind hf
    refine j_le_trans (j_le_of (jput_n e80)) ?_
    obtain ⟨q81, e82, hf⟩ := j_bind hf
    refine j_le_trans (jnA_le e82) ?_
    obtain ⟨h83, e84, hf⟩ := j_bind hf
    refine j_le_trans (j_le_of (jput_n e84)) ?_
    obtain ⟨q85, e86, hf⟩ := j_bind hf
    refine j_le_trans (jnA_le e86) ?_
    obtain ⟨h87, e88, hf⟩ := j_bind hf
    refine j_le_trans (j_le_of (jput_n e88)) ?_
    obtain ⟨q89, e90, hf⟩ := j_bind hf
    refine j_le_trans (jnA_le e90) ?_
    obtain ⟨h91, e92, hf⟩ := j_bind hf
    refine j_le_trans (j_le_of (jput_n e92)) ?_
    obtain ⟨q93, e94, hf⟩ := j_bind hf
    refine j_le_trans (jnA_le e94) ?_
    obtain ⟨h95, e96, hf⟩ := j_bind hf
    refine j_le_trans (j_le_of (jput_n e96)) ?_
    obtain ⟨q97, e98, hf⟩ := j_bind hf
    refine j_le_trans (jnA_le e98) ?_
    obtain ⟨h99, e100, hf⟩ := j_bind hf
    refine j_le_trans (j_le_of (jput_n e100)) ?_
    obtain ⟨q101, e102, hf⟩ := j_bind hf
    refine j_le_trans (jnA_le e102) ?_
    obtain ⟨h103, e104, hf⟩ := j_bind hf
    refine j_le_trans (j_le_of (jput_n e104)) ?_
    obtain ⟨q105, e106, hf⟩ := j_bind hf
    refine j_le_trans (jnA_le e106) ?_
    obtain ⟨h107, e108, hf⟩ := j_bind hf
    refine j_le_trans (j_le_of (jput_n e108)) ?_
    obtain ⟨q109, e110, hf⟩ := j_bind hf
    refine j_le_trans (jnA_le e110) ?_
    obtain ⟨h111, e112, hf⟩ := j_bind hf
    refine j_le_trans (j_le_of (jput_n e112)) ?_
    obtain ⟨q113, e114, hf⟩ := j_bind hf
    refine j_le_trans (jnA_le e114) ?_
    obtain ⟨h115, e116, hf⟩ := j_bind hf
    refine j_le_trans (j_le_of (jput_n e116)) ?_
    obtain ⟨q117, e118, hf⟩ := j_bind hf
    refine j_le_trans (jnA_le e118) ?_
    obtain ⟨h119, e120, hf⟩ := j_bind hf
    refine j_le_trans (j_le_of (jput_n e120)) ?_
    obtain ⟨q121, e122, hf⟩ := j_bind hf
    refine j_le_trans (jnA_le e122) ?_
    obtain ⟨h123, e124, hf⟩ := j_bind hf
    refine j_le_trans (j_le_of (jput_n e124)) ?_
    obtain ⟨q125, e126, hf⟩ := j_bind hf
    refine j_le_trans (jnA_le e126) ?_
    obtain ⟨h127, e128, hf⟩ := j_bind hf
    refine j_le_trans (j_le_of (jput_n e128)) ?_
    obtain ⟨q129, e130, hf⟩ := j_bind hf
    refine j_le_trans (jnA_le e130) ?_
    obtain ⟨h131, e132, hf⟩ := j_bind hf
    refine j_le_trans (j_le_of (jput_n e132)) ?_
    obtain ⟨q133, e134, hf⟩ := j_bind hf
    refine j_le_trans (jnA_le e134) ?_
    obtain ⟨h135, e136, hf⟩ := j_bind hf
    refine j_le_trans (j_le_of (jput_n e136)) ?_
    obtain ⟨u143, e144, hf⟩ := j_bind hf
    obtain ⟨q137, e138, hf⟩ := j_bind hf
    refine j_le_trans (j_le_of ((q_X12_laysBasic e138))) ?_
    obtain ⟨u141, e142, hf⟩ := j_bind hf
    obtain ⟨q139, e140, hf⟩ := j_bind hf
    refine j_le_trans (j_le_of ((q_X12_takes e140))) ?_
    obtain rfl := j_inj hf
    exact j_le_refl _
  refine x_newa (q := q29.1) (h1 := q29.2) C dX12_init_73 rfl (by decide) (by decide) (fun q => q) wi_int e30 hle ?_
  obtain ⟨h31, e32, hf⟩ := j_bind hf
  refine x_putF C hin dX12_init_75 e32 fp_X12_72 rfl rfl ?_
  refine x_aload_n (v := a0) C dX12_init_78 rfl ?_
  refine x_sipush C dX12_init_79 ks_181 ?_
  obtain ⟨q33, e34, hf⟩ := j_bind hf
  have hle : j_le q33.2 q.2 := by
    obtain ⟨h35, e36, hf⟩ := j_bind hf
    refine j_le_trans (j_le_of (jput_n e36)) ?_
    obtain ⟨q37, e38, hf⟩ := j_bind hf
    refine j_le_trans (jnA_le e38) ?_
    obtain ⟨h39, e40, hf⟩ := j_bind hf
    refine j_le_trans (j_le_of (jput_n e40)) ?_
    obtain ⟨q41, e42, hf⟩ := j_bind hf
    refine j_le_trans (jnA_le e42) ?_
    obtain ⟨h43, e44, hf⟩ := j_bind hf
    refine j_le_trans (j_le_of (jput_n e44)) ?_
    obtain ⟨q45, e46, hf⟩ := j_bind hf
    refine j_le_trans (jnA_le e46) ?_
    obtain ⟨h47, e48, hf⟩ := j_bind hf
    refine j_le_trans (j_le_of (jput_n e48)) ?_
    obtain ⟨q49, e50, hf⟩ := j_bind hf
    refine j_le_trans (jnA_le e50) ?_
    obtain ⟨h51, e52, hf⟩ := j_bind hf
    refine j_le_trans (j_le_of (jput_n e52)) ?_
    obtain ⟨q53, e54, hf⟩ := j_bind hf
    refine j_le_trans (jnA_le e54) ?_
    obtain ⟨h55, e56, hf⟩ := j_bind hf
    refine j_le_trans (j_le_of (jput_n e56)) ?_
    obtain ⟨q57, e58, hf⟩ := j_bind hf
    refine j_le_trans (jnA_le e58) ?_
    obtain ⟨h59, e60, hf⟩ := j_bind hf
    refine j_le_trans (j_le_of (jput_n e60)) ?_
    obtain ⟨q61, e62, hf⟩ := j_bind hf
    refine j_le_trans (jnA_le e62) ?_
    obtain ⟨h63, e64, hf⟩ := j_bind hf
    refine j_le_trans (j_le_of (jput_n e64)) ?_
    obtain ⟨q65, e66, hf⟩ := j_bind hf
    refine j_le_trans (jnA_le e66) ?_
    obtain ⟨h67, e68, hf⟩ := j_bind hf
    refine j_le_trans (j_le_of (jput_n e68)) ?_
    obtain ⟨q69, e70, hf⟩ := j_bind hf
    refine j_le_trans (jnA_le e70) ?_
    obtain ⟨h71, e72, hf⟩ := j_bind hf
    refine j_le_trans (j_le_of (jput_n e72)) ?_
    obtain ⟨q73, e74, hf⟩ := j_bind hf
    refine j_le_trans (jnA_le e74) ?_
    obtain ⟨h75, e76, hf⟩ := j_bind hf
    refine j_le_trans (j_le_of (jput_n e76)) ?_
    obtain ⟨q77, e78, hf⟩ := j_bind hf
    refine j_le_trans (jnA_le e78) ?_
    obtain ⟨h79, e80, hf⟩ := j_bind hf
    refine j_le_trans (j_le_of (jput_n e80)) ?_
    obtain ⟨q81, e82, hf⟩ := j_bind hf
    refine j_le_trans (jnA_le e82) ?_
    obtain ⟨h83, e84, hf⟩ := j_bind hf
    refine j_le_trans (j_le_of (jput_n e84)) ?_
    obtain ⟨q85, e86, hf⟩ := j_bind hf
    refine j_le_trans (jnA_le e86) ?_
    obtain ⟨h87, e88, hf⟩ := j_bind hf
    refine j_le_trans (j_le_of (jput_n e88)) ?_
    obtain ⟨q89, e90, hf⟩ := j_bind hf
    refine j_le_trans (jnA_le e90) ?_
    obtain ⟨h91, e92, hf⟩ := j_bind hf
    refine j_le_trans (j_le_of (jput_n e92)) ?_
    obtain ⟨q93, e94, hf⟩ := j_bind hf
    refine j_le_trans (jnA_le e94) ?_
    obtain ⟨h95, e96, hf⟩ := j_bind hf
    refine j_le_trans (j_le_of (jput_n e96)) ?_
    obtain ⟨q97, e98, hf⟩ := j_bind hf
    refine j_le_trans (jnA_le e98) ?_
    obtain ⟨h99, e100, hf⟩ := j_bind hf
    refine j_le_trans (j_le_of (jput_n e100)) ?_
    obtain ⟨q101, e102, hf⟩ := j_bind hf
    refine j_le_trans (jnA_le e102) ?_
    obtain ⟨h103, e104, hf⟩ := j_bind hf
    refine j_le_trans (j_le_of (jput_n e104)) ?_
    obtain ⟨q105, e106, hf⟩ := j_bind hf
    refine j_le_trans (jnA_le e106) ?_
    obtain ⟨h107, e108, hf⟩ := j_bind hf
    refine j_le_trans (j_le_of (jput_n e108)) ?_
    obtain ⟨q109, e110, hf⟩ := j_bind hf
    refine j_le_trans (jnA_le e110) ?_
    obtain ⟨h111, e112, hf⟩ := j_bind hf
    refine j_le_trans (j_le_of (jput_n e112)) ?_
    obtain ⟨q113, e114, hf⟩ := j_bind hf
    refine j_le_trans (jnA_le e114) ?_
    obtain ⟨h115, e116, hf⟩ := j_bind hf
    refine j_le_trans (j_le_of (jput_n e116)) ?_
    obtain ⟨q117, e118, hf⟩ := j_bind hf
    refine j_le_trans (jnA_le e118) ?_
    obtain ⟨h119, e120, hf⟩ := j_bind hf
    refine j_le_trans (j_le_of (jput_n e120)) ?_
    obtain ⟨q121, e122, hf⟩ := j_bind hf
    refine j_le_trans (jnA_le e122) ?_
    obtain ⟨h123, e124, hf⟩ := j_bind hf
    refine j_le_trans (j_le_of (jput_n e124)) ?_
    obtain ⟨q125, e126, hf⟩ := j_bind hf
    refine j_le_trans (jnA_le e126) ?_
    obtain ⟨h127, e128, hf⟩ := j_bind hf
    refine j_le_trans (j_le_of (jput_n e128)) ?_
    obtain ⟨q129, e130, hf⟩ := j_bind hf
    refine j_le_trans (jnA_le e130) ?_
    obtain ⟨h131, e132, hf⟩ := j_bind hf
    refine j_le_trans (j_le_of (jput_n e132)) ?_
    obtain ⟨q133, e134, hf⟩ := j_bind hf
    refine j_le_trans (jnA_le e134) ?_
    obtain ⟨h135, e136, hf⟩ := j_bind hf
    refine j_le_trans (j_le_of (jput_n e136)) ?_
    obtain ⟨u143, e144, hf⟩ := j_bind hf
    obtain ⟨q137, e138, hf⟩ := j_bind hf
    refine j_le_trans (j_le_of ((q_X12_laysBasic e138))) ?_
    obtain ⟨u141, e142, hf⟩ := j_bind hf
    obtain ⟨q139, e140, hf⟩ := j_bind hf
    refine j_le_trans (j_le_of ((q_X12_takes e140))) ?_
    obtain rfl := j_inj hf
    exact j_le_refl _
  refine x_newa (q := q33.1) (h1 := q33.2) C dX12_init_82 rfl (by decide) (by decide) (fun q => q) wi_int e34 hle ?_
  obtain ⟨h35, e36, hf⟩ := j_bind hf
  refine x_putF C hin dX12_init_84 e36 fp_X12_69 rfl rfl ?_
  refine x_aload_n (v := a0) C dX12_init_87 rfl ?_
  refine x_sipush C dX12_init_88 ks_600 ?_
  obtain ⟨q37, e38, hf⟩ := j_bind hf
  have hle : j_le q37.2 q.2 := by
    obtain ⟨h39, e40, hf⟩ := j_bind hf
    refine j_le_trans (j_le_of (jput_n e40)) ?_
    obtain ⟨q41, e42, hf⟩ := j_bind hf
    refine j_le_trans (jnA_le e42) ?_
    obtain ⟨h43, e44, hf⟩ := j_bind hf
    refine j_le_trans (j_le_of (jput_n e44)) ?_
    obtain ⟨q45, e46, hf⟩ := j_bind hf
    refine j_le_trans (jnA_le e46) ?_
    obtain ⟨h47, e48, hf⟩ := j_bind hf
    refine j_le_trans (j_le_of (jput_n e48)) ?_
    obtain ⟨q49, e50, hf⟩ := j_bind hf
    refine j_le_trans (jnA_le e50) ?_
    obtain ⟨h51, e52, hf⟩ := j_bind hf
    refine j_le_trans (j_le_of (jput_n e52)) ?_
    obtain ⟨q53, e54, hf⟩ := j_bind hf
    refine j_le_trans (jnA_le e54) ?_
    obtain ⟨h55, e56, hf⟩ := j_bind hf
    refine j_le_trans (j_le_of (jput_n e56)) ?_
    obtain ⟨q57, e58, hf⟩ := j_bind hf
    refine j_le_trans (jnA_le e58) ?_
    obtain ⟨h59, e60, hf⟩ := j_bind hf
    refine j_le_trans (j_le_of (jput_n e60)) ?_
    obtain ⟨q61, e62, hf⟩ := j_bind hf
    refine j_le_trans (jnA_le e62) ?_
    obtain ⟨h63, e64, hf⟩ := j_bind hf
    refine j_le_trans (j_le_of (jput_n e64)) ?_
    obtain ⟨q65, e66, hf⟩ := j_bind hf
    refine j_le_trans (jnA_le e66) ?_
    obtain ⟨h67, e68, hf⟩ := j_bind hf
    refine j_le_trans (j_le_of (jput_n e68)) ?_
    obtain ⟨q69, e70, hf⟩ := j_bind hf
    refine j_le_trans (jnA_le e70) ?_
    obtain ⟨h71, e72, hf⟩ := j_bind hf
    refine j_le_trans (j_le_of (jput_n e72)) ?_
    obtain ⟨q73, e74, hf⟩ := j_bind hf
    refine j_le_trans (jnA_le e74) ?_
    obtain ⟨h75, e76, hf⟩ := j_bind hf
    refine j_le_trans (j_le_of (jput_n e76)) ?_
    obtain ⟨q77, e78, hf⟩ := j_bind hf
    refine j_le_trans (jnA_le e78) ?_
    obtain ⟨h79, e80, hf⟩ := j_bind hf
    refine j_le_trans (j_le_of (jput_n e80)) ?_
    obtain ⟨q81, e82, hf⟩ := j_bind hf
    refine j_le_trans (jnA_le e82) ?_
    obtain ⟨h83, e84, hf⟩ := j_bind hf
    refine j_le_trans (j_le_of (jput_n e84)) ?_
    obtain ⟨q85, e86, hf⟩ := j_bind hf
    refine j_le_trans (jnA_le e86) ?_
    obtain ⟨h87, e88, hf⟩ := j_bind hf
    refine j_le_trans (j_le_of (jput_n e88)) ?_
    obtain ⟨q89, e90, hf⟩ := j_bind hf
    refine j_le_trans (jnA_le e90) ?_
    obtain ⟨h91, e92, hf⟩ := j_bind hf
    refine j_le_trans (j_le_of (jput_n e92)) ?_
    obtain ⟨q93, e94, hf⟩ := j_bind hf
    refine j_le_trans (jnA_le e94) ?_
    obtain ⟨h95, e96, hf⟩ := j_bind hf
    refine j_le_trans (j_le_of (jput_n e96)) ?_
    obtain ⟨q97, e98, hf⟩ := j_bind hf
    refine j_le_trans (jnA_le e98) ?_
    obtain ⟨h99, e100, hf⟩ := j_bind hf
    refine j_le_trans (j_le_of (jput_n e100)) ?_
    obtain ⟨q101, e102, hf⟩ := j_bind hf
    refine j_le_trans (jnA_le e102) ?_
    obtain ⟨h103, e104, hf⟩ := j_bind hf
    refine j_le_trans (j_le_of (jput_n e104)) ?_
    obtain ⟨q105, e106, hf⟩ := j_bind hf
    refine j_le_trans (jnA_le e106) ?_
    obtain ⟨h107, e108, hf⟩ := j_bind hf
    refine j_le_trans (j_le_of (jput_n e108)) ?_
    obtain ⟨q109, e110, hf⟩ := j_bind hf
    refine j_le_trans (jnA_le e110) ?_
    obtain ⟨h111, e112, hf⟩ := j_bind hf
    refine j_le_trans (j_le_of (jput_n e112)) ?_
    obtain ⟨q113, e114, hf⟩ := j_bind hf
    refine j_le_trans (jnA_le e114) ?_
    obtain ⟨h115, e116, hf⟩ := j_bind hf
    refine j_le_trans (j_le_of (jput_n e116)) ?_
    obtain ⟨q117, e118, hf⟩ := j_bind hf
    refine j_le_trans (jnA_le e118) ?_
    obtain ⟨h119, e120, hf⟩ := j_bind hf
    refine j_le_trans (j_le_of (jput_n e120)) ?_
    obtain ⟨q121, e122, hf⟩ := j_bind hf
    refine j_le_trans (jnA_le e122) ?_
    obtain ⟨h123, e124, hf⟩ := j_bind hf
    refine j_le_trans (j_le_of (jput_n e124)) ?_
    obtain ⟨q125, e126, hf⟩ := j_bind hf
    refine j_le_trans (jnA_le e126) ?_
    obtain ⟨h127, e128, hf⟩ := j_bind hf
    refine j_le_trans (j_le_of (jput_n e128)) ?_
    obtain ⟨q129, e130, hf⟩ := j_bind hf
    refine j_le_trans (jnA_le e130) ?_
    obtain ⟨h131, e132, hf⟩ := j_bind hf
    refine j_le_trans (j_le_of (jput_n e132)) ?_
    obtain ⟨q133, e134, hf⟩ := j_bind hf
    refine j_le_trans (jnA_le e134) ?_
    obtain ⟨h135, e136, hf⟩ := j_bind hf
    refine j_le_trans (j_le_of (jput_n e136)) ?_
    obtain ⟨u143, e144, hf⟩ := j_bind hf
    obtain ⟨q137, e138, hf⟩ := j_bind hf
    refine j_le_trans (j_le_of ((q_X12_laysBasic e138))) ?_
    obtain ⟨u141, e142, hf⟩ := j_bind hf
    obtain ⟨q139, e140, hf⟩ := j_bind hf
    refine j_le_trans (j_le_of ((q_X12_takes e140))) ?_
    obtain rfl := j_inj hf
    exact j_le_refl _
  refine x_newa (q := q37.1) (h1 := q37.2) C dX12_init_91 rfl (by decide) (by decide) (fun q => q) wi_byte e38 hle ?_
  obtain ⟨h39, e40, hf⟩ := j_bind hf
  refine x_putF C hin dX12_init_93 e40 fp_X12_81 rfl rfl ?_
  refine x_aload_n (v := a0) C dX12_init_96 rfl ?_
  refine x_bipush C dX12_init_97 kb_6 ?_
  obtain ⟨q41, e42, hf⟩ := j_bind hf
  have hle : j_le q41.2 q.2 := by
    obtain ⟨h43, e44, hf⟩ := j_bind hf
    refine j_le_trans (j_le_of (jput_n e44)) ?_
    obtain ⟨q45, e46, hf⟩ := j_bind hf
    refine j_le_trans (jnA_le e46) ?_
    obtain ⟨h47, e48, hf⟩ := j_bind hf
    refine j_le_trans (j_le_of (jput_n e48)) ?_
    obtain ⟨q49, e50, hf⟩ := j_bind hf
    refine j_le_trans (jnA_le e50) ?_
    obtain ⟨h51, e52, hf⟩ := j_bind hf
    refine j_le_trans (j_le_of (jput_n e52)) ?_
    obtain ⟨q53, e54, hf⟩ := j_bind hf
    refine j_le_trans (jnA_le e54) ?_
    obtain ⟨h55, e56, hf⟩ := j_bind hf
    refine j_le_trans (j_le_of (jput_n e56)) ?_
    obtain ⟨q57, e58, hf⟩ := j_bind hf
    refine j_le_trans (jnA_le e58) ?_
    obtain ⟨h59, e60, hf⟩ := j_bind hf
    refine j_le_trans (j_le_of (jput_n e60)) ?_
    obtain ⟨q61, e62, hf⟩ := j_bind hf
    refine j_le_trans (jnA_le e62) ?_
    obtain ⟨h63, e64, hf⟩ := j_bind hf
    refine j_le_trans (j_le_of (jput_n e64)) ?_
    obtain ⟨q65, e66, hf⟩ := j_bind hf
    refine j_le_trans (jnA_le e66) ?_
    obtain ⟨h67, e68, hf⟩ := j_bind hf
    refine j_le_trans (j_le_of (jput_n e68)) ?_
    obtain ⟨q69, e70, hf⟩ := j_bind hf
    refine j_le_trans (jnA_le e70) ?_
    obtain ⟨h71, e72, hf⟩ := j_bind hf
    refine j_le_trans (j_le_of (jput_n e72)) ?_
    obtain ⟨q73, e74, hf⟩ := j_bind hf
    refine j_le_trans (jnA_le e74) ?_
    obtain ⟨h75, e76, hf⟩ := j_bind hf
    refine j_le_trans (j_le_of (jput_n e76)) ?_
    obtain ⟨q77, e78, hf⟩ := j_bind hf
    refine j_le_trans (jnA_le e78) ?_
    obtain ⟨h79, e80, hf⟩ := j_bind hf
    refine j_le_trans (j_le_of (jput_n e80)) ?_
    obtain ⟨q81, e82, hf⟩ := j_bind hf
    refine j_le_trans (jnA_le e82) ?_
    obtain ⟨h83, e84, hf⟩ := j_bind hf
    refine j_le_trans (j_le_of (jput_n e84)) ?_
    obtain ⟨q85, e86, hf⟩ := j_bind hf
    refine j_le_trans (jnA_le e86) ?_
    obtain ⟨h87, e88, hf⟩ := j_bind hf
    refine j_le_trans (j_le_of (jput_n e88)) ?_
    obtain ⟨q89, e90, hf⟩ := j_bind hf
    refine j_le_trans (jnA_le e90) ?_
    obtain ⟨h91, e92, hf⟩ := j_bind hf
    refine j_le_trans (j_le_of (jput_n e92)) ?_
    obtain ⟨q93, e94, hf⟩ := j_bind hf
    refine j_le_trans (jnA_le e94) ?_
    obtain ⟨h95, e96, hf⟩ := j_bind hf
    refine j_le_trans (j_le_of (jput_n e96)) ?_
    obtain ⟨q97, e98, hf⟩ := j_bind hf
    refine j_le_trans (jnA_le e98) ?_
    obtain ⟨h99, e100, hf⟩ := j_bind hf
    refine j_le_trans (j_le_of (jput_n e100)) ?_
    obtain ⟨q101, e102, hf⟩ := j_bind hf
    refine j_le_trans (jnA_le e102) ?_
    obtain ⟨h103, e104, hf⟩ := j_bind hf
    refine j_le_trans (j_le_of (jput_n e104)) ?_
    obtain ⟨q105, e106, hf⟩ := j_bind hf
    refine j_le_trans (jnA_le e106) ?_
    obtain ⟨h107, e108, hf⟩ := j_bind hf
    refine j_le_trans (j_le_of (jput_n e108)) ?_
    obtain ⟨q109, e110, hf⟩ := j_bind hf
    refine j_le_trans (jnA_le e110) ?_
    obtain ⟨h111, e112, hf⟩ := j_bind hf
    refine j_le_trans (j_le_of (jput_n e112)) ?_
    obtain ⟨q113, e114, hf⟩ := j_bind hf
    refine j_le_trans (jnA_le e114) ?_
    obtain ⟨h115, e116, hf⟩ := j_bind hf
    refine j_le_trans (j_le_of (jput_n e116)) ?_
    obtain ⟨q117, e118, hf⟩ := j_bind hf
    refine j_le_trans (jnA_le e118) ?_
    obtain ⟨h119, e120, hf⟩ := j_bind hf
    refine j_le_trans (j_le_of (jput_n e120)) ?_
    obtain ⟨q121, e122, hf⟩ := j_bind hf
    refine j_le_trans (jnA_le e122) ?_
    obtain ⟨h123, e124, hf⟩ := j_bind hf
    refine j_le_trans (j_le_of (jput_n e124)) ?_
    obtain ⟨q125, e126, hf⟩ := j_bind hf
    refine j_le_trans (jnA_le e126) ?_
    obtain ⟨h127, e128, hf⟩ := j_bind hf
    refine j_le_trans (j_le_of (jput_n e128)) ?_
    obtain ⟨q129, e130, hf⟩ := j_bind hf
    refine j_le_trans (jnA_le e130) ?_
    obtain ⟨h131, e132, hf⟩ := j_bind hf
    refine j_le_trans (j_le_of (jput_n e132)) ?_
    obtain ⟨q133, e134, hf⟩ := j_bind hf
    refine j_le_trans (jnA_le e134) ?_
    obtain ⟨h135, e136, hf⟩ := j_bind hf
    refine j_le_trans (j_le_of (jput_n e136)) ?_
    obtain ⟨u143, e144, hf⟩ := j_bind hf
    obtain ⟨q137, e138, hf⟩ := j_bind hf
    refine j_le_trans (j_le_of ((q_X12_laysBasic e138))) ?_
    obtain ⟨u141, e142, hf⟩ := j_bind hf
    obtain ⟨q139, e140, hf⟩ := j_bind hf
    refine j_le_trans (j_le_of ((q_X12_takes e140))) ?_
    obtain rfl := j_inj hf
    exact j_le_refl _
  refine x_newa (q := q41.1) (h1 := q41.2) C dX12_init_99 rfl (by decide) (by decide) (fun q => q) wi_int e42 hle ?_
  obtain ⟨h43, e44, hf⟩ := j_bind hf
  refine x_putF C hin dX12_init_101 e44 fp_X12_209 rfl rfl ?_
  refine x_aload_n (v := a0) C dX12_init_104 rfl ?_
  refine x_sipush C dX12_init_105 ks_1086 ?_
  obtain ⟨q45, e46, hf⟩ := j_bind hf
  have hle : j_le q45.2 q.2 := by
    obtain ⟨h47, e48, hf⟩ := j_bind hf
    refine j_le_trans (j_le_of (jput_n e48)) ?_
    obtain ⟨q49, e50, hf⟩ := j_bind hf
    refine j_le_trans (jnA_le e50) ?_
    obtain ⟨h51, e52, hf⟩ := j_bind hf
    refine j_le_trans (j_le_of (jput_n e52)) ?_
    obtain ⟨q53, e54, hf⟩ := j_bind hf
    refine j_le_trans (jnA_le e54) ?_
    obtain ⟨h55, e56, hf⟩ := j_bind hf
    refine j_le_trans (j_le_of (jput_n e56)) ?_
    obtain ⟨q57, e58, hf⟩ := j_bind hf
    refine j_le_trans (jnA_le e58) ?_
    obtain ⟨h59, e60, hf⟩ := j_bind hf
    refine j_le_trans (j_le_of (jput_n e60)) ?_
    obtain ⟨q61, e62, hf⟩ := j_bind hf
    refine j_le_trans (jnA_le e62) ?_
    obtain ⟨h63, e64, hf⟩ := j_bind hf
    refine j_le_trans (j_le_of (jput_n e64)) ?_
    obtain ⟨q65, e66, hf⟩ := j_bind hf
    refine j_le_trans (jnA_le e66) ?_
    obtain ⟨h67, e68, hf⟩ := j_bind hf
    refine j_le_trans (j_le_of (jput_n e68)) ?_
    obtain ⟨q69, e70, hf⟩ := j_bind hf
    refine j_le_trans (jnA_le e70) ?_
    obtain ⟨h71, e72, hf⟩ := j_bind hf
    refine j_le_trans (j_le_of (jput_n e72)) ?_
    obtain ⟨q73, e74, hf⟩ := j_bind hf
    refine j_le_trans (jnA_le e74) ?_
    obtain ⟨h75, e76, hf⟩ := j_bind hf
    refine j_le_trans (j_le_of (jput_n e76)) ?_
    obtain ⟨q77, e78, hf⟩ := j_bind hf
    refine j_le_trans (jnA_le e78) ?_
    obtain ⟨h79, e80, hf⟩ := j_bind hf
    refine j_le_trans (j_le_of (jput_n e80)) ?_
    obtain ⟨q81, e82, hf⟩ := j_bind hf
    refine j_le_trans (jnA_le e82) ?_
    obtain ⟨h83, e84, hf⟩ := j_bind hf
    refine j_le_trans (j_le_of (jput_n e84)) ?_
    obtain ⟨q85, e86, hf⟩ := j_bind hf
    refine j_le_trans (jnA_le e86) ?_
    obtain ⟨h87, e88, hf⟩ := j_bind hf
    refine j_le_trans (j_le_of (jput_n e88)) ?_
    obtain ⟨q89, e90, hf⟩ := j_bind hf
    refine j_le_trans (jnA_le e90) ?_
    obtain ⟨h91, e92, hf⟩ := j_bind hf
    refine j_le_trans (j_le_of (jput_n e92)) ?_
    obtain ⟨q93, e94, hf⟩ := j_bind hf
    refine j_le_trans (jnA_le e94) ?_
    obtain ⟨h95, e96, hf⟩ := j_bind hf
    refine j_le_trans (j_le_of (jput_n e96)) ?_
    obtain ⟨q97, e98, hf⟩ := j_bind hf
    refine j_le_trans (jnA_le e98) ?_
    obtain ⟨h99, e100, hf⟩ := j_bind hf
    refine j_le_trans (j_le_of (jput_n e100)) ?_
    obtain ⟨q101, e102, hf⟩ := j_bind hf
    refine j_le_trans (jnA_le e102) ?_
    obtain ⟨h103, e104, hf⟩ := j_bind hf
    refine j_le_trans (j_le_of (jput_n e104)) ?_
    obtain ⟨q105, e106, hf⟩ := j_bind hf
    refine j_le_trans (jnA_le e106) ?_
    obtain ⟨h107, e108, hf⟩ := j_bind hf
    refine j_le_trans (j_le_of (jput_n e108)) ?_
    obtain ⟨q109, e110, hf⟩ := j_bind hf
    refine j_le_trans (jnA_le e110) ?_
    obtain ⟨h111, e112, hf⟩ := j_bind hf
    refine j_le_trans (j_le_of (jput_n e112)) ?_
    obtain ⟨q113, e114, hf⟩ := j_bind hf
    refine j_le_trans (jnA_le e114) ?_
    obtain ⟨h115, e116, hf⟩ := j_bind hf
    refine j_le_trans (j_le_of (jput_n e116)) ?_
    obtain ⟨q117, e118, hf⟩ := j_bind hf
    refine j_le_trans (jnA_le e118) ?_
    obtain ⟨h119, e120, hf⟩ := j_bind hf
    refine j_le_trans (j_le_of (jput_n e120)) ?_
    obtain ⟨q121, e122, hf⟩ := j_bind hf
    refine j_le_trans (jnA_le e122) ?_
    obtain ⟨h123, e124, hf⟩ := j_bind hf
    refine j_le_trans (j_le_of (jput_n e124)) ?_
    obtain ⟨q125, e126, hf⟩ := j_bind hf
    refine j_le_trans (jnA_le e126) ?_
    obtain ⟨h127, e128, hf⟩ := j_bind hf
    refine j_le_trans (j_le_of (jput_n e128)) ?_
    obtain ⟨q129, e130, hf⟩ := j_bind hf
    refine j_le_trans (jnA_le e130) ?_
    obtain ⟨h131, e132, hf⟩ := j_bind hf
    refine j_le_trans (j_le_of (jput_n e132)) ?_
    obtain ⟨q133, e134, hf⟩ := j_bind hf
    refine j_le_trans (jnA_le e134) ?_
    obtain ⟨h135, e136, hf⟩ := j_bind hf
    refine j_le_trans (j_le_of (jput_n e136)) ?_
    obtain ⟨u143, e144, hf⟩ := j_bind hf
    obtain ⟨q137, e138, hf⟩ := j_bind hf
    refine j_le_trans (j_le_of ((q_X12_laysBasic e138))) ?_
    obtain ⟨u141, e142, hf⟩ := j_bind hf
    obtain ⟨q139, e140, hf⟩ := j_bind hf
    refine j_le_trans (j_le_of ((q_X12_takes e140))) ?_
    obtain rfl := j_inj hf
    exact j_le_refl _
  refine x_newa (q := q45.1) (h1 := q45.2) C dX12_init_108 rfl (by decide) (by decide) (fun q => q) wi_int e46 hle ?_
  obtain ⟨h47, e48, hf⟩ := j_bind hf
  refine x_putF C hin dX12_init_110 e48 fp_X12_212 rfl rfl ?_
  refine x_aload_n (v := a0) C dX12_init_113 rfl ?_
  refine x_bipush C dX12_init_114 kb_6 ?_
  obtain ⟨q49, e50, hf⟩ := j_bind hf
  have hle : j_le q49.2 q.2 := by
    obtain ⟨h51, e52, hf⟩ := j_bind hf
    refine j_le_trans (j_le_of (jput_n e52)) ?_
    obtain ⟨q53, e54, hf⟩ := j_bind hf
    refine j_le_trans (jnA_le e54) ?_
    obtain ⟨h55, e56, hf⟩ := j_bind hf
    refine j_le_trans (j_le_of (jput_n e56)) ?_
    obtain ⟨q57, e58, hf⟩ := j_bind hf
    refine j_le_trans (jnA_le e58) ?_
    obtain ⟨h59, e60, hf⟩ := j_bind hf
    refine j_le_trans (j_le_of (jput_n e60)) ?_
    obtain ⟨q61, e62, hf⟩ := j_bind hf
    refine j_le_trans (jnA_le e62) ?_
    obtain ⟨h63, e64, hf⟩ := j_bind hf
    refine j_le_trans (j_le_of (jput_n e64)) ?_
    obtain ⟨q65, e66, hf⟩ := j_bind hf
    refine j_le_trans (jnA_le e66) ?_
    obtain ⟨h67, e68, hf⟩ := j_bind hf
    refine j_le_trans (j_le_of (jput_n e68)) ?_
    obtain ⟨q69, e70, hf⟩ := j_bind hf
    refine j_le_trans (jnA_le e70) ?_
    obtain ⟨h71, e72, hf⟩ := j_bind hf
    refine j_le_trans (j_le_of (jput_n e72)) ?_
    obtain ⟨q73, e74, hf⟩ := j_bind hf
    refine j_le_trans (jnA_le e74) ?_
    obtain ⟨h75, e76, hf⟩ := j_bind hf
    refine j_le_trans (j_le_of (jput_n e76)) ?_
    obtain ⟨q77, e78, hf⟩ := j_bind hf
    refine j_le_trans (jnA_le e78) ?_
    obtain ⟨h79, e80, hf⟩ := j_bind hf
    refine j_le_trans (j_le_of (jput_n e80)) ?_
    obtain ⟨q81, e82, hf⟩ := j_bind hf
    refine j_le_trans (jnA_le e82) ?_
    obtain ⟨h83, e84, hf⟩ := j_bind hf
    refine j_le_trans (j_le_of (jput_n e84)) ?_
    obtain ⟨q85, e86, hf⟩ := j_bind hf
    refine j_le_trans (jnA_le e86) ?_
    obtain ⟨h87, e88, hf⟩ := j_bind hf
    refine j_le_trans (j_le_of (jput_n e88)) ?_
    obtain ⟨q89, e90, hf⟩ := j_bind hf
    refine j_le_trans (jnA_le e90) ?_
    obtain ⟨h91, e92, hf⟩ := j_bind hf
    refine j_le_trans (j_le_of (jput_n e92)) ?_
    obtain ⟨q93, e94, hf⟩ := j_bind hf
    refine j_le_trans (jnA_le e94) ?_
    obtain ⟨h95, e96, hf⟩ := j_bind hf
    refine j_le_trans (j_le_of (jput_n e96)) ?_
    obtain ⟨q97, e98, hf⟩ := j_bind hf
    refine j_le_trans (jnA_le e98) ?_
    obtain ⟨h99, e100, hf⟩ := j_bind hf
    refine j_le_trans (j_le_of (jput_n e100)) ?_
    obtain ⟨q101, e102, hf⟩ := j_bind hf
    refine j_le_trans (jnA_le e102) ?_
    obtain ⟨h103, e104, hf⟩ := j_bind hf
    refine j_le_trans (j_le_of (jput_n e104)) ?_
    obtain ⟨q105, e106, hf⟩ := j_bind hf
    refine j_le_trans (jnA_le e106) ?_
    obtain ⟨h107, e108, hf⟩ := j_bind hf
    refine j_le_trans (j_le_of (jput_n e108)) ?_
    obtain ⟨q109, e110, hf⟩ := j_bind hf
    refine j_le_trans (jnA_le e110) ?_
    obtain ⟨h111, e112, hf⟩ := j_bind hf
    refine j_le_trans (j_le_of (jput_n e112)) ?_
    obtain ⟨q113, e114, hf⟩ := j_bind hf
    refine j_le_trans (jnA_le e114) ?_
    obtain ⟨h115, e116, hf⟩ := j_bind hf
    refine j_le_trans (j_le_of (jput_n e116)) ?_
    obtain ⟨q117, e118, hf⟩ := j_bind hf
    refine j_le_trans (jnA_le e118) ?_
    obtain ⟨h119, e120, hf⟩ := j_bind hf
    refine j_le_trans (j_le_of (jput_n e120)) ?_
    obtain ⟨q121, e122, hf⟩ := j_bind hf
    refine j_le_trans (jnA_le e122) ?_
    obtain ⟨h123, e124, hf⟩ := j_bind hf
    refine j_le_trans (j_le_of (jput_n e124)) ?_
    obtain ⟨q125, e126, hf⟩ := j_bind hf
    refine j_le_trans (jnA_le e126) ?_
    obtain ⟨h127, e128, hf⟩ := j_bind hf
    refine j_le_trans (j_le_of (jput_n e128)) ?_
    obtain ⟨q129, e130, hf⟩ := j_bind hf
    refine j_le_trans (jnA_le e130) ?_
    obtain ⟨h131, e132, hf⟩ := j_bind hf
    refine j_le_trans (j_le_of (jput_n e132)) ?_
    obtain ⟨q133, e134, hf⟩ := j_bind hf
    refine j_le_trans (jnA_le e134) ?_
    obtain ⟨h135, e136, hf⟩ := j_bind hf
    refine j_le_trans (j_le_of (jput_n e136)) ?_
    obtain ⟨u143, e144, hf⟩ := j_bind hf
    obtain ⟨q137, e138, hf⟩ := j_bind hf
    refine j_le_trans (j_le_of ((q_X12_laysBasic e138))) ?_
    obtain ⟨u141, e142, hf⟩ := j_bind hf
    obtain ⟨q139, e140, hf⟩ := j_bind hf
    refine j_le_trans (j_le_of ((q_X12_takes e140))) ?_
    obtain rfl := j_inj hf
    exact j_le_refl _
  refine x_newa (q := q49.1) (h1 := q49.2) C dX12_init_116 rfl (by decide) (by decide) (fun q => q) wi_int e50 hle ?_
  obtain ⟨h51, e52, hf⟩ := j_bind hf
  refine x_putF C hin dX12_init_118 e52 fp_X12_132 rfl rfl ?_
  refine x_aload_n (v := a0) C dX12_init_121 rfl ?_
  refine x_bipush C dX12_init_122 kb_36 ?_
  obtain ⟨q53, e54, hf⟩ := j_bind hf
  have hle : j_le q53.2 q.2 := by
    obtain ⟨h55, e56, hf⟩ := j_bind hf
    refine j_le_trans (j_le_of (jput_n e56)) ?_
    obtain ⟨q57, e58, hf⟩ := j_bind hf
    refine j_le_trans (jnA_le e58) ?_
    obtain ⟨h59, e60, hf⟩ := j_bind hf
    refine j_le_trans (j_le_of (jput_n e60)) ?_
    obtain ⟨q61, e62, hf⟩ := j_bind hf
    refine j_le_trans (jnA_le e62) ?_
    obtain ⟨h63, e64, hf⟩ := j_bind hf
    refine j_le_trans (j_le_of (jput_n e64)) ?_
    obtain ⟨q65, e66, hf⟩ := j_bind hf
    refine j_le_trans (jnA_le e66) ?_
    obtain ⟨h67, e68, hf⟩ := j_bind hf
    refine j_le_trans (j_le_of (jput_n e68)) ?_
    obtain ⟨q69, e70, hf⟩ := j_bind hf
    refine j_le_trans (jnA_le e70) ?_
    obtain ⟨h71, e72, hf⟩ := j_bind hf
    refine j_le_trans (j_le_of (jput_n e72)) ?_
    obtain ⟨q73, e74, hf⟩ := j_bind hf
    refine j_le_trans (jnA_le e74) ?_
    obtain ⟨h75, e76, hf⟩ := j_bind hf
    refine j_le_trans (j_le_of (jput_n e76)) ?_
    obtain ⟨q77, e78, hf⟩ := j_bind hf
    refine j_le_trans (jnA_le e78) ?_
    obtain ⟨h79, e80, hf⟩ := j_bind hf
    refine j_le_trans (j_le_of (jput_n e80)) ?_
    obtain ⟨q81, e82, hf⟩ := j_bind hf
    refine j_le_trans (jnA_le e82) ?_
    obtain ⟨h83, e84, hf⟩ := j_bind hf
    refine j_le_trans (j_le_of (jput_n e84)) ?_
    obtain ⟨q85, e86, hf⟩ := j_bind hf
    refine j_le_trans (jnA_le e86) ?_
    obtain ⟨h87, e88, hf⟩ := j_bind hf
    refine j_le_trans (j_le_of (jput_n e88)) ?_
    obtain ⟨q89, e90, hf⟩ := j_bind hf
    refine j_le_trans (jnA_le e90) ?_
    obtain ⟨h91, e92, hf⟩ := j_bind hf
    refine j_le_trans (j_le_of (jput_n e92)) ?_
    obtain ⟨q93, e94, hf⟩ := j_bind hf
    refine j_le_trans (jnA_le e94) ?_
    obtain ⟨h95, e96, hf⟩ := j_bind hf
    refine j_le_trans (j_le_of (jput_n e96)) ?_
    obtain ⟨q97, e98, hf⟩ := j_bind hf
    refine j_le_trans (jnA_le e98) ?_
    obtain ⟨h99, e100, hf⟩ := j_bind hf
    refine j_le_trans (j_le_of (jput_n e100)) ?_
    obtain ⟨q101, e102, hf⟩ := j_bind hf
    refine j_le_trans (jnA_le e102) ?_
    obtain ⟨h103, e104, hf⟩ := j_bind hf
    refine j_le_trans (j_le_of (jput_n e104)) ?_
    obtain ⟨q105, e106, hf⟩ := j_bind hf
    refine j_le_trans (jnA_le e106) ?_
    obtain ⟨h107, e108, hf⟩ := j_bind hf
    refine j_le_trans (j_le_of (jput_n e108)) ?_
    obtain ⟨q109, e110, hf⟩ := j_bind hf
    refine j_le_trans (jnA_le e110) ?_
    obtain ⟨h111, e112, hf⟩ := j_bind hf
    refine j_le_trans (j_le_of (jput_n e112)) ?_
    obtain ⟨q113, e114, hf⟩ := j_bind hf
    refine j_le_trans (jnA_le e114) ?_
    obtain ⟨h115, e116, hf⟩ := j_bind hf
    refine j_le_trans (j_le_of (jput_n e116)) ?_
    obtain ⟨q117, e118, hf⟩ := j_bind hf
    refine j_le_trans (jnA_le e118) ?_
    obtain ⟨h119, e120, hf⟩ := j_bind hf
    refine j_le_trans (j_le_of (jput_n e120)) ?_
    obtain ⟨q121, e122, hf⟩ := j_bind hf
    refine j_le_trans (jnA_le e122) ?_
    obtain ⟨h123, e124, hf⟩ := j_bind hf
    refine j_le_trans (j_le_of (jput_n e124)) ?_
    obtain ⟨q125, e126, hf⟩ := j_bind hf
    refine j_le_trans (jnA_le e126) ?_
    obtain ⟨h127, e128, hf⟩ := j_bind hf
    refine j_le_trans (j_le_of (jput_n e128)) ?_
    obtain ⟨q129, e130, hf⟩ := j_bind hf
    refine j_le_trans (jnA_le e130) ?_
    obtain ⟨h131, e132, hf⟩ := j_bind hf
    refine j_le_trans (j_le_of (jput_n e132)) ?_
    obtain ⟨q133, e134, hf⟩ := j_bind hf
    refine j_le_trans (jnA_le e134) ?_
    obtain ⟨h135, e136, hf⟩ := j_bind hf
    refine j_le_trans (j_le_of (jput_n e136)) ?_
    obtain ⟨u143, e144, hf⟩ := j_bind hf
    obtain ⟨q137, e138, hf⟩ := j_bind hf
    refine j_le_trans (j_le_of ((q_X12_laysBasic e138))) ?_
    obtain ⟨u141, e142, hf⟩ := j_bind hf
    obtain ⟨q139, e140, hf⟩ := j_bind hf
    refine j_le_trans (j_le_of ((q_X12_takes e140))) ?_
    obtain rfl := j_inj hf
    exact j_le_refl _
  refine x_newa (q := q53.1) (h1 := q53.2) C dX12_init_124 rfl (by decide) (by decide) (fun q => q) wi_int e54 hle ?_
  obtain ⟨h55, e56, hf⟩ := j_bind hf
  refine x_putF C hin dX12_init_126 e56 fp_X12_135 rfl rfl ?_
  refine x_aload_n (v := a0) C dX12_init_129 rfl ?_
  refine x_bipush C dX12_init_130 kb_6 ?_
  obtain ⟨q57, e58, hf⟩ := j_bind hf
  have hle : j_le q57.2 q.2 := by
    obtain ⟨h59, e60, hf⟩ := j_bind hf
    refine j_le_trans (j_le_of (jput_n e60)) ?_
    obtain ⟨q61, e62, hf⟩ := j_bind hf
    refine j_le_trans (jnA_le e62) ?_
    obtain ⟨h63, e64, hf⟩ := j_bind hf
    refine j_le_trans (j_le_of (jput_n e64)) ?_
    obtain ⟨q65, e66, hf⟩ := j_bind hf
    refine j_le_trans (jnA_le e66) ?_
    obtain ⟨h67, e68, hf⟩ := j_bind hf
    refine j_le_trans (j_le_of (jput_n e68)) ?_
    obtain ⟨q69, e70, hf⟩ := j_bind hf
    refine j_le_trans (jnA_le e70) ?_
    obtain ⟨h71, e72, hf⟩ := j_bind hf
    refine j_le_trans (j_le_of (jput_n e72)) ?_
    obtain ⟨q73, e74, hf⟩ := j_bind hf
    refine j_le_trans (jnA_le e74) ?_
    obtain ⟨h75, e76, hf⟩ := j_bind hf
    refine j_le_trans (j_le_of (jput_n e76)) ?_
    obtain ⟨q77, e78, hf⟩ := j_bind hf
    refine j_le_trans (jnA_le e78) ?_
    obtain ⟨h79, e80, hf⟩ := j_bind hf
    refine j_le_trans (j_le_of (jput_n e80)) ?_
    obtain ⟨q81, e82, hf⟩ := j_bind hf
    refine j_le_trans (jnA_le e82) ?_
    obtain ⟨h83, e84, hf⟩ := j_bind hf
    refine j_le_trans (j_le_of (jput_n e84)) ?_
    obtain ⟨q85, e86, hf⟩ := j_bind hf
    refine j_le_trans (jnA_le e86) ?_
    obtain ⟨h87, e88, hf⟩ := j_bind hf
    refine j_le_trans (j_le_of (jput_n e88)) ?_
    obtain ⟨q89, e90, hf⟩ := j_bind hf
    refine j_le_trans (jnA_le e90) ?_
    obtain ⟨h91, e92, hf⟩ := j_bind hf
    refine j_le_trans (j_le_of (jput_n e92)) ?_
    obtain ⟨q93, e94, hf⟩ := j_bind hf
    refine j_le_trans (jnA_le e94) ?_
    obtain ⟨h95, e96, hf⟩ := j_bind hf
    refine j_le_trans (j_le_of (jput_n e96)) ?_
    obtain ⟨q97, e98, hf⟩ := j_bind hf
    refine j_le_trans (jnA_le e98) ?_
    obtain ⟨h99, e100, hf⟩ := j_bind hf
    refine j_le_trans (j_le_of (jput_n e100)) ?_
    obtain ⟨q101, e102, hf⟩ := j_bind hf
    refine j_le_trans (jnA_le e102) ?_
    obtain ⟨h103, e104, hf⟩ := j_bind hf
    refine j_le_trans (j_le_of (jput_n e104)) ?_
    obtain ⟨q105, e106, hf⟩ := j_bind hf
    refine j_le_trans (jnA_le e106) ?_
    obtain ⟨h107, e108, hf⟩ := j_bind hf
    refine j_le_trans (j_le_of (jput_n e108)) ?_
    obtain ⟨q109, e110, hf⟩ := j_bind hf
    refine j_le_trans (jnA_le e110) ?_
    obtain ⟨h111, e112, hf⟩ := j_bind hf
    refine j_le_trans (j_le_of (jput_n e112)) ?_
    obtain ⟨q113, e114, hf⟩ := j_bind hf
    refine j_le_trans (jnA_le e114) ?_
    obtain ⟨h115, e116, hf⟩ := j_bind hf
    refine j_le_trans (j_le_of (jput_n e116)) ?_
    obtain ⟨q117, e118, hf⟩ := j_bind hf
    refine j_le_trans (jnA_le e118) ?_
    obtain ⟨h119, e120, hf⟩ := j_bind hf
    refine j_le_trans (j_le_of (jput_n e120)) ?_
    obtain ⟨q121, e122, hf⟩ := j_bind hf
    refine j_le_trans (jnA_le e122) ?_
    obtain ⟨h123, e124, hf⟩ := j_bind hf
    refine j_le_trans (j_le_of (jput_n e124)) ?_
    obtain ⟨q125, e126, hf⟩ := j_bind hf
    refine j_le_trans (jnA_le e126) ?_
    obtain ⟨h127, e128, hf⟩ := j_bind hf
    refine j_le_trans (j_le_of (jput_n e128)) ?_
    obtain ⟨q129, e130, hf⟩ := j_bind hf
    refine j_le_trans (jnA_le e130) ?_
    obtain ⟨h131, e132, hf⟩ := j_bind hf
    refine j_le_trans (j_le_of (jput_n e132)) ?_
    obtain ⟨q133, e134, hf⟩ := j_bind hf
    refine j_le_trans (jnA_le e134) ?_
    obtain ⟨h135, e136, hf⟩ := j_bind hf
    refine j_le_trans (j_le_of (jput_n e136)) ?_
    obtain ⟨u143, e144, hf⟩ := j_bind hf
    obtain ⟨q137, e138, hf⟩ := j_bind hf
    refine j_le_trans (j_le_of ((q_X12_laysBasic e138))) ?_
    obtain ⟨u141, e142, hf⟩ := j_bind hf
    obtain ⟨q139, e140, hf⟩ := j_bind hf
    refine j_le_trans (j_le_of ((q_X12_takes e140))) ?_
    obtain rfl := j_inj hf
    exact j_le_refl _
  refine x_newa (q := q57.1) (h1 := q57.2) C dX12_init_132 rfl (by decide) (by decide) (fun q => q) wi_int e58 hle ?_
  obtain ⟨h59, e60, hf⟩ := j_bind hf
  refine x_putF C hin dX12_init_134 e60 fp_X12_174 rfl rfl ?_
  refine x_aload_n (v := a0) C dX12_init_137 rfl ?_
  refine x_sipush C dX12_init_138 ks_1086 ?_
  obtain ⟨q61, e62, hf⟩ := j_bind hf
  have hle : j_le q61.2 q.2 := by
    obtain ⟨h63, e64, hf⟩ := j_bind hf
    refine j_le_trans (j_le_of (jput_n e64)) ?_
    obtain ⟨q65, e66, hf⟩ := j_bind hf
    refine j_le_trans (jnA_le e66) ?_
    obtain ⟨h67, e68, hf⟩ := j_bind hf
    refine j_le_trans (j_le_of (jput_n e68)) ?_
    obtain ⟨q69, e70, hf⟩ := j_bind hf
    refine j_le_trans (jnA_le e70) ?_
    obtain ⟨h71, e72, hf⟩ := j_bind hf
    refine j_le_trans (j_le_of (jput_n e72)) ?_
    obtain ⟨q73, e74, hf⟩ := j_bind hf
    refine j_le_trans (jnA_le e74) ?_
    obtain ⟨h75, e76, hf⟩ := j_bind hf
    refine j_le_trans (j_le_of (jput_n e76)) ?_
    obtain ⟨q77, e78, hf⟩ := j_bind hf
    refine j_le_trans (jnA_le e78) ?_
    obtain ⟨h79, e80, hf⟩ := j_bind hf
    refine j_le_trans (j_le_of (jput_n e80)) ?_
    obtain ⟨q81, e82, hf⟩ := j_bind hf
    refine j_le_trans (jnA_le e82) ?_
    obtain ⟨h83, e84, hf⟩ := j_bind hf
    refine j_le_trans (j_le_of (jput_n e84)) ?_
    obtain ⟨q85, e86, hf⟩ := j_bind hf
    refine j_le_trans (jnA_le e86) ?_
    obtain ⟨h87, e88, hf⟩ := j_bind hf
    refine j_le_trans (j_le_of (jput_n e88)) ?_
    obtain ⟨q89, e90, hf⟩ := j_bind hf
    refine j_le_trans (jnA_le e90) ?_
    obtain ⟨h91, e92, hf⟩ := j_bind hf
    refine j_le_trans (j_le_of (jput_n e92)) ?_
    obtain ⟨q93, e94, hf⟩ := j_bind hf
    refine j_le_trans (jnA_le e94) ?_
    obtain ⟨h95, e96, hf⟩ := j_bind hf
    refine j_le_trans (j_le_of (jput_n e96)) ?_
    obtain ⟨q97, e98, hf⟩ := j_bind hf
    refine j_le_trans (jnA_le e98) ?_
    obtain ⟨h99, e100, hf⟩ := j_bind hf
    refine j_le_trans (j_le_of (jput_n e100)) ?_
    obtain ⟨q101, e102, hf⟩ := j_bind hf
    refine j_le_trans (jnA_le e102) ?_
    obtain ⟨h103, e104, hf⟩ := j_bind hf
    refine j_le_trans (j_le_of (jput_n e104)) ?_
    obtain ⟨q105, e106, hf⟩ := j_bind hf
    refine j_le_trans (jnA_le e106) ?_
    obtain ⟨h107, e108, hf⟩ := j_bind hf
    refine j_le_trans (j_le_of (jput_n e108)) ?_
    obtain ⟨q109, e110, hf⟩ := j_bind hf
    refine j_le_trans (jnA_le e110) ?_
    obtain ⟨h111, e112, hf⟩ := j_bind hf
    refine j_le_trans (j_le_of (jput_n e112)) ?_
    obtain ⟨q113, e114, hf⟩ := j_bind hf
    refine j_le_trans (jnA_le e114) ?_
    obtain ⟨h115, e116, hf⟩ := j_bind hf
    refine j_le_trans (j_le_of (jput_n e116)) ?_
    obtain ⟨q117, e118, hf⟩ := j_bind hf
    refine j_le_trans (jnA_le e118) ?_
    obtain ⟨h119, e120, hf⟩ := j_bind hf
    refine j_le_trans (j_le_of (jput_n e120)) ?_
    obtain ⟨q121, e122, hf⟩ := j_bind hf
    refine j_le_trans (jnA_le e122) ?_
    obtain ⟨h123, e124, hf⟩ := j_bind hf
    refine j_le_trans (j_le_of (jput_n e124)) ?_
    obtain ⟨q125, e126, hf⟩ := j_bind hf
    refine j_le_trans (jnA_le e126) ?_
    obtain ⟨h127, e128, hf⟩ := j_bind hf
    refine j_le_trans (j_le_of (jput_n e128)) ?_
    obtain ⟨q129, e130, hf⟩ := j_bind hf
    refine j_le_trans (jnA_le e130) ?_
    obtain ⟨h131, e132, hf⟩ := j_bind hf
    refine j_le_trans (j_le_of (jput_n e132)) ?_
    obtain ⟨q133, e134, hf⟩ := j_bind hf
    refine j_le_trans (jnA_le e134) ?_
    obtain ⟨h135, e136, hf⟩ := j_bind hf
    refine j_le_trans (j_le_of (jput_n e136)) ?_
    obtain ⟨u143, e144, hf⟩ := j_bind hf
    obtain ⟨q137, e138, hf⟩ := j_bind hf
    refine j_le_trans (j_le_of ((q_X12_laysBasic e138))) ?_
    obtain ⟨u141, e142, hf⟩ := j_bind hf
    obtain ⟨q139, e140, hf⟩ := j_bind hf
    refine j_le_trans (j_le_of ((q_X12_takes e140))) ?_
    obtain rfl := j_inj hf
    exact j_le_refl _
  refine x_newa (q := q61.1) (h1 := q61.2) C dX12_init_141 rfl (by decide) (by decide) (fun q => q) wi_int e62 hle ?_
  obtain ⟨h63, e64, hf⟩ := j_bind hf
  refine x_putF C hin dX12_init_143 e64 fp_X12_177 rfl rfl ?_
  refine x_aload_n (v := a0) C dX12_init_146 rfl ?_
  refine x_bipush C dX12_init_147 kb_30 ?_
  obtain ⟨q65, e66, hf⟩ := j_bind hf
  have hle : j_le q65.2 q.2 := by
    obtain ⟨h67, e68, hf⟩ := j_bind hf
    refine j_le_trans (j_le_of (jput_n e68)) ?_
    obtain ⟨q69, e70, hf⟩ := j_bind hf
    refine j_le_trans (jnA_le e70) ?_
    obtain ⟨h71, e72, hf⟩ := j_bind hf
    refine j_le_trans (j_le_of (jput_n e72)) ?_
    obtain ⟨q73, e74, hf⟩ := j_bind hf
    refine j_le_trans (jnA_le e74) ?_
    obtain ⟨h75, e76, hf⟩ := j_bind hf
    refine j_le_trans (j_le_of (jput_n e76)) ?_
    obtain ⟨q77, e78, hf⟩ := j_bind hf
    refine j_le_trans (jnA_le e78) ?_
    obtain ⟨h79, e80, hf⟩ := j_bind hf
    refine j_le_trans (j_le_of (jput_n e80)) ?_
    obtain ⟨q81, e82, hf⟩ := j_bind hf
    refine j_le_trans (jnA_le e82) ?_
    obtain ⟨h83, e84, hf⟩ := j_bind hf
    refine j_le_trans (j_le_of (jput_n e84)) ?_
    obtain ⟨q85, e86, hf⟩ := j_bind hf
    refine j_le_trans (jnA_le e86) ?_
    obtain ⟨h87, e88, hf⟩ := j_bind hf
    refine j_le_trans (j_le_of (jput_n e88)) ?_
    obtain ⟨q89, e90, hf⟩ := j_bind hf
    refine j_le_trans (jnA_le e90) ?_
    obtain ⟨h91, e92, hf⟩ := j_bind hf
    refine j_le_trans (j_le_of (jput_n e92)) ?_
    obtain ⟨q93, e94, hf⟩ := j_bind hf
    refine j_le_trans (jnA_le e94) ?_
    obtain ⟨h95, e96, hf⟩ := j_bind hf
    refine j_le_trans (j_le_of (jput_n e96)) ?_
    obtain ⟨q97, e98, hf⟩ := j_bind hf
    refine j_le_trans (jnA_le e98) ?_
    obtain ⟨h99, e100, hf⟩ := j_bind hf
    refine j_le_trans (j_le_of (jput_n e100)) ?_
    obtain ⟨q101, e102, hf⟩ := j_bind hf
    refine j_le_trans (jnA_le e102) ?_
    obtain ⟨h103, e104, hf⟩ := j_bind hf
    refine j_le_trans (j_le_of (jput_n e104)) ?_
    obtain ⟨q105, e106, hf⟩ := j_bind hf
    refine j_le_trans (jnA_le e106) ?_
    obtain ⟨h107, e108, hf⟩ := j_bind hf
    refine j_le_trans (j_le_of (jput_n e108)) ?_
    obtain ⟨q109, e110, hf⟩ := j_bind hf
    refine j_le_trans (jnA_le e110) ?_
    obtain ⟨h111, e112, hf⟩ := j_bind hf
    refine j_le_trans (j_le_of (jput_n e112)) ?_
    obtain ⟨q113, e114, hf⟩ := j_bind hf
    refine j_le_trans (jnA_le e114) ?_
    obtain ⟨h115, e116, hf⟩ := j_bind hf
    refine j_le_trans (j_le_of (jput_n e116)) ?_
    obtain ⟨q117, e118, hf⟩ := j_bind hf
    refine j_le_trans (jnA_le e118) ?_
    obtain ⟨h119, e120, hf⟩ := j_bind hf
    refine j_le_trans (j_le_of (jput_n e120)) ?_
    obtain ⟨q121, e122, hf⟩ := j_bind hf
    refine j_le_trans (jnA_le e122) ?_
    obtain ⟨h123, e124, hf⟩ := j_bind hf
    refine j_le_trans (j_le_of (jput_n e124)) ?_
    obtain ⟨q125, e126, hf⟩ := j_bind hf
    refine j_le_trans (jnA_le e126) ?_
    obtain ⟨h127, e128, hf⟩ := j_bind hf
    refine j_le_trans (j_le_of (jput_n e128)) ?_
    obtain ⟨q129, e130, hf⟩ := j_bind hf
    refine j_le_trans (jnA_le e130) ?_
    obtain ⟨h131, e132, hf⟩ := j_bind hf
    refine j_le_trans (j_le_of (jput_n e132)) ?_
    obtain ⟨q133, e134, hf⟩ := j_bind hf
    refine j_le_trans (jnA_le e134) ?_
    obtain ⟨h135, e136, hf⟩ := j_bind hf
    refine j_le_trans (j_le_of (jput_n e136)) ?_
    obtain ⟨u143, e144, hf⟩ := j_bind hf
    obtain ⟨q137, e138, hf⟩ := j_bind hf
    refine j_le_trans (j_le_of ((q_X12_laysBasic e138))) ?_
    obtain ⟨u141, e142, hf⟩ := j_bind hf
    obtain ⟨q139, e140, hf⟩ := j_bind hf
    refine j_le_trans (j_le_of ((q_X12_takes e140))) ?_
    obtain rfl := j_inj hf
    exact j_le_refl _
  refine x_newa (q := q65.1) (h1 := q65.2) C dX12_init_149 rfl (by decide) (by decide) (fun q => q) wi_int e66 hle ?_
  obtain ⟨h67, e68, hf⟩ := j_bind hf
  refine x_putF C hin dX12_init_151 e68 fp_X12_142 rfl rfl ?_
  refine x_aload_n (v := a0) C dX12_init_154 rfl ?_
  refine x_sipush C dX12_init_155 ks_5430 ?_
  obtain ⟨q69, e70, hf⟩ := j_bind hf
  have hle : j_le q69.2 q.2 := by
    obtain ⟨h71, e72, hf⟩ := j_bind hf
    refine j_le_trans (j_le_of (jput_n e72)) ?_
    obtain ⟨q73, e74, hf⟩ := j_bind hf
    refine j_le_trans (jnA_le e74) ?_
    obtain ⟨h75, e76, hf⟩ := j_bind hf
    refine j_le_trans (j_le_of (jput_n e76)) ?_
    obtain ⟨q77, e78, hf⟩ := j_bind hf
    refine j_le_trans (jnA_le e78) ?_
    obtain ⟨h79, e80, hf⟩ := j_bind hf
    refine j_le_trans (j_le_of (jput_n e80)) ?_
    obtain ⟨q81, e82, hf⟩ := j_bind hf
    refine j_le_trans (jnA_le e82) ?_
    obtain ⟨h83, e84, hf⟩ := j_bind hf
    refine j_le_trans (j_le_of (jput_n e84)) ?_
    obtain ⟨q85, e86, hf⟩ := j_bind hf
    refine j_le_trans (jnA_le e86) ?_
    obtain ⟨h87, e88, hf⟩ := j_bind hf
    refine j_le_trans (j_le_of (jput_n e88)) ?_
    obtain ⟨q89, e90, hf⟩ := j_bind hf
    refine j_le_trans (jnA_le e90) ?_
    obtain ⟨h91, e92, hf⟩ := j_bind hf
    refine j_le_trans (j_le_of (jput_n e92)) ?_
    obtain ⟨q93, e94, hf⟩ := j_bind hf
    refine j_le_trans (jnA_le e94) ?_
    obtain ⟨h95, e96, hf⟩ := j_bind hf
    refine j_le_trans (j_le_of (jput_n e96)) ?_
    obtain ⟨q97, e98, hf⟩ := j_bind hf
    refine j_le_trans (jnA_le e98) ?_
    obtain ⟨h99, e100, hf⟩ := j_bind hf
    refine j_le_trans (j_le_of (jput_n e100)) ?_
    obtain ⟨q101, e102, hf⟩ := j_bind hf
    refine j_le_trans (jnA_le e102) ?_
    obtain ⟨h103, e104, hf⟩ := j_bind hf
    refine j_le_trans (j_le_of (jput_n e104)) ?_
    obtain ⟨q105, e106, hf⟩ := j_bind hf
    refine j_le_trans (jnA_le e106) ?_
    obtain ⟨h107, e108, hf⟩ := j_bind hf
    refine j_le_trans (j_le_of (jput_n e108)) ?_
    obtain ⟨q109, e110, hf⟩ := j_bind hf
    refine j_le_trans (jnA_le e110) ?_
    obtain ⟨h111, e112, hf⟩ := j_bind hf
    refine j_le_trans (j_le_of (jput_n e112)) ?_
    obtain ⟨q113, e114, hf⟩ := j_bind hf
    refine j_le_trans (jnA_le e114) ?_
    obtain ⟨h115, e116, hf⟩ := j_bind hf
    refine j_le_trans (j_le_of (jput_n e116)) ?_
    obtain ⟨q117, e118, hf⟩ := j_bind hf
    refine j_le_trans (jnA_le e118) ?_
    obtain ⟨h119, e120, hf⟩ := j_bind hf
    refine j_le_trans (j_le_of (jput_n e120)) ?_
    obtain ⟨q121, e122, hf⟩ := j_bind hf
    refine j_le_trans (jnA_le e122) ?_
    obtain ⟨h123, e124, hf⟩ := j_bind hf
    refine j_le_trans (j_le_of (jput_n e124)) ?_
    obtain ⟨q125, e126, hf⟩ := j_bind hf
    refine j_le_trans (jnA_le e126) ?_
    obtain ⟨h127, e128, hf⟩ := j_bind hf
    refine j_le_trans (j_le_of (jput_n e128)) ?_
    obtain ⟨q129, e130, hf⟩ := j_bind hf
    refine j_le_trans (jnA_le e130) ?_
    obtain ⟨h131, e132, hf⟩ := j_bind hf
    refine j_le_trans (j_le_of (jput_n e132)) ?_
    obtain ⟨q133, e134, hf⟩ := j_bind hf
    refine j_le_trans (jnA_le e134) ?_
    obtain ⟨h135, e136, hf⟩ := j_bind hf
    refine j_le_trans (j_le_of (jput_n e136)) ?_
    obtain ⟨u143, e144, hf⟩ := j_bind hf
    obtain ⟨q137, e138, hf⟩ := j_bind hf
    refine j_le_trans (j_le_of ((q_X12_laysBasic e138))) ?_
    obtain ⟨u141, e142, hf⟩ := j_bind hf
    obtain ⟨q139, e140, hf⟩ := j_bind hf
    refine j_le_trans (j_le_of ((q_X12_takes e140))) ?_
    obtain rfl := j_inj hf
    exact j_le_refl _
  refine x_newa (q := q69.1) (h1 := q69.2) C dX12_init_158 rfl (by decide) (by decide) (fun q => q) wi_int e70 hle ?_
  obtain ⟨h71, e72, hf⟩ := j_bind hf
  refine x_putF C hin dX12_init_160 e72 fp_X12_148 rfl rfl ?_
  refine x_aload_n (v := a0) C dX12_init_163 rfl ?_
  refine x_iconst C dX12_init_164 ki_4 ?_
  obtain ⟨q73, e74, hf⟩ := j_bind hf
  have hle : j_le q73.2 q.2 := by
    obtain ⟨h75, e76, hf⟩ := j_bind hf
    refine j_le_trans (j_le_of (jput_n e76)) ?_
    obtain ⟨q77, e78, hf⟩ := j_bind hf
    refine j_le_trans (jnA_le e78) ?_
    obtain ⟨h79, e80, hf⟩ := j_bind hf
    refine j_le_trans (j_le_of (jput_n e80)) ?_
    obtain ⟨q81, e82, hf⟩ := j_bind hf
    refine j_le_trans (jnA_le e82) ?_
    obtain ⟨h83, e84, hf⟩ := j_bind hf
    refine j_le_trans (j_le_of (jput_n e84)) ?_
    obtain ⟨q85, e86, hf⟩ := j_bind hf
    refine j_le_trans (jnA_le e86) ?_
    obtain ⟨h87, e88, hf⟩ := j_bind hf
    refine j_le_trans (j_le_of (jput_n e88)) ?_
    obtain ⟨q89, e90, hf⟩ := j_bind hf
    refine j_le_trans (jnA_le e90) ?_
    obtain ⟨h91, e92, hf⟩ := j_bind hf
    refine j_le_trans (j_le_of (jput_n e92)) ?_
    obtain ⟨q93, e94, hf⟩ := j_bind hf
    refine j_le_trans (jnA_le e94) ?_
    obtain ⟨h95, e96, hf⟩ := j_bind hf
    refine j_le_trans (j_le_of (jput_n e96)) ?_
    obtain ⟨q97, e98, hf⟩ := j_bind hf
    refine j_le_trans (jnA_le e98) ?_
    obtain ⟨h99, e100, hf⟩ := j_bind hf
    refine j_le_trans (j_le_of (jput_n e100)) ?_
    obtain ⟨q101, e102, hf⟩ := j_bind hf
    refine j_le_trans (jnA_le e102) ?_
    obtain ⟨h103, e104, hf⟩ := j_bind hf
    refine j_le_trans (j_le_of (jput_n e104)) ?_
    obtain ⟨q105, e106, hf⟩ := j_bind hf
    refine j_le_trans (jnA_le e106) ?_
    obtain ⟨h107, e108, hf⟩ := j_bind hf
    refine j_le_trans (j_le_of (jput_n e108)) ?_
    obtain ⟨q109, e110, hf⟩ := j_bind hf
    refine j_le_trans (jnA_le e110) ?_
    obtain ⟨h111, e112, hf⟩ := j_bind hf
    refine j_le_trans (j_le_of (jput_n e112)) ?_
    obtain ⟨q113, e114, hf⟩ := j_bind hf
    refine j_le_trans (jnA_le e114) ?_
    obtain ⟨h115, e116, hf⟩ := j_bind hf
    refine j_le_trans (j_le_of (jput_n e116)) ?_
    obtain ⟨q117, e118, hf⟩ := j_bind hf
    refine j_le_trans (jnA_le e118) ?_
    obtain ⟨h119, e120, hf⟩ := j_bind hf
    refine j_le_trans (j_le_of (jput_n e120)) ?_
    obtain ⟨q121, e122, hf⟩ := j_bind hf
    refine j_le_trans (jnA_le e122) ?_
    obtain ⟨h123, e124, hf⟩ := j_bind hf
    refine j_le_trans (j_le_of (jput_n e124)) ?_
    obtain ⟨q125, e126, hf⟩ := j_bind hf
    refine j_le_trans (jnA_le e126) ?_
    obtain ⟨h127, e128, hf⟩ := j_bind hf
    refine j_le_trans (j_le_of (jput_n e128)) ?_
    obtain ⟨q129, e130, hf⟩ := j_bind hf
    refine j_le_trans (jnA_le e130) ?_
    obtain ⟨h131, e132, hf⟩ := j_bind hf
    refine j_le_trans (j_le_of (jput_n e132)) ?_
    obtain ⟨q133, e134, hf⟩ := j_bind hf
    refine j_le_trans (jnA_le e134) ?_
    obtain ⟨h135, e136, hf⟩ := j_bind hf
    refine j_le_trans (j_le_of (jput_n e136)) ?_
    obtain ⟨u143, e144, hf⟩ := j_bind hf
    obtain ⟨q137, e138, hf⟩ := j_bind hf
    refine j_le_trans (j_le_of ((q_X12_laysBasic e138))) ?_
    obtain ⟨u141, e142, hf⟩ := j_bind hf
    obtain ⟨q139, e140, hf⟩ := j_bind hf
    refine j_le_trans (j_le_of ((q_X12_takes e140))) ?_
    obtain rfl := j_inj hf
    exact j_le_refl _
  refine x_newa (q := q73.1) (h1 := q73.2) C dX12_init_165 rfl (by decide) (by decide) (fun q => q) wi_int e74 hle ?_
  obtain ⟨h75, e76, hf⟩ := j_bind hf
  refine x_putF C hin dX12_init_167 e76 fp_X12_215 rfl rfl ?_
  refine x_aload_n (v := a0) C dX12_init_170 rfl ?_
  refine x_sipush C dX12_init_171 ks_724 ?_
  obtain ⟨q77, e78, hf⟩ := j_bind hf
  have hle : j_le q77.2 q.2 := by
    obtain ⟨h79, e80, hf⟩ := j_bind hf
    refine j_le_trans (j_le_of (jput_n e80)) ?_
    obtain ⟨q81, e82, hf⟩ := j_bind hf
    refine j_le_trans (jnA_le e82) ?_
    obtain ⟨h83, e84, hf⟩ := j_bind hf
    refine j_le_trans (j_le_of (jput_n e84)) ?_
    obtain ⟨q85, e86, hf⟩ := j_bind hf
    refine j_le_trans (jnA_le e86) ?_
    obtain ⟨h87, e88, hf⟩ := j_bind hf
    refine j_le_trans (j_le_of (jput_n e88)) ?_
    obtain ⟨q89, e90, hf⟩ := j_bind hf
    refine j_le_trans (jnA_le e90) ?_
    obtain ⟨h91, e92, hf⟩ := j_bind hf
    refine j_le_trans (j_le_of (jput_n e92)) ?_
    obtain ⟨q93, e94, hf⟩ := j_bind hf
    refine j_le_trans (jnA_le e94) ?_
    obtain ⟨h95, e96, hf⟩ := j_bind hf
    refine j_le_trans (j_le_of (jput_n e96)) ?_
    obtain ⟨q97, e98, hf⟩ := j_bind hf
    refine j_le_trans (jnA_le e98) ?_
    obtain ⟨h99, e100, hf⟩ := j_bind hf
    refine j_le_trans (j_le_of (jput_n e100)) ?_
    obtain ⟨q101, e102, hf⟩ := j_bind hf
    refine j_le_trans (jnA_le e102) ?_
    obtain ⟨h103, e104, hf⟩ := j_bind hf
    refine j_le_trans (j_le_of (jput_n e104)) ?_
    obtain ⟨q105, e106, hf⟩ := j_bind hf
    refine j_le_trans (jnA_le e106) ?_
    obtain ⟨h107, e108, hf⟩ := j_bind hf
    refine j_le_trans (j_le_of (jput_n e108)) ?_
    obtain ⟨q109, e110, hf⟩ := j_bind hf
    refine j_le_trans (jnA_le e110) ?_
    obtain ⟨h111, e112, hf⟩ := j_bind hf
    refine j_le_trans (j_le_of (jput_n e112)) ?_
    obtain ⟨q113, e114, hf⟩ := j_bind hf
    refine j_le_trans (jnA_le e114) ?_
    obtain ⟨h115, e116, hf⟩ := j_bind hf
    refine j_le_trans (j_le_of (jput_n e116)) ?_
    obtain ⟨q117, e118, hf⟩ := j_bind hf
    refine j_le_trans (jnA_le e118) ?_
    obtain ⟨h119, e120, hf⟩ := j_bind hf
    refine j_le_trans (j_le_of (jput_n e120)) ?_
    obtain ⟨q121, e122, hf⟩ := j_bind hf
    refine j_le_trans (jnA_le e122) ?_
    obtain ⟨h123, e124, hf⟩ := j_bind hf
    refine j_le_trans (j_le_of (jput_n e124)) ?_
    obtain ⟨q125, e126, hf⟩ := j_bind hf
    refine j_le_trans (jnA_le e126) ?_
    obtain ⟨h127, e128, hf⟩ := j_bind hf
    refine j_le_trans (j_le_of (jput_n e128)) ?_
    obtain ⟨q129, e130, hf⟩ := j_bind hf
    refine j_le_trans (jnA_le e130) ?_
    obtain ⟨h131, e132, hf⟩ := j_bind hf
    refine j_le_trans (j_le_of (jput_n e132)) ?_
    obtain ⟨q133, e134, hf⟩ := j_bind hf
    refine j_le_trans (jnA_le e134) ?_
    obtain ⟨h135, e136, hf⟩ := j_bind hf
    refine j_le_trans (j_le_of (jput_n e136)) ?_
    obtain ⟨u143, e144, hf⟩ := j_bind hf
    obtain ⟨q137, e138, hf⟩ := j_bind hf
    refine j_le_trans (j_le_of ((q_X12_laysBasic e138))) ?_
    obtain ⟨u141, e142, hf⟩ := j_bind hf
    obtain ⟨q139, e140, hf⟩ := j_bind hf
    refine j_le_trans (j_le_of ((q_X12_takes e140))) ?_
    obtain rfl := j_inj hf
    exact j_le_refl _
  refine x_newa (q := q77.1) (h1 := q77.2) C dX12_init_174 rfl (by decide) (by decide) (fun q => q) wi_int e78 hle ?_
  obtain ⟨h79, e80, hf⟩ := j_bind hf
  refine x_putF C hin dX12_init_176 e80 fp_X12_218 rfl rfl ?_
  refine x_aload_n (v := a0) C dX12_init_179 rfl ?_
  refine x_bipush C dX12_init_180 kb_36 ?_
  obtain ⟨q81, e82, hf⟩ := j_bind hf
  have hle : j_le q81.2 q.2 := by
    obtain ⟨h83, e84, hf⟩ := j_bind hf
    refine j_le_trans (j_le_of (jput_n e84)) ?_
    obtain ⟨q85, e86, hf⟩ := j_bind hf
    refine j_le_trans (jnA_le e86) ?_
    obtain ⟨h87, e88, hf⟩ := j_bind hf
    refine j_le_trans (j_le_of (jput_n e88)) ?_
    obtain ⟨q89, e90, hf⟩ := j_bind hf
    refine j_le_trans (jnA_le e90) ?_
    obtain ⟨h91, e92, hf⟩ := j_bind hf
    refine j_le_trans (j_le_of (jput_n e92)) ?_
    obtain ⟨q93, e94, hf⟩ := j_bind hf
    refine j_le_trans (jnA_le e94) ?_
    obtain ⟨h95, e96, hf⟩ := j_bind hf
    refine j_le_trans (j_le_of (jput_n e96)) ?_
    obtain ⟨q97, e98, hf⟩ := j_bind hf
    refine j_le_trans (jnA_le e98) ?_
    obtain ⟨h99, e100, hf⟩ := j_bind hf
    refine j_le_trans (j_le_of (jput_n e100)) ?_
    obtain ⟨q101, e102, hf⟩ := j_bind hf
    refine j_le_trans (jnA_le e102) ?_
    obtain ⟨h103, e104, hf⟩ := j_bind hf
    refine j_le_trans (j_le_of (jput_n e104)) ?_
    obtain ⟨q105, e106, hf⟩ := j_bind hf
    refine j_le_trans (jnA_le e106) ?_
    obtain ⟨h107, e108, hf⟩ := j_bind hf
    refine j_le_trans (j_le_of (jput_n e108)) ?_
    obtain ⟨q109, e110, hf⟩ := j_bind hf
    refine j_le_trans (jnA_le e110) ?_
    obtain ⟨h111, e112, hf⟩ := j_bind hf
    refine j_le_trans (j_le_of (jput_n e112)) ?_
    obtain ⟨q113, e114, hf⟩ := j_bind hf
    refine j_le_trans (jnA_le e114) ?_
    obtain ⟨h115, e116, hf⟩ := j_bind hf
    refine j_le_trans (j_le_of (jput_n e116)) ?_
    obtain ⟨q117, e118, hf⟩ := j_bind hf
    refine j_le_trans (jnA_le e118) ?_
    obtain ⟨h119, e120, hf⟩ := j_bind hf
    refine j_le_trans (j_le_of (jput_n e120)) ?_
    obtain ⟨q121, e122, hf⟩ := j_bind hf
    refine j_le_trans (jnA_le e122) ?_
    obtain ⟨h123, e124, hf⟩ := j_bind hf
    refine j_le_trans (j_le_of (jput_n e124)) ?_
    obtain ⟨q125, e126, hf⟩ := j_bind hf
    refine j_le_trans (jnA_le e126) ?_
    obtain ⟨h127, e128, hf⟩ := j_bind hf
    refine j_le_trans (j_le_of (jput_n e128)) ?_
    obtain ⟨q129, e130, hf⟩ := j_bind hf
    refine j_le_trans (jnA_le e130) ?_
    obtain ⟨h131, e132, hf⟩ := j_bind hf
    refine j_le_trans (j_le_of (jput_n e132)) ?_
    obtain ⟨q133, e134, hf⟩ := j_bind hf
    refine j_le_trans (jnA_le e134) ?_
    obtain ⟨h135, e136, hf⟩ := j_bind hf
    refine j_le_trans (j_le_of (jput_n e136)) ?_
    obtain ⟨u143, e144, hf⟩ := j_bind hf
    obtain ⟨q137, e138, hf⟩ := j_bind hf
    refine j_le_trans (j_le_of ((q_X12_laysBasic e138))) ?_
    obtain ⟨u141, e142, hf⟩ := j_bind hf
    obtain ⟨q139, e140, hf⟩ := j_bind hf
    refine j_le_trans (j_le_of ((q_X12_takes e140))) ?_
    obtain rfl := j_inj hf
    exact j_le_refl _
  refine x_newa (q := q81.1) (h1 := q81.2) C dX12_init_182 rfl (by decide) (by decide) (fun q => q) wi_int e82 hle ?_
  obtain ⟨h83, e84, hf⟩ := j_bind hf
  refine x_putF C hin dX12_init_184 e84 fp_X12_233 rfl rfl ?_
  refine x_aload_n (v := a0) C dX12_init_187 rfl ?_
  refine x_bipush C dX12_init_188 kb_7 ?_
  obtain ⟨q85, e86, hf⟩ := j_bind hf
  have hle : j_le q85.2 q.2 := by
    obtain ⟨h87, e88, hf⟩ := j_bind hf
    refine j_le_trans (j_le_of (jput_n e88)) ?_
    obtain ⟨q89, e90, hf⟩ := j_bind hf
    refine j_le_trans (jnA_le e90) ?_
    obtain ⟨h91, e92, hf⟩ := j_bind hf
    refine j_le_trans (j_le_of (jput_n e92)) ?_
    obtain ⟨q93, e94, hf⟩ := j_bind hf
    refine j_le_trans (jnA_le e94) ?_
    obtain ⟨h95, e96, hf⟩ := j_bind hf
    refine j_le_trans (j_le_of (jput_n e96)) ?_
    obtain ⟨q97, e98, hf⟩ := j_bind hf
    refine j_le_trans (jnA_le e98) ?_
    obtain ⟨h99, e100, hf⟩ := j_bind hf
    refine j_le_trans (j_le_of (jput_n e100)) ?_
    obtain ⟨q101, e102, hf⟩ := j_bind hf
    refine j_le_trans (jnA_le e102) ?_
    obtain ⟨h103, e104, hf⟩ := j_bind hf
    refine j_le_trans (j_le_of (jput_n e104)) ?_
    obtain ⟨q105, e106, hf⟩ := j_bind hf
    refine j_le_trans (jnA_le e106) ?_
    obtain ⟨h107, e108, hf⟩ := j_bind hf
    refine j_le_trans (j_le_of (jput_n e108)) ?_
    obtain ⟨q109, e110, hf⟩ := j_bind hf
    refine j_le_trans (jnA_le e110) ?_
    obtain ⟨h111, e112, hf⟩ := j_bind hf
    refine j_le_trans (j_le_of (jput_n e112)) ?_
    obtain ⟨q113, e114, hf⟩ := j_bind hf
    refine j_le_trans (jnA_le e114) ?_
    obtain ⟨h115, e116, hf⟩ := j_bind hf
    refine j_le_trans (j_le_of (jput_n e116)) ?_
    obtain ⟨q117, e118, hf⟩ := j_bind hf
    refine j_le_trans (jnA_le e118) ?_
    obtain ⟨h119, e120, hf⟩ := j_bind hf
    refine j_le_trans (j_le_of (jput_n e120)) ?_
    obtain ⟨q121, e122, hf⟩ := j_bind hf
    refine j_le_trans (jnA_le e122) ?_
    obtain ⟨h123, e124, hf⟩ := j_bind hf
    refine j_le_trans (j_le_of (jput_n e124)) ?_
    obtain ⟨q125, e126, hf⟩ := j_bind hf
    refine j_le_trans (jnA_le e126) ?_
    obtain ⟨h127, e128, hf⟩ := j_bind hf
    refine j_le_trans (j_le_of (jput_n e128)) ?_
    obtain ⟨q129, e130, hf⟩ := j_bind hf
    refine j_le_trans (jnA_le e130) ?_
    obtain ⟨h131, e132, hf⟩ := j_bind hf
    refine j_le_trans (j_le_of (jput_n e132)) ?_
    obtain ⟨q133, e134, hf⟩ := j_bind hf
    refine j_le_trans (jnA_le e134) ?_
    obtain ⟨h135, e136, hf⟩ := j_bind hf
    refine j_le_trans (j_le_of (jput_n e136)) ?_
    obtain ⟨u143, e144, hf⟩ := j_bind hf
    obtain ⟨q137, e138, hf⟩ := j_bind hf
    refine j_le_trans (j_le_of ((q_X12_laysBasic e138))) ?_
    obtain ⟨u141, e142, hf⟩ := j_bind hf
    obtain ⟨q139, e140, hf⟩ := j_bind hf
    refine j_le_trans (j_le_of ((q_X12_takes e140))) ?_
    obtain rfl := j_inj hf
    exact j_le_refl _
  refine x_newa (q := q85.1) (h1 := q85.2) C dX12_init_190 rfl (by decide) (by decide) (fun q => q) wi_int e86 hle ?_
  obtain ⟨h87, e88, hf⟩ := j_bind hf
  refine x_putF C hin dX12_init_192 e88 fp_X12_236 rfl rfl ?_
  refine x_aload_n (v := a0) C dX12_init_195 rfl ?_
  refine x_bipush C dX12_init_196 kb_36 ?_
  obtain ⟨q89, e90, hf⟩ := j_bind hf
  have hle : j_le q89.2 q.2 := by
    obtain ⟨h91, e92, hf⟩ := j_bind hf
    refine j_le_trans (j_le_of (jput_n e92)) ?_
    obtain ⟨q93, e94, hf⟩ := j_bind hf
    refine j_le_trans (jnA_le e94) ?_
    obtain ⟨h95, e96, hf⟩ := j_bind hf
    refine j_le_trans (j_le_of (jput_n e96)) ?_
    obtain ⟨q97, e98, hf⟩ := j_bind hf
    refine j_le_trans (jnA_le e98) ?_
    obtain ⟨h99, e100, hf⟩ := j_bind hf
    refine j_le_trans (j_le_of (jput_n e100)) ?_
    obtain ⟨q101, e102, hf⟩ := j_bind hf
    refine j_le_trans (jnA_le e102) ?_
    obtain ⟨h103, e104, hf⟩ := j_bind hf
    refine j_le_trans (j_le_of (jput_n e104)) ?_
    obtain ⟨q105, e106, hf⟩ := j_bind hf
    refine j_le_trans (jnA_le e106) ?_
    obtain ⟨h107, e108, hf⟩ := j_bind hf
    refine j_le_trans (j_le_of (jput_n e108)) ?_
    obtain ⟨q109, e110, hf⟩ := j_bind hf
    refine j_le_trans (jnA_le e110) ?_
    obtain ⟨h111, e112, hf⟩ := j_bind hf
    refine j_le_trans (j_le_of (jput_n e112)) ?_
    obtain ⟨q113, e114, hf⟩ := j_bind hf
    refine j_le_trans (jnA_le e114) ?_
    obtain ⟨h115, e116, hf⟩ := j_bind hf
    refine j_le_trans (j_le_of (jput_n e116)) ?_
    obtain ⟨q117, e118, hf⟩ := j_bind hf
    refine j_le_trans (jnA_le e118) ?_
    obtain ⟨h119, e120, hf⟩ := j_bind hf
    refine j_le_trans (j_le_of (jput_n e120)) ?_
    obtain ⟨q121, e122, hf⟩ := j_bind hf
    refine j_le_trans (jnA_le e122) ?_
    obtain ⟨h123, e124, hf⟩ := j_bind hf
    refine j_le_trans (j_le_of (jput_n e124)) ?_
    obtain ⟨q125, e126, hf⟩ := j_bind hf
    refine j_le_trans (jnA_le e126) ?_
    obtain ⟨h127, e128, hf⟩ := j_bind hf
    refine j_le_trans (j_le_of (jput_n e128)) ?_
    obtain ⟨q129, e130, hf⟩ := j_bind hf
    refine j_le_trans (jnA_le e130) ?_
    obtain ⟨h131, e132, hf⟩ := j_bind hf
    refine j_le_trans (j_le_of (jput_n e132)) ?_
    obtain ⟨q133, e134, hf⟩ := j_bind hf
    refine j_le_trans (jnA_le e134) ?_
    obtain ⟨h135, e136, hf⟩ := j_bind hf
    refine j_le_trans (j_le_of (jput_n e136)) ?_
    obtain ⟨u143, e144, hf⟩ := j_bind hf
    obtain ⟨q137, e138, hf⟩ := j_bind hf
    refine j_le_trans (j_le_of ((q_X12_laysBasic e138))) ?_
    obtain ⟨u141, e142, hf⟩ := j_bind hf
    obtain ⟨q139, e140, hf⟩ := j_bind hf
    refine j_le_trans (j_le_of ((q_X12_takes e140))) ?_
    obtain rfl := j_inj hf
    exact j_le_refl _
  refine x_newa (q := q89.1) (h1 := q89.2) C dX12_init_198 rfl (by decide) (by decide) (fun q => q) wi_int e90 hle ?_
  obtain ⟨h91, e92, hf⟩ := j_bind hf
  refine x_putF C hin dX12_init_200 e92 fp_X12_239 rfl rfl ?_
  refine x_aload_n (v := a0) C dX12_init_203 rfl ?_
  refine x_bipush C dX12_init_204 kb_36 ?_
  obtain ⟨q93, e94, hf⟩ := j_bind hf
  have hle : j_le q93.2 q.2 := by
    obtain ⟨h95, e96, hf⟩ := j_bind hf
    refine j_le_trans (j_le_of (jput_n e96)) ?_
    obtain ⟨q97, e98, hf⟩ := j_bind hf
    refine j_le_trans (jnA_le e98) ?_
    obtain ⟨h99, e100, hf⟩ := j_bind hf
    refine j_le_trans (j_le_of (jput_n e100)) ?_
    obtain ⟨q101, e102, hf⟩ := j_bind hf
    refine j_le_trans (jnA_le e102) ?_
    obtain ⟨h103, e104, hf⟩ := j_bind hf
    refine j_le_trans (j_le_of (jput_n e104)) ?_
    obtain ⟨q105, e106, hf⟩ := j_bind hf
    refine j_le_trans (jnA_le e106) ?_
    obtain ⟨h107, e108, hf⟩ := j_bind hf
    refine j_le_trans (j_le_of (jput_n e108)) ?_
    obtain ⟨q109, e110, hf⟩ := j_bind hf
    refine j_le_trans (jnA_le e110) ?_
    obtain ⟨h111, e112, hf⟩ := j_bind hf
    refine j_le_trans (j_le_of (jput_n e112)) ?_
    obtain ⟨q113, e114, hf⟩ := j_bind hf
    refine j_le_trans (jnA_le e114) ?_
    obtain ⟨h115, e116, hf⟩ := j_bind hf
    refine j_le_trans (j_le_of (jput_n e116)) ?_
    obtain ⟨q117, e118, hf⟩ := j_bind hf
    refine j_le_trans (jnA_le e118) ?_
    obtain ⟨h119, e120, hf⟩ := j_bind hf
    refine j_le_trans (j_le_of (jput_n e120)) ?_
    obtain ⟨q121, e122, hf⟩ := j_bind hf
    refine j_le_trans (jnA_le e122) ?_
    obtain ⟨h123, e124, hf⟩ := j_bind hf
    refine j_le_trans (j_le_of (jput_n e124)) ?_
    obtain ⟨q125, e126, hf⟩ := j_bind hf
    refine j_le_trans (jnA_le e126) ?_
    obtain ⟨h127, e128, hf⟩ := j_bind hf
    refine j_le_trans (j_le_of (jput_n e128)) ?_
    obtain ⟨q129, e130, hf⟩ := j_bind hf
    refine j_le_trans (jnA_le e130) ?_
    obtain ⟨h131, e132, hf⟩ := j_bind hf
    refine j_le_trans (j_le_of (jput_n e132)) ?_
    obtain ⟨q133, e134, hf⟩ := j_bind hf
    refine j_le_trans (jnA_le e134) ?_
    obtain ⟨h135, e136, hf⟩ := j_bind hf
    refine j_le_trans (j_le_of (jput_n e136)) ?_
    obtain ⟨u143, e144, hf⟩ := j_bind hf
    obtain ⟨q137, e138, hf⟩ := j_bind hf
    refine j_le_trans (j_le_of ((q_X12_laysBasic e138))) ?_
    obtain ⟨u141, e142, hf⟩ := j_bind hf
    obtain ⟨q139, e140, hf⟩ := j_bind hf
    refine j_le_trans (j_le_of ((q_X12_takes e140))) ?_
    obtain rfl := j_inj hf
    exact j_le_refl _
  refine x_newa (q := q93.1) (h1 := q93.2) C dX12_init_206 rfl (by decide) (by decide) (fun q => q) wi_int e94 hle ?_
  obtain ⟨h95, e96, hf⟩ := j_bind hf
  refine x_putF C hin dX12_init_208 e96 fp_X12_241 rfl rfl ?_
  refine x_aload_n (v := a0) C dX12_init_211 rfl ?_
  refine x_bipush C dX12_init_212 kb_6 ?_
  obtain ⟨q97, e98, hf⟩ := j_bind hf
  have hle : j_le q97.2 q.2 := by
    obtain ⟨h99, e100, hf⟩ := j_bind hf
    refine j_le_trans (j_le_of (jput_n e100)) ?_
    obtain ⟨q101, e102, hf⟩ := j_bind hf
    refine j_le_trans (jnA_le e102) ?_
    obtain ⟨h103, e104, hf⟩ := j_bind hf
    refine j_le_trans (j_le_of (jput_n e104)) ?_
    obtain ⟨q105, e106, hf⟩ := j_bind hf
    refine j_le_trans (jnA_le e106) ?_
    obtain ⟨h107, e108, hf⟩ := j_bind hf
    refine j_le_trans (j_le_of (jput_n e108)) ?_
    obtain ⟨q109, e110, hf⟩ := j_bind hf
    refine j_le_trans (jnA_le e110) ?_
    obtain ⟨h111, e112, hf⟩ := j_bind hf
    refine j_le_trans (j_le_of (jput_n e112)) ?_
    obtain ⟨q113, e114, hf⟩ := j_bind hf
    refine j_le_trans (jnA_le e114) ?_
    obtain ⟨h115, e116, hf⟩ := j_bind hf
    refine j_le_trans (j_le_of (jput_n e116)) ?_
    obtain ⟨q117, e118, hf⟩ := j_bind hf
    refine j_le_trans (jnA_le e118) ?_
    obtain ⟨h119, e120, hf⟩ := j_bind hf
    refine j_le_trans (j_le_of (jput_n e120)) ?_
    obtain ⟨q121, e122, hf⟩ := j_bind hf
    refine j_le_trans (jnA_le e122) ?_
    obtain ⟨h123, e124, hf⟩ := j_bind hf
    refine j_le_trans (j_le_of (jput_n e124)) ?_
    obtain ⟨q125, e126, hf⟩ := j_bind hf
    refine j_le_trans (jnA_le e126) ?_
    obtain ⟨h127, e128, hf⟩ := j_bind hf
    refine j_le_trans (j_le_of (jput_n e128)) ?_
    obtain ⟨q129, e130, hf⟩ := j_bind hf
    refine j_le_trans (jnA_le e130) ?_
    obtain ⟨h131, e132, hf⟩ := j_bind hf
    refine j_le_trans (j_le_of (jput_n e132)) ?_
    obtain ⟨q133, e134, hf⟩ := j_bind hf
    refine j_le_trans (jnA_le e134) ?_
    obtain ⟨h135, e136, hf⟩ := j_bind hf
    refine j_le_trans (j_le_of (jput_n e136)) ?_
    obtain ⟨u143, e144, hf⟩ := j_bind hf
    obtain ⟨q137, e138, hf⟩ := j_bind hf
    refine j_le_trans (j_le_of ((q_X12_laysBasic e138))) ?_
    obtain ⟨u141, e142, hf⟩ := j_bind hf
    obtain ⟨q139, e140, hf⟩ := j_bind hf
    refine j_le_trans (j_le_of ((q_X12_takes e140))) ?_
    obtain rfl := j_inj hf
    exact j_le_refl _
  refine x_newa (q := q97.1) (h1 := q97.2) C dX12_init_214 rfl (by decide) (by decide) (fun q => q) wi_int e98 hle ?_
  obtain ⟨h99, e100, hf⟩ := j_bind hf
  refine x_putF C hin dX12_init_216 e100 fp_X12_244 rfl rfl ?_
  refine x_aload_n (v := a0) C dX12_init_219 rfl ?_
  refine x_bipush C dX12_init_220 kb_36 ?_
  obtain ⟨q101, e102, hf⟩ := j_bind hf
  have hle : j_le q101.2 q.2 := by
    obtain ⟨h103, e104, hf⟩ := j_bind hf
    refine j_le_trans (j_le_of (jput_n e104)) ?_
    obtain ⟨q105, e106, hf⟩ := j_bind hf
    refine j_le_trans (jnA_le e106) ?_
    obtain ⟨h107, e108, hf⟩ := j_bind hf
    refine j_le_trans (j_le_of (jput_n e108)) ?_
    obtain ⟨q109, e110, hf⟩ := j_bind hf
    refine j_le_trans (jnA_le e110) ?_
    obtain ⟨h111, e112, hf⟩ := j_bind hf
    refine j_le_trans (j_le_of (jput_n e112)) ?_
    obtain ⟨q113, e114, hf⟩ := j_bind hf
    refine j_le_trans (jnA_le e114) ?_
    obtain ⟨h115, e116, hf⟩ := j_bind hf
    refine j_le_trans (j_le_of (jput_n e116)) ?_
    obtain ⟨q117, e118, hf⟩ := j_bind hf
    refine j_le_trans (jnA_le e118) ?_
    obtain ⟨h119, e120, hf⟩ := j_bind hf
    refine j_le_trans (j_le_of (jput_n e120)) ?_
    obtain ⟨q121, e122, hf⟩ := j_bind hf
    refine j_le_trans (jnA_le e122) ?_
    obtain ⟨h123, e124, hf⟩ := j_bind hf
    refine j_le_trans (j_le_of (jput_n e124)) ?_
    obtain ⟨q125, e126, hf⟩ := j_bind hf
    refine j_le_trans (jnA_le e126) ?_
    obtain ⟨h127, e128, hf⟩ := j_bind hf
    refine j_le_trans (j_le_of (jput_n e128)) ?_
    obtain ⟨q129, e130, hf⟩ := j_bind hf
    refine j_le_trans (jnA_le e130) ?_
    obtain ⟨h131, e132, hf⟩ := j_bind hf
    refine j_le_trans (j_le_of (jput_n e132)) ?_
    obtain ⟨q133, e134, hf⟩ := j_bind hf
    refine j_le_trans (jnA_le e134) ?_
    obtain ⟨h135, e136, hf⟩ := j_bind hf
    refine j_le_trans (j_le_of (jput_n e136)) ?_
    obtain ⟨u143, e144, hf⟩ := j_bind hf
    obtain ⟨q137, e138, hf⟩ := j_bind hf
    refine j_le_trans (j_le_of ((q_X12_laysBasic e138))) ?_
    obtain ⟨u141, e142, hf⟩ := j_bind hf
    obtain ⟨q139, e140, hf⟩ := j_bind hf
    refine j_le_trans (j_le_of ((q_X12_takes e140))) ?_
    obtain rfl := j_inj hf
    exact j_le_refl _
  refine x_newa (q := q101.1) (h1 := q101.2) C dX12_init_222 rfl (by decide) (by decide) (fun q => q) wi_int e102 hle ?_
  obtain ⟨h103, e104, hf⟩ := j_bind hf
  refine x_putF C hin dX12_init_224 e104 fp_X12_247 rfl rfl ?_
  refine x_aload_n (v := a0) C dX12_init_227 rfl ?_
  refine x_bipush C dX12_init_228 kb_8 ?_
  obtain ⟨q105, e106, hf⟩ := j_bind hf
  have hle : j_le q105.2 q.2 := by
    obtain ⟨h107, e108, hf⟩ := j_bind hf
    refine j_le_trans (j_le_of (jput_n e108)) ?_
    obtain ⟨q109, e110, hf⟩ := j_bind hf
    refine j_le_trans (jnA_le e110) ?_
    obtain ⟨h111, e112, hf⟩ := j_bind hf
    refine j_le_trans (j_le_of (jput_n e112)) ?_
    obtain ⟨q113, e114, hf⟩ := j_bind hf
    refine j_le_trans (jnA_le e114) ?_
    obtain ⟨h115, e116, hf⟩ := j_bind hf
    refine j_le_trans (j_le_of (jput_n e116)) ?_
    obtain ⟨q117, e118, hf⟩ := j_bind hf
    refine j_le_trans (jnA_le e118) ?_
    obtain ⟨h119, e120, hf⟩ := j_bind hf
    refine j_le_trans (j_le_of (jput_n e120)) ?_
    obtain ⟨q121, e122, hf⟩ := j_bind hf
    refine j_le_trans (jnA_le e122) ?_
    obtain ⟨h123, e124, hf⟩ := j_bind hf
    refine j_le_trans (j_le_of (jput_n e124)) ?_
    obtain ⟨q125, e126, hf⟩ := j_bind hf
    refine j_le_trans (jnA_le e126) ?_
    obtain ⟨h127, e128, hf⟩ := j_bind hf
    refine j_le_trans (j_le_of (jput_n e128)) ?_
    obtain ⟨q129, e130, hf⟩ := j_bind hf
    refine j_le_trans (jnA_le e130) ?_
    obtain ⟨h131, e132, hf⟩ := j_bind hf
    refine j_le_trans (j_le_of (jput_n e132)) ?_
    obtain ⟨q133, e134, hf⟩ := j_bind hf
    refine j_le_trans (jnA_le e134) ?_
    obtain ⟨h135, e136, hf⟩ := j_bind hf
    refine j_le_trans (j_le_of (jput_n e136)) ?_
    obtain ⟨u143, e144, hf⟩ := j_bind hf
    obtain ⟨q137, e138, hf⟩ := j_bind hf
    refine j_le_trans (j_le_of ((q_X12_laysBasic e138))) ?_
    obtain ⟨u141, e142, hf⟩ := j_bind hf
    obtain ⟨q139, e140, hf⟩ := j_bind hf
    refine j_le_trans (j_le_of ((q_X12_takes e140))) ?_
    obtain rfl := j_inj hf
    exact j_le_refl _
  refine x_newa (q := q105.1) (h1 := q105.2) C dX12_init_230 rfl (by decide) (by decide) (fun q => q) wi_boolean e106 hle ?_
  obtain ⟨h107, e108, hf⟩ := j_bind hf
  refine x_putF C hin dX12_init_232 e108 fp_X12_221 rfl rfl ?_
  refine x_aload_n (v := a0) C dX12_init_235 rfl ?_
  refine x_bipush C dX12_init_236 kb_104 ?_
  obtain ⟨q109, e110, hf⟩ := j_bind hf
  have hle : j_le q109.2 q.2 := by
    obtain ⟨h111, e112, hf⟩ := j_bind hf
    refine j_le_trans (j_le_of (jput_n e112)) ?_
    obtain ⟨q113, e114, hf⟩ := j_bind hf
    refine j_le_trans (jnA_le e114) ?_
    obtain ⟨h115, e116, hf⟩ := j_bind hf
    refine j_le_trans (j_le_of (jput_n e116)) ?_
    obtain ⟨q117, e118, hf⟩ := j_bind hf
    refine j_le_trans (jnA_le e118) ?_
    obtain ⟨h119, e120, hf⟩ := j_bind hf
    refine j_le_trans (j_le_of (jput_n e120)) ?_
    obtain ⟨q121, e122, hf⟩ := j_bind hf
    refine j_le_trans (jnA_le e122) ?_
    obtain ⟨h123, e124, hf⟩ := j_bind hf
    refine j_le_trans (j_le_of (jput_n e124)) ?_
    obtain ⟨q125, e126, hf⟩ := j_bind hf
    refine j_le_trans (jnA_le e126) ?_
    obtain ⟨h127, e128, hf⟩ := j_bind hf
    refine j_le_trans (j_le_of (jput_n e128)) ?_
    obtain ⟨q129, e130, hf⟩ := j_bind hf
    refine j_le_trans (jnA_le e130) ?_
    obtain ⟨h131, e132, hf⟩ := j_bind hf
    refine j_le_trans (j_le_of (jput_n e132)) ?_
    obtain ⟨q133, e134, hf⟩ := j_bind hf
    refine j_le_trans (jnA_le e134) ?_
    obtain ⟨h135, e136, hf⟩ := j_bind hf
    refine j_le_trans (j_le_of (jput_n e136)) ?_
    obtain ⟨u143, e144, hf⟩ := j_bind hf
    obtain ⟨q137, e138, hf⟩ := j_bind hf
    refine j_le_trans (j_le_of ((q_X12_laysBasic e138))) ?_
    obtain ⟨u141, e142, hf⟩ := j_bind hf
    obtain ⟨q139, e140, hf⟩ := j_bind hf
    refine j_le_trans (j_le_of ((q_X12_takes e140))) ?_
    obtain rfl := j_inj hf
    exact j_le_refl _
  refine x_newa (q := q109.1) (h1 := q109.2) C dX12_init_238 rfl (by decide) (by decide) (fun q => q) wi_long e110 hle ?_
  obtain ⟨h111, e112, hf⟩ := j_bind hf
  refine x_putF C hin dX12_init_240 e112 fp_X12_250 rfl rfl ?_
  refine x_aload_n (v := a0) C dX12_init_243 rfl ?_
  refine x_iconst C dX12_init_244 ki_2 ?_
  obtain ⟨q113, e114, hf⟩ := j_bind hf
  have hle : j_le q113.2 q.2 := by
    obtain ⟨h115, e116, hf⟩ := j_bind hf
    refine j_le_trans (j_le_of (jput_n e116)) ?_
    obtain ⟨q117, e118, hf⟩ := j_bind hf
    refine j_le_trans (jnA_le e118) ?_
    obtain ⟨h119, e120, hf⟩ := j_bind hf
    refine j_le_trans (j_le_of (jput_n e120)) ?_
    obtain ⟨q121, e122, hf⟩ := j_bind hf
    refine j_le_trans (jnA_le e122) ?_
    obtain ⟨h123, e124, hf⟩ := j_bind hf
    refine j_le_trans (j_le_of (jput_n e124)) ?_
    obtain ⟨q125, e126, hf⟩ := j_bind hf
    refine j_le_trans (jnA_le e126) ?_
    obtain ⟨h127, e128, hf⟩ := j_bind hf
    refine j_le_trans (j_le_of (jput_n e128)) ?_
    obtain ⟨q129, e130, hf⟩ := j_bind hf
    refine j_le_trans (jnA_le e130) ?_
    obtain ⟨h131, e132, hf⟩ := j_bind hf
    refine j_le_trans (j_le_of (jput_n e132)) ?_
    obtain ⟨q133, e134, hf⟩ := j_bind hf
    refine j_le_trans (jnA_le e134) ?_
    obtain ⟨h135, e136, hf⟩ := j_bind hf
    refine j_le_trans (j_le_of (jput_n e136)) ?_
    obtain ⟨u143, e144, hf⟩ := j_bind hf
    obtain ⟨q137, e138, hf⟩ := j_bind hf
    refine j_le_trans (j_le_of ((q_X12_laysBasic e138))) ?_
    obtain ⟨u141, e142, hf⟩ := j_bind hf
    obtain ⟨q139, e140, hf⟩ := j_bind hf
    refine j_le_trans (j_le_of ((q_X12_takes e140))) ?_
    obtain rfl := j_inj hf
    exact j_le_refl _
  refine x_newa (q := q113.1) (h1 := q113.2) C dX12_init_245 rfl (by decide) (by decide) (fun q => q) wi_boolean e114 hle ?_
  obtain ⟨h115, e116, hf⟩ := j_bind hf
  refine x_putF C hin dX12_init_247 e116 fp_X12_225 rfl rfl ?_
  refine x_aload_n (v := a0) C dX12_init_250 rfl ?_
  refine x_iconst C dX12_init_251 ki_2 ?_
  obtain ⟨q117, e118, hf⟩ := j_bind hf
  have hle : j_le q117.2 q.2 := by
    obtain ⟨h119, e120, hf⟩ := j_bind hf
    refine j_le_trans (j_le_of (jput_n e120)) ?_
    obtain ⟨q121, e122, hf⟩ := j_bind hf
    refine j_le_trans (jnA_le e122) ?_
    obtain ⟨h123, e124, hf⟩ := j_bind hf
    refine j_le_trans (j_le_of (jput_n e124)) ?_
    obtain ⟨q125, e126, hf⟩ := j_bind hf
    refine j_le_trans (jnA_le e126) ?_
    obtain ⟨h127, e128, hf⟩ := j_bind hf
    refine j_le_trans (j_le_of (jput_n e128)) ?_
    obtain ⟨q129, e130, hf⟩ := j_bind hf
    refine j_le_trans (jnA_le e130) ?_
    obtain ⟨h131, e132, hf⟩ := j_bind hf
    refine j_le_trans (j_le_of (jput_n e132)) ?_
    obtain ⟨q133, e134, hf⟩ := j_bind hf
    refine j_le_trans (jnA_le e134) ?_
    obtain ⟨h135, e136, hf⟩ := j_bind hf
    refine j_le_trans (j_le_of (jput_n e136)) ?_
    obtain ⟨u143, e144, hf⟩ := j_bind hf
    obtain ⟨q137, e138, hf⟩ := j_bind hf
    refine j_le_trans (j_le_of ((q_X12_laysBasic e138))) ?_
    obtain ⟨u141, e142, hf⟩ := j_bind hf
    obtain ⟨q139, e140, hf⟩ := j_bind hf
    refine j_le_trans (j_le_of ((q_X12_takes e140))) ?_
    obtain rfl := j_inj hf
    exact j_le_refl _
  refine x_newa (q := q117.1) (h1 := q117.2) C dX12_init_252 rfl (by decide) (by decide) (fun q => q) wi_int e118 hle ?_
  obtain ⟨h119, e120, hf⟩ := j_bind hf
  refine x_putF C hin dX12_init_254 e120 fp_X12_254 rfl rfl ?_
  refine x_aload_n (v := a0) C dX12_init_257 rfl ?_
  refine x_bipush C dX12_init_258 kb_8 ?_
  obtain ⟨q121, e122, hf⟩ := j_bind hf
  have hle : j_le q121.2 q.2 := by
    obtain ⟨h123, e124, hf⟩ := j_bind hf
    refine j_le_trans (j_le_of (jput_n e124)) ?_
    obtain ⟨q125, e126, hf⟩ := j_bind hf
    refine j_le_trans (jnA_le e126) ?_
    obtain ⟨h127, e128, hf⟩ := j_bind hf
    refine j_le_trans (j_le_of (jput_n e128)) ?_
    obtain ⟨q129, e130, hf⟩ := j_bind hf
    refine j_le_trans (jnA_le e130) ?_
    obtain ⟨h131, e132, hf⟩ := j_bind hf
    refine j_le_trans (j_le_of (jput_n e132)) ?_
    obtain ⟨q133, e134, hf⟩ := j_bind hf
    refine j_le_trans (jnA_le e134) ?_
    obtain ⟨h135, e136, hf⟩ := j_bind hf
    refine j_le_trans (j_le_of (jput_n e136)) ?_
    obtain ⟨u143, e144, hf⟩ := j_bind hf
    obtain ⟨q137, e138, hf⟩ := j_bind hf
    refine j_le_trans (j_le_of ((q_X12_laysBasic e138))) ?_
    obtain ⟨u141, e142, hf⟩ := j_bind hf
    obtain ⟨q139, e140, hf⟩ := j_bind hf
    refine j_le_trans (j_le_of ((q_X12_takes e140))) ?_
    obtain rfl := j_inj hf
    exact j_le_refl _
  refine x_newa (q := q121.1) (h1 := q121.2) C dX12_init_260 rfl (by decide) (by decide) (fun q => q) wi_int e122 hle ?_
  obtain ⟨h123, e124, hf⟩ := j_bind hf
  refine x_putF C hin dX12_init_262 e124 fp_X12_257 rfl rfl ?_
  refine x_aload_n (v := a0) C dX12_init_265 rfl ?_
  refine x_sipush C dX12_init_266 ks_1448 ?_
  obtain ⟨q125, e126, hf⟩ := j_bind hf
  have hle : j_le q125.2 q.2 := by
    obtain ⟨h127, e128, hf⟩ := j_bind hf
    refine j_le_trans (j_le_of (jput_n e128)) ?_
    obtain ⟨q129, e130, hf⟩ := j_bind hf
    refine j_le_trans (jnA_le e130) ?_
    obtain ⟨h131, e132, hf⟩ := j_bind hf
    refine j_le_trans (j_le_of (jput_n e132)) ?_
    obtain ⟨q133, e134, hf⟩ := j_bind hf
    refine j_le_trans (jnA_le e134) ?_
    obtain ⟨h135, e136, hf⟩ := j_bind hf
    refine j_le_trans (j_le_of (jput_n e136)) ?_
    obtain ⟨u143, e144, hf⟩ := j_bind hf
    obtain ⟨q137, e138, hf⟩ := j_bind hf
    refine j_le_trans (j_le_of ((q_X12_laysBasic e138))) ?_
    obtain ⟨u141, e142, hf⟩ := j_bind hf
    obtain ⟨q139, e140, hf⟩ := j_bind hf
    refine j_le_trans (j_le_of ((q_X12_takes e140))) ?_
    obtain rfl := j_inj hf
    exact j_le_refl _
  refine x_newa (q := q125.1) (h1 := q125.2) C dX12_init_269 rfl (by decide) (by decide) (fun q => q) wi_int e126 hle ?_
  obtain ⟨h127, e128, hf⟩ := j_bind hf
  refine x_putF C hin dX12_init_271 e128 fp_X12_260 rfl rfl ?_
  refine x_aload_n (v := a0) C dX12_init_274 rfl ?_
  refine x_bipush C dX12_init_275 kb_16 ?_
  obtain ⟨q129, e130, hf⟩ := j_bind hf
  have hle : j_le q129.2 q.2 := by
    obtain ⟨h131, e132, hf⟩ := j_bind hf
    refine j_le_trans (j_le_of (jput_n e132)) ?_
    obtain ⟨q133, e134, hf⟩ := j_bind hf
    refine j_le_trans (jnA_le e134) ?_
    obtain ⟨h135, e136, hf⟩ := j_bind hf
    refine j_le_trans (j_le_of (jput_n e136)) ?_
    obtain ⟨u143, e144, hf⟩ := j_bind hf
    obtain ⟨q137, e138, hf⟩ := j_bind hf
    refine j_le_trans (j_le_of ((q_X12_laysBasic e138))) ?_
    obtain ⟨u141, e142, hf⟩ := j_bind hf
    obtain ⟨q139, e140, hf⟩ := j_bind hf
    refine j_le_trans (j_le_of ((q_X12_takes e140))) ?_
    obtain rfl := j_inj hf
    exact j_le_refl _
  refine x_newa (q := q129.1) (h1 := q129.2) C dX12_init_277 rfl (by decide) (by decide) (fun q => q) wi_boolean e130 hle ?_
  obtain ⟨h131, e132, hf⟩ := j_bind hf
  refine x_putF C hin dX12_init_279 e132 fp_X12_263 rfl rfl ?_
  refine x_aload_n (v := a0) C dX12_init_282 rfl ?_
  refine x_sipush C dX12_init_283 ks_208 ?_
  obtain ⟨q133, e134, hf⟩ := j_bind hf
  have hle : j_le q133.2 q.2 := by
    obtain ⟨h135, e136, hf⟩ := j_bind hf
    refine j_le_trans (j_le_of (jput_n e136)) ?_
    obtain ⟨u143, e144, hf⟩ := j_bind hf
    obtain ⟨q137, e138, hf⟩ := j_bind hf
    refine j_le_trans (j_le_of ((q_X12_laysBasic e138))) ?_
    obtain ⟨u141, e142, hf⟩ := j_bind hf
    obtain ⟨q139, e140, hf⟩ := j_bind hf
    refine j_le_trans (j_le_of ((q_X12_takes e140))) ?_
    obtain rfl := j_inj hf
    exact j_le_refl _
  refine x_newa (q := q133.1) (h1 := q133.2) C dX12_init_286 rfl (by decide) (by decide) (fun q => q) wi_long e134 hle ?_
  obtain ⟨h135, e136, hf⟩ := j_bind hf
  refine x_putF C hin dX12_init_288 e136 fp_X12_266 rfl rfl ?_
  refine x_aload_n (v := a0) C dX12_init_291 rfl ?_
  obtain ⟨u143, e144, hf⟩ := j_bind hf
  obtain ⟨q137, e138, hf⟩ := j_bind hf
  refine x_callV (As := []) (rest := []) C dX12_init_292 (m_X12_laysBasic (l := l) (E := E) (d := d - 1) (by omega) e138) km_X12_laysBasic lk_X12_194 kv_X12_laysBasic (ci := 9) rfl e144 rfl (by omega) (Nat.le_of_ble_eq_true rfl) (j_le_of (q_X12_laysBasic e138)) (Or.inr (q_X12_laysBasic e138)) ?_
  refine x_aload_n (v := a0) C dX12_init_295 rfl ?_
  obtain ⟨u141, e142, hf⟩ := j_bind hf
  obtain ⟨q139, e140, hf⟩ := j_bind hf
  refine x_callV (As := []) (rest := []) C dX12_init_296 (m_X12_takes (l := l) (E := E) (d := d - 1) (by omega) e140) km_X12_takes lk_X12_203 kv_X12_takes (ci := 9) rfl e142 rfl (by omega) (Nat.le_of_ble_eq_true rfl) (j_le_of (q_X12_takes e140)) (Or.inr (q_X12_takes e140)) ?_
  obtain rfl := j_inj hf
  exact x_vret C hret dX12_init_299
set_option maxHeartbeats 4000000 in
set_option maxRecDepth 100000 in
theorem m_X12_count {l : Launch} {E : JE} {d : Nat} (hdd : 0 ≤ d) {a0 : Nat} {a1 : Int32} {h : JH} {q : Int32 × JH} (hf : f_X12_count a0 a1 h = some q) : Con l E d yX12_count cX12_count 2 (some .int) [.ref a0, .int a1] h (some (.int q.1)) q.2 := by
  refine j_start rfl (Nat.le_of_ble_eq_true rfl) ?_
  intro p e s m args below meth c C hret hnm
  refine x_loc [(0, .ref a0), (1, .int a1)] rfl ?_
  unfold f_X12_count at hf
  refine x_aload_n (v := a0) C dX12_count_0 rfl ?_
  refine x_iconst C dX12_count_1 ki_0 ?_
  obtain ⟨h1, e2, hf⟩ := j_bind hf
  refine x_put C dX12_count_2 e2 fp_X12_1 rfl rfl ?_
  refine x_iload_n (v := a1) C dX12_count_5 rfl ?_
  by_cases c21 : a1 = (0 : Int32)
  · have hf := j_ifp hf c21
    refine x_table C dX12_count_6 36 (by rw [c21]; decide) (30) (by rw [c21]; rfl) (by decide) ?_
    refine x_aload_n (v := a0) C dX12_count_36 rfl ?_
    obtain ⟨v3, e4, hf⟩ := j_bind hf
    refine x_get C dX12_count_37 (jgI_some e4) fg_X12_7 ?_
    obtain rfl := j_inj hf
    exact x_iret C hret dX12_count_40
  have hf := j_ifn hf c21
  by_cases c22 : a1 = (1 : Int32)
  · have hf := j_ifp hf c22
    refine x_table C dX12_count_6 41 (by rw [c22]; decide) (35) (by rw [c22]; rfl) (by decide) ?_
    refine x_aload_n (v := a0) C dX12_count_41 rfl ?_
    obtain ⟨v5, e6, hf⟩ := j_bind hf
    refine x_get C dX12_count_42 (jgI_some e6) fg_X12_206 ?_
    obtain rfl := j_inj hf
    exact x_iret C hret dX12_count_45
  have hf := j_ifn hf c22
  by_cases c23 : a1 = (2 : Int32)
  · have hf := j_ifp hf c23
    refine x_table C dX12_count_6 46 (by rw [c23]; decide) (40) (by rw [c23]; rfl) (by decide) ?_
    refine x_aload_n (v := a0) C dX12_count_46 rfl ?_
    obtain ⟨v7, e8, hf⟩ := j_bind hf
    refine x_get C dX12_count_47 (jgI_some e8) fg_X12_75 ?_
    obtain rfl := j_inj hf
    exact x_iret C hret dX12_count_50
  have hf := j_ifn hf c23
  by_cases c24 : a1 = (3 : Int32)
  · have hf := j_ifp hf c24
    refine x_table C dX12_count_6 51 (by rw [c24]; decide) (45) (by rw [c24]; rfl) (by decide) ?_
    refine x_aload_n (v := a0) C dX12_count_51 rfl ?_
    obtain ⟨v9, e10, hf⟩ := j_bind hf
    refine x_get C dX12_count_52 (jgR_some e10) fg_X12_225 ?_
    refine x_iconst C dX12_count_55 ki_0 ?_
    obtain ⟨v11, e12, hf⟩ := j_bind hf
    refine x_bald C dX12_count_56 e12 ?_
    refine x_if_eq (tgt := 64) C dX12_count_57 (by decide) (fun c25 => ?_) (fun c25 => ?_)
    · have hf := j_ifp hf c25
      refine x_iconst C dX12_count_64 ki_0 ?_
      refine x_aload_n (v := a0) C dX12_count_65 rfl ?_
      obtain ⟨v13, e14, hf⟩ := j_bind hf
      refine x_get C dX12_count_66 (jgR_some e14) fg_X12_225 ?_
      refine x_iconst C dX12_count_69 ki_1 ?_
      obtain ⟨v15, e16, hf⟩ := j_bind hf
      refine x_bald C dX12_count_70 e16 ?_
      refine x_if_eq (tgt := 78) C dX12_count_71 (by decide) (fun c26 => ?_) (fun c26 => ?_)
      · have hf := j_ifp hf c26
        refine x_iconst C dX12_count_78 ki_0 ?_
        refine x_iadd C dX12_count_79 ?_
        obtain rfl := j_inj hf
        exact x_iret C hret dX12_count_80
      · have hf := j_ifn hf c26
        refine x_iconst C dX12_count_74 ki_1 ?_
        refine x_goto (tgt := 79) C dX12_count_75 (by decide) ?_
        refine x_iadd C dX12_count_79 ?_
        obtain rfl := j_inj hf
        exact x_iret C hret dX12_count_80
    · have hf := j_ifn hf c25
      refine x_iconst C dX12_count_60 ki_1 ?_
      refine x_goto (tgt := 65) C dX12_count_61 (by decide) ?_
      refine x_aload_n (v := a0) C dX12_count_65 rfl ?_
      obtain ⟨v17, e18, hf⟩ := j_bind hf
      refine x_get C dX12_count_66 (jgR_some e18) fg_X12_225 ?_
      refine x_iconst C dX12_count_69 ki_1 ?_
      obtain ⟨v19, e20, hf⟩ := j_bind hf
      refine x_bald C dX12_count_70 e20 ?_
      refine x_if_eq (tgt := 78) C dX12_count_71 (by decide) (fun c27 => ?_) (fun c27 => ?_)
      · have hf := j_ifp hf c27
        refine x_iconst C dX12_count_78 ki_0 ?_
        refine x_iadd C dX12_count_79 ?_
        obtain rfl := j_inj hf
        exact x_iret C hret dX12_count_80
      · have hf := j_ifn hf c27
        refine x_iconst C dX12_count_74 ki_1 ?_
        refine x_goto (tgt := 79) C dX12_count_75 (by decide) ?_
        refine x_iadd C dX12_count_79 ?_
        obtain rfl := j_inj hf
        exact x_iret C hret dX12_count_80
  have hf := j_ifn hf c24
  refine x_tableD C dX12_count_6 81 (by have := j_ne c21 (show (0 : Int32).toInt = 0 by decide); have := j_ne c22 (show (1 : Int32).toInt = 1 by decide); have := j_ne c23 (show (2 : Int32).toInt = 2 by decide); have := j_ne c24 (show (3 : Int32).toInt = 3 by decide); omega) (by decide) ?_
  refine x_iconst C dX12_count_81 ki_m1 ?_
  obtain rfl := j_inj hf
  exact x_iret C hret dX12_count_82
set_option maxHeartbeats 4000000 in
set_option maxRecDepth 100000 in
theorem m_X12_let {l : Launch} {E : JE} {d : Nat} (hdd : 1 ≤ d) {a0 : Nat} {a1 : Int32} {a2 : Int32} {h : JH} {q : Int32 × JH} (hf : f_X12_let a0 a1 a2 h = some q) : Con l E d yX12_let cX12_let 3 (some .int) [.ref a0, .int a1, .int a2] h (some (.int q.1)) q.2 := by
  refine j_start rfl (Nat.le_of_ble_eq_true rfl) ?_
  intro p e s m args below meth c C hret hnm
  refine x_loc [(0, .ref a0), (1, .int a1), (2, .int a2)] rfl ?_
  unfold f_X12_let at hf
  refine x_aload_n (v := a0) C dX12_let_0 rfl ?_
  refine x_iconst C dX12_let_1 ki_0 ?_
  obtain ⟨h1, e2, hf⟩ := j_bind hf
  refine x_put C dX12_let_2 e2 fp_X12_1 rfl rfl ?_
  refine x_iload_n (v := a1) C dX12_let_5 rfl ?_
  refine x_iconst C dX12_let_6 ki_0 ?_
  refine x_aload_n (v := a0) C dX12_let_7 rfl ?_
  obtain ⟨v3, e4, hf⟩ := j_bind hf
  refine x_get C dX12_let_8 (jgI_some e4) fg_X12_206 ?_
  refine x_iconst C dX12_let_11 ki_1 ?_
  refine x_isub C dX12_let_12 ?_
  obtain ⟨q5, e6, hf⟩ := j_bind hf
  refine x_callS (As := [.int a1, .int (0 : Int32), .int (v3 - (1 : Int32))]) (rest := []) C dX12_let_13 (m_X12_within (l := l) (E := E) (d := d - 1) (by omega) e6) km_X12_within lk_X12_45 ks_X12_within rfl (by omega) (Nat.le_of_ble_eq_true rfl) (j_le_of (q_X12_within e6)) (Or.inr (q_X12_within e6)) ?_
  refine x_if_ne (tgt := 21) C dX12_let_16 (by decide) (fun c21 => ?_) (fun c21 => ?_)
  · have hf := j_ifn hf c21
    refine x_iload_n (v := a2) C dX12_let_21 rfl ?_
    by_cases c22 : a2 = (0 : Int32)
    · have hf := j_ifp hf c22
      refine x_table C dX12_let_22 48 (by rw [c22]; decide) (26) (by rw [c22]; rfl) (by decide) ?_
      refine x_aload_n (v := a0) C dX12_let_48 rfl ?_
      obtain ⟨v7, e8, hf⟩ := j_bind hf
      refine x_get C dX12_let_49 (jgR_some e8) fg_X12_209 ?_
      refine x_iload_n (v := a1) C dX12_let_52 rfl ?_
      obtain ⟨v9, e10, hf⟩ := j_bind hf
      refine x_iald C dX12_let_53 e10 ?_
      obtain rfl := j_inj hf
      exact x_iret C hret dX12_let_54
    have hf := j_ifn hf c22
    by_cases c23 : a2 = (1 : Int32)
    · have hf := j_ifp hf c23
      refine x_table C dX12_let_22 55 (by rw [c23]; decide) (33) (by rw [c23]; rfl) (by decide) ?_
      refine x_aload_n (v := a0) C dX12_let_55 rfl ?_
      obtain ⟨v11, e12, hf⟩ := j_bind hf
      refine x_get C dX12_let_56 (jgR_some e12) fg_X12_209 ?_
      refine x_iload_n (v := a1) C dX12_let_59 rfl ?_
      obtain ⟨v13, e14, hf⟩ := j_bind hf
      refine x_iald C dX12_let_60 e14 ?_
      obtain ⟨q15, e16, hf⟩ := j_bind hf
      refine x_callS (As := [.int v13]) (rest := []) C dX12_let_61 (m_X12_longOf (l := l) (E := E) (d := d - 1) (by omega) e16) km_X12_longOf lk_X12_52 ks_X12_longOf rfl (by omega) (Nat.le_of_ble_eq_true rfl) (j_le_of (q_X12_longOf e16)) (Or.inr (q_X12_longOf e16)) ?_
      obtain rfl := j_inj hf
      exact x_iret C hret dX12_let_64
    have hf := j_ifn hf c23
    by_cases c24 : a2 = (2 : Int32)
    · have hf := j_ifp hf c24
      refine x_table C dX12_let_22 65 (by rw [c24]; decide) (43) (by rw [c24]; rfl) (by decide) ?_
      refine x_aload_n (v := a0) C dX12_let_65 rfl ?_
      obtain ⟨v17, e18, hf⟩ := j_bind hf
      refine x_get C dX12_let_66 (jgR_some e18) fg_X12_212 ?_
      refine x_sipush C dX12_let_69 ks_181 ?_
      refine x_iload_n (v := a1) C dX12_let_72 rfl ?_
      refine x_imul C dX12_let_73 ?_
      obtain ⟨v19, e20, hf⟩ := j_bind hf
      refine x_iald C dX12_let_74 e20 ?_
      refine x_if_ne (tgt := 82) C dX12_let_75 (by decide) (fun c25 => ?_) (fun c25 => ?_)
      · have hf := j_ifn hf c25
        refine x_iconst C dX12_let_82 ki_0 ?_
        obtain rfl := j_inj hf
        exact x_iret C hret dX12_let_83
      · have hf := j_ifp hf c25
        refine x_iconst C dX12_let_78 ki_1 ?_
        refine x_goto (tgt := 83) C dX12_let_79 (by decide) ?_
        obtain rfl := j_inj hf
        exact x_iret C hret dX12_let_83
    have hf := j_ifn hf c24
    refine x_tableD C dX12_let_22 84 (by have := j_ne c22 (show (0 : Int32).toInt = 0 by decide); have := j_ne c23 (show (1 : Int32).toInt = 1 by decide); have := j_ne c24 (show (2 : Int32).toInt = 2 by decide); omega) (by decide) ?_
    refine x_iconst C dX12_let_84 ki_m1 ?_
    obtain rfl := j_inj hf
    exact x_iret C hret dX12_let_85
  · have hf := j_ifp hf c21
    refine x_iconst C dX12_let_19 ki_m1 ?_
    obtain rfl := j_inj hf
    exact x_iret C hret dX12_let_20
set_option maxHeartbeats 4000000 in
set_option maxRecDepth 100000 in
theorem m_X12_isRegister {l : Launch} {E : JE} {d : Nat} (hdd : 1 ≤ d) {a0 : Nat} {a1 : Int32} {h : JH} {q : Int32 × JH} (hf : f_X12_isRegister a0 a1 h = some q) : Con l E d yX12_isRegister cX12_isRegister 2 (some .boolean) [.ref a0, .int a1] h (some (.int q.1)) q.2 := by
  refine j_start rfl (Nat.le_of_ble_eq_true rfl) ?_
  intro p e s m args below meth c C hret hnm
  refine x_loc [(0, .ref a0), (1, .int a1)] rfl ?_
  unfold f_X12_isRegister at hf
  refine x_iload_n (v := a1) C dX12_isRegister_0 rfl ?_
  refine x_iconst C dX12_isRegister_1 ki_0 ?_
  refine x_iconst C dX12_isRegister_2 ki_3 ?_
  obtain ⟨q1, e2, hf⟩ := j_bind hf
  refine x_callS (As := [.int a1, .int (0 : Int32), .int (3 : Int32)]) (rest := []) C dX12_isRegister_3 (m_X12_within (l := l) (E := E) (d := d - 1) (by omega) e2) km_X12_within lk_X12_45 ks_X12_within rfl (by omega) (Nat.le_of_ble_eq_true rfl) (j_le_of (q_X12_within e2)) (Or.inr (q_X12_within e2)) ?_
  obtain ⟨u3, e4, hf⟩ := j_bind hf
  obtain rfl := j_inj hf
  exact x_zret C hret (jzb_some e4) dX12_isRegister_6
set_option maxHeartbeats 4000000 in
set_option maxRecDepth 100000 in
theorem m_X12_coefficient {l : Launch} {E : JE} {d : Nat} (hdd : 2 ≤ d) {a0 : Nat} {a1 : Int32} {a2 : Int32} {h : JH} {q : Int32 × JH} (hf : f_X12_coefficient a0 a1 a2 h = some q) : Con l E d yX12_coefficient cX12_coefficient 3 (some .int) [.ref a0, .int a1, .int a2] h (some (.int q.1)) q.2 := by
  refine j_start rfl (Nat.le_of_ble_eq_true rfl) ?_
  intro p e s m args below meth c C hret hnm
  refine x_loc [(0, .ref a0), (1, .int a1), (2, .int a2)] rfl ?_
  unfold f_X12_coefficient at hf
  refine x_aload_n (v := a0) C dX12_coefficient_0 rfl ?_
  refine x_iconst C dX12_coefficient_1 ki_0 ?_
  obtain ⟨h1, e2, hf⟩ := j_bind hf
  refine x_put C dX12_coefficient_2 e2 fp_X12_1 rfl rfl ?_
  refine x_aload_n (v := a0) C dX12_coefficient_5 rfl ?_
  refine x_iload_n (v := a1) C dX12_coefficient_6 rfl ?_
  obtain ⟨u11, e12, hf⟩ := j_bind hf
  obtain ⟨q3, e4, hf⟩ := j_bind hf
  refine x_callV (As := [.int a1]) (rest := []) C dX12_coefficient_7 (m_X12_isRegister (l := l) (E := E) (d := d - 1) (by omega) e4) km_X12_isRegister lk_X12_269 kv_X12_isRegister (ci := 9) rfl e12 rfl (by omega) (Nat.le_of_ble_eq_true rfl) (j_le_of (q_X12_isRegister e4)) (Or.inr (q_X12_isRegister e4)) ?_
  refine x_if_eq (tgt := 39) C dX12_coefficient_10 (by decide) (fun c13 => ?_) (fun c13 => ?_)
  · have hf := j_ifp hf c13
    refine x_iconst C dX12_coefficient_39 ki_m1 ?_
    obtain rfl := j_inj hf
    exact x_iret C hret dX12_coefficient_40
  · have hf := j_ifn hf c13
    refine x_iload_n (v := a2) C dX12_coefficient_13 rfl ?_
    refine x_iconst C dX12_coefficient_14 ki_0 ?_
    refine x_sipush C dX12_coefficient_15 ks_180 ?_
    obtain ⟨q5, e6, hf⟩ := j_bind hf
    refine x_callS (As := [.int a2, .int (0 : Int32), .int (180 : Int32)]) (rest := []) C dX12_coefficient_18 (m_X12_within (l := l) (E := E) (d := d - 1) (by omega) e6) km_X12_within lk_X12_45 ks_X12_within rfl (by omega) (Nat.le_of_ble_eq_true rfl) (j_le_of (q_X12_within e6)) (Or.inr (q_X12_within e6)) ?_
    refine x_if_eq (tgt := 39) C dX12_coefficient_21 (by decide) (fun c14 => ?_) (fun c14 => ?_)
    · have hf := j_ifp hf c14
      refine x_iconst C dX12_coefficient_39 ki_m1 ?_
      obtain rfl := j_inj hf
      exact x_iret C hret dX12_coefficient_40
    · have hf := j_ifn hf c14
      refine x_aload_n (v := a0) C dX12_coefficient_24 rfl ?_
      obtain ⟨v7, e8, hf⟩ := j_bind hf
      refine x_get C dX12_coefficient_25 (jgR_some e8) fg_X12_218 ?_
      refine x_sipush C dX12_coefficient_28 ks_181 ?_
      refine x_iload_n (v := a1) C dX12_coefficient_31 rfl ?_
      refine x_imul C dX12_coefficient_32 ?_
      refine x_iload_n (v := a2) C dX12_coefficient_33 rfl ?_
      refine x_iadd C dX12_coefficient_34 ?_
      obtain ⟨v9, e10, hf⟩ := j_bind hf
      refine x_iald C dX12_coefficient_35 e10 ?_
      refine x_goto (tgt := 40) C dX12_coefficient_36 (by decide) ?_
      obtain rfl := j_inj hf
      exact x_iret C hret dX12_coefficient_40
