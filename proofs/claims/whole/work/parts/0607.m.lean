set_option maxHeartbeats 4000000 in
set_option maxRecDepth 100000 in
theorem s_X12_pushesNumber_L2 {p : Program} {l : Launch} {e : Env} {R : Room} {s : State} {m : MethodId} {args : Array Value} {below : List Frame} {meth : Method} {c : Code} {E : JE} {h0 hF : JH} {rF : Option Value} {d : Nat} (C : j_C p s m args meth c R E cX12_pushesNumber 3 RX12 h0 hF d) (hret : meth.sig.returnType = none) (hdd : 2 ≤ d) (a0 : Nat) (a1 : Int32) (z : Int32) (h : JH) (r : Int32 ⊕ Int32) (h1 : JH) (hf : f_X12_pushesNumber_L2 a0 a1 z h = some (r, h1)) (hk : Sum.elim (fun z => Xw p l e R s m args below meth c E 3 h0 rF hF 2 [(0, .ref a0), (1, .int a1), (2, .int z)] [] h1) (fun t => Xw p l e R s m args below meth c E 3 h0 rF hF 35 [(0, .ref a0), (1, .int a1), (2, .int t)] [] h1) r) : Xw p l e R s m args below meth c E 3 h0 rF hF 2 [(0, .ref a0), (1, .int a1), (2, .int z)] [] h := by
  unfold f_X12_pushesNumber_L2 at hf
  refine x_iload_n (v := z) C dX12_pushesNumber_2 rfl ?_
  refine x_sipush C dX12_pushesNumber_3 ks_181 ?_
  refine x_icmp_ge (tgt := 35) C dX12_pushesNumber_6 (by decide) (fun c11 => ?_) (fun c11 => ?_)
  · have hf := j_ifp hf c11
    obtain ⟨rfl, rfl⟩ := j_inj2 hf
    exact x_locr hk rfl
  · have hf := j_ifn hf c11
    refine x_aload_n (v := a0) C dX12_pushesNumber_9 rfl ?_
    obtain ⟨v1, e2, hf⟩ := j_bind hf
    refine x_get C dX12_pushesNumber_10 (jgR_some e2) fg_X12_29 ?_
    refine x_iload_n (v := z) C dX12_pushesNumber_13 rfl ?_
    refine x_iload_n (v := z) C dX12_pushesNumber_14 rfl ?_
    refine x_if_ne (tgt := 27) C dX12_pushesNumber_15 (by decide) (fun c12 => ?_) (fun c12 => ?_)
    · have hf := j_ifn hf c12
      refine x_iconst C dX12_pushesNumber_27 ki_0 ?_
      obtain ⟨h3, e4, hf⟩ := j_bind hf
      refine x_iast C dX12_pushesNumber_28 e4 ?_
      refine x_iinc (v := z) C dX12_pushesNumber_29 rfl ki_1 (by decide) ?_
      refine x_goto (tgt := 2) C dX12_pushesNumber_32 (by decide) ?_
      obtain ⟨rfl, rfl⟩ := j_inj2 hf
      exact x_locr hk rfl
    · have hf := j_ifp hf c12
      refine x_aload_n (v := a0) C dX12_pushesNumber_18 rfl ?_
      refine x_iload_n (v := a1) C dX12_pushesNumber_19 rfl ?_
      refine x_i2l C dX12_pushesNumber_20 ?_
      obtain ⟨u9, e10, hf⟩ := j_bind hf
      obtain ⟨q5, e6, hf⟩ := j_bind hf
      refine x_callV (As := [.long a1.toInt64]) (rest := [.int z, .ref v1]) C dX12_pushesNumber_21 (m_X12_left (l := l) (E := E) (d := d - 1) (by omega) e6) km_X12_left lk_X12_10 kv_X12_left (ci := 9) rfl e10 rfl (by omega) (Nat.le_of_ble_eq_true rfl) (j_le_of (q_X12_left e6)) (Or.inr (q_X12_left e6)) ?_
      refine x_goto (tgt := 28) C dX12_pushesNumber_24 (by decide) ?_
      obtain ⟨h7, e8, hf⟩ := j_bind hf
      refine x_iast C dX12_pushesNumber_28 e8 ?_
      refine x_iinc (v := z) C dX12_pushesNumber_29 rfl ki_1 (by decide) ?_
      refine x_goto (tgt := 2) C dX12_pushesNumber_32 (by decide) ?_
      obtain ⟨rfl, rfl⟩ := j_inj2 hf
      exact x_locr hk rfl
set_option maxHeartbeats 4000000 in
set_option maxRecDepth 100000 in
theorem m_X12_pushesNumber {l : Launch} {E : JE} {d : Nat} (hdd : 2 ≤ d) {a0 : Nat} {a1 : Int32} {h : JH} {q : Unit × JH} (hf : f_X12_pushesNumber a0 a1 h = some q) : Con l E d yX12_pushesNumber cX12_pushesNumber 3 none [.ref a0, .int a1] h (none) q.2 := by
  refine j_start rfl (Nat.le_of_ble_eq_true rfl) ?_
  intro p e s m args below meth c C hret hnm
  refine x_loc [(0, .ref a0), (1, .int a1)] rfl ?_
  unfold f_X12_pushesNumber at hf
  refine x_iconst C dX12_pushesNumber_0 ki_0 ?_
  refine x_istore_n C dX12_pushesNumber_1 (by decide) ?_
  obtain ⟨q13, e14, hf⟩ := j_bind hf
  refine x_loc [(0, .ref a0), (1, .int a1), (2, .int (0 : Int32))] rfl ?_
  refine x_loop (s_X12_pushesNumber_L2 C hret hdd a0 a1) e14 ?_
  refine x_aload_n (v := a0) C dX12_pushesNumber_35 rfl ?_
  refine x_iconst C dX12_pushesNumber_36 ki_0 ?_
  refine x_aload_n (v := a0) C dX12_pushesNumber_37 rfl ?_
  obtain ⟨v15, e16, hf⟩ := j_bind hf
  refine x_get C dX12_pushesNumber_38 (jgR_some e16) fg_X12_29 ?_
  refine x_iconst C dX12_pushesNumber_41 ki_0 ?_
  obtain ⟨u19, e20, hf⟩ := j_bind hf
  obtain ⟨q17, e18, hf⟩ := j_bind hf
  refine x_callV (As := [.int (0 : Int32), .ref v15, .int (0 : Int32)]) (rest := []) C dX12_pushesNumber_42 (m_X12_pushes (l := l) (E := E) (d := d - 1) (by omega) e18) km_X12_pushes lk_X12_151 kv_X12_pushes (ci := 9) rfl e20 rfl (by omega) (Nat.le_of_ble_eq_true rfl) (j_le_of (q_X12_pushes e18)) (Or.inr (q_X12_pushes e18)) ?_
  obtain rfl := j_inj hf
  exact x_vret C hret dX12_pushesNumber_45
set_option maxHeartbeats 4000000 in
set_option maxRecDepth 100000 in
theorem m_X12_atom {l : Launch} {E : JE} {d : Nat} {rec : Nat → JH → Option (Int32 × JH)} {DR : Nat} (hDR : 8 ≤ DR) (hrec : ∀ (d1 : Nat), DR ≤ d1 → ∀ {x0 : Nat} {hh : JH} {qq : Int32 × JH}, rec x0 hh = some qq → Con l E d1 yX12_sum cX12_sum 5 (some .boolean) [.ref x0] hh (some (.int qq.1)) qq.2) (hrecq : ∀ {x0 : Nat} {hh : JH} {qq : Int32 × JH}, rec x0 hh = some qq → qq.2.2.1 = hh.2.1) (hdd : DR + 1 ≤ d) {a0 : Nat} {h : JH} {q : Int32 × JH} (hf : f_X12_atom rec a0 h = some q) : Con l E d yX12_atom cX12_atom 2 (some .boolean) [.ref a0] h (some (.int q.1)) q.2 := by
  refine j_start rfl (Nat.le_of_ble_eq_true rfl) ?_
  intro p e s m args below meth c C hret hnm
  refine x_loc [(0, .ref a0)] rfl ?_
  unfold f_X12_atom at hf
  refine x_aload_n (v := a0) C dX12_atom_0 rfl ?_
  obtain ⟨v1, e2, hf⟩ := j_bind hf
  refine x_get C dX12_atom_1 (jgI_some e2) fg_X12_97 ?_
  refine x_iconst C dX12_atom_4 ki_2 ?_
  refine x_icmp_ne (tgt := 41) C dX12_atom_5 (by decide) (fun c147 => ?_) (fun c147 => ?_)
  · have hf := j_ifn hf c147
    refine x_aload_n (v := a0) C dX12_atom_41 rfl ?_
    refine x_bipush C dX12_atom_42 kb_40 ?_
    obtain ⟨u125, e126, hf⟩ := j_bind hf
    obtain ⟨q3, e4, hf⟩ := j_bind hf
    refine x_callV (As := [.int (40 : Int32)]) (rest := []) C dX12_atom_44 (m_X12_is (l := l) (E := E) (d := d - 1) (by omega) e4) km_X12_is lk_X12_115 kv_X12_is (ci := 9) rfl e126 rfl (by omega) (Nat.le_of_ble_eq_true rfl) (j_le_of (q_X12_is e4)) (Or.inr (q_X12_is e4)) ?_
    refine x_if_eq (tgt := 113) C dX12_atom_47 (by decide) (fun c148 => ?_) (fun c148 => ?_)
    · have hf := j_ifp hf c148
      refine x_aload_n (v := a0) C dX12_atom_113 rfl ?_
      refine x_bipush C dX12_atom_114 kb_102 ?_
      refine x_bipush C dX12_atom_116 kb_111 ?_
      refine x_bipush C dX12_atom_118 kb_117 ?_
      refine x_bipush C dX12_atom_120 kb_114 ?_
      refine x_iconst C dX12_atom_122 ki_0 ?_
      obtain ⟨u87, e88, hf⟩ := j_bind hf
      obtain ⟨q5, e6, hf⟩ := j_bind hf
      refine x_callV (As := [.int (102 : Int32), .int (111 : Int32), .int (117 : Int32), .int (114 : Int32), .int (0 : Int32)]) (rest := []) C dX12_atom_123 (m_X12_isWord (l := l) (E := E) (d := d - 1) (by omega) e6) km_X12_isWord lk_X12_125 kv_X12_isWord (ci := 9) rfl e88 rfl (by omega) (Nat.le_of_ble_eq_true rfl) (j_le_of (q_X12_isWord e6)) (Or.inr (q_X12_isWord e6)) ?_
      refine x_if_eq (tgt := 142) C dX12_atom_126 (by decide) (fun c149 => ?_) (fun c149 => ?_)
      · have hf := j_ifp hf c149
        refine x_aload_n (v := a0) C dX12_atom_142 rfl ?_
        refine x_bipush C dX12_atom_143 kb_115 ?_
        refine x_bipush C dX12_atom_145 kb_105 ?_
        refine x_bipush C dX12_atom_147 kb_120 ?_
        refine x_iconst C dX12_atom_149 ki_0 ?_
        refine x_iconst C dX12_atom_150 ki_0 ?_
        obtain ⟨u75, e76, hf⟩ := j_bind hf
        obtain ⟨q7, e8, hf⟩ := j_bind hf
        refine x_callV (As := [.int (115 : Int32), .int (105 : Int32), .int (120 : Int32), .int (0 : Int32), .int (0 : Int32)]) (rest := []) C dX12_atom_151 (m_X12_isWord (l := l) (E := E) (d := d - 1) (by omega) e8) km_X12_isWord lk_X12_125 kv_X12_isWord (ci := 9) rfl e76 rfl (by omega) (Nat.le_of_ble_eq_true rfl) (j_le_of (q_X12_isWord e8)) (Or.inr (q_X12_isWord e8)) ?_
        refine x_if_eq (tgt := 171) C dX12_atom_154 (by decide) (fun c150 => ?_) (fun c150 => ?_)
        · have hf := j_ifp hf c150
          refine x_aload_n (v := a0) C dX12_atom_171 rfl ?_
          refine x_bipush C dX12_atom_172 kb_100 ?_
          refine x_bipush C dX12_atom_174 kb_101 ?_
          refine x_bipush C dX12_atom_176 kb_108 ?_
          refine x_bipush C dX12_atom_178 kb_116 ?_
          refine x_bipush C dX12_atom_180 kb_97 ?_
          obtain ⟨u63, e64, hf⟩ := j_bind hf
          obtain ⟨q9, e10, hf⟩ := j_bind hf
          refine x_callV (As := [.int (100 : Int32), .int (101 : Int32), .int (108 : Int32), .int (116 : Int32), .int (97 : Int32)]) (rest := []) C dX12_atom_182 (m_X12_isWord (l := l) (E := E) (d := d - 1) (by omega) e10) km_X12_isWord lk_X12_125 kv_X12_isWord (ci := 9) rfl e64 rfl (by omega) (Nat.le_of_ble_eq_true rfl) (j_le_of (q_X12_isWord e10)) (Or.inr (q_X12_isWord e10)) ?_
          refine x_if_eq (tgt := 202) C dX12_atom_185 (by decide) (fun c151 => ?_) (fun c151 => ?_)
          · have hf := j_ifp hf c151
            refine x_aload_n (v := a0) C dX12_atom_202 rfl ?_
            obtain ⟨u51, e52, hf⟩ := j_bind hf
            obtain ⟨q11, e12, hf⟩ := j_bind hf
            refine x_callV (As := []) (rest := []) C dX12_atom_203 (m_X12_isName (l := l) (E := E) (d := d - 1) (by omega) e12) km_X12_isName lk_X12_167 kv_X12_isName (ci := 9) rfl e52 rfl (by omega) (Nat.le_of_ble_eq_true rfl) (j_le_of (q_X12_isName e12)) (Or.inr (q_X12_isName e12)) ?_
            refine x_if_ne (tgt := 215) C dX12_atom_206 (by decide) (fun c152 => ?_) (fun c152 => ?_)
            · have hf := j_ifn hf c152
              refine x_aload_n (v := a0) C dX12_atom_215 rfl ?_
              obtain ⟨u43, e44, hf⟩ := j_bind hf
              obtain ⟨q13, e14, hf⟩ := j_bind hf
              refine x_callV (As := []) (rest := []) C dX12_atom_216 (m_X12_named (l := l) (E := E) (d := d - 1) (by omega) e14) km_X12_named lk_X12_170 kv_X12_named (ci := 9) rfl e44 rfl (by omega) (Nat.le_of_ble_eq_true rfl) (j_le_of (q_X12_named e14)) (Or.inr (q_X12_named e14)) ?_
              refine x_iconst C dX12_atom_219 ki_m1 ?_
              refine x_icmp_ne (tgt := 229) C dX12_atom_220 (by decide) (fun c153 => ?_) (fun c153 => ?_)
              · have hf := j_ifn hf c153
                refine x_aload_n (v := a0) C dX12_atom_229 rfl ?_
                refine x_aload_n (v := a0) C dX12_atom_230 rfl ?_
                obtain ⟨v15, e16, hf⟩ := j_bind hf
                refine x_get C dX12_atom_231 (jgR_some e16) fg_X12_174 ?_
                refine x_aload_n (v := a0) C dX12_atom_234 rfl ?_
                obtain ⟨u35, e36, hf⟩ := j_bind hf
                obtain ⟨q17, e18, hf⟩ := j_bind hf
                refine x_callV (As := []) (rest := [.ref v15, .ref a0]) C dX12_atom_235 (m_X12_named (l := l) (E := E) (d := d - 1) (by omega) e18) km_X12_named lk_X12_170 kv_X12_named (ci := 9) rfl e36 rfl (by omega) (Nat.le_of_ble_eq_true rfl) (j_le_of (q_X12_named e18)) (Or.inr (q_X12_named e18)) ?_
                obtain ⟨v19, e20, hf⟩ := j_bind hf
                refine x_iald C dX12_atom_238 e20 ?_
                refine x_aload_n (v := a0) C dX12_atom_239 rfl ?_
                obtain ⟨v21, e22, hf⟩ := j_bind hf
                refine x_get C dX12_atom_240 (jgR_some e22) fg_X12_177 ?_
                refine x_sipush C dX12_atom_243 ks_181 ?_
                refine x_aload_n (v := a0) C dX12_atom_246 rfl ?_
                obtain ⟨u33, e34, hf⟩ := j_bind hf
                obtain ⟨q23, e24, hf⟩ := j_bind hf
                refine x_callV (As := []) (rest := [.int (181 : Int32), .ref v21, .int v19, .ref a0]) C dX12_atom_247 (m_X12_named (l := l) (E := E) (d := d - 1) (by omega) e24) km_X12_named lk_X12_170 kv_X12_named (ci := 9) rfl e34 rfl (by omega) (Nat.le_of_ble_eq_true rfl) (j_le_of (q_X12_named e24)) (Or.inr (q_X12_named e24)) ?_
                refine x_imul C dX12_atom_250 ?_
                obtain ⟨u31, e32, hf⟩ := j_bind hf
                obtain ⟨q25, e26, hf⟩ := j_bind hf
                refine x_callV (As := [.int v19, .ref v21, .int ((181 : Int32) * q23.1)]) (rest := []) C dX12_atom_251 (m_X12_pushes (l := l) (E := E) (d := d - 1) (by omega) e26) km_X12_pushes lk_X12_151 kv_X12_pushes (ci := 9) rfl e32 rfl (by omega) (Nat.le_of_ble_eq_true rfl) (j_le_of (q_X12_pushes e26)) (Or.inr (q_X12_pushes e26)) ?_
                refine x_aload_n (v := a0) C dX12_atom_254 rfl ?_
                obtain ⟨u29, e30, hf⟩ := j_bind hf
                obtain ⟨q27, e28, hf⟩ := j_bind hf
                refine x_callV (As := []) (rest := []) C dX12_atom_255 (m_X12_go (l := l) (E := E) (d := d - 1) (by omega) e28) km_X12_go lk_X12_121 kv_X12_go (ci := 9) rfl e30 rfl (by omega) (Nat.le_of_ble_eq_true rfl) (j_le_of (q_X12_go e28)) (Or.inr (q_X12_go e28)) ?_
                refine x_iconst C dX12_atom_258 ki_1 ?_
                obtain rfl := j_inj hf
                exact x_zret C hret (Or.inr rfl) dX12_atom_259
              · have hf := j_ifp hf c153
                refine x_aload_n (v := a0) C dX12_atom_223 rfl ?_
                refine x_iconst C dX12_atom_224 ki_3 ?_
                obtain ⟨u41, e42, hf⟩ := j_bind hf
                obtain ⟨q37, e38, hf⟩ := j_bind hf
                refine x_callV (As := [.int (3 : Int32)]) (rest := []) C dX12_atom_225 (m_X12_bad (l := l) (E := E) (d := d - 1) (by omega) e38) km_X12_bad lk_X12_118 kv_X12_bad (ci := 9) rfl e42 rfl (by omega) (Nat.le_of_ble_eq_true rfl) (j_le_of (q_X12_bad e38)) (Or.inr (q_X12_bad e38)) ?_
                obtain ⟨u39, e40, hf⟩ := j_bind hf
                obtain rfl := j_inj hf
                exact x_zret C hret (jzb_some e40) dX12_atom_228
            · have hf := j_ifp hf c152
              refine x_aload_n (v := a0) C dX12_atom_209 rfl ?_
              refine x_iconst C dX12_atom_210 ki_1 ?_
              obtain ⟨u49, e50, hf⟩ := j_bind hf
              obtain ⟨q45, e46, hf⟩ := j_bind hf
              refine x_callV (As := [.int (1 : Int32)]) (rest := []) C dX12_atom_211 (m_X12_bad (l := l) (E := E) (d := d - 1) (by omega) e46) km_X12_bad lk_X12_118 kv_X12_bad (ci := 9) rfl e50 rfl (by omega) (Nat.le_of_ble_eq_true rfl) (j_le_of (q_X12_bad e46)) (Or.inr (q_X12_bad e46)) ?_
              obtain ⟨u47, e48, hf⟩ := j_bind hf
              obtain rfl := j_inj hf
              exact x_zret C hret (jzb_some e48) dX12_atom_214
          · have hf := j_ifn hf c151
            refine x_aload_n (v := a0) C dX12_atom_188 rfl ?_
            refine x_bipush C dX12_atom_189 kb_12 ?_
            refine x_aload_n (v := a0) C dX12_atom_191 rfl ?_
            obtain ⟨v53, e54, hf⟩ := j_bind hf
            refine x_get C dX12_atom_192 (jgR_some e54) fg_X12_36 ?_
            refine x_iconst C dX12_atom_195 ki_0 ?_
            obtain ⟨u61, e62, hf⟩ := j_bind hf
            obtain ⟨q55, e56, hf⟩ := j_bind hf
            refine x_callV (As := [.int (12 : Int32), .ref v53, .int (0 : Int32)]) (rest := []) C dX12_atom_196 (m_X12_pushes (l := l) (E := E) (d := d - 1) (by omega) e56) km_X12_pushes lk_X12_151 kv_X12_pushes (ci := 9) rfl e62 rfl (by omega) (Nat.le_of_ble_eq_true rfl) (j_le_of (q_X12_pushes e56)) (Or.inr (q_X12_pushes e56)) ?_
            refine x_goto (tgt := 254) C dX12_atom_199 (by decide) ?_
            refine x_aload_n (v := a0) C dX12_atom_254 rfl ?_
            obtain ⟨u59, e60, hf⟩ := j_bind hf
            obtain ⟨q57, e58, hf⟩ := j_bind hf
            refine x_callV (As := []) (rest := []) C dX12_atom_255 (m_X12_go (l := l) (E := E) (d := d - 1) (by omega) e58) km_X12_go lk_X12_121 kv_X12_go (ci := 9) rfl e60 rfl (by omega) (Nat.le_of_ble_eq_true rfl) (j_le_of (q_X12_go e58)) (Or.inr (q_X12_go e58)) ?_
            refine x_iconst C dX12_atom_258 ki_1 ?_
            obtain rfl := j_inj hf
            exact x_zret C hret (Or.inr rfl) dX12_atom_259
        · have hf := j_ifn hf c150
          refine x_aload_n (v := a0) C dX12_atom_157 rfl ?_
          refine x_bipush C dX12_atom_158 kb_6 ?_
          refine x_aload_n (v := a0) C dX12_atom_160 rfl ?_
          obtain ⟨v65, e66, hf⟩ := j_bind hf
          refine x_get C dX12_atom_161 (jgR_some e66) fg_X12_24 ?_
          refine x_iconst C dX12_atom_164 ki_0 ?_
          obtain ⟨u73, e74, hf⟩ := j_bind hf
          obtain ⟨q67, e68, hf⟩ := j_bind hf
          refine x_callV (As := [.int (6 : Int32), .ref v65, .int (0 : Int32)]) (rest := []) C dX12_atom_165 (m_X12_pushes (l := l) (E := E) (d := d - 1) (by omega) e68) km_X12_pushes lk_X12_151 kv_X12_pushes (ci := 9) rfl e74 rfl (by omega) (Nat.le_of_ble_eq_true rfl) (j_le_of (q_X12_pushes e68)) (Or.inr (q_X12_pushes e68)) ?_
          refine x_goto (tgt := 254) C dX12_atom_168 (by decide) ?_
          refine x_aload_n (v := a0) C dX12_atom_254 rfl ?_
          obtain ⟨u71, e72, hf⟩ := j_bind hf
          obtain ⟨q69, e70, hf⟩ := j_bind hf
          refine x_callV (As := []) (rest := []) C dX12_atom_255 (m_X12_go (l := l) (E := E) (d := d - 1) (by omega) e70) km_X12_go lk_X12_121 kv_X12_go (ci := 9) rfl e72 rfl (by omega) (Nat.le_of_ble_eq_true rfl) (j_le_of (q_X12_go e70)) (Or.inr (q_X12_go e70)) ?_
          refine x_iconst C dX12_atom_258 ki_1 ?_
          obtain rfl := j_inj hf
          exact x_zret C hret (Or.inr rfl) dX12_atom_259
      · have hf := j_ifn hf c149
        refine x_aload_n (v := a0) C dX12_atom_129 rfl ?_
        refine x_iconst C dX12_atom_130 ki_4 ?_
        refine x_aload_n (v := a0) C dX12_atom_131 rfl ?_
        obtain ⟨v77, e78, hf⟩ := j_bind hf
        refine x_get C dX12_atom_132 (jgR_some e78) fg_X12_18 ?_
        refine x_iconst C dX12_atom_135 ki_0 ?_
        obtain ⟨u85, e86, hf⟩ := j_bind hf
        obtain ⟨q79, e80, hf⟩ := j_bind hf
        refine x_callV (As := [.int (4 : Int32), .ref v77, .int (0 : Int32)]) (rest := []) C dX12_atom_136 (m_X12_pushes (l := l) (E := E) (d := d - 1) (by omega) e80) km_X12_pushes lk_X12_151 kv_X12_pushes (ci := 9) rfl e86 rfl (by omega) (Nat.le_of_ble_eq_true rfl) (j_le_of (q_X12_pushes e80)) (Or.inr (q_X12_pushes e80)) ?_
        refine x_goto (tgt := 254) C dX12_atom_139 (by decide) ?_
        refine x_aload_n (v := a0) C dX12_atom_254 rfl ?_
        obtain ⟨u83, e84, hf⟩ := j_bind hf
        obtain ⟨q81, e82, hf⟩ := j_bind hf
        refine x_callV (As := []) (rest := []) C dX12_atom_255 (m_X12_go (l := l) (E := E) (d := d - 1) (by omega) e82) km_X12_go lk_X12_121 kv_X12_go (ci := 9) rfl e84 rfl (by omega) (Nat.le_of_ble_eq_true rfl) (j_le_of (q_X12_go e82)) (Or.inr (q_X12_go e82)) ?_
        refine x_iconst C dX12_atom_258 ki_1 ?_
        obtain rfl := j_inj hf
        exact x_zret C hret (Or.inr rfl) dX12_atom_259
    · have hf := j_ifn hf c148
      refine x_aload_n (v := a0) C dX12_atom_50 rfl ?_
      obtain ⟨v89, e90, hf⟩ := j_bind hf
      refine x_get C dX12_atom_51 (jgI_some e90) fg_X12_158 ?_
      refine x_bipush C dX12_atom_54 kb_8 ?_
      refine x_icmp_ne (tgt := 65) C dX12_atom_56 (by decide) (fun c154 => ?_) (fun c154 => ?_)
      · have hf := j_ifn hf c154
        refine x_aload_n (v := a0) C dX12_atom_65 rfl ?_
        refine x_dup C dX12_atom_66 rfl ?_
        obtain ⟨v91, e92, hf⟩ := j_bind hf
        refine x_get C dX12_atom_67 (jgI_some e92) fg_X12_158 ?_
        refine x_iconst C dX12_atom_70 ki_1 ?_
        refine x_iadd C dX12_atom_71 ?_
        obtain ⟨h93, e94, hf⟩ := j_bind hf
        refine x_put C dX12_atom_72 e94 fp_X12_158 rfl rfl ?_
        refine x_aload_n (v := a0) C dX12_atom_75 rfl ?_
        obtain ⟨u117, e118, hf⟩ := j_bind hf
        obtain ⟨q95, e96, hf⟩ := j_bind hf
        refine x_callV (As := []) (rest := []) C dX12_atom_76 (m_X12_go (l := l) (E := E) (d := d - 1) (by omega) e96) km_X12_go lk_X12_121 kv_X12_go (ci := 9) rfl e118 rfl (by omega) (Nat.le_of_ble_eq_true rfl) (j_le_of (q_X12_go e96)) (Or.inr (q_X12_go e96)) ?_
        refine x_aload_n (v := a0) C dX12_atom_79 rfl ?_
        obtain ⟨u115, e116, hf⟩ := j_bind hf
        obtain ⟨q97, e98, hf⟩ := j_bind hf
        refine x_callV (As := []) (rest := []) C dX12_atom_80 (hrec (d - 1) (by omega) e98) km_X12_sum lk_X12_161 kv_X12_sum (ci := 9) rfl e116 rfl (by omega) (Nat.le_of_ble_eq_true rfl) (j_le_of (hrecq e98)) (Or.inr (hrecq e98)) ?_
        refine x_if_eq (tgt := 99) C dX12_atom_83 (by decide) (fun c155 => ?_) (fun c155 => ?_)
        · have hf := j_ifp hf c155
          refine x_iconst C dX12_atom_99 ki_0 ?_
          refine x_istore_n C dX12_atom_100 (by decide) ?_
          refine x_aload_n (v := a0) C dX12_atom_101 rfl ?_
          refine x_dup C dX12_atom_102 rfl ?_
          obtain ⟨v99, e100, hf⟩ := j_bind hf
          refine x_get C dX12_atom_103 (jgI_some e100) fg_X12_158 ?_
          refine x_iconst C dX12_atom_106 ki_1 ?_
          refine x_isub C dX12_atom_107 ?_
          obtain ⟨h101, e102, hf⟩ := j_bind hf
          refine x_put C dX12_atom_108 e102 fp_X12_158 rfl rfl ?_
          refine x_iload_n (v := (0 : Int32)) C dX12_atom_111 rfl ?_
          obtain rfl := j_inj hf
          exact x_zret C hret (Or.inl rfl) dX12_atom_112
        · have hf := j_ifn hf c155
          refine x_aload_n (v := a0) C dX12_atom_86 rfl ?_
          refine x_bipush C dX12_atom_87 kb_41 ?_
          obtain ⟨u113, e114, hf⟩ := j_bind hf
          obtain ⟨q103, e104, hf⟩ := j_bind hf
          refine x_callV (As := [.int (41 : Int32)]) (rest := []) C dX12_atom_89 (m_X12_sign (l := l) (E := E) (d := d - 1) (by omega) e104) km_X12_sign lk_X12_164 kv_X12_sign (ci := 9) rfl e114 rfl (by omega) (Nat.le_of_ble_eq_true rfl) (j_le_of (q_X12_sign e104)) (Or.inr (q_X12_sign e104)) ?_
          refine x_if_eq (tgt := 99) C dX12_atom_92 (by decide) (fun c156 => ?_) (fun c156 => ?_)
          · have hf := j_ifp hf c156
            refine x_iconst C dX12_atom_99 ki_0 ?_
            refine x_istore_n C dX12_atom_100 (by decide) ?_
            refine x_aload_n (v := a0) C dX12_atom_101 rfl ?_
            refine x_dup C dX12_atom_102 rfl ?_
            obtain ⟨v105, e106, hf⟩ := j_bind hf
            refine x_get C dX12_atom_103 (jgI_some e106) fg_X12_158 ?_
            refine x_iconst C dX12_atom_106 ki_1 ?_
            refine x_isub C dX12_atom_107 ?_
            obtain ⟨h107, e108, hf⟩ := j_bind hf
            refine x_put C dX12_atom_108 e108 fp_X12_158 rfl rfl ?_
            refine x_iload_n (v := (0 : Int32)) C dX12_atom_111 rfl ?_
            obtain rfl := j_inj hf
            exact x_zret C hret (Or.inl rfl) dX12_atom_112
          · have hf := j_ifn hf c156
            refine x_iconst C dX12_atom_95 ki_1 ?_
            refine x_goto (tgt := 100) C dX12_atom_96 (by decide) ?_
            refine x_istore_n C dX12_atom_100 (by decide) ?_
            refine x_aload_n (v := a0) C dX12_atom_101 rfl ?_
            refine x_dup C dX12_atom_102 rfl ?_
            obtain ⟨v109, e110, hf⟩ := j_bind hf
            refine x_get C dX12_atom_103 (jgI_some e110) fg_X12_158 ?_
            refine x_iconst C dX12_atom_106 ki_1 ?_
            refine x_isub C dX12_atom_107 ?_
            obtain ⟨h111, e112, hf⟩ := j_bind hf
            refine x_put C dX12_atom_108 e112 fp_X12_158 rfl rfl ?_
            refine x_iload_n (v := (1 : Int32)) C dX12_atom_111 rfl ?_
            obtain rfl := j_inj hf
            exact x_zret C hret (Or.inr rfl) dX12_atom_112
      · have hf := j_ifp hf c154
        refine x_aload_n (v := a0) C dX12_atom_59 rfl ?_
        refine x_iconst C dX12_atom_60 ki_5 ?_
        obtain ⟨u123, e124, hf⟩ := j_bind hf
        obtain ⟨q119, e120, hf⟩ := j_bind hf
        refine x_callV (As := [.int (5 : Int32)]) (rest := []) C dX12_atom_61 (m_X12_bad (l := l) (E := E) (d := d - 1) (by omega) e120) km_X12_bad lk_X12_118 kv_X12_bad (ci := 9) rfl e124 rfl (by omega) (Nat.le_of_ble_eq_true rfl) (j_le_of (q_X12_bad e120)) (Or.inr (q_X12_bad e120)) ?_
        obtain ⟨u121, e122, hf⟩ := j_bind hf
        obtain rfl := j_inj hf
        exact x_zret C hret (jzb_some e122) dX12_atom_64
  · have hf := j_ifp hf c147
    refine x_aload_n (v := a0) C dX12_atom_8 rfl ?_
    obtain ⟨v127, e128, hf⟩ := j_bind hf
    refine x_get C dX12_atom_9 (jgI_some e128) fg_X12_88 ?_
    refine x_aload_n (v := a0) C dX12_atom_12 rfl ?_
    obtain ⟨v129, e130, hf⟩ := j_bind hf
    refine x_get C dX12_atom_13 (jgI_some e130) fg_X12_94 ?_
    refine x_isub C dX12_atom_16 ?_
    refine x_iconst C dX12_atom_17 ki_4 ?_
    refine x_icmp_le (tgt := 27) C dX12_atom_18 (by decide) (fun c157 => ?_) (fun c157 => ?_)
    · have hf := j_ifp hf c157
      refine x_aload_n (v := a0) C dX12_atom_27 rfl ?_
      refine x_aload_n (v := a0) C dX12_atom_28 rfl ?_
      obtain ⟨v131, e132, hf⟩ := j_bind hf
      refine x_get C dX12_atom_29 (jgI_some e132) fg_X12_100 ?_
      obtain ⟨u139, e140, hf⟩ := j_bind hf
      obtain ⟨q133, e134, hf⟩ := j_bind hf
      refine x_callV (As := [.int v131]) (rest := []) C dX12_atom_32 (m_X12_pushesNumber (l := l) (E := E) (d := d - 1) (by omega) e134) km_X12_pushesNumber lk_X12_155 kv_X12_pushesNumber (ci := 9) rfl e140 rfl (by omega) (Nat.le_of_ble_eq_true rfl) (j_le_of (q_X12_pushesNumber e134)) (Or.inr (q_X12_pushesNumber e134)) ?_
      refine x_aload_n (v := a0) C dX12_atom_35 rfl ?_
      obtain ⟨u137, e138, hf⟩ := j_bind hf
      obtain ⟨q135, e136, hf⟩ := j_bind hf
      refine x_callV (As := []) (rest := []) C dX12_atom_36 (m_X12_go (l := l) (E := E) (d := d - 1) (by omega) e136) km_X12_go lk_X12_121 kv_X12_go (ci := 9) rfl e138 rfl (by omega) (Nat.le_of_ble_eq_true rfl) (j_le_of (q_X12_go e136)) (Or.inr (q_X12_go e136)) ?_
      refine x_iconst C dX12_atom_39 ki_1 ?_
      obtain rfl := j_inj hf
      exact x_zret C hret (Or.inr rfl) dX12_atom_40
    · have hf := j_ifn hf c157
      refine x_aload_n (v := a0) C dX12_atom_21 rfl ?_
      refine x_iconst C dX12_atom_22 ki_4 ?_
      obtain ⟨u145, e146, hf⟩ := j_bind hf
      obtain ⟨q141, e142, hf⟩ := j_bind hf
      refine x_callV (As := [.int (4 : Int32)]) (rest := []) C dX12_atom_23 (m_X12_bad (l := l) (E := E) (d := d - 1) (by omega) e142) km_X12_bad lk_X12_118 kv_X12_bad (ci := 9) rfl e146 rfl (by omega) (Nat.le_of_ble_eq_true rfl) (j_le_of (q_X12_bad e142)) (Or.inr (q_X12_bad e142)) ?_
      obtain ⟨u143, e144, hf⟩ := j_bind hf
      obtain rfl := j_inj hf
      exact x_zret C hret (jzb_some e144) dX12_atom_26
set_option maxHeartbeats 4000000 in
set_option maxRecDepth 100000 in
theorem m_X12_joins {l : Launch} {E : JE} {d : Nat} (hdd : 2 ≤ d) {a0 : Nat} {h : JH} {q : Unit × JH} (hf : f_X12_joins a0 h = some q) : Con l E d yX12_joins cX12_joins 1 none [.ref a0] h (none) q.2 := by
  refine j_start rfl (Nat.le_of_ble_eq_true rfl) ?_
  intro p e s m args below meth c C hret hnm
  refine x_loc [(0, .ref a0)] rfl ?_
  unfold f_X12_joins at hf
  refine x_aload_n (v := a0) C dX12_joins_0 rfl ?_
  refine x_aload_n (v := a0) C dX12_joins_1 rfl ?_
  obtain ⟨v1, e2, hf⟩ := j_bind hf
  refine x_get C dX12_joins_2 (jgR_some e2) fg_X12_148 ?_
  refine x_sipush C dX12_joins_5 ks_181 ?_
  refine x_aload_n (v := a0) C dX12_joins_8 rfl ?_
  obtain ⟨v3, e4, hf⟩ := j_bind hf
  refine x_get C dX12_joins_9 (jgI_some e4) fg_X12_145 ?_
  refine x_iconst C dX12_joins_12 ki_2 ?_
  refine x_isub C dX12_joins_13 ?_
  refine x_imul C dX12_joins_14 ?_
  refine x_aload_n (v := a0) C dX12_joins_15 rfl ?_
  obtain ⟨v5, e6, hf⟩ := j_bind hf
  refine x_get C dX12_joins_16 (jgR_some e6) fg_X12_148 ?_
  refine x_sipush C dX12_joins_19 ks_181 ?_
  refine x_aload_n (v := a0) C dX12_joins_22 rfl ?_
  obtain ⟨v7, e8, hf⟩ := j_bind hf
  refine x_get C dX12_joins_23 (jgI_some e8) fg_X12_145 ?_
  refine x_iconst C dX12_joins_26 ki_1 ?_
  refine x_isub C dX12_joins_27 ?_
  refine x_imul C dX12_joins_28 ?_
  refine x_aload_n (v := a0) C dX12_joins_29 rfl ?_
  obtain ⟨v9, e10, hf⟩ := j_bind hf
  refine x_get C dX12_joins_30 (jgR_some e10) fg_X12_55 ?_
  obtain ⟨u39, e40, hf⟩ := j_bind hf
  obtain ⟨q11, e12, hf⟩ := j_bind hf
  refine x_callV (As := [.ref v1, .int ((181 : Int32) * (v3 - (2 : Int32))), .ref v5, .int ((181 : Int32) * (v7 - (1 : Int32))), .ref v9]) (rest := []) C dX12_joins_33 (m_X12_multiplies (l := l) (E := E) (d := d - 1) (by omega) e12) km_X12_multiplies lk_X12_32 kv_X12_multiplies (ci := 9) rfl e40 rfl (by omega) (Nat.le_of_ble_eq_true rfl) (j_le_of (q_X12_multiplies e12)) (Or.inr (q_X12_multiplies e12)) ?_
  refine x_aload_n (v := a0) C dX12_joins_36 rfl ?_
  obtain ⟨v13, e14, hf⟩ := j_bind hf
  refine x_get C dX12_joins_37 (jgR_some e14) fg_X12_55 ?_
  refine x_iconst C dX12_joins_40 ki_0 ?_
  refine x_aload_n (v := a0) C dX12_joins_41 rfl ?_
  obtain ⟨v15, e16, hf⟩ := j_bind hf
  refine x_get C dX12_joins_42 (jgR_some e16) fg_X12_148 ?_
  refine x_sipush C dX12_joins_45 ks_181 ?_
  refine x_aload_n (v := a0) C dX12_joins_48 rfl ?_
  obtain ⟨v17, e18, hf⟩ := j_bind hf
  refine x_get C dX12_joins_49 (jgI_some e18) fg_X12_145 ?_
  refine x_iconst C dX12_joins_52 ki_2 ?_
  refine x_isub C dX12_joins_53 ?_
  refine x_imul C dX12_joins_54 ?_
  obtain ⟨q19, e20, hf⟩ := j_bind hf
  refine x_callS (As := [.ref v13, .int (0 : Int32), .ref v15, .int ((181 : Int32) * (v17 - (2 : Int32)))]) (rest := []) C dX12_joins_55 (m_X12_copies (l := l) (E := E) (d := d - 1) (by omega) e20) km_X12_copies lk_X12_58 ks_X12_copies rfl (by omega) (Nat.le_of_ble_eq_true rfl) (j_le_of (q_X12_copies e20)) (Or.inr (q_X12_copies e20)) ?_
  refine x_aload_n (v := a0) C dX12_joins_58 rfl ?_
  obtain ⟨v21, e22, hf⟩ := j_bind hf
  refine x_get C dX12_joins_59 (jgR_some e22) fg_X12_142 ?_
  refine x_aload_n (v := a0) C dX12_joins_62 rfl ?_
  obtain ⟨v23, e24, hf⟩ := j_bind hf
  refine x_get C dX12_joins_63 (jgI_some e24) fg_X12_145 ?_
  refine x_iconst C dX12_joins_66 ki_2 ?_
  refine x_isub C dX12_joins_67 ?_
  refine x_dup2 C dX12_joins_68 rfl rfl ?_
  obtain ⟨v25, e26, hf⟩ := j_bind hf
  refine x_iald C dX12_joins_69 e26 ?_
  refine x_aload_n (v := a0) C dX12_joins_70 rfl ?_
  obtain ⟨v27, e28, hf⟩ := j_bind hf
  refine x_get C dX12_joins_71 (jgR_some e28) fg_X12_142 ?_
  refine x_aload_n (v := a0) C dX12_joins_74 rfl ?_
  obtain ⟨v29, e30, hf⟩ := j_bind hf
  refine x_get C dX12_joins_75 (jgI_some e30) fg_X12_145 ?_
  refine x_iconst C dX12_joins_78 ki_1 ?_
  refine x_isub C dX12_joins_79 ?_
  obtain ⟨v31, e32, hf⟩ := j_bind hf
  refine x_iald C dX12_joins_80 e32 ?_
  refine x_iadd C dX12_joins_81 ?_
  obtain ⟨h33, e34, hf⟩ := j_bind hf
  refine x_iast C dX12_joins_82 e34 ?_
  refine x_aload_n (v := a0) C dX12_joins_83 rfl ?_
  refine x_dup C dX12_joins_84 rfl ?_
  obtain ⟨v35, e36, hf⟩ := j_bind hf
  refine x_get C dX12_joins_85 (jgI_some e36) fg_X12_145 ?_
  refine x_iconst C dX12_joins_88 ki_1 ?_
  refine x_isub C dX12_joins_89 ?_
  obtain ⟨h37, e38, hf⟩ := j_bind hf
  refine x_put C dX12_joins_90 e38 fp_X12_145 rfl rfl ?_
  obtain rfl := j_inj hf
  exact x_vret C hret dX12_joins_93
set_option maxHeartbeats 4000000 in
set_option maxRecDepth 100000 in
theorem s_X12_power__L108 {p : Program} {l : Launch} {e : Env} {R : Room} {s : State} {m : MethodId} {args : Array Value} {below : List Frame} {meth : Method} {c : Code} {E : JE} {h0 hF : JH} {rF : Option Value} {d : Nat} {rec : Nat → JH → Option (Int32 × JH)} {DR : Nat} (hDR : 8 ≤ DR) (hrec : ∀ (d1 : Nat), DR ≤ d1 → ∀ {x0 : Nat} {hh : JH} {qq : Int32 × JH}, rec x0 hh = some qq → Con l E d1 yX12_sum cX12_sum 5 (some .boolean) [.ref x0] hh (some (.int qq.1)) qq.2) (hrecq : ∀ {x0 : Nat} {hh : JH} {qq : Int32 × JH}, rec x0 hh = some qq → qq.2.2.1 = hh.2.1) (C : j_C p s m args meth c R E cX12_power_ 5 RX12 h0 hF d) (hret : meth.sig.returnType = (some .boolean)) (hdd : DR + 2 ≤ d) (a0 : Nat) (a2 : Int32) (a3 : Int32) (z : Int32) (h : JH) (r : Int32 ⊕ Int32) (h1 : JH) (hf : f_X12_power__L108 rec a0 a2 a3 z h = some (r, h1)) (hk : Sum.elim (fun z => Xw p l e R s m args below meth c E 5 h0 rF hF 108 [(0, .ref a0), (2, .int a2), (3, .int a3), (4, .int z)] [] h1) (fun t => Xw p l e R s m args below meth c E 5 h0 rF hF 173 [(0, .ref a0), (2, .int a2), (3, .int a3), (4, .int t)] [] h1) r) : Xw p l e R s m args below meth c E 5 h0 rF hF 108 [(0, .ref a0), (2, .int a2), (3, .int a3), (4, .int z)] [] h := by
  unfold f_X12_power__L108 at hf
  refine x_iload (v := z) C dX12_power__108 rfl ?_
  refine x_iload_n (v := a2) C dX12_power__110 rfl ?_
  refine x_icmp_ge (tgt := 173) C dX12_power__111 (by decide) (fun c47 => ?_) (fun c47 => ?_)
  · have hf := j_ifp hf c47
    obtain ⟨rfl, rfl⟩ := j_inj2 hf
    exact x_locr hk rfl
  · have hf := j_ifn hf c47
    refine x_aload_n (v := a0) C dX12_power__114 rfl ?_
    refine x_aload_n (v := a0) C dX12_power__115 rfl ?_
    obtain ⟨v27, e28, hf⟩ := j_bind hf
    refine x_get C dX12_power__116 (jgR_some e28) fg_X12_148 ?_
    refine x_sipush C dX12_power__119 ks_181 ?_
    refine x_iload_n (v := a3) C dX12_power__122 rfl ?_
    refine x_imul C dX12_power__123 ?_
    refine x_aload_n (v := a0) C dX12_power__124 rfl ?_
    obtain ⟨v29, e30, hf⟩ := j_bind hf
    refine x_get C dX12_power__125 (jgR_some e30) fg_X12_148 ?_
    refine x_sipush C dX12_power__128 ks_181 ?_
    refine x_aload_n (v := a0) C dX12_power__131 rfl ?_
    obtain ⟨v31, e32, hf⟩ := j_bind hf
    refine x_get C dX12_power__132 (jgI_some e32) fg_X12_145 ?_
    refine x_iconst C dX12_power__135 ki_1 ?_
    refine x_isub C dX12_power__136 ?_
    refine x_imul C dX12_power__137 ?_
    refine x_aload_n (v := a0) C dX12_power__138 rfl ?_
    obtain ⟨v33, e34, hf⟩ := j_bind hf
    refine x_get C dX12_power__139 (jgR_some e34) fg_X12_55 ?_
    obtain ⟨u45, e46, hf⟩ := j_bind hf
    obtain ⟨q35, e36, hf⟩ := j_bind hf
    refine x_callV (As := [.ref v27, .int ((181 : Int32) * a3), .ref v29, .int ((181 : Int32) * (v31 - (1 : Int32))), .ref v33]) (rest := []) C dX12_power__142 (m_X12_multiplies (l := l) (E := E) (d := d - 1) (by omega) e36) km_X12_multiplies lk_X12_32 kv_X12_multiplies (ci := 9) rfl e46 rfl (by omega) (Nat.le_of_ble_eq_true rfl) (j_le_of (q_X12_multiplies e36)) (Or.inr (q_X12_multiplies e36)) ?_
    refine x_aload_n (v := a0) C dX12_power__145 rfl ?_
    obtain ⟨v37, e38, hf⟩ := j_bind hf
    refine x_get C dX12_power__146 (jgR_some e38) fg_X12_55 ?_
    refine x_iconst C dX12_power__149 ki_0 ?_
    refine x_aload_n (v := a0) C dX12_power__150 rfl ?_
    obtain ⟨v39, e40, hf⟩ := j_bind hf
    refine x_get C dX12_power__151 (jgR_some e40) fg_X12_148 ?_
    refine x_sipush C dX12_power__154 ks_181 ?_
    refine x_aload_n (v := a0) C dX12_power__157 rfl ?_
    obtain ⟨v41, e42, hf⟩ := j_bind hf
    refine x_get C dX12_power__158 (jgI_some e42) fg_X12_145 ?_
    refine x_iconst C dX12_power__161 ki_1 ?_
    refine x_isub C dX12_power__162 ?_
    refine x_imul C dX12_power__163 ?_
    obtain ⟨q43, e44, hf⟩ := j_bind hf
    refine x_callS (As := [.ref v37, .int (0 : Int32), .ref v39, .int ((181 : Int32) * (v41 - (1 : Int32)))]) (rest := []) C dX12_power__164 (m_X12_copies (l := l) (E := E) (d := d - 1) (by omega) e44) km_X12_copies lk_X12_58 ks_X12_copies rfl (by omega) (Nat.le_of_ble_eq_true rfl) (j_le_of (q_X12_copies e44)) (Or.inr (q_X12_copies e44)) ?_
    refine x_iinc (v := z) C dX12_power__167 rfl ki_1 (by decide) ?_
    refine x_goto (tgt := 108) C dX12_power__170 (by decide) ?_
    obtain ⟨rfl, rfl⟩ := j_inj2 hf
    exact x_locr hk rfl
set_option maxHeartbeats 4000000 in
set_option maxRecDepth 100000 in
theorem m_X12_power_ {l : Launch} {E : JE} {d : Nat} {rec : Nat → JH → Option (Int32 × JH)} {DR : Nat} (hDR : 8 ≤ DR) (hrec : ∀ (d1 : Nat), DR ≤ d1 → ∀ {x0 : Nat} {hh : JH} {qq : Int32 × JH}, rec x0 hh = some qq → Con l E d1 yX12_sum cX12_sum 5 (some .boolean) [.ref x0] hh (some (.int qq.1)) qq.2) (hrecq : ∀ {x0 : Nat} {hh : JH} {qq : Int32 × JH}, rec x0 hh = some qq → qq.2.2.1 = hh.2.1) (hdd : DR + 2 ≤ d) {a0 : Nat} {h : JH} {q : Int32 × JH} (hf : f_X12_power_ rec a0 h = some q) : Con l E d yX12_power_ cX12_power_ 5 (some .boolean) [.ref a0] h (some (.int q.1)) q.2 := by
  refine j_start rfl (Nat.le_of_ble_eq_true rfl) ?_
  intro p e s m args below meth c C hret hnm
  refine x_loc [(0, .ref a0)] rfl ?_
  unfold f_X12_power_ at hf
  refine x_aload_n (v := a0) C dX12_power__0 rfl ?_
  obtain ⟨v1, e2, hf⟩ := j_bind hf
  refine x_get C dX12_power__1 (jgI_some e2) fg_X12_94 ?_
  refine x_istore_n C dX12_power__4 (by decide) ?_
  refine x_aload_n (v := a0) C dX12_power__5 rfl ?_
  obtain ⟨u94, e95, hf⟩ := j_bind hf
  obtain ⟨q3, e4, hf⟩ := j_bind hf
  refine x_callV (As := []) (rest := []) C dX12_power__6 (m_X12_atom hDR hrec hrecq (l := l) (E := E) (d := d - 1) (by omega) e4) km_X12_atom lk_X12_180 kv_X12_atom (ci := 9) rfl e95 rfl (by omega) (Nat.le_of_ble_eq_true rfl) (j_le_of (q_X12_atom hrecq e4)) (Or.inr (q_X12_atom hrecq e4)) ?_
  refine x_if_ne (tgt := 14) C dX12_power__9 (by decide) (fun c96 => ?_) (fun c96 => ?_)
  · have hf := j_ifn hf c96
    refine x_aload_n (v := a0) C dX12_power__14 rfl ?_
    refine x_bipush C dX12_power__15 kb_94 ?_
    obtain ⟨u92, e93, hf⟩ := j_bind hf
    obtain ⟨q5, e6, hf⟩ := j_bind hf
    refine x_callV (As := [.int (94 : Int32)]) (rest := []) C dX12_power__17 (m_X12_is (l := l) (E := E) (d := d - 1) (by omega) e6) km_X12_is lk_X12_115 kv_X12_is (ci := 9) rfl e93 rfl (by omega) (Nat.le_of_ble_eq_true rfl) (j_le_of (q_X12_is e6)) (Or.inr (q_X12_is e6)) ?_
    refine x_if_ne (tgt := 25) C dX12_power__20 (by decide) (fun c97 => ?_) (fun c97 => ?_)
    · have hf := j_ifn hf c97
      refine x_aload_n (v := a0) C dX12_power__25 rfl ?_
      obtain ⟨u90, e91, hf⟩ := j_bind hf
      obtain ⟨q7, e8, hf⟩ := j_bind hf
      refine x_callV (As := []) (rest := []) C dX12_power__26 (m_X12_go (l := l) (E := E) (d := d - 1) (by omega) e8) km_X12_go lk_X12_121 kv_X12_go (ci := 9) rfl e91 rfl (by omega) (Nat.le_of_ble_eq_true rfl) (j_le_of (q_X12_go e8)) (Or.inr (q_X12_go e8)) ?_
      refine x_aload_n (v := a0) C dX12_power__29 rfl ?_
      obtain ⟨v9, e10, hf⟩ := j_bind hf
      refine x_get C dX12_power__30 (jgI_some e10) fg_X12_97 ?_
      refine x_iconst C dX12_power__33 ki_2 ?_
      refine x_icmp_eq (tgt := 43) C dX12_power__34 (by decide) (fun c98 => ?_) (fun c98 => ?_)
      · have hf := j_ifp hf c98
        refine x_aload_n (v := a0) C dX12_power__43 rfl ?_
        obtain ⟨v11, e12, hf⟩ := j_bind hf
        refine x_get C dX12_power__44 (jgI_some e12) fg_X12_100 ?_
        refine x_bipush C dX12_power__47 kb_15 ?_
        refine x_icmp_le (tgt := 58) C dX12_power__49 (by decide) (fun c99 => ?_) (fun c99 => ?_)
        · have hf := j_ifp hf c99
          refine x_aload_n (v := a0) C dX12_power__58 rfl ?_
          obtain ⟨v13, e14, hf⟩ := j_bind hf
          refine x_get C dX12_power__59 (jgI_some e14) fg_X12_100 ?_
          refine x_istore_n C dX12_power__62 (by decide) ?_
          refine x_aload_n (v := a0) C dX12_power__63 rfl ?_
          obtain ⟨u76, e77, hf⟩ := j_bind hf
          obtain ⟨q15, e16, hf⟩ := j_bind hf
          refine x_callV (As := []) (rest := []) C dX12_power__64 (m_X12_go (l := l) (E := E) (d := d - 1) (by omega) e16) km_X12_go lk_X12_121 kv_X12_go (ci := 9) rfl e77 rfl (by omega) (Nat.le_of_ble_eq_true rfl) (j_le_of (q_X12_go e16)) (Or.inr (q_X12_go e16)) ?_
          refine x_aload_n (v := a0) C dX12_power__67 rfl ?_
          obtain ⟨v17, e18, hf⟩ := j_bind hf
          refine x_get C dX12_power__68 (jgR_some e18) fg_X12_142 ?_
          refine x_aload_n (v := a0) C dX12_power__71 rfl ?_
          obtain ⟨v19, e20, hf⟩ := j_bind hf
          refine x_get C dX12_power__72 (jgI_some e20) fg_X12_145 ?_
          refine x_iconst C dX12_power__75 ki_1 ?_
          refine x_isub C dX12_power__76 ?_
          obtain ⟨v21, e22, hf⟩ := j_bind hf
          refine x_iald C dX12_power__77 e22 ?_
          refine x_iload_n (v := v13) C dX12_power__78 rfl ?_
          refine x_imul C dX12_power__79 ?_
          refine x_bipush C dX12_power__80 kb_60 ?_
          refine x_icmp_le (tgt := 93) C dX12_power__82 (by decide) (fun c100 => ?_) (fun c100 => ?_)
          · have hf := j_ifp hf c100
            refine x_aload_n (v := a0) C dX12_power__93 rfl ?_
            obtain ⟨v23, e24, hf⟩ := j_bind hf
            refine x_get C dX12_power__94 (jgI_some e24) fg_X12_145 ?_
            refine x_iconst C dX12_power__97 ki_1 ?_
            refine x_isub C dX12_power__98 ?_
            refine x_istore_n C dX12_power__99 (by decide) ?_
            refine x_aload_n (v := a0) C dX12_power__100 rfl ?_
            refine x_iconst C dX12_power__101 ki_1 ?_
            obtain ⟨u68, e69, hf⟩ := j_bind hf
            obtain ⟨q25, e26, hf⟩ := j_bind hf
            refine x_callV (As := [.int (1 : Int32)]) (rest := []) C dX12_power__102 (m_X12_pushesNumber (l := l) (E := E) (d := d - 1) (by omega) e26) km_X12_pushesNumber lk_X12_155 kv_X12_pushesNumber (ci := 9) rfl e69 rfl (by omega) (Nat.le_of_ble_eq_true rfl) (j_le_of (q_X12_pushesNumber e26)) (Or.inr (q_X12_pushesNumber e26)) ?_
            refine x_iconst C dX12_power__105 ki_0 ?_
            refine x_istore C dX12_power__106 (by decide) ?_
            obtain ⟨q48, e49, hf⟩ := j_bind hf
            refine x_loc [(0, .ref a0), (2, .int v13), (3, .int (v23 - (1 : Int32))), (4, .int (0 : Int32))] rfl ?_
            refine x_loop (s_X12_power__L108 hDR hrec hrecq C hret hdd a0 v13 (v23 - (1 : Int32))) e49 ?_
            refine x_aload_n (v := a0) C dX12_power__173 rfl ?_
            obtain ⟨v50, e51, hf⟩ := j_bind hf
            refine x_get C dX12_power__174 (jgR_some e51) fg_X12_148 ?_
            refine x_sipush C dX12_power__177 ks_181 ?_
            refine x_aload_n (v := a0) C dX12_power__180 rfl ?_
            obtain ⟨v52, e53, hf⟩ := j_bind hf
            refine x_get C dX12_power__181 (jgI_some e53) fg_X12_145 ?_
            refine x_iconst C dX12_power__184 ki_1 ?_
            refine x_isub C dX12_power__185 ?_
            refine x_imul C dX12_power__186 ?_
            refine x_aload_n (v := a0) C dX12_power__187 rfl ?_
            obtain ⟨v54, e55, hf⟩ := j_bind hf
            refine x_get C dX12_power__188 (jgR_some e55) fg_X12_148 ?_
            refine x_sipush C dX12_power__191 ks_181 ?_
            refine x_iload_n (v := v23 - (1 : Int32)) C dX12_power__194 rfl ?_
            refine x_imul C dX12_power__195 ?_
            obtain ⟨q56, e57, hf⟩ := j_bind hf
            refine x_callS (As := [.ref v50, .int ((181 : Int32) * (v52 - (1 : Int32))), .ref v54, .int ((181 : Int32) * (v23 - (1 : Int32)))]) (rest := []) C dX12_power__196 (m_X12_copies (l := l) (E := E) (d := d - 1) (by omega) e57) km_X12_copies lk_X12_58 ks_X12_copies rfl (by omega) (Nat.le_of_ble_eq_true rfl) (j_le_of (q_X12_copies e57)) (Or.inr (q_X12_copies e57)) ?_
            refine x_aload_n (v := a0) C dX12_power__199 rfl ?_
            obtain ⟨v58, e59, hf⟩ := j_bind hf
            refine x_get C dX12_power__200 (jgR_some e59) fg_X12_142 ?_
            refine x_iload_n (v := v23 - (1 : Int32)) C dX12_power__203 rfl ?_
            refine x_dup2 C dX12_power__204 rfl rfl ?_
            obtain ⟨v60, e61, hf⟩ := j_bind hf
            refine x_iald C dX12_power__205 e61 ?_
            refine x_iload_n (v := v13) C dX12_power__206 rfl ?_
            refine x_imul C dX12_power__207 ?_
            obtain ⟨h62, e63, hf⟩ := j_bind hf
            refine x_iast C dX12_power__208 e63 ?_
            refine x_aload_n (v := a0) C dX12_power__209 rfl ?_
            refine x_dup C dX12_power__210 rfl ?_
            obtain ⟨v64, e65, hf⟩ := j_bind hf
            refine x_get C dX12_power__211 (jgI_some e65) fg_X12_145 ?_
            refine x_iconst C dX12_power__214 ki_1 ?_
            refine x_isub C dX12_power__215 ?_
            obtain ⟨h66, e67, hf⟩ := j_bind hf
            refine x_put C dX12_power__216 e67 fp_X12_145 rfl rfl ?_
            refine x_iconst C dX12_power__219 ki_1 ?_
            obtain rfl := j_inj hf
            exact x_zret C hret (Or.inr rfl) dX12_power__220
          · have hf := j_ifn hf c100
            refine x_aload_n (v := a0) C dX12_power__85 rfl ?_
            refine x_iload_n (v := v1) C dX12_power__86 rfl ?_
            refine x_bipush C dX12_power__87 kb_7 ?_
            obtain ⟨u74, e75, hf⟩ := j_bind hf
            obtain ⟨q70, e71, hf⟩ := j_bind hf
            refine x_callV (As := [.int v1, .int (7 : Int32)]) (rest := []) C dX12_power__89 (m_X12_badAt (l := l) (E := E) (d := d - 1) (by omega) e71) km_X12_badAt lk_X12_111 kv_X12_badAt (ci := 9) rfl e75 rfl (by omega) (Nat.le_of_ble_eq_true rfl) (j_le_of (q_X12_badAt e71)) (Or.inr (q_X12_badAt e71)) ?_
            obtain ⟨u72, e73, hf⟩ := j_bind hf
            obtain rfl := j_inj hf
            exact x_zret C hret (jzb_some e73) dX12_power__92
        · have hf := j_ifn hf c99
          refine x_aload_n (v := a0) C dX12_power__52 rfl ?_
          refine x_iconst C dX12_power__53 ki_4 ?_
          obtain ⟨u82, e83, hf⟩ := j_bind hf
          obtain ⟨q78, e79, hf⟩ := j_bind hf
          refine x_callV (As := [.int (4 : Int32)]) (rest := []) C dX12_power__54 (m_X12_bad (l := l) (E := E) (d := d - 1) (by omega) e79) km_X12_bad lk_X12_118 kv_X12_bad (ci := 9) rfl e83 rfl (by omega) (Nat.le_of_ble_eq_true rfl) (j_le_of (q_X12_bad e79)) (Or.inr (q_X12_bad e79)) ?_
          obtain ⟨u80, e81, hf⟩ := j_bind hf
          obtain rfl := j_inj hf
          exact x_zret C hret (jzb_some e81) dX12_power__57
      · have hf := j_ifn hf c98
        refine x_aload_n (v := a0) C dX12_power__37 rfl ?_
        refine x_iconst C dX12_power__38 ki_1 ?_
        obtain ⟨u88, e89, hf⟩ := j_bind hf
        obtain ⟨q84, e85, hf⟩ := j_bind hf
        refine x_callV (As := [.int (1 : Int32)]) (rest := []) C dX12_power__39 (m_X12_bad (l := l) (E := E) (d := d - 1) (by omega) e85) km_X12_bad lk_X12_118 kv_X12_bad (ci := 9) rfl e89 rfl (by omega) (Nat.le_of_ble_eq_true rfl) (j_le_of (q_X12_bad e85)) (Or.inr (q_X12_bad e85)) ?_
        obtain ⟨u86, e87, hf⟩ := j_bind hf
        obtain rfl := j_inj hf
        exact x_zret C hret (jzb_some e87) dX12_power__42
    · have hf := j_ifp hf c97
      refine x_iconst C dX12_power__23 ki_1 ?_
      obtain rfl := j_inj hf
      exact x_zret C hret (Or.inr rfl) dX12_power__24
  · have hf := j_ifp hf c96
    refine x_iconst C dX12_power__12 ki_0 ?_
    obtain rfl := j_inj hf
    exact x_zret C hret (Or.inl rfl) dX12_power__13
set_option maxHeartbeats 4000000 in
set_option maxRecDepth 100000 in
theorem s_X12_product_L5 {p : Program} {l : Launch} {e : Env} {R : Room} {s : State} {m : MethodId} {args : Array Value} {below : List Frame} {meth : Method} {c : Code} {E : JE} {h0 hF : JH} {rF : Option Value} {d : Nat} {rec : Nat → JH → Option (Int32 × JH)} {DR : Nat} (hDR : 8 ≤ DR) (hrec : ∀ (d1 : Nat), DR ≤ d1 → ∀ {x0 : Nat} {hh : JH} {qq : Int32 × JH}, rec x0 hh = some qq → Con l E d1 yX12_sum cX12_sum 5 (some .boolean) [.ref x0] hh (some (.int qq.1)) qq.2) (hrecq : ∀ {x0 : Nat} {hh : JH} {qq : Int32 × JH}, rec x0 hh = some qq → qq.2.2.1 = hh.2.1) (C : j_C p s m args meth c R E cX12_product 3 RX12 h0 hF d) (hret : meth.sig.returnType = (some .boolean)) (hdd : DR + 3 ≤ d) (a0 : Nat) (z : Int32) (h : JH) (r : Int32 ⊕ Int32) (h1 : JH) (hf : f_X12_product_L5 rec a0 z h = some (r, h1)) (hk : Sum.elim (fun z => Xw p l e R s m args below meth c E 3 h0 rF hF 5 [(0, .ref a0), (1, .int z)] [] h1) (fun t => Xw p l e R s m args below meth c E 3 h0 rF hF 83 [(0, .ref a0), (1, .int t)] [] h1) r) : Xw p l e R s m args below meth c E 3 h0 rF hF 5 [(0, .ref a0), (1, .int z)] [] h := by
  unfold f_X12_product_L5 at hf
  refine x_iload_n (v := z) C dX12_product_5 rfl ?_
  refine x_if_eq (tgt := 83) C dX12_product_6 (by decide) (fun c45 => ?_) (fun c45 => ?_)
  · have hf := j_ifp hf c45
    obtain ⟨rfl, rfl⟩ := j_inj2 hf
    exact x_locr hk rfl
  · have hf := j_ifn hf c45
    refine x_aload_n (v := a0) C dX12_product_9 rfl ?_
    refine x_bipush C dX12_product_10 kb_42 ?_
    obtain ⟨u43, e44, hf⟩ := j_bind hf
    obtain ⟨q3, e4, hf⟩ := j_bind hf
    refine x_callV (As := [.int (42 : Int32)]) (rest := []) C dX12_product_12 (m_X12_is (l := l) (E := E) (d := d - 1) (by omega) e4) km_X12_is lk_X12_115 kv_X12_is (ci := 9) rfl e44 rfl (by omega) (Nat.le_of_ble_eq_true rfl) (j_le_of (q_X12_is e4)) (Or.inr (q_X12_is e4)) ?_
    refine x_if_eq (tgt := 83) C dX12_product_15 (by decide) (fun c46 => ?_) (fun c46 => ?_)
    · have hf := j_ifp hf c46
      obtain ⟨rfl, rfl⟩ := j_inj2 hf
      exact x_locr hk rfl
    · have hf := j_ifn hf c46
      refine x_aload_n (v := a0) C dX12_product_18 rfl ?_
      obtain ⟨u41, e42, hf⟩ := j_bind hf
      obtain ⟨q5, e6, hf⟩ := j_bind hf
      refine x_callV (As := []) (rest := []) C dX12_product_19 (m_X12_go (l := l) (E := E) (d := d - 1) (by omega) e6) km_X12_go lk_X12_121 kv_X12_go (ci := 9) rfl e42 rfl (by omega) (Nat.le_of_ble_eq_true rfl) (j_le_of (q_X12_go e6)) (Or.inr (q_X12_go e6)) ?_
      refine x_aload_n (v := a0) C dX12_product_22 rfl ?_
      obtain ⟨v7, e8, hf⟩ := j_bind hf
      refine x_get C dX12_product_23 (jgI_some e8) fg_X12_94 ?_
      refine x_istore_n C dX12_product_26 (by decide) ?_
      refine x_aload_n (v := a0) C dX12_product_27 rfl ?_
      obtain ⟨u39, e40, hf⟩ := j_bind hf
      obtain ⟨q9, e10, hf⟩ := j_bind hf
      refine x_callV (As := []) (rest := []) C dX12_product_28 (m_X12_power_ hDR hrec hrecq (l := l) (E := E) (d := d - 1) (by omega) e10) km_X12_power_ lk_X12_183 kv_X12_power_ (ci := 9) rfl e40 rfl (by omega) (Nat.le_of_ble_eq_true rfl) (j_le_of (q_X12_power_ hrecq e10)) (Or.inr (q_X12_power_ hrecq e10)) ?_
      refine x_istore_n C dX12_product_31 (by decide) ?_
      refine x_iload_n (v := q9.1) C dX12_product_32 rfl ?_
      refine x_if_eq (tgt := 72) C dX12_product_33 (by decide) (fun c47 => ?_) (fun c47 => ?_)
      · have hf := j_ifp hf c47
        refine x_iload_n (v := q9.1) C dX12_product_72 rfl ?_
        refine x_if_eq (tgt := 80) C dX12_product_73 (by decide) (fun c48 => ?_) (fun c48 => ?_)
        · have hf := j_ifp hf c48
          refine x_goto (tgt := 5) C dX12_product_80 (by decide) ?_
          obtain ⟨rfl, rfl⟩ := j_inj2 hf
          exact x_locr hk rfl
        · have hf := j_ifn hf c48
          refine x_aload_n (v := a0) C dX12_product_76 rfl ?_
          obtain ⟨u13, e14, hf⟩ := j_bind hf
          obtain ⟨q11, e12, hf⟩ := j_bind hf
          refine x_callV (As := []) (rest := []) C dX12_product_77 (m_X12_joins (l := l) (E := E) (d := d - 1) (by omega) e12) km_X12_joins lk_X12_185 kv_X12_joins (ci := 9) rfl e14 rfl (by omega) (Nat.le_of_ble_eq_true rfl) (j_le_of (q_X12_joins e12)) (Or.inr (q_X12_joins e12)) ?_
          refine x_goto (tgt := 5) C dX12_product_80 (by decide) ?_
          obtain ⟨rfl, rfl⟩ := j_inj2 hf
          exact x_locr hk rfl
      · have hf := j_ifn hf c47
        refine x_aload_n (v := a0) C dX12_product_36 rfl ?_
        obtain ⟨v15, e16, hf⟩ := j_bind hf
        refine x_get C dX12_product_37 (jgR_some e16) fg_X12_142 ?_
        refine x_aload_n (v := a0) C dX12_product_40 rfl ?_
        obtain ⟨v17, e18, hf⟩ := j_bind hf
        refine x_get C dX12_product_41 (jgI_some e18) fg_X12_145 ?_
        refine x_iconst C dX12_product_44 ki_2 ?_
        refine x_isub C dX12_product_45 ?_
        obtain ⟨v19, e20, hf⟩ := j_bind hf
        refine x_iald C dX12_product_46 e20 ?_
        refine x_aload_n (v := a0) C dX12_product_47 rfl ?_
        obtain ⟨v21, e22, hf⟩ := j_bind hf
        refine x_get C dX12_product_48 (jgR_some e22) fg_X12_142 ?_
        refine x_aload_n (v := a0) C dX12_product_51 rfl ?_
        obtain ⟨v23, e24, hf⟩ := j_bind hf
        refine x_get C dX12_product_52 (jgI_some e24) fg_X12_145 ?_
        refine x_iconst C dX12_product_55 ki_1 ?_
        refine x_isub C dX12_product_56 ?_
        obtain ⟨v25, e26, hf⟩ := j_bind hf
        refine x_iald C dX12_product_57 e26 ?_
        refine x_iadd C dX12_product_58 ?_
        refine x_bipush C dX12_product_59 kb_60 ?_
        refine x_icmp_le (tgt := 72) C dX12_product_61 (by decide) (fun c49 => ?_) (fun c49 => ?_)
        · have hf := j_ifp hf c49
          refine x_iload_n (v := q9.1) C dX12_product_72 rfl ?_
          refine x_if_eq (tgt := 80) C dX12_product_73 (by decide) (fun c50 => ?_) (fun c50 => ?_)
          · have hf := j_ifp hf c50
            refine x_goto (tgt := 5) C dX12_product_80 (by decide) ?_
            obtain ⟨rfl, rfl⟩ := j_inj2 hf
            exact x_locr hk rfl
          · have hf := j_ifn hf c50
            refine x_aload_n (v := a0) C dX12_product_76 rfl ?_
            obtain ⟨u29, e30, hf⟩ := j_bind hf
            obtain ⟨q27, e28, hf⟩ := j_bind hf
            refine x_callV (As := []) (rest := []) C dX12_product_77 (m_X12_joins (l := l) (E := E) (d := d - 1) (by omega) e28) km_X12_joins lk_X12_185 kv_X12_joins (ci := 9) rfl e30 rfl (by omega) (Nat.le_of_ble_eq_true rfl) (j_le_of (q_X12_joins e28)) (Or.inr (q_X12_joins e28)) ?_
            refine x_goto (tgt := 5) C dX12_product_80 (by decide) ?_
            obtain ⟨rfl, rfl⟩ := j_inj2 hf
            exact x_locr hk rfl
        · have hf := j_ifn hf c49
          refine x_aload_n (v := a0) C dX12_product_64 rfl ?_
          refine x_iload_n (v := v7) C dX12_product_65 rfl ?_
          refine x_bipush C dX12_product_66 kb_7 ?_
          obtain ⟨u37, e38, hf⟩ := j_bind hf
          obtain ⟨q31, e32, hf⟩ := j_bind hf
          refine x_callV (As := [.int v7, .int (7 : Int32)]) (rest := []) C dX12_product_68 (m_X12_badAt (l := l) (E := E) (d := d - 1) (by omega) e32) km_X12_badAt lk_X12_111 kv_X12_badAt (ci := 9) rfl e38 rfl (by omega) (Nat.le_of_ble_eq_true rfl) (j_le_of (q_X12_badAt e32)) (Or.inr (q_X12_badAt e32)) ?_
          refine x_istore_n C dX12_product_71 (by decide) ?_
          refine x_iload_n (v := q31.1) C dX12_product_72 rfl ?_
          refine x_if_eq (tgt := 80) C dX12_product_73 (by decide) (fun c51 => ?_) (fun c51 => ?_)
          · have hf := j_ifp hf c51
            refine x_goto (tgt := 5) C dX12_product_80 (by decide) ?_
            obtain ⟨rfl, rfl⟩ := j_inj2 hf
            exact x_locr hk rfl
          · have hf := j_ifn hf c51
            refine x_aload_n (v := a0) C dX12_product_76 rfl ?_
            obtain ⟨u35, e36, hf⟩ := j_bind hf
            obtain ⟨q33, e34, hf⟩ := j_bind hf
            refine x_callV (As := []) (rest := []) C dX12_product_77 (m_X12_joins (l := l) (E := E) (d := d - 1) (by omega) e34) km_X12_joins lk_X12_185 kv_X12_joins (ci := 9) rfl e36 rfl (by omega) (Nat.le_of_ble_eq_true rfl) (j_le_of (q_X12_joins e34)) (Or.inr (q_X12_joins e34)) ?_
            refine x_goto (tgt := 5) C dX12_product_80 (by decide) ?_
            obtain ⟨rfl, rfl⟩ := j_inj2 hf
            exact x_locr hk rfl
set_option maxHeartbeats 4000000 in
set_option maxRecDepth 100000 in
theorem m_X12_product {l : Launch} {E : JE} {d : Nat} {rec : Nat → JH → Option (Int32 × JH)} {DR : Nat} (hDR : 8 ≤ DR) (hrec : ∀ (d1 : Nat), DR ≤ d1 → ∀ {x0 : Nat} {hh : JH} {qq : Int32 × JH}, rec x0 hh = some qq → Con l E d1 yX12_sum cX12_sum 5 (some .boolean) [.ref x0] hh (some (.int qq.1)) qq.2) (hrecq : ∀ {x0 : Nat} {hh : JH} {qq : Int32 × JH}, rec x0 hh = some qq → qq.2.2.1 = hh.2.1) (hdd : DR + 3 ≤ d) {a0 : Nat} {h : JH} {q : Int32 × JH} (hf : f_X12_product rec a0 h = some q) : Con l E d yX12_product cX12_product 3 (some .boolean) [.ref a0] h (some (.int q.1)) q.2 := by
  refine j_start rfl (Nat.le_of_ble_eq_true rfl) ?_
  intro p e s m args below meth c C hret hnm
  refine x_loc [(0, .ref a0)] rfl ?_
  unfold f_X12_product at hf
  refine x_aload_n (v := a0) C dX12_product_0 rfl ?_
  obtain ⟨u56, e57, hf⟩ := j_bind hf
  obtain ⟨q1, e2, hf⟩ := j_bind hf
  refine x_callV (As := []) (rest := []) C dX12_product_1 (m_X12_power_ hDR hrec hrecq (l := l) (E := E) (d := d - 1) (by omega) e2) km_X12_power_ lk_X12_183 kv_X12_power_ (ci := 9) rfl e57 rfl (by omega) (Nat.le_of_ble_eq_true rfl) (j_le_of (q_X12_power_ hrecq e2)) (Or.inr (q_X12_power_ hrecq e2)) ?_
  refine x_istore_n C dX12_product_4 (by decide) ?_
  obtain ⟨q52, e53, hf⟩ := j_bind hf
  refine x_loc [(0, .ref a0), (1, .int q1.1)] rfl ?_
  refine x_loop (s_X12_product_L5 hDR hrec hrecq C hret hdd a0) e53 ?_
  refine x_iload_n (v := q52.1) C dX12_product_83 rfl ?_
  obtain ⟨u54, e55, hf⟩ := j_bind hf
  obtain rfl := j_inj hf
  exact x_zret C hret (jzb_some e55) dX12_product_84
set_option maxHeartbeats 4000000 in
set_option maxRecDepth 100000 in
theorem s_X12_sum_L100 {p : Program} {l : Launch} {e : Env} {R : Room} {s : State} {m : MethodId} {args : Array Value} {below : List Frame} {meth : Method} {c : Code} {E : JE} {h0 hF : JH} {rF : Option Value} {d : Nat} {rec : Nat → JH → Option (Int32 × JH)} {DR : Nat} (hDR : 8 ≤ DR) (hrec : ∀ (d1 : Nat), DR ≤ d1 → ∀ {x0 : Nat} {hh : JH} {qq : Int32 × JH}, rec x0 hh = some qq → Con l E d1 yX12_sum cX12_sum 5 (some .boolean) [.ref x0] hh (some (.int qq.1)) qq.2) (hrecq : ∀ {x0 : Nat} {hh : JH} {qq : Int32 × JH}, rec x0 hh = some qq → qq.2.2.1 = hh.2.1) (C : j_C p s m args meth c R E cX12_sum 5 RX12 h0 hF d) (hret : meth.sig.returnType = (some .boolean)) (hdd : DR + 4 ≤ d) (a0 : Nat) (a1 : Int32) (a2 : Int32) (z : Int32) (h : JH) (r : Int32 ⊕ Int32) (h1 : JH) (hf : f_X12_sum_L100 rec a0 a1 a2 z h = some (r, h1)) (hk : Sum.elim (fun z => Xw p l e R s m args below meth c E 5 h0 rF hF 100 [(0, .ref a0), (1, .int a1), (2, .int a2), (4, .int z)] [] h1) (fun t => Xw p l e R s m args below meth c E 5 h0 rF hF 176 [(0, .ref a0), (1, .int a1), (2, .int a2), (4, .int t)] [] h1) r) : Xw p l e R s m args below meth c E 5 h0 rF hF 100 [(0, .ref a0), (1, .int a1), (2, .int a2), (4, .int z)] [] h := by
  unfold f_X12_sum_L100 at hf
  refine x_iload (v := z) C dX12_sum_100 rfl ?_
  refine x_sipush C dX12_sum_102 ks_181 ?_
  refine x_icmp_ge (tgt := 176) C dX12_sum_105 (by decide) (fun c35 => ?_) (fun c35 => ?_)
  · have hf := j_ifp hf c35
    obtain ⟨rfl, rfl⟩ := j_inj2 hf
    exact x_locr hk rfl
  · have hf := j_ifn hf c35
    refine x_aload_n (v := a0) C dX12_sum_108 rfl ?_
    obtain ⟨v13, e14, hf⟩ := j_bind hf
    refine x_get C dX12_sum_109 (jgR_some e14) fg_X12_148 ?_
    refine x_sipush C dX12_sum_112 ks_181 ?_
    refine x_aload_n (v := a0) C dX12_sum_115 rfl ?_
    obtain ⟨v15, e16, hf⟩ := j_bind hf
    refine x_get C dX12_sum_116 (jgI_some e16) fg_X12_145 ?_
    refine x_iconst C dX12_sum_119 ki_2 ?_
    refine x_isub C dX12_sum_120 ?_
    refine x_imul C dX12_sum_121 ?_
    refine x_iload (v := z) C dX12_sum_122 rfl ?_
    refine x_iadd C dX12_sum_124 ?_
    refine x_aload_n (v := a0) C dX12_sum_125 rfl ?_
    refine x_aload_n (v := a0) C dX12_sum_126 rfl ?_
    obtain ⟨v17, e18, hf⟩ := j_bind hf
    refine x_get C dX12_sum_127 (jgR_some e18) fg_X12_148 ?_
    refine x_sipush C dX12_sum_130 ks_181 ?_
    refine x_aload_n (v := a0) C dX12_sum_133 rfl ?_
    obtain ⟨v19, e20, hf⟩ := j_bind hf
    refine x_get C dX12_sum_134 (jgI_some e20) fg_X12_145 ?_
    refine x_iconst C dX12_sum_137 ki_2 ?_
    refine x_isub C dX12_sum_138 ?_
    refine x_imul C dX12_sum_139 ?_
    refine x_iload (v := z) C dX12_sum_140 rfl ?_
    refine x_iadd C dX12_sum_142 ?_
    obtain ⟨v21, e22, hf⟩ := j_bind hf
    refine x_iald C dX12_sum_143 e22 ?_
    refine x_iload_n (v := a2) C dX12_sum_144 rfl ?_
    refine x_aload_n (v := a0) C dX12_sum_145 rfl ?_
    obtain ⟨v23, e24, hf⟩ := j_bind hf
    refine x_get C dX12_sum_146 (jgR_some e24) fg_X12_148 ?_
    refine x_sipush C dX12_sum_149 ks_181 ?_
    refine x_aload_n (v := a0) C dX12_sum_152 rfl ?_
    obtain ⟨v25, e26, hf⟩ := j_bind hf
    refine x_get C dX12_sum_153 (jgI_some e26) fg_X12_145 ?_
    refine x_iconst C dX12_sum_156 ki_1 ?_
    refine x_isub C dX12_sum_157 ?_
    refine x_imul C dX12_sum_158 ?_
    refine x_iload (v := z) C dX12_sum_159 rfl ?_
    refine x_iadd C dX12_sum_161 ?_
    obtain ⟨v27, e28, hf⟩ := j_bind hf
    refine x_iald C dX12_sum_162 e28 ?_
    refine x_imul C dX12_sum_163 ?_
    refine x_iadd C dX12_sum_164 ?_
    refine x_i2l C dX12_sum_165 ?_
    obtain ⟨u33, e34, hf⟩ := j_bind hf
    obtain ⟨q29, e30, hf⟩ := j_bind hf
    refine x_callV (As := [.long ((v21 + (a2 * v27)).toInt64)]) (rest := [.int (((181 : Int32) * (v15 - (2 : Int32))) + z), .ref v13]) C dX12_sum_166 (m_X12_left (l := l) (E := E) (d := d - 1) (by omega) e30) km_X12_left lk_X12_10 kv_X12_left (ci := 9) rfl e34 rfl (by omega) (Nat.le_of_ble_eq_true rfl) (j_le_of (q_X12_left e30)) (Or.inr (q_X12_left e30)) ?_
    obtain ⟨h31, e32, hf⟩ := j_bind hf
    refine x_iast C dX12_sum_169 e32 ?_
    refine x_iinc (v := z) C dX12_sum_170 rfl ki_1 (by decide) ?_
    refine x_goto (tgt := 100) C dX12_sum_173 (by decide) ?_
    obtain ⟨rfl, rfl⟩ := j_inj2 hf
    exact x_locr hk rfl
set_option maxHeartbeats 4000000 in
set_option maxRecDepth 100000 in
theorem s_X12_sum_L5 {p : Program} {l : Launch} {e : Env} {R : Room} {s : State} {m : MethodId} {args : Array Value} {below : List Frame} {meth : Method} {c : Code} {E : JE} {h0 hF : JH} {rF : Option Value} {d : Nat} {rec : Nat → JH → Option (Int32 × JH)} {DR : Nat} (hDR : 8 ≤ DR) (hrec : ∀ (d1 : Nat), DR ≤ d1 → ∀ {x0 : Nat} {hh : JH} {qq : Int32 × JH}, rec x0 hh = some qq → Con l E d1 yX12_sum cX12_sum 5 (some .boolean) [.ref x0] hh (some (.int qq.1)) qq.2) (hrecq : ∀ {x0 : Nat} {hh : JH} {qq : Int32 × JH}, rec x0 hh = some qq → qq.2.2.1 = hh.2.1) (C : j_C p s m args meth c R E cX12_sum 5 RX12 h0 hF d) (hret : meth.sig.returnType = (some .boolean)) (hdd : DR + 4 ≤ d) (a0 : Nat) (z : Int32) (h : JH) (r : Int32 ⊕ Int32) (h1 : JH) (hf : f_X12_sum_L5 rec a0 z h = some (r, h1)) (hk : Sum.elim (fun z => Xw p l e R s m args below meth c E 5 h0 rF hF 5 [(0, .ref a0), (1, .int z)] [] h1) (fun t => Xw p l e R s m args below meth c E 5 h0 rF hF 189 [(0, .ref a0), (1, .int t)] [] h1) r) : Xw p l e R s m args below meth c E 5 h0 rF hF 5 [(0, .ref a0), (1, .int z)] [] h := by
  unfold f_X12_sum_L5 at hf
  refine x_iload_n (v := z) C dX12_sum_5 rfl ?_
  refine x_if_eq (tgt := 189) C dX12_sum_6 (by decide) (fun c195 => ?_) (fun c195 => ?_)
  · have hf := j_ifp hf c195
    obtain ⟨rfl, rfl⟩ := j_inj2 hf
    exact x_locr hk rfl
  · have hf := j_ifn hf c195
    refine x_aload_n (v := a0) C dX12_sum_9 rfl ?_
    refine x_bipush C dX12_sum_10 kb_43 ?_
    obtain ⟨u193, e194, hf⟩ := j_bind hf
    obtain ⟨q3, e4, hf⟩ := j_bind hf
    refine x_callV (As := [.int (43 : Int32)]) (rest := []) C dX12_sum_12 (m_X12_is (l := l) (E := E) (d := d - 1) (by omega) e4) km_X12_is lk_X12_115 kv_X12_is (ci := 9) rfl e194 rfl (by omega) (Nat.le_of_ble_eq_true rfl) (j_le_of (q_X12_is e4)) (Or.inr (q_X12_is e4)) ?_
    refine x_if_ne (tgt := 27) C dX12_sum_15 (by decide) (fun c196 => ?_) (fun c196 => ?_)
    · have hf := j_ifn hf c196
      refine x_aload_n (v := a0) C dX12_sum_27 rfl ?_
      refine x_bipush C dX12_sum_28 kb_43 ?_
      obtain ⟨u95, e96, hf⟩ := j_bind hf
      obtain ⟨q5, e6, hf⟩ := j_bind hf
      refine x_callV (As := [.int (43 : Int32)]) (rest := []) C dX12_sum_30 (m_X12_is (l := l) (E := E) (d := d - 1) (by omega) e6) km_X12_is lk_X12_115 kv_X12_is (ci := 9) rfl e96 rfl (by omega) (Nat.le_of_ble_eq_true rfl) (j_le_of (q_X12_is e6)) (Or.inr (q_X12_is e6)) ?_
      refine x_if_eq (tgt := 40) C dX12_sum_33 (by decide) (fun c197 => ?_) (fun c197 => ?_)
      · have hf := j_ifp hf c197
        refine x_iconst C dX12_sum_40 ki_m1 ?_
        refine x_istore_n C dX12_sum_41 (by decide) ?_
        refine x_aload_n (v := a0) C dX12_sum_42 rfl ?_
        obtain ⟨u49, e50, hf⟩ := j_bind hf
        obtain ⟨q7, e8, hf⟩ := j_bind hf
        refine x_callV (As := []) (rest := []) C dX12_sum_43 (m_X12_go (l := l) (E := E) (d := d - 1) (by omega) e8) km_X12_go lk_X12_121 kv_X12_go (ci := 9) rfl e50 rfl (by omega) (Nat.le_of_ble_eq_true rfl) (j_le_of (q_X12_go e8)) (Or.inr (q_X12_go e8)) ?_
        refine x_aload_n (v := a0) C dX12_sum_46 rfl ?_
        obtain ⟨v9, e10, hf⟩ := j_bind hf
        refine x_get C dX12_sum_47 (jgI_some e10) fg_X12_94 ?_
        refine x_istore_n C dX12_sum_50 (by decide) ?_
        refine x_aload_n (v := a0) C dX12_sum_51 rfl ?_
        obtain ⟨u47, e48, hf⟩ := j_bind hf
        obtain ⟨q11, e12, hf⟩ := j_bind hf
        refine x_callV (As := []) (rest := []) C dX12_sum_52 (m_X12_product hDR hrec hrecq (l := l) (E := E) (d := d - 1) (by omega) e12) km_X12_product lk_X12_188 kv_X12_product (ci := 9) rfl e48 rfl (by omega) (Nat.le_of_ble_eq_true rfl) (j_le_of (q_X12_product hrecq e12)) (Or.inr (q_X12_product hrecq e12)) ?_
        refine x_istore_n C dX12_sum_55 (by decide) ?_
        refine x_iload_n (v := q11.1) C dX12_sum_56 rfl ?_
        refine x_if_eq (tgt := 93) C dX12_sum_57 (by decide) (fun c198 => ?_) (fun c198 => ?_)
        · have hf := j_ifp hf c198
          refine x_iload_n (v := q11.1) C dX12_sum_93 rfl ?_
          refine x_if_eq (tgt := 186) C dX12_sum_94 (by decide) (fun c199 => ?_) (fun c199 => ?_)
          · have hf := j_ifp hf c199
            refine x_goto (tgt := 5) C dX12_sum_186 (by decide) ?_
            obtain ⟨rfl, rfl⟩ := j_inj2 hf
            exact x_locr hk rfl
          · have hf := j_ifn hf c199
            refine x_iconst C dX12_sum_97 ki_0 ?_
            refine x_istore C dX12_sum_98 (by decide) ?_
            obtain ⟨q13, e14, hf⟩ := j_bind hf
            refine x_loc [(0, .ref a0), (1, .int q11.1), (2, .int (-1 : Int32)), (4, .int (0 : Int32))] rfl ?_
            refine x_loop (s_X12_sum_L100 hDR hrec hrecq C hret hdd a0 q11.1 (-1 : Int32)) e14 ?_
            refine x_aload_n (v := a0) C dX12_sum_176 rfl ?_
            refine x_dup C dX12_sum_177 rfl ?_
            obtain ⟨v15, e16, hf⟩ := j_bind hf
            refine x_get C dX12_sum_178 (jgI_some e16) fg_X12_145 ?_
            refine x_iconst C dX12_sum_181 ki_1 ?_
            refine x_isub C dX12_sum_182 ?_
            obtain ⟨h17, e18, hf⟩ := j_bind hf
            refine x_put C dX12_sum_183 e18 fp_X12_145 rfl rfl ?_
            refine x_goto (tgt := 5) C dX12_sum_186 (by decide) ?_
            obtain ⟨rfl, rfl⟩ := j_inj2 hf
            exact x_locr hk rfl
        · have hf := j_ifn hf c198
          refine x_aload_n (v := a0) C dX12_sum_60 rfl ?_
          obtain ⟨v19, e20, hf⟩ := j_bind hf
          refine x_get C dX12_sum_61 (jgR_some e20) fg_X12_142 ?_
          refine x_aload_n (v := a0) C dX12_sum_64 rfl ?_
          obtain ⟨v21, e22, hf⟩ := j_bind hf
          refine x_get C dX12_sum_65 (jgI_some e22) fg_X12_145 ?_
          refine x_iconst C dX12_sum_68 ki_2 ?_
          refine x_isub C dX12_sum_69 ?_
          obtain ⟨v23, e24, hf⟩ := j_bind hf
          refine x_iald C dX12_sum_70 e24 ?_
          refine x_aload_n (v := a0) C dX12_sum_71 rfl ?_
          obtain ⟨v25, e26, hf⟩ := j_bind hf
          refine x_get C dX12_sum_72 (jgR_some e26) fg_X12_142 ?_
          refine x_aload_n (v := a0) C dX12_sum_75 rfl ?_
          obtain ⟨v27, e28, hf⟩ := j_bind hf
          refine x_get C dX12_sum_76 (jgI_some e28) fg_X12_145 ?_
          refine x_iconst C dX12_sum_79 ki_1 ?_
          refine x_isub C dX12_sum_80 ?_
          obtain ⟨v29, e30, hf⟩ := j_bind hf
          refine x_iald C dX12_sum_81 e30 ?_
          refine x_icmp_eq (tgt := 93) C dX12_sum_82 (by decide) (fun c200 => ?_) (fun c200 => ?_)
          · have hf := j_ifp hf c200
            refine x_iload_n (v := q11.1) C dX12_sum_93 rfl ?_
            refine x_if_eq (tgt := 186) C dX12_sum_94 (by decide) (fun c201 => ?_) (fun c201 => ?_)
            · have hf := j_ifp hf c201
              refine x_goto (tgt := 5) C dX12_sum_186 (by decide) ?_
              obtain ⟨rfl, rfl⟩ := j_inj2 hf
              exact x_locr hk rfl
            · have hf := j_ifn hf c201
              refine x_iconst C dX12_sum_97 ki_0 ?_
              refine x_istore C dX12_sum_98 (by decide) ?_
              obtain ⟨q31, e32, hf⟩ := j_bind hf
              refine x_loc [(0, .ref a0), (1, .int q11.1), (2, .int (-1 : Int32)), (4, .int (0 : Int32))] rfl ?_
              refine x_loop (s_X12_sum_L100 hDR hrec hrecq C hret hdd a0 q11.1 (-1 : Int32)) e32 ?_
              refine x_aload_n (v := a0) C dX12_sum_176 rfl ?_
              refine x_dup C dX12_sum_177 rfl ?_
              obtain ⟨v33, e34, hf⟩ := j_bind hf
              refine x_get C dX12_sum_178 (jgI_some e34) fg_X12_145 ?_
              refine x_iconst C dX12_sum_181 ki_1 ?_
              refine x_isub C dX12_sum_182 ?_
              obtain ⟨h35, e36, hf⟩ := j_bind hf
              refine x_put C dX12_sum_183 e36 fp_X12_145 rfl rfl ?_
              refine x_goto (tgt := 5) C dX12_sum_186 (by decide) ?_
              obtain ⟨rfl, rfl⟩ := j_inj2 hf
              exact x_locr hk rfl
          · have hf := j_ifn hf c200
            refine x_aload_n (v := a0) C dX12_sum_85 rfl ?_
            refine x_iload_n (v := v9) C dX12_sum_86 rfl ?_
            refine x_bipush C dX12_sum_87 kb_6 ?_
            obtain ⟨u45, e46, hf⟩ := j_bind hf
            obtain ⟨q37, e38, hf⟩ := j_bind hf
            refine x_callV (As := [.int v9, .int (6 : Int32)]) (rest := []) C dX12_sum_89 (m_X12_badAt (l := l) (E := E) (d := d - 1) (by omega) e38) km_X12_badAt lk_X12_111 kv_X12_badAt (ci := 9) rfl e46 rfl (by omega) (Nat.le_of_ble_eq_true rfl) (j_le_of (q_X12_badAt e38)) (Or.inr (q_X12_badAt e38)) ?_
            refine x_istore_n C dX12_sum_92 (by decide) ?_
            refine x_iload_n (v := q37.1) C dX12_sum_93 rfl ?_
            refine x_if_eq (tgt := 186) C dX12_sum_94 (by decide) (fun c202 => ?_) (fun c202 => ?_)
            · have hf := j_ifp hf c202
              refine x_goto (tgt := 5) C dX12_sum_186 (by decide) ?_
              obtain ⟨rfl, rfl⟩ := j_inj2 hf
              exact x_locr hk rfl
            · have hf := j_ifn hf c202
              refine x_iconst C dX12_sum_97 ki_0 ?_
              refine x_istore C dX12_sum_98 (by decide) ?_
              obtain ⟨q39, e40, hf⟩ := j_bind hf
              refine x_loc [(0, .ref a0), (1, .int q37.1), (2, .int (-1 : Int32)), (4, .int (0 : Int32))] rfl ?_
              refine x_loop (s_X12_sum_L100 hDR hrec hrecq C hret hdd a0 q37.1 (-1 : Int32)) e40 ?_
              refine x_aload_n (v := a0) C dX12_sum_176 rfl ?_
              refine x_dup C dX12_sum_177 rfl ?_
              obtain ⟨v41, e42, hf⟩ := j_bind hf
              refine x_get C dX12_sum_178 (jgI_some e42) fg_X12_145 ?_
              refine x_iconst C dX12_sum_181 ki_1 ?_
              refine x_isub C dX12_sum_182 ?_
              obtain ⟨h43, e44, hf⟩ := j_bind hf
              refine x_put C dX12_sum_183 e44 fp_X12_145 rfl rfl ?_
              refine x_goto (tgt := 5) C dX12_sum_186 (by decide) ?_
              obtain ⟨rfl, rfl⟩ := j_inj2 hf
              exact x_locr hk rfl
      · have hf := j_ifn hf c197
        refine x_iconst C dX12_sum_36 ki_1 ?_
        refine x_goto (tgt := 41) C dX12_sum_37 (by decide) ?_
        refine x_istore_n C dX12_sum_41 (by decide) ?_
        refine x_aload_n (v := a0) C dX12_sum_42 rfl ?_
        obtain ⟨u93, e94, hf⟩ := j_bind hf
        obtain ⟨q51, e52, hf⟩ := j_bind hf
        refine x_callV (As := []) (rest := []) C dX12_sum_43 (m_X12_go (l := l) (E := E) (d := d - 1) (by omega) e52) km_X12_go lk_X12_121 kv_X12_go (ci := 9) rfl e94 rfl (by omega) (Nat.le_of_ble_eq_true rfl) (j_le_of (q_X12_go e52)) (Or.inr (q_X12_go e52)) ?_
        refine x_aload_n (v := a0) C dX12_sum_46 rfl ?_
        obtain ⟨v53, e54, hf⟩ := j_bind hf
        refine x_get C dX12_sum_47 (jgI_some e54) fg_X12_94 ?_
        refine x_istore_n C dX12_sum_50 (by decide) ?_
        refine x_aload_n (v := a0) C dX12_sum_51 rfl ?_
        obtain ⟨u91, e92, hf⟩ := j_bind hf
        obtain ⟨q55, e56, hf⟩ := j_bind hf
        refine x_callV (As := []) (rest := []) C dX12_sum_52 (m_X12_product hDR hrec hrecq (l := l) (E := E) (d := d - 1) (by omega) e56) km_X12_product lk_X12_188 kv_X12_product (ci := 9) rfl e92 rfl (by omega) (Nat.le_of_ble_eq_true rfl) (j_le_of (q_X12_product hrecq e56)) (Or.inr (q_X12_product hrecq e56)) ?_
        refine x_istore_n C dX12_sum_55 (by decide) ?_
        refine x_iload_n (v := q55.1) C dX12_sum_56 rfl ?_
        refine x_if_eq (tgt := 93) C dX12_sum_57 (by decide) (fun c203 => ?_) (fun c203 => ?_)
        · have hf := j_ifp hf c203
          refine x_iload_n (v := q55.1) C dX12_sum_93 rfl ?_
          refine x_if_eq (tgt := 186) C dX12_sum_94 (by decide) (fun c204 => ?_) (fun c204 => ?_)
          · have hf := j_ifp hf c204
            refine x_goto (tgt := 5) C dX12_sum_186 (by decide) ?_
            obtain ⟨rfl, rfl⟩ := j_inj2 hf
            exact x_locr hk rfl
          · have hf := j_ifn hf c204
            refine x_iconst C dX12_sum_97 ki_0 ?_
            refine x_istore C dX12_sum_98 (by decide) ?_
            obtain ⟨q57, e58, hf⟩ := j_bind hf
            refine x_loc [(0, .ref a0), (1, .int q55.1), (2, .int (1 : Int32)), (4, .int (0 : Int32))] rfl ?_
            refine x_loop (s_X12_sum_L100 hDR hrec hrecq C hret hdd a0 q55.1 (1 : Int32)) e58 ?_
            refine x_aload_n (v := a0) C dX12_sum_176 rfl ?_
            refine x_dup C dX12_sum_177 rfl ?_
            obtain ⟨v59, e60, hf⟩ := j_bind hf
            refine x_get C dX12_sum_178 (jgI_some e60) fg_X12_145 ?_
            refine x_iconst C dX12_sum_181 ki_1 ?_
            refine x_isub C dX12_sum_182 ?_
            obtain ⟨h61, e62, hf⟩ := j_bind hf
            refine x_put C dX12_sum_183 e62 fp_X12_145 rfl rfl ?_
            refine x_goto (tgt := 5) C dX12_sum_186 (by decide) ?_
            obtain ⟨rfl, rfl⟩ := j_inj2 hf
            exact x_locr hk rfl
        · have hf := j_ifn hf c203
          refine x_aload_n (v := a0) C dX12_sum_60 rfl ?_
          obtain ⟨v63, e64, hf⟩ := j_bind hf
          refine x_get C dX12_sum_61 (jgR_some e64) fg_X12_142 ?_
          refine x_aload_n (v := a0) C dX12_sum_64 rfl ?_
          obtain ⟨v65, e66, hf⟩ := j_bind hf
          refine x_get C dX12_sum_65 (jgI_some e66) fg_X12_145 ?_
          refine x_iconst C dX12_sum_68 ki_2 ?_
          refine x_isub C dX12_sum_69 ?_
          obtain ⟨v67, e68, hf⟩ := j_bind hf
          refine x_iald C dX12_sum_70 e68 ?_
          refine x_aload_n (v := a0) C dX12_sum_71 rfl ?_
          obtain ⟨v69, e70, hf⟩ := j_bind hf
          refine x_get C dX12_sum_72 (jgR_some e70) fg_X12_142 ?_
          refine x_aload_n (v := a0) C dX12_sum_75 rfl ?_
          obtain ⟨v71, e72, hf⟩ := j_bind hf
          refine x_get C dX12_sum_76 (jgI_some e72) fg_X12_145 ?_
          refine x_iconst C dX12_sum_79 ki_1 ?_
          refine x_isub C dX12_sum_80 ?_
          obtain ⟨v73, e74, hf⟩ := j_bind hf
          refine x_iald C dX12_sum_81 e74 ?_
          refine x_icmp_eq (tgt := 93) C dX12_sum_82 (by decide) (fun c205 => ?_) (fun c205 => ?_)
          · have hf := j_ifp hf c205
            refine x_iload_n (v := q55.1) C dX12_sum_93 rfl ?_
            refine x_if_eq (tgt := 186) C dX12_sum_94 (by decide) (fun c206 => ?_) (fun c206 => ?_)
            · have hf := j_ifp hf c206
              refine x_goto (tgt := 5) C dX12_sum_186 (by decide) ?_
              obtain ⟨rfl, rfl⟩ := j_inj2 hf
              exact x_locr hk rfl
            · have hf := j_ifn hf c206
              refine x_iconst C dX12_sum_97 ki_0 ?_
              refine x_istore C dX12_sum_98 (by decide) ?_
              obtain ⟨q75, e76, hf⟩ := j_bind hf
              refine x_loc [(0, .ref a0), (1, .int q55.1), (2, .int (1 : Int32)), (4, .int (0 : Int32))] rfl ?_
              refine x_loop (s_X12_sum_L100 hDR hrec hrecq C hret hdd a0 q55.1 (1 : Int32)) e76 ?_
              refine x_aload_n (v := a0) C dX12_sum_176 rfl ?_
              refine x_dup C dX12_sum_177 rfl ?_
              obtain ⟨v77, e78, hf⟩ := j_bind hf
              refine x_get C dX12_sum_178 (jgI_some e78) fg_X12_145 ?_
              refine x_iconst C dX12_sum_181 ki_1 ?_
              refine x_isub C dX12_sum_182 ?_
              obtain ⟨h79, e80, hf⟩ := j_bind hf
              refine x_put C dX12_sum_183 e80 fp_X12_145 rfl rfl ?_
              refine x_goto (tgt := 5) C dX12_sum_186 (by decide) ?_
              obtain ⟨rfl, rfl⟩ := j_inj2 hf
              exact x_locr hk rfl
          · have hf := j_ifn hf c205
            refine x_aload_n (v := a0) C dX12_sum_85 rfl ?_
            refine x_iload_n (v := v53) C dX12_sum_86 rfl ?_
            refine x_bipush C dX12_sum_87 kb_6 ?_
            obtain ⟨u89, e90, hf⟩ := j_bind hf
            obtain ⟨q81, e82, hf⟩ := j_bind hf
            refine x_callV (As := [.int v53, .int (6 : Int32)]) (rest := []) C dX12_sum_89 (m_X12_badAt (l := l) (E := E) (d := d - 1) (by omega) e82) km_X12_badAt lk_X12_111 kv_X12_badAt (ci := 9) rfl e90 rfl (by omega) (Nat.le_of_ble_eq_true rfl) (j_le_of (q_X12_badAt e82)) (Or.inr (q_X12_badAt e82)) ?_
            refine x_istore_n C dX12_sum_92 (by decide) ?_
            refine x_iload_n (v := q81.1) C dX12_sum_93 rfl ?_
            refine x_if_eq (tgt := 186) C dX12_sum_94 (by decide) (fun c207 => ?_) (fun c207 => ?_)
            · have hf := j_ifp hf c207
              refine x_goto (tgt := 5) C dX12_sum_186 (by decide) ?_
              obtain ⟨rfl, rfl⟩ := j_inj2 hf
              exact x_locr hk rfl
            · have hf := j_ifn hf c207
              refine x_iconst C dX12_sum_97 ki_0 ?_
              refine x_istore C dX12_sum_98 (by decide) ?_
              obtain ⟨q83, e84, hf⟩ := j_bind hf
              refine x_loc [(0, .ref a0), (1, .int q81.1), (2, .int (1 : Int32)), (4, .int (0 : Int32))] rfl ?_
              refine x_loop (s_X12_sum_L100 hDR hrec hrecq C hret hdd a0 q81.1 (1 : Int32)) e84 ?_
              refine x_aload_n (v := a0) C dX12_sum_176 rfl ?_
              refine x_dup C dX12_sum_177 rfl ?_
              obtain ⟨v85, e86, hf⟩ := j_bind hf
              refine x_get C dX12_sum_178 (jgI_some e86) fg_X12_145 ?_
              refine x_iconst C dX12_sum_181 ki_1 ?_
              refine x_isub C dX12_sum_182 ?_
              obtain ⟨h87, e88, hf⟩ := j_bind hf
              refine x_put C dX12_sum_183 e88 fp_X12_145 rfl rfl ?_
              refine x_goto (tgt := 5) C dX12_sum_186 (by decide) ?_
              obtain ⟨rfl, rfl⟩ := j_inj2 hf
              exact x_locr hk rfl
    · have hf := j_ifp hf c196
      refine x_aload_n (v := a0) C dX12_sum_18 rfl ?_
      refine x_bipush C dX12_sum_19 kb_45 ?_
      obtain ⟨u191, e192, hf⟩ := j_bind hf
      obtain ⟨q97, e98, hf⟩ := j_bind hf
      refine x_callV (As := [.int (45 : Int32)]) (rest := []) C dX12_sum_21 (m_X12_is (l := l) (E := E) (d := d - 1) (by omega) e98) km_X12_is lk_X12_115 kv_X12_is (ci := 9) rfl e192 rfl (by omega) (Nat.le_of_ble_eq_true rfl) (j_le_of (q_X12_is e98)) (Or.inr (q_X12_is e98)) ?_
      refine x_if_eq (tgt := 189) C dX12_sum_24 (by decide) (fun c208 => ?_) (fun c208 => ?_)
      · have hf := j_ifp hf c208
        obtain ⟨rfl, rfl⟩ := j_inj2 hf
        exact x_locr hk rfl
      · have hf := j_ifn hf c208
        refine x_aload_n (v := a0) C dX12_sum_27 rfl ?_
        refine x_bipush C dX12_sum_28 kb_43 ?_
        obtain ⟨u189, e190, hf⟩ := j_bind hf
        obtain ⟨q99, e100, hf⟩ := j_bind hf
        refine x_callV (As := [.int (43 : Int32)]) (rest := []) C dX12_sum_30 (m_X12_is (l := l) (E := E) (d := d - 1) (by omega) e100) km_X12_is lk_X12_115 kv_X12_is (ci := 9) rfl e190 rfl (by omega) (Nat.le_of_ble_eq_true rfl) (j_le_of (q_X12_is e100)) (Or.inr (q_X12_is e100)) ?_
        refine x_if_eq (tgt := 40) C dX12_sum_33 (by decide) (fun c209 => ?_) (fun c209 => ?_)
        · have hf := j_ifp hf c209
          refine x_iconst C dX12_sum_40 ki_m1 ?_
          refine x_istore_n C dX12_sum_41 (by decide) ?_
          refine x_aload_n (v := a0) C dX12_sum_42 rfl ?_
          obtain ⟨u143, e144, hf⟩ := j_bind hf
          obtain ⟨q101, e102, hf⟩ := j_bind hf
          refine x_callV (As := []) (rest := []) C dX12_sum_43 (m_X12_go (l := l) (E := E) (d := d - 1) (by omega) e102) km_X12_go lk_X12_121 kv_X12_go (ci := 9) rfl e144 rfl (by omega) (Nat.le_of_ble_eq_true rfl) (j_le_of (q_X12_go e102)) (Or.inr (q_X12_go e102)) ?_
          refine x_aload_n (v := a0) C dX12_sum_46 rfl ?_
          obtain ⟨v103, e104, hf⟩ := j_bind hf
          refine x_get C dX12_sum_47 (jgI_some e104) fg_X12_94 ?_
          refine x_istore_n C dX12_sum_50 (by decide) ?_
          refine x_aload_n (v := a0) C dX12_sum_51 rfl ?_
          obtain ⟨u141, e142, hf⟩ := j_bind hf
          obtain ⟨q105, e106, hf⟩ := j_bind hf
          refine x_callV (As := []) (rest := []) C dX12_sum_52 (m_X12_product hDR hrec hrecq (l := l) (E := E) (d := d - 1) (by omega) e106) km_X12_product lk_X12_188 kv_X12_product (ci := 9) rfl e142 rfl (by omega) (Nat.le_of_ble_eq_true rfl) (j_le_of (q_X12_product hrecq e106)) (Or.inr (q_X12_product hrecq e106)) ?_
          refine x_istore_n C dX12_sum_55 (by decide) ?_
          refine x_iload_n (v := q105.1) C dX12_sum_56 rfl ?_
          refine x_if_eq (tgt := 93) C dX12_sum_57 (by decide) (fun c210 => ?_) (fun c210 => ?_)
          · have hf := j_ifp hf c210
            refine x_iload_n (v := q105.1) C dX12_sum_93 rfl ?_
            refine x_if_eq (tgt := 186) C dX12_sum_94 (by decide) (fun c211 => ?_) (fun c211 => ?_)
            · have hf := j_ifp hf c211
              refine x_goto (tgt := 5) C dX12_sum_186 (by decide) ?_
              obtain ⟨rfl, rfl⟩ := j_inj2 hf
              exact x_locr hk rfl
            · have hf := j_ifn hf c211
              refine x_iconst C dX12_sum_97 ki_0 ?_
              refine x_istore C dX12_sum_98 (by decide) ?_
              obtain ⟨q107, e108, hf⟩ := j_bind hf
              refine x_loc [(0, .ref a0), (1, .int q105.1), (2, .int (-1 : Int32)), (4, .int (0 : Int32))] rfl ?_
              refine x_loop (s_X12_sum_L100 hDR hrec hrecq C hret hdd a0 q105.1 (-1 : Int32)) e108 ?_
              refine x_aload_n (v := a0) C dX12_sum_176 rfl ?_
              refine x_dup C dX12_sum_177 rfl ?_
              obtain ⟨v109, e110, hf⟩ := j_bind hf
              refine x_get C dX12_sum_178 (jgI_some e110) fg_X12_145 ?_
              refine x_iconst C dX12_sum_181 ki_1 ?_
              refine x_isub C dX12_sum_182 ?_
              obtain ⟨h111, e112, hf⟩ := j_bind hf
              refine x_put C dX12_sum_183 e112 fp_X12_145 rfl rfl ?_
              refine x_goto (tgt := 5) C dX12_sum_186 (by decide) ?_
              obtain ⟨rfl, rfl⟩ := j_inj2 hf
              exact x_locr hk rfl
          · have hf := j_ifn hf c210
            refine x_aload_n (v := a0) C dX12_sum_60 rfl ?_
            obtain ⟨v113, e114, hf⟩ := j_bind hf
            refine x_get C dX12_sum_61 (jgR_some e114) fg_X12_142 ?_
            refine x_aload_n (v := a0) C dX12_sum_64 rfl ?_
            obtain ⟨v115, e116, hf⟩ := j_bind hf
            refine x_get C dX12_sum_65 (jgI_some e116) fg_X12_145 ?_
            refine x_iconst C dX12_sum_68 ki_2 ?_
            refine x_isub C dX12_sum_69 ?_
            obtain ⟨v117, e118, hf⟩ := j_bind hf
            refine x_iald C dX12_sum_70 e118 ?_
            refine x_aload_n (v := a0) C dX12_sum_71 rfl ?_
            obtain ⟨v119, e120, hf⟩ := j_bind hf
            refine x_get C dX12_sum_72 (jgR_some e120) fg_X12_142 ?_
            refine x_aload_n (v := a0) C dX12_sum_75 rfl ?_
            obtain ⟨v121, e122, hf⟩ := j_bind hf
            refine x_get C dX12_sum_76 (jgI_some e122) fg_X12_145 ?_
            refine x_iconst C dX12_sum_79 ki_1 ?_
            refine x_isub C dX12_sum_80 ?_
            obtain ⟨v123, e124, hf⟩ := j_bind hf
            refine x_iald C dX12_sum_81 e124 ?_
            refine x_icmp_eq (tgt := 93) C dX12_sum_82 (by decide) (fun c212 => ?_) (fun c212 => ?_)
            · have hf := j_ifp hf c212
              refine x_iload_n (v := q105.1) C dX12_sum_93 rfl ?_
              refine x_if_eq (tgt := 186) C dX12_sum_94 (by decide) (fun c213 => ?_) (fun c213 => ?_)
              · have hf := j_ifp hf c213
                refine x_goto (tgt := 5) C dX12_sum_186 (by decide) ?_
                obtain ⟨rfl, rfl⟩ := j_inj2 hf
                exact x_locr hk rfl
              · have hf := j_ifn hf c213
                refine x_iconst C dX12_sum_97 ki_0 ?_
                refine x_istore C dX12_sum_98 (by decide) ?_
                obtain ⟨q125, e126, hf⟩ := j_bind hf
                refine x_loc [(0, .ref a0), (1, .int q105.1), (2, .int (-1 : Int32)), (4, .int (0 : Int32))] rfl ?_
                refine x_loop (s_X12_sum_L100 hDR hrec hrecq C hret hdd a0 q105.1 (-1 : Int32)) e126 ?_
                refine x_aload_n (v := a0) C dX12_sum_176 rfl ?_
                refine x_dup C dX12_sum_177 rfl ?_
                obtain ⟨v127, e128, hf⟩ := j_bind hf
                refine x_get C dX12_sum_178 (jgI_some e128) fg_X12_145 ?_
                refine x_iconst C dX12_sum_181 ki_1 ?_
                refine x_isub C dX12_sum_182 ?_
                obtain ⟨h129, e130, hf⟩ := j_bind hf
                refine x_put C dX12_sum_183 e130 fp_X12_145 rfl rfl ?_
                refine x_goto (tgt := 5) C dX12_sum_186 (by decide) ?_
                obtain ⟨rfl, rfl⟩ := j_inj2 hf
                exact x_locr hk rfl
            · have hf := j_ifn hf c212
              refine x_aload_n (v := a0) C dX12_sum_85 rfl ?_
              refine x_iload_n (v := v103) C dX12_sum_86 rfl ?_
              refine x_bipush C dX12_sum_87 kb_6 ?_
              obtain ⟨u139, e140, hf⟩ := j_bind hf
              obtain ⟨q131, e132, hf⟩ := j_bind hf
              refine x_callV (As := [.int v103, .int (6 : Int32)]) (rest := []) C dX12_sum_89 (m_X12_badAt (l := l) (E := E) (d := d - 1) (by omega) e132) km_X12_badAt lk_X12_111 kv_X12_badAt (ci := 9) rfl e140 rfl (by omega) (Nat.le_of_ble_eq_true rfl) (j_le_of (q_X12_badAt e132)) (Or.inr (q_X12_badAt e132)) ?_
              refine x_istore_n C dX12_sum_92 (by decide) ?_
              refine x_iload_n (v := q131.1) C dX12_sum_93 rfl ?_
              refine x_if_eq (tgt := 186) C dX12_sum_94 (by decide) (fun c214 => ?_) (fun c214 => ?_)
              · have hf := j_ifp hf c214
                refine x_goto (tgt := 5) C dX12_sum_186 (by decide) ?_
                obtain ⟨rfl, rfl⟩ := j_inj2 hf
                exact x_locr hk rfl
              · have hf := j_ifn hf c214
                refine x_iconst C dX12_sum_97 ki_0 ?_
                refine x_istore C dX12_sum_98 (by decide) ?_
                obtain ⟨q133, e134, hf⟩ := j_bind hf
                refine x_loc [(0, .ref a0), (1, .int q131.1), (2, .int (-1 : Int32)), (4, .int (0 : Int32))] rfl ?_
                refine x_loop (s_X12_sum_L100 hDR hrec hrecq C hret hdd a0 q131.1 (-1 : Int32)) e134 ?_
                refine x_aload_n (v := a0) C dX12_sum_176 rfl ?_
                refine x_dup C dX12_sum_177 rfl ?_
                obtain ⟨v135, e136, hf⟩ := j_bind hf
                refine x_get C dX12_sum_178 (jgI_some e136) fg_X12_145 ?_
                refine x_iconst C dX12_sum_181 ki_1 ?_
                refine x_isub C dX12_sum_182 ?_
                obtain ⟨h137, e138, hf⟩ := j_bind hf
                refine x_put C dX12_sum_183 e138 fp_X12_145 rfl rfl ?_
                refine x_goto (tgt := 5) C dX12_sum_186 (by decide) ?_
                obtain ⟨rfl, rfl⟩ := j_inj2 hf
                exact x_locr hk rfl
        · have hf := j_ifn hf c209
          refine x_iconst C dX12_sum_36 ki_1 ?_
          refine x_goto (tgt := 41) C dX12_sum_37 (by decide) ?_
          refine x_istore_n C dX12_sum_41 (by decide) ?_
          refine x_aload_n (v := a0) C dX12_sum_42 rfl ?_
          obtain ⟨u187, e188, hf⟩ := j_bind hf
          obtain ⟨q145, e146, hf⟩ := j_bind hf
          refine x_callV (As := []) (rest := []) C dX12_sum_43 (m_X12_go (l := l) (E := E) (d := d - 1) (by omega) e146) km_X12_go lk_X12_121 kv_X12_go (ci := 9) rfl e188 rfl (by omega) (Nat.le_of_ble_eq_true rfl) (j_le_of (q_X12_go e146)) (Or.inr (q_X12_go e146)) ?_
          refine x_aload_n (v := a0) C dX12_sum_46 rfl ?_
          obtain ⟨v147, e148, hf⟩ := j_bind hf
          refine x_get C dX12_sum_47 (jgI_some e148) fg_X12_94 ?_
          refine x_istore_n C dX12_sum_50 (by decide) ?_
          refine x_aload_n (v := a0) C dX12_sum_51 rfl ?_
          obtain ⟨u185, e186, hf⟩ := j_bind hf
          obtain ⟨q149, e150, hf⟩ := j_bind hf
          refine x_callV (As := []) (rest := []) C dX12_sum_52 (m_X12_product hDR hrec hrecq (l := l) (E := E) (d := d - 1) (by omega) e150) km_X12_product lk_X12_188 kv_X12_product (ci := 9) rfl e186 rfl (by omega) (Nat.le_of_ble_eq_true rfl) (j_le_of (q_X12_product hrecq e150)) (Or.inr (q_X12_product hrecq e150)) ?_
          refine x_istore_n C dX12_sum_55 (by decide) ?_
          refine x_iload_n (v := q149.1) C dX12_sum_56 rfl ?_
          refine x_if_eq (tgt := 93) C dX12_sum_57 (by decide) (fun c215 => ?_) (fun c215 => ?_)
          · have hf := j_ifp hf c215
            refine x_iload_n (v := q149.1) C dX12_sum_93 rfl ?_
            refine x_if_eq (tgt := 186) C dX12_sum_94 (by decide) (fun c216 => ?_) (fun c216 => ?_)
            · have hf := j_ifp hf c216
              refine x_goto (tgt := 5) C dX12_sum_186 (by decide) ?_
              obtain ⟨rfl, rfl⟩ := j_inj2 hf
              exact x_locr hk rfl
            · have hf := j_ifn hf c216
              refine x_iconst C dX12_sum_97 ki_0 ?_
              refine x_istore C dX12_sum_98 (by decide) ?_
              obtain ⟨q151, e152, hf⟩ := j_bind hf
              refine x_loc [(0, .ref a0), (1, .int q149.1), (2, .int (1 : Int32)), (4, .int (0 : Int32))] rfl ?_
              refine x_loop (s_X12_sum_L100 hDR hrec hrecq C hret hdd a0 q149.1 (1 : Int32)) e152 ?_
              refine x_aload_n (v := a0) C dX12_sum_176 rfl ?_
              refine x_dup C dX12_sum_177 rfl ?_
              obtain ⟨v153, e154, hf⟩ := j_bind hf
              refine x_get C dX12_sum_178 (jgI_some e154) fg_X12_145 ?_
              refine x_iconst C dX12_sum_181 ki_1 ?_
              refine x_isub C dX12_sum_182 ?_
              obtain ⟨h155, e156, hf⟩ := j_bind hf
              refine x_put C dX12_sum_183 e156 fp_X12_145 rfl rfl ?_
              refine x_goto (tgt := 5) C dX12_sum_186 (by decide) ?_
              obtain ⟨rfl, rfl⟩ := j_inj2 hf
              exact x_locr hk rfl
          · have hf := j_ifn hf c215
            refine x_aload_n (v := a0) C dX12_sum_60 rfl ?_
            obtain ⟨v157, e158, hf⟩ := j_bind hf
            refine x_get C dX12_sum_61 (jgR_some e158) fg_X12_142 ?_
            refine x_aload_n (v := a0) C dX12_sum_64 rfl ?_
            obtain ⟨v159, e160, hf⟩ := j_bind hf
            refine x_get C dX12_sum_65 (jgI_some e160) fg_X12_145 ?_
            refine x_iconst C dX12_sum_68 ki_2 ?_
            refine x_isub C dX12_sum_69 ?_
            obtain ⟨v161, e162, hf⟩ := j_bind hf
            refine x_iald C dX12_sum_70 e162 ?_
            refine x_aload_n (v := a0) C dX12_sum_71 rfl ?_
            obtain ⟨v163, e164, hf⟩ := j_bind hf
            refine x_get C dX12_sum_72 (jgR_some e164) fg_X12_142 ?_
            refine x_aload_n (v := a0) C dX12_sum_75 rfl ?_
            obtain ⟨v165, e166, hf⟩ := j_bind hf
            refine x_get C dX12_sum_76 (jgI_some e166) fg_X12_145 ?_
            refine x_iconst C dX12_sum_79 ki_1 ?_
            refine x_isub C dX12_sum_80 ?_
            obtain ⟨v167, e168, hf⟩ := j_bind hf
            refine x_iald C dX12_sum_81 e168 ?_
            refine x_icmp_eq (tgt := 93) C dX12_sum_82 (by decide) (fun c217 => ?_) (fun c217 => ?_)
            · have hf := j_ifp hf c217
              refine x_iload_n (v := q149.1) C dX12_sum_93 rfl ?_
              refine x_if_eq (tgt := 186) C dX12_sum_94 (by decide) (fun c218 => ?_) (fun c218 => ?_)
              · have hf := j_ifp hf c218
                refine x_goto (tgt := 5) C dX12_sum_186 (by decide) ?_
                obtain ⟨rfl, rfl⟩ := j_inj2 hf
                exact x_locr hk rfl
              · have hf := j_ifn hf c218
                refine x_iconst C dX12_sum_97 ki_0 ?_
                refine x_istore C dX12_sum_98 (by decide) ?_
                obtain ⟨q169, e170, hf⟩ := j_bind hf
                refine x_loc [(0, .ref a0), (1, .int q149.1), (2, .int (1 : Int32)), (4, .int (0 : Int32))] rfl ?_
                refine x_loop (s_X12_sum_L100 hDR hrec hrecq C hret hdd a0 q149.1 (1 : Int32)) e170 ?_
                refine x_aload_n (v := a0) C dX12_sum_176 rfl ?_
                refine x_dup C dX12_sum_177 rfl ?_
                obtain ⟨v171, e172, hf⟩ := j_bind hf
                refine x_get C dX12_sum_178 (jgI_some e172) fg_X12_145 ?_
                refine x_iconst C dX12_sum_181 ki_1 ?_
                refine x_isub C dX12_sum_182 ?_
                obtain ⟨h173, e174, hf⟩ := j_bind hf
                refine x_put C dX12_sum_183 e174 fp_X12_145 rfl rfl ?_
                refine x_goto (tgt := 5) C dX12_sum_186 (by decide) ?_
                obtain ⟨rfl, rfl⟩ := j_inj2 hf
                exact x_locr hk rfl
            · have hf := j_ifn hf c217
              refine x_aload_n (v := a0) C dX12_sum_85 rfl ?_
              refine x_iload_n (v := v147) C dX12_sum_86 rfl ?_
              refine x_bipush C dX12_sum_87 kb_6 ?_
              obtain ⟨u183, e184, hf⟩ := j_bind hf
              obtain ⟨q175, e176, hf⟩ := j_bind hf
              refine x_callV (As := [.int v147, .int (6 : Int32)]) (rest := []) C dX12_sum_89 (m_X12_badAt (l := l) (E := E) (d := d - 1) (by omega) e176) km_X12_badAt lk_X12_111 kv_X12_badAt (ci := 9) rfl e184 rfl (by omega) (Nat.le_of_ble_eq_true rfl) (j_le_of (q_X12_badAt e176)) (Or.inr (q_X12_badAt e176)) ?_
              refine x_istore_n C dX12_sum_92 (by decide) ?_
              refine x_iload_n (v := q175.1) C dX12_sum_93 rfl ?_
              refine x_if_eq (tgt := 186) C dX12_sum_94 (by decide) (fun c219 => ?_) (fun c219 => ?_)
              · have hf := j_ifp hf c219
                refine x_goto (tgt := 5) C dX12_sum_186 (by decide) ?_
                obtain ⟨rfl, rfl⟩ := j_inj2 hf
                exact x_locr hk rfl
              · have hf := j_ifn hf c219
                refine x_iconst C dX12_sum_97 ki_0 ?_
                refine x_istore C dX12_sum_98 (by decide) ?_
                obtain ⟨q177, e178, hf⟩ := j_bind hf
                refine x_loc [(0, .ref a0), (1, .int q175.1), (2, .int (1 : Int32)), (4, .int (0 : Int32))] rfl ?_
                refine x_loop (s_X12_sum_L100 hDR hrec hrecq C hret hdd a0 q175.1 (1 : Int32)) e178 ?_
                refine x_aload_n (v := a0) C dX12_sum_176 rfl ?_
                refine x_dup C dX12_sum_177 rfl ?_
                obtain ⟨v179, e180, hf⟩ := j_bind hf
                refine x_get C dX12_sum_178 (jgI_some e180) fg_X12_145 ?_
                refine x_iconst C dX12_sum_181 ki_1 ?_
                refine x_isub C dX12_sum_182 ?_
                obtain ⟨h181, e182, hf⟩ := j_bind hf
                refine x_put C dX12_sum_183 e182 fp_X12_145 rfl rfl ?_
                refine x_goto (tgt := 5) C dX12_sum_186 (by decide) ?_
                obtain ⟨rfl, rfl⟩ := j_inj2 hf
                exact x_locr hk rfl
set_option maxHeartbeats 4000000 in
set_option maxRecDepth 100000 in
theorem m_X12_sum {l : Launch} {E : JE} {d : Nat} {rec : Nat → JH → Option (Int32 × JH)} {DR : Nat} (hDR : 8 ≤ DR) (hrec : ∀ (d1 : Nat), DR ≤ d1 → ∀ {x0 : Nat} {hh : JH} {qq : Int32 × JH}, rec x0 hh = some qq → Con l E d1 yX12_sum cX12_sum 5 (some .boolean) [.ref x0] hh (some (.int qq.1)) qq.2) (hrecq : ∀ {x0 : Nat} {hh : JH} {qq : Int32 × JH}, rec x0 hh = some qq → qq.2.2.1 = hh.2.1) (hdd : DR + 4 ≤ d) {a0 : Nat} {h : JH} {q : Int32 × JH} (hf : f_X12_sum rec a0 h = some q) : Con l E d yX12_sum cX12_sum 5 (some .boolean) [.ref a0] h (some (.int q.1)) q.2 := by
  refine j_start rfl (Nat.le_of_ble_eq_true rfl) ?_
  intro p e s m args below meth c C hret hnm
  refine x_loc [(0, .ref a0)] rfl ?_
  unfold f_X12_sum at hf
  refine x_aload_n (v := a0) C dX12_sum_0 rfl ?_
  obtain ⟨u224, e225, hf⟩ := j_bind hf
  obtain ⟨q1, e2, hf⟩ := j_bind hf
  refine x_callV (As := []) (rest := []) C dX12_sum_1 (m_X12_product hDR hrec hrecq (l := l) (E := E) (d := d - 1) (by omega) e2) km_X12_product lk_X12_188 kv_X12_product (ci := 9) rfl e225 rfl (by omega) (Nat.le_of_ble_eq_true rfl) (j_le_of (q_X12_product hrecq e2)) (Or.inr (q_X12_product hrecq e2)) ?_
  refine x_istore_n C dX12_sum_4 (by decide) ?_
  obtain ⟨q220, e221, hf⟩ := j_bind hf
  refine x_loc [(0, .ref a0), (1, .int q1.1)] rfl ?_
  refine x_loop (s_X12_sum_L5 hDR hrec hrecq C hret hdd a0) e221 ?_
  refine x_iload_n (v := q220.1) C dX12_sum_189 rfl ?_
  obtain ⟨u222, e223, hf⟩ := j_bind hf
  obtain rfl := j_inj hf
  exact x_zret C hret (jzb_some e223) dX12_sum_190
set_option maxHeartbeats 4000000 in
set_option maxRecDepth 100000 in
theorem mr_X12_sum {l : Launch} {E : JE} (n : Nat) : ∀ (d : Nat), 8 + 4 * n ≤ d → ∀ {x0 : Nat} {h : JH} {q : Int32 × JH}, n_X12_sum n x0 h = some q → Con l E d yX12_sum cX12_sum 5 (some .boolean) [.ref x0] h (some (.int q.1)) q.2 := by
  induction n with
  | zero => intro d _ x0 h q hf; cases hf
  | succ n ih => intro d hd x0 h q hf; exact m_X12_sum (rec := n_X12_sum n) (DR := 8 + 4 * n) (by omega) ih (fun q => qn_X12_sum q) (by omega) hf
set_option maxHeartbeats 4000000 in
set_option maxRecDepth 100000 in
theorem mn_X12_sum {l : Launch} {E : JE} {d : Nat} (hdd : 60 ≤ d) {x0 : Nat} {h : JH} {q : Int32 × JH} (hf : n_X12_sum 10 x0 h = some q) : Con l E d yX12_sum cX12_sum 5 (some .boolean) [.ref x0] h (some (.int q.1)) q.2 := mr_X12_sum 10 d (by omega) hf
set_option maxHeartbeats 4000000 in
set_option maxRecDepth 100000 in
theorem s_X12_letLine_L87 {p : Program} {l : Launch} {e : Env} {R : Room} {s : State} {m : MethodId} {args : Array Value} {below : List Frame} {meth : Method} {c : Code} {E : JE} {h0 hF : JH} {rF : Option Value} {d : Nat} (C : j_C p s m args meth c R E cX12_letLine 2 RX12 h0 hF d) (hret : meth.sig.returnType = (some .boolean)) (hdd : 61 ≤ d) (a0 : Nat) (z : Int32) (h : JH) (r : Int32 ⊕ Int32) (h1 : JH) (hf : f_X12_letLine_L87 a0 z h = some (r, h1)) (hk : Sum.elim (fun z => Xw p l e R s m args below meth c E 2 h0 rF hF 87 [(0, .ref a0), (1, .int z)] [] h1) (fun t => Xw p l e R s m args below meth c E 2 h0 rF hF 130 [(0, .ref a0), (1, .int t)] [] h1) r) : Xw p l e R s m args below meth c E 2 h0 rF hF 87 [(0, .ref a0), (1, .int z)] [] h := by
  unfold f_X12_letLine_L87 at hf
  refine x_iload_n (v := z) C dX12_letLine_87 rfl ?_
  refine x_aload_n (v := a0) C dX12_letLine_88 rfl ?_
  obtain ⟨v21, e22, hf⟩ := j_bind hf
  refine x_get C dX12_letLine_89 (jgR_some e22) fg_X12_132 ?_
  refine x_aload_n (v := a0) C dX12_letLine_92 rfl ?_
  obtain ⟨v23, e24, hf⟩ := j_bind hf
  refine x_get C dX12_letLine_93 (jgI_some e24) fg_X12_129 ?_
  obtain ⟨v25, e26, hf⟩ := j_bind hf
  refine x_iald C dX12_letLine_96 e26 ?_
  refine x_icmp_ge (tgt := 130) C dX12_letLine_97 (by decide) (fun c39 => ?_) (fun c39 => ?_)
  · have hf := j_ifp hf c39
    obtain ⟨rfl, rfl⟩ := j_inj2 hf
    exact x_locr hk rfl
  · have hf := j_ifn hf c39
    refine x_aload_n (v := a0) C dX12_letLine_100 rfl ?_
    obtain ⟨v27, e28, hf⟩ := j_bind hf
    refine x_get C dX12_letLine_101 (jgR_some e28) fg_X12_135 ?_
    refine x_bipush C dX12_letLine_104 kb_6 ?_
    refine x_aload_n (v := a0) C dX12_letLine_106 rfl ?_
    obtain ⟨v29, e30, hf⟩ := j_bind hf
    refine x_get C dX12_letLine_107 (jgI_some e30) fg_X12_129 ?_
    refine x_imul C dX12_letLine_110 ?_
    refine x_iload_n (v := z) C dX12_letLine_111 rfl ?_
    refine x_iadd C dX12_letLine_112 ?_
    refine x_aload_n (v := a0) C dX12_letLine_113 rfl ?_
    refine x_aload_n (v := a0) C dX12_letLine_114 rfl ?_
    obtain ⟨v31, e32, hf⟩ := j_bind hf
    refine x_get C dX12_letLine_115 (jgI_some e32) fg_X12_94 ?_
    refine x_iload_n (v := z) C dX12_letLine_118 rfl ?_
    refine x_iadd C dX12_letLine_119 ?_
    obtain ⟨u37, e38, hf⟩ := j_bind hf
    obtain ⟨q33, e34, hf⟩ := j_bind hf
    refine x_callV (As := [.int (v31 + z)]) (rest := [.int (((6 : Int32) * v29) + z), .ref v27]) C dX12_letLine_120 (m_X12_byteAt (l := l) (E := E) (d := d - 1) (by omega) e34) km_X12_byteAt lk_X12_91 kv_X12_byteAt (ci := 9) rfl e38 rfl (by omega) (Nat.le_of_ble_eq_true rfl) (j_le_of (q_X12_byteAt e34)) (Or.inr (q_X12_byteAt e34)) ?_
    obtain ⟨h35, e36, hf⟩ := j_bind hf
    refine x_iast C dX12_letLine_123 e36 ?_
    refine x_iinc (v := z) C dX12_letLine_124 rfl ki_1 (by decide) ?_
    refine x_goto (tgt := 87) C dX12_letLine_127 (by decide) ?_
    obtain ⟨rfl, rfl⟩ := j_inj2 hf
    exact x_locr hk rfl
set_option maxHeartbeats 4000000 in
set_option maxRecDepth 100000 in
theorem m_X12_letLine {l : Launch} {E : JE} {d : Nat} (hdd : 61 ≤ d) {a0 : Nat} {h : JH} {q : Int32 × JH} (hf : f_X12_letLine a0 h = some q) : Con l E d yX12_letLine cX12_letLine 2 (some .boolean) [.ref a0] h (some (.int q.1)) q.2 := by
  refine j_start rfl (Nat.le_of_ble_eq_true rfl) ?_
  intro p e s m args below meth c C hret hnm
  refine x_loc [(0, .ref a0)] rfl ?_
  unfold f_X12_letLine at hf
  refine x_aload_n (v := a0) C dX12_letLine_0 rfl ?_
  refine x_bipush C dX12_letLine_1 kb_108 ?_
  refine x_bipush C dX12_letLine_3 kb_101 ?_
  refine x_bipush C dX12_letLine_5 kb_116 ?_
  refine x_iconst C dX12_letLine_7 ki_0 ?_
  refine x_iconst C dX12_letLine_8 ki_0 ?_
  obtain ⟨u124, e125, hf⟩ := j_bind hf
  obtain ⟨q1, e2, hf⟩ := j_bind hf
  refine x_callV (As := [.int (108 : Int32), .int (101 : Int32), .int (116 : Int32), .int (0 : Int32), .int (0 : Int32)]) (rest := []) C dX12_letLine_9 (m_X12_isWord (l := l) (E := E) (d := d - 1) (by omega) e2) km_X12_isWord lk_X12_125 kv_X12_isWord (ci := 9) rfl e125 rfl (by omega) (Nat.le_of_ble_eq_true rfl) (j_le_of (q_X12_isWord e2)) (Or.inr (q_X12_isWord e2)) ?_
  refine x_if_ne (tgt := 21) C dX12_letLine_12 (by decide) (fun c126 => ?_) (fun c126 => ?_)
  · have hf := j_ifn hf c126
    refine x_aload_n (v := a0) C dX12_letLine_21 rfl ?_
    obtain ⟨v3, e4, hf⟩ := j_bind hf
    refine x_get C dX12_letLine_22 (jgI_some e4) fg_X12_129 ?_
    refine x_bipush C dX12_letLine_25 kb_6 ?_
    refine x_icmp_ne (tgt := 36) C dX12_letLine_27 (by decide) (fun c127 => ?_) (fun c127 => ?_)
    · have hf := j_ifn hf c127
      refine x_aload_n (v := a0) C dX12_letLine_36 rfl ?_
      obtain ⟨u110, e111, hf⟩ := j_bind hf
      obtain ⟨q5, e6, hf⟩ := j_bind hf
      refine x_callV (As := []) (rest := []) C dX12_letLine_37 (m_X12_go (l := l) (E := E) (d := d - 1) (by omega) e6) km_X12_go lk_X12_121 kv_X12_go (ci := 9) rfl e111 rfl (by omega) (Nat.le_of_ble_eq_true rfl) (j_le_of (q_X12_go e6)) (Or.inr (q_X12_go e6)) ?_
      refine x_aload_n (v := a0) C dX12_letLine_40 rfl ?_
      obtain ⟨u108, e109, hf⟩ := j_bind hf
      obtain ⟨q7, e8, hf⟩ := j_bind hf
      refine x_callV (As := []) (rest := []) C dX12_letLine_41 (m_X12_isName (l := l) (E := E) (d := d - 1) (by omega) e8) km_X12_isName lk_X12_167 kv_X12_isName (ci := 9) rfl e109 rfl (by omega) (Nat.le_of_ble_eq_true rfl) (j_le_of (q_X12_isName e8)) (Or.inr (q_X12_isName e8)) ?_
      refine x_if_ne (tgt := 53) C dX12_letLine_44 (by decide) (fun c128 => ?_) (fun c128 => ?_)
      · have hf := j_ifn hf c128
        refine x_aload_n (v := a0) C dX12_letLine_53 rfl ?_
        obtain ⟨u100, e101, hf⟩ := j_bind hf
        obtain ⟨q9, e10, hf⟩ := j_bind hf
        refine x_callV (As := []) (rest := []) C dX12_letLine_54 (m_X12_named (l := l) (E := E) (d := d - 1) (by omega) e10) km_X12_named lk_X12_170 kv_X12_named (ci := 9) rfl e101 rfl (by omega) (Nat.le_of_ble_eq_true rfl) (j_le_of (q_X12_named e10)) (Or.inr (q_X12_named e10)) ?_
        refine x_iconst C dX12_letLine_57 ki_m1 ?_
        refine x_icmp_eq (tgt := 67) C dX12_letLine_58 (by decide) (fun c129 => ?_) (fun c129 => ?_)
        · have hf := j_ifp hf c129
          refine x_aload_n (v := a0) C dX12_letLine_67 rfl ?_
          obtain ⟨v11, e12, hf⟩ := j_bind hf
          refine x_get C dX12_letLine_68 (jgR_some e12) fg_X12_132 ?_
          refine x_aload_n (v := a0) C dX12_letLine_71 rfl ?_
          obtain ⟨v13, e14, hf⟩ := j_bind hf
          refine x_get C dX12_letLine_72 (jgI_some e14) fg_X12_129 ?_
          refine x_aload_n (v := a0) C dX12_letLine_75 rfl ?_
          obtain ⟨v15, e16, hf⟩ := j_bind hf
          refine x_get C dX12_letLine_76 (jgI_some e16) fg_X12_88 ?_
          refine x_aload_n (v := a0) C dX12_letLine_79 rfl ?_
          obtain ⟨v17, e18, hf⟩ := j_bind hf
          refine x_get C dX12_letLine_80 (jgI_some e18) fg_X12_94 ?_
          refine x_isub C dX12_letLine_83 ?_
          obtain ⟨h19, e20, hf⟩ := j_bind hf
          refine x_iast C dX12_letLine_84 e20 ?_
          refine x_iconst C dX12_letLine_85 ki_0 ?_
          refine x_istore_n C dX12_letLine_86 (by decide) ?_
          obtain ⟨q40, e41, hf⟩ := j_bind hf
          refine x_loc [(0, .ref a0), (1, .int (0 : Int32))] rfl ?_
          refine x_loop (s_X12_letLine_L87 C hret hdd a0) e41 ?_
          refine x_aload_n (v := a0) C dX12_letLine_130 rfl ?_
          obtain ⟨u92, e93, hf⟩ := j_bind hf
          obtain ⟨q42, e43, hf⟩ := j_bind hf
          refine x_callV (As := []) (rest := []) C dX12_letLine_131 (m_X12_go (l := l) (E := E) (d := d - 1) (by omega) e43) km_X12_go lk_X12_121 kv_X12_go (ci := 9) rfl e93 rfl (by omega) (Nat.le_of_ble_eq_true rfl) (j_le_of (q_X12_go e43)) (Or.inr (q_X12_go e43)) ?_
          refine x_aload_n (v := a0) C dX12_letLine_134 rfl ?_
          refine x_bipush C dX12_letLine_135 kb_98 ?_
          refine x_bipush C dX12_letLine_137 kb_101 ?_
          refine x_iconst C dX12_letLine_139 ki_0 ?_
          refine x_iconst C dX12_letLine_140 ki_0 ?_
          refine x_iconst C dX12_letLine_141 ki_0 ?_
          obtain ⟨u90, e91, hf⟩ := j_bind hf
          obtain ⟨q44, e45, hf⟩ := j_bind hf
          refine x_callV (As := [.int (98 : Int32), .int (101 : Int32), .int (0 : Int32), .int (0 : Int32), .int (0 : Int32)]) (rest := []) C dX12_letLine_142 (m_X12_isWord (l := l) (E := E) (d := d - 1) (by omega) e45) km_X12_isWord lk_X12_125 kv_X12_isWord (ci := 9) rfl e91 rfl (by omega) (Nat.le_of_ble_eq_true rfl) (j_le_of (q_X12_isWord e45)) (Or.inr (q_X12_isWord e45)) ?_
          refine x_if_ne (tgt := 154) C dX12_letLine_145 (by decide) (fun c130 => ?_) (fun c130 => ?_)
          · have hf := j_ifn hf c130
            refine x_aload_n (v := a0) C dX12_letLine_154 rfl ?_
            obtain ⟨u82, e83, hf⟩ := j_bind hf
            obtain ⟨q46, e47, hf⟩ := j_bind hf
            refine x_callV (As := []) (rest := []) C dX12_letLine_155 (m_X12_go (l := l) (E := E) (d := d - 1) (by omega) e47) km_X12_go lk_X12_121 kv_X12_go (ci := 9) rfl e83 rfl (by omega) (Nat.le_of_ble_eq_true rfl) (j_le_of (q_X12_go e47)) (Or.inr (q_X12_go e47)) ?_
            refine x_aload_n (v := a0) C dX12_letLine_158 rfl ?_
            refine x_iconst C dX12_letLine_159 ki_0 ?_
            obtain ⟨h48, e49, hf⟩ := j_bind hf
            refine x_put C dX12_letLine_160 e49 fp_X12_145 rfl rfl ?_
            refine x_aload_n (v := a0) C dX12_letLine_163 rfl ?_
            obtain ⟨u80, e81, hf⟩ := j_bind hf
            obtain ⟨q50, e51, hf⟩ := j_bind hf
            refine x_callV (As := []) (rest := []) C dX12_letLine_164 (mn_X12_sum (l := l) (E := E) (d := d - 1) (by omega) e51) km_X12_sum lk_X12_161 kv_X12_sum (ci := 9) rfl e81 rfl (by omega) (Nat.le_of_ble_eq_true rfl) (j_le_of (qn_X12_sum e51)) (Or.inr (qn_X12_sum e51)) ?_
            refine x_if_ne (tgt := 172) C dX12_letLine_167 (by decide) (fun c131 => ?_) (fun c131 => ?_)
            · have hf := j_ifn hf c131
              refine x_aload_n (v := a0) C dX12_letLine_172 rfl ?_
              obtain ⟨v52, e53, hf⟩ := j_bind hf
              refine x_get C dX12_letLine_173 (jgR_some e53) fg_X12_174 ?_
              refine x_aload_n (v := a0) C dX12_letLine_176 rfl ?_
              obtain ⟨v54, e55, hf⟩ := j_bind hf
              refine x_get C dX12_letLine_177 (jgI_some e55) fg_X12_129 ?_
              refine x_aload_n (v := a0) C dX12_letLine_180 rfl ?_
              obtain ⟨v56, e57, hf⟩ := j_bind hf
              refine x_get C dX12_letLine_181 (jgR_some e57) fg_X12_142 ?_
              refine x_iconst C dX12_letLine_184 ki_0 ?_
              obtain ⟨v58, e59, hf⟩ := j_bind hf
              refine x_iald C dX12_letLine_185 e59 ?_
              obtain ⟨h60, e61, hf⟩ := j_bind hf
              refine x_iast C dX12_letLine_186 e61 ?_
              refine x_aload_n (v := a0) C dX12_letLine_187 rfl ?_
              obtain ⟨v62, e63, hf⟩ := j_bind hf
              refine x_get C dX12_letLine_188 (jgR_some e63) fg_X12_148 ?_
              refine x_iconst C dX12_letLine_191 ki_0 ?_
              refine x_aload_n (v := a0) C dX12_letLine_192 rfl ?_
              obtain ⟨v64, e65, hf⟩ := j_bind hf
              refine x_get C dX12_letLine_193 (jgR_some e65) fg_X12_177 ?_
              refine x_sipush C dX12_letLine_196 ks_181 ?_
              refine x_aload_n (v := a0) C dX12_letLine_199 rfl ?_
              obtain ⟨v66, e67, hf⟩ := j_bind hf
              refine x_get C dX12_letLine_200 (jgI_some e67) fg_X12_129 ?_
              refine x_imul C dX12_letLine_203 ?_
              obtain ⟨q68, e69, hf⟩ := j_bind hf
              refine x_callS (As := [.ref v62, .int (0 : Int32), .ref v64, .int ((181 : Int32) * v66)]) (rest := []) C dX12_letLine_204 (m_X12_copies (l := l) (E := E) (d := d - 1) (by omega) e69) km_X12_copies lk_X12_58 ks_X12_copies rfl (by omega) (Nat.le_of_ble_eq_true rfl) (j_le_of (q_X12_copies e69)) (Or.inr (q_X12_copies e69)) ?_
              refine x_aload_n (v := a0) C dX12_letLine_207 rfl ?_
              refine x_dup C dX12_letLine_208 rfl ?_
              obtain ⟨v70, e71, hf⟩ := j_bind hf
              refine x_get C dX12_letLine_209 (jgI_some e71) fg_X12_129 ?_
              refine x_iconst C dX12_letLine_212 ki_1 ?_
              refine x_iadd C dX12_letLine_213 ?_
              obtain ⟨h72, e73, hf⟩ := j_bind hf
              refine x_put C dX12_letLine_214 e73 fp_X12_129 rfl rfl ?_
              refine x_aload_n (v := a0) C dX12_letLine_217 rfl ?_
              refine x_bipush C dX12_letLine_218 kb_59 ?_
              obtain ⟨u78, e79, hf⟩ := j_bind hf
              obtain ⟨q74, e75, hf⟩ := j_bind hf
              refine x_callV (As := [.int (59 : Int32)]) (rest := []) C dX12_letLine_220 (m_X12_sign (l := l) (E := E) (d := d - 1) (by omega) e75) km_X12_sign lk_X12_164 kv_X12_sign (ci := 9) rfl e79 rfl (by omega) (Nat.le_of_ble_eq_true rfl) (j_le_of (q_X12_sign e75)) (Or.inr (q_X12_sign e75)) ?_
              obtain ⟨u76, e77, hf⟩ := j_bind hf
              obtain rfl := j_inj hf
              exact x_zret C hret (jzb_some e77) dX12_letLine_223
            · have hf := j_ifp hf c131
              refine x_iconst C dX12_letLine_170 ki_0 ?_
              obtain rfl := j_inj hf
              exact x_zret C hret (Or.inl rfl) dX12_letLine_171
          · have hf := j_ifp hf c130
            refine x_aload_n (v := a0) C dX12_letLine_148 rfl ?_
            refine x_iconst C dX12_letLine_149 ki_1 ?_
            obtain ⟨u88, e89, hf⟩ := j_bind hf
            obtain ⟨q84, e85, hf⟩ := j_bind hf
            refine x_callV (As := [.int (1 : Int32)]) (rest := []) C dX12_letLine_150 (m_X12_bad (l := l) (E := E) (d := d - 1) (by omega) e85) km_X12_bad lk_X12_118 kv_X12_bad (ci := 9) rfl e89 rfl (by omega) (Nat.le_of_ble_eq_true rfl) (j_le_of (q_X12_bad e85)) (Or.inr (q_X12_bad e85)) ?_
            obtain ⟨u86, e87, hf⟩ := j_bind hf
            obtain rfl := j_inj hf
            exact x_zret C hret (jzb_some e87) dX12_letLine_153
        · have hf := j_ifn hf c129
          refine x_aload_n (v := a0) C dX12_letLine_61 rfl ?_
          refine x_iconst C dX12_letLine_62 ki_2 ?_
          obtain ⟨u98, e99, hf⟩ := j_bind hf
          obtain ⟨q94, e95, hf⟩ := j_bind hf
          refine x_callV (As := [.int (2 : Int32)]) (rest := []) C dX12_letLine_63 (m_X12_bad (l := l) (E := E) (d := d - 1) (by omega) e95) km_X12_bad lk_X12_118 kv_X12_bad (ci := 9) rfl e99 rfl (by omega) (Nat.le_of_ble_eq_true rfl) (j_le_of (q_X12_bad e95)) (Or.inr (q_X12_bad e95)) ?_
          obtain ⟨u96, e97, hf⟩ := j_bind hf
          obtain rfl := j_inj hf
          exact x_zret C hret (jzb_some e97) dX12_letLine_66
      · have hf := j_ifp hf c128
        refine x_aload_n (v := a0) C dX12_letLine_47 rfl ?_
        refine x_iconst C dX12_letLine_48 ki_1 ?_
        obtain ⟨u106, e107, hf⟩ := j_bind hf
        obtain ⟨q102, e103, hf⟩ := j_bind hf
        refine x_callV (As := [.int (1 : Int32)]) (rest := []) C dX12_letLine_49 (m_X12_bad (l := l) (E := E) (d := d - 1) (by omega) e103) km_X12_bad lk_X12_118 kv_X12_bad (ci := 9) rfl e107 rfl (by omega) (Nat.le_of_ble_eq_true rfl) (j_le_of (q_X12_bad e103)) (Or.inr (q_X12_bad e103)) ?_
        obtain ⟨u104, e105, hf⟩ := j_bind hf
        obtain rfl := j_inj hf
        exact x_zret C hret (jzb_some e105) dX12_letLine_52
    · have hf := j_ifp hf c127
      refine x_aload_n (v := a0) C dX12_letLine_30 rfl ?_
      refine x_iconst C dX12_letLine_31 ki_5 ?_
      obtain ⟨u116, e117, hf⟩ := j_bind hf
      obtain ⟨q112, e113, hf⟩ := j_bind hf
      refine x_callV (As := [.int (5 : Int32)]) (rest := []) C dX12_letLine_32 (m_X12_bad (l := l) (E := E) (d := d - 1) (by omega) e113) km_X12_bad lk_X12_118 kv_X12_bad (ci := 9) rfl e117 rfl (by omega) (Nat.le_of_ble_eq_true rfl) (j_le_of (q_X12_bad e113)) (Or.inr (q_X12_bad e113)) ?_
      obtain ⟨u114, e115, hf⟩ := j_bind hf
      obtain rfl := j_inj hf
      exact x_zret C hret (jzb_some e115) dX12_letLine_35
  · have hf := j_ifp hf c126
    refine x_aload_n (v := a0) C dX12_letLine_15 rfl ?_
    refine x_iconst C dX12_letLine_16 ki_1 ?_
    obtain ⟨u122, e123, hf⟩ := j_bind hf
    obtain ⟨q118, e119, hf⟩ := j_bind hf
    refine x_callV (As := [.int (1 : Int32)]) (rest := []) C dX12_letLine_17 (m_X12_bad (l := l) (E := E) (d := d - 1) (by omega) e119) km_X12_bad lk_X12_118 kv_X12_bad (ci := 9) rfl e123 rfl (by omega) (Nat.le_of_ble_eq_true rfl) (j_le_of (q_X12_bad e119)) (Or.inr (q_X12_bad e119)) ?_
    obtain ⟨u120, e121, hf⟩ := j_bind hf
    obtain rfl := j_inj hf
    exact x_zret C hret (jzb_some e121) dX12_letLine_20
set_option maxHeartbeats 4000000 in
set_option maxRecDepth 100000 in
theorem m_X12_primeLine {l : Launch} {E : JE} {d : Nat} (hdd : 3 ≤ d) {a0 : Nat} {h : JH} {q : Int32 × JH} (hf : f_X12_primeLine a0 h = some q) : Con l E d yX12_primeLine cX12_primeLine 1 (some .boolean) [.ref a0] h (some (.int q.1)) q.2 := by
  refine j_start rfl (Nat.le_of_ble_eq_true rfl) ?_
  intro p e s m args below meth c C hret hnm
  refine x_loc [(0, .ref a0)] rfl ?_
  unfold f_X12_primeLine at hf
  refine x_aload_n (v := a0) C dX12_primeLine_0 rfl ?_
  obtain ⟨u49, e50, hf⟩ := j_bind hf
  obtain ⟨q1, e2, hf⟩ := j_bind hf
  refine x_callV (As := []) (rest := []) C dX12_primeLine_1 (m_X12_go (l := l) (E := E) (d := d - 1) (by omega) e2) km_X12_go lk_X12_121 kv_X12_go (ci := 9) rfl e50 rfl (by omega) (Nat.le_of_ble_eq_true rfl) (j_le_of (q_X12_go e2)) (Or.inr (q_X12_go e2)) ?_
  refine x_aload_n (v := a0) C dX12_primeLine_4 rfl ?_
  obtain ⟨v3, e4, hf⟩ := j_bind hf
  refine x_get C dX12_primeLine_5 (jgI_some e4) fg_X12_97 ?_
  refine x_iconst C dX12_primeLine_8 ki_2 ?_
  refine x_icmp_eq (tgt := 18) C dX12_primeLine_9 (by decide) (fun c51 => ?_) (fun c51 => ?_)
  · have hf := j_ifp hf c51
    refine x_aload_n (v := a0) C dX12_primeLine_18 rfl ?_
    obtain ⟨v5, e6, hf⟩ := j_bind hf
    refine x_get C dX12_primeLine_19 (jgI_some e6) fg_X12_100 ?_
    refine x_bipush C dX12_primeLine_22 kb_101 ?_
    refine x_sipush C dX12_primeLine_24 ks_9973 ?_
    obtain ⟨q7, e8, hf⟩ := j_bind hf
    refine x_callS (As := [.int v5, .int (101 : Int32), .int (9973 : Int32)]) (rest := []) C dX12_primeLine_27 (m_X12_within (l := l) (E := E) (d := d - 1) (by omega) e8) km_X12_within lk_X12_45 ks_X12_within rfl (by omega) (Nat.le_of_ble_eq_true rfl) (j_le_of (q_X12_within e8)) (Or.inr (q_X12_within e8)) ?_
    refine x_if_eq (tgt := 43) C dX12_primeLine_30 (by decide) (fun c52 => ?_) (fun c52 => ?_)
    · have hf := j_ifp hf c52
      refine x_aload_n (v := a0) C dX12_primeLine_43 rfl ?_
      refine x_iconst C dX12_primeLine_44 ki_4 ?_
      obtain ⟨u13, e14, hf⟩ := j_bind hf
      obtain ⟨q9, e10, hf⟩ := j_bind hf
      refine x_callV (As := [.int (4 : Int32)]) (rest := []) C dX12_primeLine_45 (m_X12_bad (l := l) (E := E) (d := d - 1) (by omega) e10) km_X12_bad lk_X12_118 kv_X12_bad (ci := 9) rfl e14 rfl (by omega) (Nat.le_of_ble_eq_true rfl) (j_le_of (q_X12_bad e10)) (Or.inr (q_X12_bad e10)) ?_
      obtain ⟨u11, e12, hf⟩ := j_bind hf
      obtain rfl := j_inj hf
      exact x_zret C hret (jzb_some e12) dX12_primeLine_48
    · have hf := j_ifn hf c52
      refine x_aload_n (v := a0) C dX12_primeLine_33 rfl ?_
      obtain ⟨v15, e16, hf⟩ := j_bind hf
      refine x_get C dX12_primeLine_34 (jgI_some e16) fg_X12_100 ?_
      obtain ⟨q17, e18, hf⟩ := j_bind hf
      refine x_callS (As := [.int v15]) (rest := []) C dX12_primeLine_37 (m_X12_isPrime (l := l) (E := E) (d := d - 1) (by omega) e18) km_X12_isPrime lk_X12_191 ks_X12_isPrime rfl (by omega) (Nat.le_of_ble_eq_true rfl) (j_le_of (q_X12_isPrime e18)) (Or.inr (q_X12_isPrime e18)) ?_
      refine x_if_ne (tgt := 49) C dX12_primeLine_40 (by decide) (fun c53 => ?_) (fun c53 => ?_)
      · have hf := j_ifn hf c53
        refine x_aload_n (v := a0) C dX12_primeLine_49 rfl ?_
        refine x_aload_n (v := a0) C dX12_primeLine_50 rfl ?_
        obtain ⟨v19, e20, hf⟩ := j_bind hf
        refine x_get C dX12_primeLine_51 (jgI_some e20) fg_X12_100 ?_
        obtain ⟨h21, e22, hf⟩ := j_bind hf
        refine x_put C dX12_primeLine_54 e22 fp_X12_7 rfl rfl ?_
        refine x_aload_n (v := a0) C dX12_primeLine_57 rfl ?_
        obtain ⟨u35, e36, hf⟩ := j_bind hf
        obtain ⟨q23, e24, hf⟩ := j_bind hf
        refine x_callV (As := []) (rest := []) C dX12_primeLine_58 (m_X12_laysBasic (l := l) (E := E) (d := d - 1) (by omega) e24) km_X12_laysBasic lk_X12_194 kv_X12_laysBasic (ci := 9) rfl e36 rfl (by omega) (Nat.le_of_ble_eq_true rfl) (j_le_of (q_X12_laysBasic e24)) (Or.inr (q_X12_laysBasic e24)) ?_
        refine x_aload_n (v := a0) C dX12_primeLine_61 rfl ?_
        obtain ⟨u33, e34, hf⟩ := j_bind hf
        obtain ⟨q25, e26, hf⟩ := j_bind hf
        refine x_callV (As := []) (rest := []) C dX12_primeLine_62 (m_X12_go (l := l) (E := E) (d := d - 1) (by omega) e26) km_X12_go lk_X12_121 kv_X12_go (ci := 9) rfl e34 rfl (by omega) (Nat.le_of_ble_eq_true rfl) (j_le_of (q_X12_go e26)) (Or.inr (q_X12_go e26)) ?_
        refine x_aload_n (v := a0) C dX12_primeLine_65 rfl ?_
        refine x_bipush C dX12_primeLine_66 kb_59 ?_
        obtain ⟨u31, e32, hf⟩ := j_bind hf
        obtain ⟨q27, e28, hf⟩ := j_bind hf
        refine x_callV (As := [.int (59 : Int32)]) (rest := []) C dX12_primeLine_68 (m_X12_sign (l := l) (E := E) (d := d - 1) (by omega) e28) km_X12_sign lk_X12_164 kv_X12_sign (ci := 9) rfl e32 rfl (by omega) (Nat.le_of_ble_eq_true rfl) (j_le_of (q_X12_sign e28)) (Or.inr (q_X12_sign e28)) ?_
        obtain ⟨u29, e30, hf⟩ := j_bind hf
        obtain rfl := j_inj hf
        exact x_zret C hret (jzb_some e30) dX12_primeLine_71
      · have hf := j_ifp hf c53
        refine x_aload_n (v := a0) C dX12_primeLine_43 rfl ?_
        refine x_iconst C dX12_primeLine_44 ki_4 ?_
        obtain ⟨u41, e42, hf⟩ := j_bind hf
        obtain ⟨q37, e38, hf⟩ := j_bind hf
        refine x_callV (As := [.int (4 : Int32)]) (rest := []) C dX12_primeLine_45 (m_X12_bad (l := l) (E := E) (d := d - 1) (by omega) e38) km_X12_bad lk_X12_118 kv_X12_bad (ci := 9) rfl e42 rfl (by omega) (Nat.le_of_ble_eq_true rfl) (j_le_of (q_X12_bad e38)) (Or.inr (q_X12_bad e38)) ?_
        obtain ⟨u39, e40, hf⟩ := j_bind hf
        obtain rfl := j_inj hf
        exact x_zret C hret (jzb_some e40) dX12_primeLine_48
  · have hf := j_ifn hf c51
    refine x_aload_n (v := a0) C dX12_primeLine_12 rfl ?_
    refine x_iconst C dX12_primeLine_13 ki_1 ?_
    obtain ⟨u47, e48, hf⟩ := j_bind hf
    obtain ⟨q43, e44, hf⟩ := j_bind hf
    refine x_callV (As := [.int (1 : Int32)]) (rest := []) C dX12_primeLine_14 (m_X12_bad (l := l) (E := E) (d := d - 1) (by omega) e44) km_X12_bad lk_X12_118 kv_X12_bad (ci := 9) rfl e48 rfl (by omega) (Nat.le_of_ble_eq_true rfl) (j_le_of (q_X12_bad e44)) (Or.inr (q_X12_bad e44)) ?_
    obtain ⟨u45, e46, hf⟩ := j_bind hf
    obtain rfl := j_inj hf
    exact x_zret C hret (jzb_some e46) dX12_primeLine_17
