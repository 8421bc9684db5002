set_option maxHeartbeats 4000000 in
set_option maxRecDepth 100000 in
theorem s_X12_put_L129 {p : Program} {l : Launch} {e : Env} {R : Room} {s : State} {m : MethodId} {args : Array Value} {below : List Frame} {meth : Method} {c : Code} {E : JE} {h0 hF : JH} {rF : Option Value} {d : Nat} (C : j_C p s m args meth c R E cX12_put 9 RX12 h0 hF d) (hret : meth.sig.returnType = (some .boolean)) (hdd : 4 ≤ d) (a0 : Nat) (a3 : Int32) (a4 : Int32) (a5 : Int32) (a6 : Int32) (z : Int32) (h : JH) (r : Int32 ⊕ Int32) (h1 : JH) (hf : f_X12_put_L129 a0 a3 a4 a5 a6 z h = some (r, h1)) (hk : Sum.elim (fun z => Xw p l e R s m args below meth c E 9 h0 rF hF 129 [(0, .ref a0), (3, .int a3), (4, .int a4), (5, .int a5), (6, .int a6), (7, .int z)] [] h1) (fun t => Xw p l e R s m args below meth c E 9 h0 rF hF 196 [(0, .ref a0), (3, .int a3), (4, .int a4), (5, .int a5), (6, .int a6), (7, .int t)] [] h1) r) : Xw p l e R s m args below meth c E 9 h0 rF hF 129 [(0, .ref a0), (3, .int a3), (4, .int a4), (5, .int a5), (6, .int a6), (7, .int z)] [] h := by
  unfold f_X12_put_L129 at hf
  refine x_iload (v := z) C dX12_put_129 rfl ?_
  refine x_bipush C dX12_put_131 kb_13 ?_
  refine x_icmp_ge (tgt := 196) C dX12_put_133 (by decide) (fun c25 => ?_) (fun c25 => ?_)
  · have hf := j_ifp hf c25
    obtain ⟨rfl, rfl⟩ := j_inj2 hf
    exact x_locr hk rfl
  · have hf := j_ifn hf c25
    refine x_iload (v := a5) C dX12_put_136 rfl ?_
    refine x_if_eq (tgt := 196) C dX12_put_138 (by decide) (fun c26 => ?_) (fun c26 => ?_)
    · have hf := j_ifp hf c26
      obtain ⟨rfl, rfl⟩ := j_inj2 hf
      exact x_locr hk rfl
    · have hf := j_ifn hf c26
      refine x_aload_n (v := a0) C dX12_put_141 rfl ?_
      obtain ⟨v9, e10, hf⟩ := j_bind hf
      refine x_get C dX12_put_142 (jgR_some e10) fg_X12_250 ?_
      refine x_bipush C dX12_put_145 kb_13 ?_
      refine x_iload (v := a6) C dX12_put_147 rfl ?_
      refine x_imul C dX12_put_149 ?_
      refine x_iload (v := z) C dX12_put_150 rfl ?_
      refine x_iadd C dX12_put_152 ?_
      refine x_iload_n (v := a3) C dX12_put_153 rfl ?_
      refine x_if_ne (tgt := 168) C dX12_put_154 (by decide) (fun c27 => ?_) (fun c27 => ?_)
      · have hf := j_ifn hf c27
        refine x_iload (v := z) C dX12_put_168 rfl ?_
        refine x_bipush C dX12_put_170 kb_12 ?_
        refine x_icmp_ge (tgt := 188) C dX12_put_172 (by decide) (fun c28 => ?_) (fun c28 => ?_)
        · have hf := j_ifp hf c28
          refine x_lconst C dX12_put_188 kl_0 ?_
          obtain ⟨h11, e12, hf⟩ := j_bind hf
          refine x_last C dX12_put_189 e12 ?_
          refine x_iinc (v := z) C dX12_put_190 rfl ki_1 (by decide) ?_
          refine x_goto (tgt := 129) C dX12_put_193 (by decide) ?_
          obtain ⟨rfl, rfl⟩ := j_inj2 hf
          exact x_locr hk rfl
        · have hf := j_ifn hf c28
          refine x_aload_n (v := a0) C dX12_put_175 rfl ?_
          refine x_iload (v := a4) C dX12_put_176 rfl ?_
          refine x_iload (v := z) C dX12_put_178 rfl ?_
          refine x_iconst C dX12_put_180 ki_1 ?_
          refine x_iadd C dX12_put_181 ?_
          obtain ⟨u17, e18, hf⟩ := j_bind hf
          obtain ⟨q13, e14, hf⟩ := j_bind hf
          refine x_callV (As := [.int a4, .int (z + (1 : Int32))]) (rest := [.int (((13 : Int32) * a6) + z), .ref v9]) C dX12_put_182 (m_X12_traceOf (l := l) (E := E) (d := d - 1) (by omega) e14) km_X12_traceOf lk_X12_317 kv_X12_traceOf (ci := 9) rfl e18 rfl (by omega) (Nat.le_of_ble_eq_true rfl) (j_le_of (q_X12_traceOf e14)) (Or.inr (q_X12_traceOf e14)) ?_
          refine x_goto (tgt := 189) C dX12_put_185 (by decide) ?_
          obtain ⟨h15, e16, hf⟩ := j_bind hf
          refine x_last C dX12_put_189 e16 ?_
          refine x_iinc (v := z) C dX12_put_190 rfl ki_1 (by decide) ?_
          refine x_goto (tgt := 129) C dX12_put_193 (by decide) ?_
          obtain ⟨rfl, rfl⟩ := j_inj2 hf
          exact x_locr hk rfl
      · have hf := j_ifp hf c27
        refine x_aload_n (v := a0) C dX12_put_157 rfl ?_
        obtain ⟨v19, e20, hf⟩ := j_bind hf
        refine x_get C dX12_put_158 (jgR_some e20) fg_X12_218 ?_
        refine x_iload (v := z) C dX12_put_161 rfl ?_
        obtain ⟨v21, e22, hf⟩ := j_bind hf
        refine x_iald C dX12_put_163 e22 ?_
        refine x_i2l C dX12_put_164 ?_
        refine x_goto (tgt := 189) C dX12_put_165 (by decide) ?_
        obtain ⟨h23, e24, hf⟩ := j_bind hf
        refine x_last C dX12_put_189 e24 ?_
        refine x_iinc (v := z) C dX12_put_190 rfl ki_1 (by decide) ?_
        refine x_goto (tgt := 129) C dX12_put_193 (by decide) ?_
        obtain ⟨rfl, rfl⟩ := j_inj2 hf
        exact x_locr hk rfl
set_option maxHeartbeats 4000000 in
set_option maxRecDepth 100000 in
theorem s_X12_put_L77 {p : Program} {l : Launch} {e : Env} {R : Room} {s : State} {m : MethodId} {args : Array Value} {below : List Frame} {meth : Method} {c : Code} {E : JE} {h0 hF : JH} {rF : Option Value} {d : Nat} (C : j_C p s m args meth c R E cX12_put 9 RX12 h0 hF d) (hret : meth.sig.returnType = (some .boolean)) (hdd : 4 ≤ d) (a0 : Nat) (a1 : Int32) (a2 : Int32) (a3 : Int32) (a4 : Int32) (z : (Int32 × Int32)) (h : JH) (r : (Int32 × Int32) ⊕ (Int32 × Int32)) (h1 : JH) (hf : f_X12_put_L77 a0 a1 a2 a3 a4 z h = some (r, h1)) (hk : Sum.elim (fun z => Xw p l e R s m args below meth c E 9 h0 rF hF 77 [(0, .ref a0), (1, .int a1), (2, .int a2), (3, .int a3), (4, .int a4), (5, .int z.1), (6, .int z.2)] [] h1) (fun t => Xw p l e R s m args below meth c E 9 h0 rF hF 119 [(0, .ref a0), (1, .int a1), (2, .int a2), (3, .int a3), (4, .int a4), (5, .int t.1), (6, .int t.2)] [] h1) r) : Xw p l e R s m args below meth c E 9 h0 rF hF 77 [(0, .ref a0), (1, .int a1), (2, .int a2), (3, .int a3), (4, .int a4), (5, .int z.1), (6, .int z.2)] [] h := by
  unfold f_X12_put_L77 at hf
  refine x_iload (v := z.2) C dX12_put_77 rfl ?_
  refine x_bipush C dX12_put_79 kb_12 ?_
  refine x_icmp_gt (tgt := 119) C dX12_put_81 (by decide) (fun c55 => ?_) (fun c55 => ?_)
  · have hf := j_ifp hf c55
    obtain ⟨rfl, rfl⟩ := j_inj2 hf
    exact x_locr hk rfl
  · have hf := j_ifn hf c55
    refine x_iload (v := z.1) C dX12_put_84 rfl ?_
    refine x_if_eq (tgt := 119) C dX12_put_86 (by decide) (fun c56 => ?_) (fun c56 => ?_)
    · have hf := j_ifp hf c56
      obtain ⟨rfl, rfl⟩ := j_inj2 hf
      exact x_locr hk rfl
    · have hf := j_ifn hf c56
      refine x_aload_n (v := a0) C dX12_put_89 rfl ?_
      refine x_iload (v := a4) C dX12_put_90 rfl ?_
      refine x_iload (v := z.2) C dX12_put_92 rfl ?_
      obtain ⟨u53, e54, hf⟩ := j_bind hf
      obtain ⟨q49, e50, hf⟩ := j_bind hf
      refine x_callV (As := [.int a4, .int z.2]) (rest := []) C dX12_put_94 (m_X12_traceOf (l := l) (E := E) (d := d - 1) (by omega) e50) km_X12_traceOf lk_X12_317 kv_X12_traceOf (ci := 9) rfl e54 rfl (by omega) (Nat.le_of_ble_eq_true rfl) (j_le_of (q_X12_traceOf e50)) (Or.inr (q_X12_traceOf e50)) ?_
      refine x_lstore C dX12_put_97 (by decide) ?_
      refine x_aload_n (v := a0) C dX12_put_99 rfl ?_
      obtain ⟨v51, e52, hf⟩ := j_bind hf
      refine x_get C dX12_put_100 (jgI_some e52) fg_X12_293 ?_
      refine x_if_ne (tgt := 110) C dX12_put_103 (by decide) (fun c57 => ?_) (fun c57 => ?_)
      · have hf := j_ifn hf c57
        refine x_iconst C dX12_put_110 ki_0 ?_
        refine x_istore C dX12_put_111 (by decide) ?_
        refine x_iinc (v := z.2) C dX12_put_113 rfl ki_1 (by decide) ?_
        refine x_goto (tgt := 77) C dX12_put_116 (by decide) ?_
        obtain ⟨rfl, rfl⟩ := j_inj2 hf
        exact x_locr hk rfl
      · have hf := j_ifp hf c57
        refine x_iconst C dX12_put_106 ki_1 ?_
        refine x_goto (tgt := 111) C dX12_put_107 (by decide) ?_
        refine x_istore C dX12_put_111 (by decide) ?_
        refine x_iinc (v := z.2) C dX12_put_113 rfl ki_1 (by decide) ?_
        refine x_goto (tgt := 77) C dX12_put_116 (by decide) ?_
        obtain ⟨rfl, rfl⟩ := j_inj2 hf
        exact x_locr hk rfl
set_option maxHeartbeats 4000000 in
set_option maxRecDepth 100000 in
theorem m_X12_put {l : Launch} {E : JE} {d : Nat} (hdd : 4 ≤ d) {a0 : Nat} {a1 : Int32} {a2 : Int32} {a3 : Int32} {a4 : Int32} {h : JH} {q : Int32 × JH} (hf : f_X12_put a0 a1 a2 a3 a4 h = some q) : Con l E d yX12_put cX12_put 9 (some .boolean) [.ref a0, .int a1, .int a2, .int a3, .int a4] h (some (.int q.1)) q.2 := by
  refine j_start rfl (Nat.le_of_ble_eq_true rfl) ?_
  intro p e s m args below meth c C hret hnm
  refine x_loc [(0, .ref a0), (1, .int a1), (2, .int a2), (3, .int a3), (4, .int a4)] rfl ?_
  unfold f_X12_put at hf
  refine x_aload_n (v := a0) C dX12_put_0 rfl ?_
  refine x_iconst C dX12_put_1 ki_0 ?_
  obtain ⟨h1, e2, hf⟩ := j_bind hf
  refine x_put C dX12_put_2 e2 fp_X12_1 rfl rfl ?_
  refine x_iload_n (v := a1) C dX12_put_5 rfl ?_
  refine x_iconst C dX12_put_6 ki_0 ?_
  refine x_iconst C dX12_put_7 ki_1 ?_
  obtain ⟨q3, e4, hf⟩ := j_bind hf
  refine x_callS (As := [.int a1, .int (0 : Int32), .int (1 : Int32)]) (rest := []) C dX12_put_8 (m_X12_within (l := l) (E := E) (d := d - 1) (by omega) e4) km_X12_within lk_X12_45 ks_X12_within rfl (by omega) (Nat.le_of_ble_eq_true rfl) (j_le_of (q_X12_within e4)) (Or.inr (q_X12_within e4)) ?_
  refine x_if_eq (tgt := 23) C dX12_put_11 (by decide) (fun c392 => ?_) (fun c392 => ?_)
  · have hf := j_ifp hf c392
    refine x_iconst C dX12_put_23 ki_0 ?_
    obtain rfl := j_inj hf
    exact x_zret C hret (Or.inl rfl) dX12_put_24
  · have hf := j_ifn hf c392
    refine x_iload_n (v := a2) C dX12_put_14 rfl ?_
    refine x_iconst C dX12_put_15 ki_0 ?_
    refine x_iconst C dX12_put_16 ki_3 ?_
    obtain ⟨q5, e6, hf⟩ := j_bind hf
    refine x_callS (As := [.int a2, .int (0 : Int32), .int (3 : Int32)]) (rest := []) C dX12_put_17 (m_X12_within (l := l) (E := E) (d := d - 1) (by omega) e6) km_X12_within lk_X12_45 ks_X12_within rfl (by omega) (Nat.le_of_ble_eq_true rfl) (j_le_of (q_X12_within e6)) (Or.inr (q_X12_within e6)) ?_
    refine x_if_ne (tgt := 25) C dX12_put_20 (by decide) (fun c393 => ?_) (fun c393 => ?_)
    · have hf := j_ifn hf c393
      refine x_aload_n (v := a0) C dX12_put_25 rfl ?_
      refine x_iload_n (v := a1) C dX12_put_26 rfl ?_
      obtain ⟨u390, e391, hf⟩ := j_bind hf
      obtain ⟨q7, e8, hf⟩ := j_bind hf
      refine x_callV (As := [.int a1]) (rest := []) C dX12_put_27 (m_X12_sortOf (l := l) (E := E) (d := d - 1) (by omega) e8) km_X12_sortOf lk_X12_368 kv_X12_sortOf (ci := 9) rfl e391 rfl (by omega) (Nat.le_of_ble_eq_true rfl) (j_le_of (q_X12_sortOf e8)) (Or.inr (q_X12_sortOf e8)) ?_
      refine x_iload_n (v := a3) C dX12_put_30 rfl ?_
      refine x_if_eq (tgt := 38) C dX12_put_31 (by decide) (fun c394 => ?_) (fun c394 => ?_)
      · have hf := j_ifp hf c394
        refine x_iconst C dX12_put_38 ki_0 ?_
        refine x_icmp_ne (tgt := 46) C dX12_put_39 (by decide) (fun c395 => ?_) (fun c395 => ?_)
        · have hf := j_ifn hf c395
          refine x_iconst C dX12_put_46 ki_0 ?_
          refine x_istore C dX12_put_47 (by decide) ?_
          refine x_iload_n (v := a3) C dX12_put_49 rfl ?_
          refine x_if_eq (tgt := 119) C dX12_put_50 (by decide) (fun c396 => ?_) (fun c396 => ?_)
          · have hf := j_ifp hf c396
            refine x_iconst C dX12_put_119 ki_4 ?_
            refine x_iload_n (v := a1) C dX12_put_120 rfl ?_
            refine x_imul C dX12_put_121 ?_
            refine x_iload_n (v := a2) C dX12_put_122 rfl ?_
            refine x_iadd C dX12_put_123 ?_
            refine x_istore C dX12_put_124 (by decide) ?_
            refine x_iconst C dX12_put_126 ki_0 ?_
            refine x_istore C dX12_put_127 (by decide) ?_
            obtain ⟨q29, e30, hf⟩ := j_bind hf
            refine x_loc [(0, .ref a0), (3, .int a3), (4, .int a4), (5, .int (0 : Int32)), (6, .int (((4 : Int32) * a1) + a2)), (7, .int (0 : Int32))] rfl ?_
            refine x_loop (s_X12_put_L129 C hret hdd a0 a3 a4 (0 : Int32) (((4 : Int32) * a1) + a2)) e30 ?_
            refine x_aload_n (v := a0) C dX12_put_196 rfl ?_
            obtain ⟨v31, e32, hf⟩ := j_bind hf
            refine x_get C dX12_put_197 (jgR_some e32) fg_X12_221 ?_
            refine x_iload (v := ((4 : Int32) * a1) + a2) C dX12_put_200 rfl ?_
            refine x_aload_n (v := a0) C dX12_put_202 rfl ?_
            obtain ⟨v33, e34, hf⟩ := j_bind hf
            refine x_get C dX12_put_203 (jgR_some e34) fg_X12_221 ?_
            refine x_iload (v := ((4 : Int32) * a1) + a2) C dX12_put_206 rfl ?_
            obtain ⟨v35, e36, hf⟩ := j_bind hf
            refine x_bald C dX12_put_208 e36 ?_
            refine x_if_ne (tgt := 217) C dX12_put_209 (by decide) (fun c397 => ?_) (fun c397 => ?_)
            · have hf := j_ifn hf c397
              refine x_iconst C dX12_put_217 ki_1 ?_
              refine x_goto (tgt := 222) C dX12_put_218 (by decide) ?_
              obtain ⟨h37, e38, hf⟩ := j_bind hf
              refine x_bast C dX12_put_222 e38 ?_
              refine x_iload (v := (0 : Int32)) C dX12_put_223 rfl ?_
              obtain ⟨u39, e40, hf⟩ := j_bind hf
              obtain rfl := j_inj hf
              exact x_zret C hret (jzb_some e40) dX12_put_225
            · have hf := j_ifp hf c397
              refine x_iload (v := (0 : Int32)) C dX12_put_212 rfl ?_
              refine x_if_eq (tgt := 221) C dX12_put_214 (by decide) (fun c398 => ?_) (fun c398 => ?_)
              · have hf := j_ifp hf c398
                refine x_iconst C dX12_put_221 ki_0 ?_
                obtain ⟨h41, e42, hf⟩ := j_bind hf
                refine x_bast C dX12_put_222 e42 ?_
                refine x_iload (v := (0 : Int32)) C dX12_put_223 rfl ?_
                obtain ⟨u43, e44, hf⟩ := j_bind hf
                obtain rfl := j_inj hf
                exact x_zret C hret (jzb_some e44) dX12_put_225
              · have hf := j_ifn hf c398
                refine x_iconst C dX12_put_217 ki_1 ?_
                refine x_goto (tgt := 222) C dX12_put_218 (by decide) ?_
                obtain ⟨h45, e46, hf⟩ := j_bind hf
                refine x_bast C dX12_put_222 e46 ?_
                refine x_iload (v := (0 : Int32)) C dX12_put_223 rfl ?_
                obtain ⟨u47, e48, hf⟩ := j_bind hf
                obtain rfl := j_inj hf
                exact x_zret C hret (jzb_some e48) dX12_put_225
          · have hf := j_ifn hf c396
            refine x_iload (v := (0 : Int32)) C dX12_put_53 rfl ?_
            refine x_if_eq (tgt := 71) C dX12_put_55 (by decide) (fun c399 => ?_) (fun c399 => ?_)
            · have hf := j_ifp hf c399
              refine x_iconst C dX12_put_71 ki_0 ?_
              refine x_istore C dX12_put_72 (by decide) ?_
              refine x_iconst C dX12_put_74 ki_1 ?_
              refine x_istore C dX12_put_75 (by decide) ?_
              obtain ⟨q58, e59, hf⟩ := j_bind hf
              refine x_loc [(0, .ref a0), (1, .int a1), (2, .int a2), (3, .int a3), (4, .int a4), (5, .int (0 : Int32)), (6, .int (1 : Int32))] rfl ?_
              refine x_loop (s_X12_put_L77 C hret hdd a0 a1 a2 a3 a4) e59 ?_
              refine x_iconst C dX12_put_119 ki_4 ?_
              refine x_iload_n (v := a1) C dX12_put_120 rfl ?_
              refine x_imul C dX12_put_121 ?_
              refine x_iload_n (v := a2) C dX12_put_122 rfl ?_
              refine x_iadd C dX12_put_123 ?_
              refine x_istore C dX12_put_124 (by decide) ?_
              refine x_iconst C dX12_put_126 ki_0 ?_
              refine x_istore C dX12_put_127 (by decide) ?_
              obtain ⟨q60, e61, hf⟩ := j_bind hf
              refine x_loc [(0, .ref a0), (3, .int a3), (4, .int a4), (5, .int q58.1.1), (6, .int (((4 : Int32) * a1) + a2)), (7, .int (0 : Int32))] rfl ?_
              refine x_loop (s_X12_put_L129 C hret hdd a0 a3 a4 q58.1.1 (((4 : Int32) * a1) + a2)) e61 ?_
              refine x_aload_n (v := a0) C dX12_put_196 rfl ?_
              obtain ⟨v62, e63, hf⟩ := j_bind hf
              refine x_get C dX12_put_197 (jgR_some e63) fg_X12_221 ?_
              refine x_iload (v := ((4 : Int32) * a1) + a2) C dX12_put_200 rfl ?_
              refine x_aload_n (v := a0) C dX12_put_202 rfl ?_
              obtain ⟨v64, e65, hf⟩ := j_bind hf
              refine x_get C dX12_put_203 (jgR_some e65) fg_X12_221 ?_
              refine x_iload (v := ((4 : Int32) * a1) + a2) C dX12_put_206 rfl ?_
              obtain ⟨v66, e67, hf⟩ := j_bind hf
              refine x_bald C dX12_put_208 e67 ?_
              refine x_if_ne (tgt := 217) C dX12_put_209 (by decide) (fun c400 => ?_) (fun c400 => ?_)
              · have hf := j_ifn hf c400
                refine x_iconst C dX12_put_217 ki_1 ?_
                refine x_goto (tgt := 222) C dX12_put_218 (by decide) ?_
                obtain ⟨h68, e69, hf⟩ := j_bind hf
                refine x_bast C dX12_put_222 e69 ?_
                refine x_iload (v := q58.1.1) C dX12_put_223 rfl ?_
                obtain ⟨u70, e71, hf⟩ := j_bind hf
                obtain rfl := j_inj hf
                exact x_zret C hret (jzb_some e71) dX12_put_225
              · have hf := j_ifp hf c400
                refine x_iload (v := q58.1.1) C dX12_put_212 rfl ?_
                refine x_if_eq (tgt := 221) C dX12_put_214 (by decide) (fun c401 => ?_) (fun c401 => ?_)
                · have hf := j_ifp hf c401
                  refine x_iconst C dX12_put_221 ki_0 ?_
                  obtain ⟨h72, e73, hf⟩ := j_bind hf
                  refine x_bast C dX12_put_222 e73 ?_
                  refine x_iload (v := q58.1.1) C dX12_put_223 rfl ?_
                  obtain ⟨u74, e75, hf⟩ := j_bind hf
                  obtain rfl := j_inj hf
                  exact x_zret C hret (jzb_some e75) dX12_put_225
                · have hf := j_ifn hf c401
                  refine x_iconst C dX12_put_217 ki_1 ?_
                  refine x_goto (tgt := 222) C dX12_put_218 (by decide) ?_
                  obtain ⟨h76, e77, hf⟩ := j_bind hf
                  refine x_bast C dX12_put_222 e77 ?_
                  refine x_iload (v := q58.1.1) C dX12_put_223 rfl ?_
                  obtain ⟨u78, e79, hf⟩ := j_bind hf
                  obtain rfl := j_inj hf
                  exact x_zret C hret (jzb_some e79) dX12_put_225
            · have hf := j_ifn hf c399
              refine x_iload (v := a4) C dX12_put_58 rfl ?_
              refine x_iconst C dX12_put_60 ki_1 ?_
              obtain ⟨q80, e81, hf⟩ := j_bind hf
              refine x_callS (As := [.int a4, .int (1 : Int32)]) (rest := []) C dX12_put_61 (m_X12_isTraced (l := l) (E := E) (d := d - 1) (by omega) e81) km_X12_isTraced lk_X12_310 ks_X12_isTraced rfl (by omega) (Nat.le_of_ble_eq_true rfl) (j_le_of (q_X12_isTraced e81)) (Or.inr (q_X12_isTraced e81)) ?_
              refine x_if_eq (tgt := 71) C dX12_put_64 (by decide) (fun c402 => ?_) (fun c402 => ?_)
              · have hf := j_ifp hf c402
                refine x_iconst C dX12_put_71 ki_0 ?_
                refine x_istore C dX12_put_72 (by decide) ?_
                refine x_iconst C dX12_put_74 ki_1 ?_
                refine x_istore C dX12_put_75 (by decide) ?_
                obtain ⟨q82, e83, hf⟩ := j_bind hf
                refine x_loc [(0, .ref a0), (1, .int a1), (2, .int a2), (3, .int a3), (4, .int a4), (5, .int (0 : Int32)), (6, .int (1 : Int32))] rfl ?_
                refine x_loop (s_X12_put_L77 C hret hdd a0 a1 a2 a3 a4) e83 ?_
                refine x_iconst C dX12_put_119 ki_4 ?_
                refine x_iload_n (v := a1) C dX12_put_120 rfl ?_
                refine x_imul C dX12_put_121 ?_
                refine x_iload_n (v := a2) C dX12_put_122 rfl ?_
                refine x_iadd C dX12_put_123 ?_
                refine x_istore C dX12_put_124 (by decide) ?_
                refine x_iconst C dX12_put_126 ki_0 ?_
                refine x_istore C dX12_put_127 (by decide) ?_
                obtain ⟨q84, e85, hf⟩ := j_bind hf
                refine x_loc [(0, .ref a0), (3, .int a3), (4, .int a4), (5, .int q82.1.1), (6, .int (((4 : Int32) * a1) + a2)), (7, .int (0 : Int32))] rfl ?_
                refine x_loop (s_X12_put_L129 C hret hdd a0 a3 a4 q82.1.1 (((4 : Int32) * a1) + a2)) e85 ?_
                refine x_aload_n (v := a0) C dX12_put_196 rfl ?_
                obtain ⟨v86, e87, hf⟩ := j_bind hf
                refine x_get C dX12_put_197 (jgR_some e87) fg_X12_221 ?_
                refine x_iload (v := ((4 : Int32) * a1) + a2) C dX12_put_200 rfl ?_
                refine x_aload_n (v := a0) C dX12_put_202 rfl ?_
                obtain ⟨v88, e89, hf⟩ := j_bind hf
                refine x_get C dX12_put_203 (jgR_some e89) fg_X12_221 ?_
                refine x_iload (v := ((4 : Int32) * a1) + a2) C dX12_put_206 rfl ?_
                obtain ⟨v90, e91, hf⟩ := j_bind hf
                refine x_bald C dX12_put_208 e91 ?_
                refine x_if_ne (tgt := 217) C dX12_put_209 (by decide) (fun c403 => ?_) (fun c403 => ?_)
                · have hf := j_ifn hf c403
                  refine x_iconst C dX12_put_217 ki_1 ?_
                  refine x_goto (tgt := 222) C dX12_put_218 (by decide) ?_
                  obtain ⟨h92, e93, hf⟩ := j_bind hf
                  refine x_bast C dX12_put_222 e93 ?_
                  refine x_iload (v := q82.1.1) C dX12_put_223 rfl ?_
                  obtain ⟨u94, e95, hf⟩ := j_bind hf
                  obtain rfl := j_inj hf
                  exact x_zret C hret (jzb_some e95) dX12_put_225
                · have hf := j_ifp hf c403
                  refine x_iload (v := q82.1.1) C dX12_put_212 rfl ?_
                  refine x_if_eq (tgt := 221) C dX12_put_214 (by decide) (fun c404 => ?_) (fun c404 => ?_)
                  · have hf := j_ifp hf c404
                    refine x_iconst C dX12_put_221 ki_0 ?_
                    obtain ⟨h96, e97, hf⟩ := j_bind hf
                    refine x_bast C dX12_put_222 e97 ?_
                    refine x_iload (v := q82.1.1) C dX12_put_223 rfl ?_
                    obtain ⟨u98, e99, hf⟩ := j_bind hf
                    obtain rfl := j_inj hf
                    exact x_zret C hret (jzb_some e99) dX12_put_225
                  · have hf := j_ifn hf c404
                    refine x_iconst C dX12_put_217 ki_1 ?_
                    refine x_goto (tgt := 222) C dX12_put_218 (by decide) ?_
                    obtain ⟨h100, e101, hf⟩ := j_bind hf
                    refine x_bast C dX12_put_222 e101 ?_
                    refine x_iload (v := q82.1.1) C dX12_put_223 rfl ?_
                    obtain ⟨u102, e103, hf⟩ := j_bind hf
                    obtain rfl := j_inj hf
                    exact x_zret C hret (jzb_some e103) dX12_put_225
              · have hf := j_ifn hf c402
                refine x_iconst C dX12_put_67 ki_1 ?_
                refine x_goto (tgt := 72) C dX12_put_68 (by decide) ?_
                refine x_istore C dX12_put_72 (by decide) ?_
                refine x_iconst C dX12_put_74 ki_1 ?_
                refine x_istore C dX12_put_75 (by decide) ?_
                obtain ⟨q104, e105, hf⟩ := j_bind hf
                refine x_loc [(0, .ref a0), (1, .int a1), (2, .int a2), (3, .int a3), (4, .int a4), (5, .int (1 : Int32)), (6, .int (1 : Int32))] rfl ?_
                refine x_loop (s_X12_put_L77 C hret hdd a0 a1 a2 a3 a4) e105 ?_
                refine x_iconst C dX12_put_119 ki_4 ?_
                refine x_iload_n (v := a1) C dX12_put_120 rfl ?_
                refine x_imul C dX12_put_121 ?_
                refine x_iload_n (v := a2) C dX12_put_122 rfl ?_
                refine x_iadd C dX12_put_123 ?_
                refine x_istore C dX12_put_124 (by decide) ?_
                refine x_iconst C dX12_put_126 ki_0 ?_
                refine x_istore C dX12_put_127 (by decide) ?_
                obtain ⟨q106, e107, hf⟩ := j_bind hf
                refine x_loc [(0, .ref a0), (3, .int a3), (4, .int a4), (5, .int q104.1.1), (6, .int (((4 : Int32) * a1) + a2)), (7, .int (0 : Int32))] rfl ?_
                refine x_loop (s_X12_put_L129 C hret hdd a0 a3 a4 q104.1.1 (((4 : Int32) * a1) + a2)) e107 ?_
                refine x_aload_n (v := a0) C dX12_put_196 rfl ?_
                obtain ⟨v108, e109, hf⟩ := j_bind hf
                refine x_get C dX12_put_197 (jgR_some e109) fg_X12_221 ?_
                refine x_iload (v := ((4 : Int32) * a1) + a2) C dX12_put_200 rfl ?_
                refine x_aload_n (v := a0) C dX12_put_202 rfl ?_
                obtain ⟨v110, e111, hf⟩ := j_bind hf
                refine x_get C dX12_put_203 (jgR_some e111) fg_X12_221 ?_
                refine x_iload (v := ((4 : Int32) * a1) + a2) C dX12_put_206 rfl ?_
                obtain ⟨v112, e113, hf⟩ := j_bind hf
                refine x_bald C dX12_put_208 e113 ?_
                refine x_if_ne (tgt := 217) C dX12_put_209 (by decide) (fun c405 => ?_) (fun c405 => ?_)
                · have hf := j_ifn hf c405
                  refine x_iconst C dX12_put_217 ki_1 ?_
                  refine x_goto (tgt := 222) C dX12_put_218 (by decide) ?_
                  obtain ⟨h114, e115, hf⟩ := j_bind hf
                  refine x_bast C dX12_put_222 e115 ?_
                  refine x_iload (v := q104.1.1) C dX12_put_223 rfl ?_
                  obtain ⟨u116, e117, hf⟩ := j_bind hf
                  obtain rfl := j_inj hf
                  exact x_zret C hret (jzb_some e117) dX12_put_225
                · have hf := j_ifp hf c405
                  refine x_iload (v := q104.1.1) C dX12_put_212 rfl ?_
                  refine x_if_eq (tgt := 221) C dX12_put_214 (by decide) (fun c406 => ?_) (fun c406 => ?_)
                  · have hf := j_ifp hf c406
                    refine x_iconst C dX12_put_221 ki_0 ?_
                    obtain ⟨h118, e119, hf⟩ := j_bind hf
                    refine x_bast C dX12_put_222 e119 ?_
                    refine x_iload (v := q104.1.1) C dX12_put_223 rfl ?_
                    obtain ⟨u120, e121, hf⟩ := j_bind hf
                    obtain rfl := j_inj hf
                    exact x_zret C hret (jzb_some e121) dX12_put_225
                  · have hf := j_ifn hf c406
                    refine x_iconst C dX12_put_217 ki_1 ?_
                    refine x_goto (tgt := 222) C dX12_put_218 (by decide) ?_
                    obtain ⟨h122, e123, hf⟩ := j_bind hf
                    refine x_bast C dX12_put_222 e123 ?_
                    refine x_iload (v := q104.1.1) C dX12_put_223 rfl ?_
                    obtain ⟨u124, e125, hf⟩ := j_bind hf
                    obtain rfl := j_inj hf
                    exact x_zret C hret (jzb_some e125) dX12_put_225
        · have hf := j_ifp hf c395
          refine x_iconst C dX12_put_42 ki_1 ?_
          refine x_goto (tgt := 47) C dX12_put_43 (by decide) ?_
          refine x_istore C dX12_put_47 (by decide) ?_
          refine x_iload_n (v := a3) C dX12_put_49 rfl ?_
          refine x_if_eq (tgt := 119) C dX12_put_50 (by decide) (fun c407 => ?_) (fun c407 => ?_)
          · have hf := j_ifp hf c407
            refine x_iconst C dX12_put_119 ki_4 ?_
            refine x_iload_n (v := a1) C dX12_put_120 rfl ?_
            refine x_imul C dX12_put_121 ?_
            refine x_iload_n (v := a2) C dX12_put_122 rfl ?_
            refine x_iadd C dX12_put_123 ?_
            refine x_istore C dX12_put_124 (by decide) ?_
            refine x_iconst C dX12_put_126 ki_0 ?_
            refine x_istore C dX12_put_127 (by decide) ?_
            obtain ⟨q126, e127, hf⟩ := j_bind hf
            refine x_loc [(0, .ref a0), (3, .int a3), (4, .int a4), (5, .int (1 : Int32)), (6, .int (((4 : Int32) * a1) + a2)), (7, .int (0 : Int32))] rfl ?_
            refine x_loop (s_X12_put_L129 C hret hdd a0 a3 a4 (1 : Int32) (((4 : Int32) * a1) + a2)) e127 ?_
            refine x_aload_n (v := a0) C dX12_put_196 rfl ?_
            obtain ⟨v128, e129, hf⟩ := j_bind hf
            refine x_get C dX12_put_197 (jgR_some e129) fg_X12_221 ?_
            refine x_iload (v := ((4 : Int32) * a1) + a2) C dX12_put_200 rfl ?_
            refine x_aload_n (v := a0) C dX12_put_202 rfl ?_
            obtain ⟨v130, e131, hf⟩ := j_bind hf
            refine x_get C dX12_put_203 (jgR_some e131) fg_X12_221 ?_
            refine x_iload (v := ((4 : Int32) * a1) + a2) C dX12_put_206 rfl ?_
            obtain ⟨v132, e133, hf⟩ := j_bind hf
            refine x_bald C dX12_put_208 e133 ?_
            refine x_if_ne (tgt := 217) C dX12_put_209 (by decide) (fun c408 => ?_) (fun c408 => ?_)
            · have hf := j_ifn hf c408
              refine x_iconst C dX12_put_217 ki_1 ?_
              refine x_goto (tgt := 222) C dX12_put_218 (by decide) ?_
              obtain ⟨h134, e135, hf⟩ := j_bind hf
              refine x_bast C dX12_put_222 e135 ?_
              refine x_iload (v := (1 : Int32)) C dX12_put_223 rfl ?_
              obtain ⟨u136, e137, hf⟩ := j_bind hf
              obtain rfl := j_inj hf
              exact x_zret C hret (jzb_some e137) dX12_put_225
            · have hf := j_ifp hf c408
              refine x_iload (v := (1 : Int32)) C dX12_put_212 rfl ?_
              refine x_if_eq (tgt := 221) C dX12_put_214 (by decide) (fun c409 => ?_) (fun c409 => ?_)
              · have hf := j_ifp hf c409
                refine x_iconst C dX12_put_221 ki_0 ?_
                obtain ⟨h138, e139, hf⟩ := j_bind hf
                refine x_bast C dX12_put_222 e139 ?_
                refine x_iload (v := (1 : Int32)) C dX12_put_223 rfl ?_
                obtain ⟨u140, e141, hf⟩ := j_bind hf
                obtain rfl := j_inj hf
                exact x_zret C hret (jzb_some e141) dX12_put_225
              · have hf := j_ifn hf c409
                refine x_iconst C dX12_put_217 ki_1 ?_
                refine x_goto (tgt := 222) C dX12_put_218 (by decide) ?_
                obtain ⟨h142, e143, hf⟩ := j_bind hf
                refine x_bast C dX12_put_222 e143 ?_
                refine x_iload (v := (1 : Int32)) C dX12_put_223 rfl ?_
                obtain ⟨u144, e145, hf⟩ := j_bind hf
                obtain rfl := j_inj hf
                exact x_zret C hret (jzb_some e145) dX12_put_225
          · have hf := j_ifn hf c407
            refine x_iload (v := (1 : Int32)) C dX12_put_53 rfl ?_
            refine x_if_eq (tgt := 71) C dX12_put_55 (by decide) (fun c410 => ?_) (fun c410 => ?_)
            · have hf := j_ifp hf c410
              refine x_iconst C dX12_put_71 ki_0 ?_
              refine x_istore C dX12_put_72 (by decide) ?_
              refine x_iconst C dX12_put_74 ki_1 ?_
              refine x_istore C dX12_put_75 (by decide) ?_
              obtain ⟨q146, e147, hf⟩ := j_bind hf
              refine x_loc [(0, .ref a0), (1, .int a1), (2, .int a2), (3, .int a3), (4, .int a4), (5, .int (0 : Int32)), (6, .int (1 : Int32))] rfl ?_
              refine x_loop (s_X12_put_L77 C hret hdd a0 a1 a2 a3 a4) e147 ?_
              refine x_iconst C dX12_put_119 ki_4 ?_
              refine x_iload_n (v := a1) C dX12_put_120 rfl ?_
              refine x_imul C dX12_put_121 ?_
              refine x_iload_n (v := a2) C dX12_put_122 rfl ?_
              refine x_iadd C dX12_put_123 ?_
              refine x_istore C dX12_put_124 (by decide) ?_
              refine x_iconst C dX12_put_126 ki_0 ?_
              refine x_istore C dX12_put_127 (by decide) ?_
              obtain ⟨q148, e149, hf⟩ := j_bind hf
              refine x_loc [(0, .ref a0), (3, .int a3), (4, .int a4), (5, .int q146.1.1), (6, .int (((4 : Int32) * a1) + a2)), (7, .int (0 : Int32))] rfl ?_
              refine x_loop (s_X12_put_L129 C hret hdd a0 a3 a4 q146.1.1 (((4 : Int32) * a1) + a2)) e149 ?_
              refine x_aload_n (v := a0) C dX12_put_196 rfl ?_
              obtain ⟨v150, e151, hf⟩ := j_bind hf
              refine x_get C dX12_put_197 (jgR_some e151) fg_X12_221 ?_
              refine x_iload (v := ((4 : Int32) * a1) + a2) C dX12_put_200 rfl ?_
              refine x_aload_n (v := a0) C dX12_put_202 rfl ?_
              obtain ⟨v152, e153, hf⟩ := j_bind hf
              refine x_get C dX12_put_203 (jgR_some e153) fg_X12_221 ?_
              refine x_iload (v := ((4 : Int32) * a1) + a2) C dX12_put_206 rfl ?_
              obtain ⟨v154, e155, hf⟩ := j_bind hf
              refine x_bald C dX12_put_208 e155 ?_
              refine x_if_ne (tgt := 217) C dX12_put_209 (by decide) (fun c411 => ?_) (fun c411 => ?_)
              · have hf := j_ifn hf c411
                refine x_iconst C dX12_put_217 ki_1 ?_
                refine x_goto (tgt := 222) C dX12_put_218 (by decide) ?_
                obtain ⟨h156, e157, hf⟩ := j_bind hf
                refine x_bast C dX12_put_222 e157 ?_
                refine x_iload (v := q146.1.1) C dX12_put_223 rfl ?_
                obtain ⟨u158, e159, hf⟩ := j_bind hf
                obtain rfl := j_inj hf
                exact x_zret C hret (jzb_some e159) dX12_put_225
              · have hf := j_ifp hf c411
                refine x_iload (v := q146.1.1) C dX12_put_212 rfl ?_
                refine x_if_eq (tgt := 221) C dX12_put_214 (by decide) (fun c412 => ?_) (fun c412 => ?_)
                · have hf := j_ifp hf c412
                  refine x_iconst C dX12_put_221 ki_0 ?_
                  obtain ⟨h160, e161, hf⟩ := j_bind hf
                  refine x_bast C dX12_put_222 e161 ?_
                  refine x_iload (v := q146.1.1) C dX12_put_223 rfl ?_
                  obtain ⟨u162, e163, hf⟩ := j_bind hf
                  obtain rfl := j_inj hf
                  exact x_zret C hret (jzb_some e163) dX12_put_225
                · have hf := j_ifn hf c412
                  refine x_iconst C dX12_put_217 ki_1 ?_
                  refine x_goto (tgt := 222) C dX12_put_218 (by decide) ?_
                  obtain ⟨h164, e165, hf⟩ := j_bind hf
                  refine x_bast C dX12_put_222 e165 ?_
                  refine x_iload (v := q146.1.1) C dX12_put_223 rfl ?_
                  obtain ⟨u166, e167, hf⟩ := j_bind hf
                  obtain rfl := j_inj hf
                  exact x_zret C hret (jzb_some e167) dX12_put_225
            · have hf := j_ifn hf c410
              refine x_iload (v := a4) C dX12_put_58 rfl ?_
              refine x_iconst C dX12_put_60 ki_1 ?_
              obtain ⟨q168, e169, hf⟩ := j_bind hf
              refine x_callS (As := [.int a4, .int (1 : Int32)]) (rest := []) C dX12_put_61 (m_X12_isTraced (l := l) (E := E) (d := d - 1) (by omega) e169) km_X12_isTraced lk_X12_310 ks_X12_isTraced rfl (by omega) (Nat.le_of_ble_eq_true rfl) (j_le_of (q_X12_isTraced e169)) (Or.inr (q_X12_isTraced e169)) ?_
              refine x_if_eq (tgt := 71) C dX12_put_64 (by decide) (fun c413 => ?_) (fun c413 => ?_)
              · have hf := j_ifp hf c413
                refine x_iconst C dX12_put_71 ki_0 ?_
                refine x_istore C dX12_put_72 (by decide) ?_
                refine x_iconst C dX12_put_74 ki_1 ?_
                refine x_istore C dX12_put_75 (by decide) ?_
                obtain ⟨q170, e171, hf⟩ := j_bind hf
                refine x_loc [(0, .ref a0), (1, .int a1), (2, .int a2), (3, .int a3), (4, .int a4), (5, .int (0 : Int32)), (6, .int (1 : Int32))] rfl ?_
                refine x_loop (s_X12_put_L77 C hret hdd a0 a1 a2 a3 a4) e171 ?_
                refine x_iconst C dX12_put_119 ki_4 ?_
                refine x_iload_n (v := a1) C dX12_put_120 rfl ?_
                refine x_imul C dX12_put_121 ?_
                refine x_iload_n (v := a2) C dX12_put_122 rfl ?_
                refine x_iadd C dX12_put_123 ?_
                refine x_istore C dX12_put_124 (by decide) ?_
                refine x_iconst C dX12_put_126 ki_0 ?_
                refine x_istore C dX12_put_127 (by decide) ?_
                obtain ⟨q172, e173, hf⟩ := j_bind hf
                refine x_loc [(0, .ref a0), (3, .int a3), (4, .int a4), (5, .int q170.1.1), (6, .int (((4 : Int32) * a1) + a2)), (7, .int (0 : Int32))] rfl ?_
                refine x_loop (s_X12_put_L129 C hret hdd a0 a3 a4 q170.1.1 (((4 : Int32) * a1) + a2)) e173 ?_
                refine x_aload_n (v := a0) C dX12_put_196 rfl ?_
                obtain ⟨v174, e175, hf⟩ := j_bind hf
                refine x_get C dX12_put_197 (jgR_some e175) fg_X12_221 ?_
                refine x_iload (v := ((4 : Int32) * a1) + a2) C dX12_put_200 rfl ?_
                refine x_aload_n (v := a0) C dX12_put_202 rfl ?_
                obtain ⟨v176, e177, hf⟩ := j_bind hf
                refine x_get C dX12_put_203 (jgR_some e177) fg_X12_221 ?_
                refine x_iload (v := ((4 : Int32) * a1) + a2) C dX12_put_206 rfl ?_
                obtain ⟨v178, e179, hf⟩ := j_bind hf
                refine x_bald C dX12_put_208 e179 ?_
                refine x_if_ne (tgt := 217) C dX12_put_209 (by decide) (fun c414 => ?_) (fun c414 => ?_)
                · have hf := j_ifn hf c414
                  refine x_iconst C dX12_put_217 ki_1 ?_
                  refine x_goto (tgt := 222) C dX12_put_218 (by decide) ?_
                  obtain ⟨h180, e181, hf⟩ := j_bind hf
                  refine x_bast C dX12_put_222 e181 ?_
                  refine x_iload (v := q170.1.1) C dX12_put_223 rfl ?_
                  obtain ⟨u182, e183, hf⟩ := j_bind hf
                  obtain rfl := j_inj hf
                  exact x_zret C hret (jzb_some e183) dX12_put_225
                · have hf := j_ifp hf c414
                  refine x_iload (v := q170.1.1) C dX12_put_212 rfl ?_
                  refine x_if_eq (tgt := 221) C dX12_put_214 (by decide) (fun c415 => ?_) (fun c415 => ?_)
                  · have hf := j_ifp hf c415
                    refine x_iconst C dX12_put_221 ki_0 ?_
                    obtain ⟨h184, e185, hf⟩ := j_bind hf
                    refine x_bast C dX12_put_222 e185 ?_
                    refine x_iload (v := q170.1.1) C dX12_put_223 rfl ?_
                    obtain ⟨u186, e187, hf⟩ := j_bind hf
                    obtain rfl := j_inj hf
                    exact x_zret C hret (jzb_some e187) dX12_put_225
                  · have hf := j_ifn hf c415
                    refine x_iconst C dX12_put_217 ki_1 ?_
                    refine x_goto (tgt := 222) C dX12_put_218 (by decide) ?_
                    obtain ⟨h188, e189, hf⟩ := j_bind hf
                    refine x_bast C dX12_put_222 e189 ?_
                    refine x_iload (v := q170.1.1) C dX12_put_223 rfl ?_
                    obtain ⟨u190, e191, hf⟩ := j_bind hf
                    obtain rfl := j_inj hf
                    exact x_zret C hret (jzb_some e191) dX12_put_225
              · have hf := j_ifn hf c413
                refine x_iconst C dX12_put_67 ki_1 ?_
                refine x_goto (tgt := 72) C dX12_put_68 (by decide) ?_
                refine x_istore C dX12_put_72 (by decide) ?_
                refine x_iconst C dX12_put_74 ki_1 ?_
                refine x_istore C dX12_put_75 (by decide) ?_
                obtain ⟨q192, e193, hf⟩ := j_bind hf
                refine x_loc [(0, .ref a0), (1, .int a1), (2, .int a2), (3, .int a3), (4, .int a4), (5, .int (1 : Int32)), (6, .int (1 : Int32))] rfl ?_
                refine x_loop (s_X12_put_L77 C hret hdd a0 a1 a2 a3 a4) e193 ?_
                refine x_iconst C dX12_put_119 ki_4 ?_
                refine x_iload_n (v := a1) C dX12_put_120 rfl ?_
                refine x_imul C dX12_put_121 ?_
                refine x_iload_n (v := a2) C dX12_put_122 rfl ?_
                refine x_iadd C dX12_put_123 ?_
                refine x_istore C dX12_put_124 (by decide) ?_
                refine x_iconst C dX12_put_126 ki_0 ?_
                refine x_istore C dX12_put_127 (by decide) ?_
                obtain ⟨q194, e195, hf⟩ := j_bind hf
                refine x_loc [(0, .ref a0), (3, .int a3), (4, .int a4), (5, .int q192.1.1), (6, .int (((4 : Int32) * a1) + a2)), (7, .int (0 : Int32))] rfl ?_
                refine x_loop (s_X12_put_L129 C hret hdd a0 a3 a4 q192.1.1 (((4 : Int32) * a1) + a2)) e195 ?_
                refine x_aload_n (v := a0) C dX12_put_196 rfl ?_
                obtain ⟨v196, e197, hf⟩ := j_bind hf
                refine x_get C dX12_put_197 (jgR_some e197) fg_X12_221 ?_
                refine x_iload (v := ((4 : Int32) * a1) + a2) C dX12_put_200 rfl ?_
                refine x_aload_n (v := a0) C dX12_put_202 rfl ?_
                obtain ⟨v198, e199, hf⟩ := j_bind hf
                refine x_get C dX12_put_203 (jgR_some e199) fg_X12_221 ?_
                refine x_iload (v := ((4 : Int32) * a1) + a2) C dX12_put_206 rfl ?_
                obtain ⟨v200, e201, hf⟩ := j_bind hf
                refine x_bald C dX12_put_208 e201 ?_
                refine x_if_ne (tgt := 217) C dX12_put_209 (by decide) (fun c416 => ?_) (fun c416 => ?_)
                · have hf := j_ifn hf c416
                  refine x_iconst C dX12_put_217 ki_1 ?_
                  refine x_goto (tgt := 222) C dX12_put_218 (by decide) ?_
                  obtain ⟨h202, e203, hf⟩ := j_bind hf
                  refine x_bast C dX12_put_222 e203 ?_
                  refine x_iload (v := q192.1.1) C dX12_put_223 rfl ?_
                  obtain ⟨u204, e205, hf⟩ := j_bind hf
                  obtain rfl := j_inj hf
                  exact x_zret C hret (jzb_some e205) dX12_put_225
                · have hf := j_ifp hf c416
                  refine x_iload (v := q192.1.1) C dX12_put_212 rfl ?_
                  refine x_if_eq (tgt := 221) C dX12_put_214 (by decide) (fun c417 => ?_) (fun c417 => ?_)
                  · have hf := j_ifp hf c417
                    refine x_iconst C dX12_put_221 ki_0 ?_
                    obtain ⟨h206, e207, hf⟩ := j_bind hf
                    refine x_bast C dX12_put_222 e207 ?_
                    refine x_iload (v := q192.1.1) C dX12_put_223 rfl ?_
                    obtain ⟨u208, e209, hf⟩ := j_bind hf
                    obtain rfl := j_inj hf
                    exact x_zret C hret (jzb_some e209) dX12_put_225
                  · have hf := j_ifn hf c417
                    refine x_iconst C dX12_put_217 ki_1 ?_
                    refine x_goto (tgt := 222) C dX12_put_218 (by decide) ?_
                    obtain ⟨h210, e211, hf⟩ := j_bind hf
                    refine x_bast C dX12_put_222 e211 ?_
                    refine x_iload (v := q192.1.1) C dX12_put_223 rfl ?_
                    obtain ⟨u212, e213, hf⟩ := j_bind hf
                    obtain rfl := j_inj hf
                    exact x_zret C hret (jzb_some e213) dX12_put_225
      · have hf := j_ifn hf c394
        refine x_iconst C dX12_put_34 ki_1 ?_
        refine x_goto (tgt := 39) C dX12_put_35 (by decide) ?_
        refine x_icmp_ne (tgt := 46) C dX12_put_39 (by decide) (fun c418 => ?_) (fun c418 => ?_)
        · have hf := j_ifn hf c418
          refine x_iconst C dX12_put_46 ki_0 ?_
          refine x_istore C dX12_put_47 (by decide) ?_
          refine x_iload_n (v := a3) C dX12_put_49 rfl ?_
          refine x_if_eq (tgt := 119) C dX12_put_50 (by decide) (fun c419 => ?_) (fun c419 => ?_)
          · have hf := j_ifp hf c419
            refine x_iconst C dX12_put_119 ki_4 ?_
            refine x_iload_n (v := a1) C dX12_put_120 rfl ?_
            refine x_imul C dX12_put_121 ?_
            refine x_iload_n (v := a2) C dX12_put_122 rfl ?_
            refine x_iadd C dX12_put_123 ?_
            refine x_istore C dX12_put_124 (by decide) ?_
            refine x_iconst C dX12_put_126 ki_0 ?_
            refine x_istore C dX12_put_127 (by decide) ?_
            obtain ⟨q214, e215, hf⟩ := j_bind hf
            refine x_loc [(0, .ref a0), (3, .int a3), (4, .int a4), (5, .int (0 : Int32)), (6, .int (((4 : Int32) * a1) + a2)), (7, .int (0 : Int32))] rfl ?_
            refine x_loop (s_X12_put_L129 C hret hdd a0 a3 a4 (0 : Int32) (((4 : Int32) * a1) + a2)) e215 ?_
            refine x_aload_n (v := a0) C dX12_put_196 rfl ?_
            obtain ⟨v216, e217, hf⟩ := j_bind hf
            refine x_get C dX12_put_197 (jgR_some e217) fg_X12_221 ?_
            refine x_iload (v := ((4 : Int32) * a1) + a2) C dX12_put_200 rfl ?_
            refine x_aload_n (v := a0) C dX12_put_202 rfl ?_
            obtain ⟨v218, e219, hf⟩ := j_bind hf
            refine x_get C dX12_put_203 (jgR_some e219) fg_X12_221 ?_
            refine x_iload (v := ((4 : Int32) * a1) + a2) C dX12_put_206 rfl ?_
            obtain ⟨v220, e221, hf⟩ := j_bind hf
            refine x_bald C dX12_put_208 e221 ?_
            refine x_if_ne (tgt := 217) C dX12_put_209 (by decide) (fun c420 => ?_) (fun c420 => ?_)
            · have hf := j_ifn hf c420
              refine x_iconst C dX12_put_217 ki_1 ?_
              refine x_goto (tgt := 222) C dX12_put_218 (by decide) ?_
              obtain ⟨h222, e223, hf⟩ := j_bind hf
              refine x_bast C dX12_put_222 e223 ?_
              refine x_iload (v := (0 : Int32)) C dX12_put_223 rfl ?_
              obtain ⟨u224, e225, hf⟩ := j_bind hf
              obtain rfl := j_inj hf
              exact x_zret C hret (jzb_some e225) dX12_put_225
            · have hf := j_ifp hf c420
              refine x_iload (v := (0 : Int32)) C dX12_put_212 rfl ?_
              refine x_if_eq (tgt := 221) C dX12_put_214 (by decide) (fun c421 => ?_) (fun c421 => ?_)
              · have hf := j_ifp hf c421
                refine x_iconst C dX12_put_221 ki_0 ?_
                obtain ⟨h226, e227, hf⟩ := j_bind hf
                refine x_bast C dX12_put_222 e227 ?_
                refine x_iload (v := (0 : Int32)) C dX12_put_223 rfl ?_
                obtain ⟨u228, e229, hf⟩ := j_bind hf
                obtain rfl := j_inj hf
                exact x_zret C hret (jzb_some e229) dX12_put_225
              · have hf := j_ifn hf c421
                refine x_iconst C dX12_put_217 ki_1 ?_
                refine x_goto (tgt := 222) C dX12_put_218 (by decide) ?_
                obtain ⟨h230, e231, hf⟩ := j_bind hf
                refine x_bast C dX12_put_222 e231 ?_
                refine x_iload (v := (0 : Int32)) C dX12_put_223 rfl ?_
                obtain ⟨u232, e233, hf⟩ := j_bind hf
                obtain rfl := j_inj hf
                exact x_zret C hret (jzb_some e233) dX12_put_225
          · have hf := j_ifn hf c419
            refine x_iload (v := (0 : Int32)) C dX12_put_53 rfl ?_
            refine x_if_eq (tgt := 71) C dX12_put_55 (by decide) (fun c422 => ?_) (fun c422 => ?_)
            · have hf := j_ifp hf c422
              refine x_iconst C dX12_put_71 ki_0 ?_
              refine x_istore C dX12_put_72 (by decide) ?_
              refine x_iconst C dX12_put_74 ki_1 ?_
              refine x_istore C dX12_put_75 (by decide) ?_
              obtain ⟨q234, e235, hf⟩ := j_bind hf
              refine x_loc [(0, .ref a0), (1, .int a1), (2, .int a2), (3, .int a3), (4, .int a4), (5, .int (0 : Int32)), (6, .int (1 : Int32))] rfl ?_
              refine x_loop (s_X12_put_L77 C hret hdd a0 a1 a2 a3 a4) e235 ?_
              refine x_iconst C dX12_put_119 ki_4 ?_
              refine x_iload_n (v := a1) C dX12_put_120 rfl ?_
              refine x_imul C dX12_put_121 ?_
              refine x_iload_n (v := a2) C dX12_put_122 rfl ?_
              refine x_iadd C dX12_put_123 ?_
              refine x_istore C dX12_put_124 (by decide) ?_
              refine x_iconst C dX12_put_126 ki_0 ?_
              refine x_istore C dX12_put_127 (by decide) ?_
              obtain ⟨q236, e237, hf⟩ := j_bind hf
              refine x_loc [(0, .ref a0), (3, .int a3), (4, .int a4), (5, .int q234.1.1), (6, .int (((4 : Int32) * a1) + a2)), (7, .int (0 : Int32))] rfl ?_
              refine x_loop (s_X12_put_L129 C hret hdd a0 a3 a4 q234.1.1 (((4 : Int32) * a1) + a2)) e237 ?_
              refine x_aload_n (v := a0) C dX12_put_196 rfl ?_
              obtain ⟨v238, e239, hf⟩ := j_bind hf
              refine x_get C dX12_put_197 (jgR_some e239) fg_X12_221 ?_
              refine x_iload (v := ((4 : Int32) * a1) + a2) C dX12_put_200 rfl ?_
              refine x_aload_n (v := a0) C dX12_put_202 rfl ?_
              obtain ⟨v240, e241, hf⟩ := j_bind hf
              refine x_get C dX12_put_203 (jgR_some e241) fg_X12_221 ?_
              refine x_iload (v := ((4 : Int32) * a1) + a2) C dX12_put_206 rfl ?_
              obtain ⟨v242, e243, hf⟩ := j_bind hf
              refine x_bald C dX12_put_208 e243 ?_
              refine x_if_ne (tgt := 217) C dX12_put_209 (by decide) (fun c423 => ?_) (fun c423 => ?_)
              · have hf := j_ifn hf c423
                refine x_iconst C dX12_put_217 ki_1 ?_
                refine x_goto (tgt := 222) C dX12_put_218 (by decide) ?_
                obtain ⟨h244, e245, hf⟩ := j_bind hf
                refine x_bast C dX12_put_222 e245 ?_
                refine x_iload (v := q234.1.1) C dX12_put_223 rfl ?_
                obtain ⟨u246, e247, hf⟩ := j_bind hf
                obtain rfl := j_inj hf
                exact x_zret C hret (jzb_some e247) dX12_put_225
              · have hf := j_ifp hf c423
                refine x_iload (v := q234.1.1) C dX12_put_212 rfl ?_
                refine x_if_eq (tgt := 221) C dX12_put_214 (by decide) (fun c424 => ?_) (fun c424 => ?_)
                · have hf := j_ifp hf c424
                  refine x_iconst C dX12_put_221 ki_0 ?_
                  obtain ⟨h248, e249, hf⟩ := j_bind hf
                  refine x_bast C dX12_put_222 e249 ?_
                  refine x_iload (v := q234.1.1) C dX12_put_223 rfl ?_
                  obtain ⟨u250, e251, hf⟩ := j_bind hf
                  obtain rfl := j_inj hf
                  exact x_zret C hret (jzb_some e251) dX12_put_225
                · have hf := j_ifn hf c424
                  refine x_iconst C dX12_put_217 ki_1 ?_
                  refine x_goto (tgt := 222) C dX12_put_218 (by decide) ?_
                  obtain ⟨h252, e253, hf⟩ := j_bind hf
                  refine x_bast C dX12_put_222 e253 ?_
                  refine x_iload (v := q234.1.1) C dX12_put_223 rfl ?_
                  obtain ⟨u254, e255, hf⟩ := j_bind hf
                  obtain rfl := j_inj hf
                  exact x_zret C hret (jzb_some e255) dX12_put_225
            · have hf := j_ifn hf c422
              refine x_iload (v := a4) C dX12_put_58 rfl ?_
              refine x_iconst C dX12_put_60 ki_1 ?_
              obtain ⟨q256, e257, hf⟩ := j_bind hf
              refine x_callS (As := [.int a4, .int (1 : Int32)]) (rest := []) C dX12_put_61 (m_X12_isTraced (l := l) (E := E) (d := d - 1) (by omega) e257) km_X12_isTraced lk_X12_310 ks_X12_isTraced rfl (by omega) (Nat.le_of_ble_eq_true rfl) (j_le_of (q_X12_isTraced e257)) (Or.inr (q_X12_isTraced e257)) ?_
              refine x_if_eq (tgt := 71) C dX12_put_64 (by decide) (fun c425 => ?_) (fun c425 => ?_)
              · have hf := j_ifp hf c425
                refine x_iconst C dX12_put_71 ki_0 ?_
                refine x_istore C dX12_put_72 (by decide) ?_
                refine x_iconst C dX12_put_74 ki_1 ?_
                refine x_istore C dX12_put_75 (by decide) ?_
                obtain ⟨q258, e259, hf⟩ := j_bind hf
                refine x_loc [(0, .ref a0), (1, .int a1), (2, .int a2), (3, .int a3), (4, .int a4), (5, .int (0 : Int32)), (6, .int (1 : Int32))] rfl ?_
                refine x_loop (s_X12_put_L77 C hret hdd a0 a1 a2 a3 a4) e259 ?_
                refine x_iconst C dX12_put_119 ki_4 ?_
                refine x_iload_n (v := a1) C dX12_put_120 rfl ?_
                refine x_imul C dX12_put_121 ?_
                refine x_iload_n (v := a2) C dX12_put_122 rfl ?_
                refine x_iadd C dX12_put_123 ?_
                refine x_istore C dX12_put_124 (by decide) ?_
                refine x_iconst C dX12_put_126 ki_0 ?_
                refine x_istore C dX12_put_127 (by decide) ?_
                obtain ⟨q260, e261, hf⟩ := j_bind hf
                refine x_loc [(0, .ref a0), (3, .int a3), (4, .int a4), (5, .int q258.1.1), (6, .int (((4 : Int32) * a1) + a2)), (7, .int (0 : Int32))] rfl ?_
                refine x_loop (s_X12_put_L129 C hret hdd a0 a3 a4 q258.1.1 (((4 : Int32) * a1) + a2)) e261 ?_
                refine x_aload_n (v := a0) C dX12_put_196 rfl ?_
                obtain ⟨v262, e263, hf⟩ := j_bind hf
                refine x_get C dX12_put_197 (jgR_some e263) fg_X12_221 ?_
                refine x_iload (v := ((4 : Int32) * a1) + a2) C dX12_put_200 rfl ?_
                refine x_aload_n (v := a0) C dX12_put_202 rfl ?_
                obtain ⟨v264, e265, hf⟩ := j_bind hf
                refine x_get C dX12_put_203 (jgR_some e265) fg_X12_221 ?_
                refine x_iload (v := ((4 : Int32) * a1) + a2) C dX12_put_206 rfl ?_
                obtain ⟨v266, e267, hf⟩ := j_bind hf
                refine x_bald C dX12_put_208 e267 ?_
                refine x_if_ne (tgt := 217) C dX12_put_209 (by decide) (fun c426 => ?_) (fun c426 => ?_)
                · have hf := j_ifn hf c426
                  refine x_iconst C dX12_put_217 ki_1 ?_
                  refine x_goto (tgt := 222) C dX12_put_218 (by decide) ?_
                  obtain ⟨h268, e269, hf⟩ := j_bind hf
                  refine x_bast C dX12_put_222 e269 ?_
                  refine x_iload (v := q258.1.1) C dX12_put_223 rfl ?_
                  obtain ⟨u270, e271, hf⟩ := j_bind hf
                  obtain rfl := j_inj hf
                  exact x_zret C hret (jzb_some e271) dX12_put_225
                · have hf := j_ifp hf c426
                  refine x_iload (v := q258.1.1) C dX12_put_212 rfl ?_
                  refine x_if_eq (tgt := 221) C dX12_put_214 (by decide) (fun c427 => ?_) (fun c427 => ?_)
                  · have hf := j_ifp hf c427
                    refine x_iconst C dX12_put_221 ki_0 ?_
                    obtain ⟨h272, e273, hf⟩ := j_bind hf
                    refine x_bast C dX12_put_222 e273 ?_
                    refine x_iload (v := q258.1.1) C dX12_put_223 rfl ?_
                    obtain ⟨u274, e275, hf⟩ := j_bind hf
                    obtain rfl := j_inj hf
                    exact x_zret C hret (jzb_some e275) dX12_put_225
                  · have hf := j_ifn hf c427
                    refine x_iconst C dX12_put_217 ki_1 ?_
                    refine x_goto (tgt := 222) C dX12_put_218 (by decide) ?_
                    obtain ⟨h276, e277, hf⟩ := j_bind hf
                    refine x_bast C dX12_put_222 e277 ?_
                    refine x_iload (v := q258.1.1) C dX12_put_223 rfl ?_
                    obtain ⟨u278, e279, hf⟩ := j_bind hf
                    obtain rfl := j_inj hf
                    exact x_zret C hret (jzb_some e279) dX12_put_225
              · have hf := j_ifn hf c425
                refine x_iconst C dX12_put_67 ki_1 ?_
                refine x_goto (tgt := 72) C dX12_put_68 (by decide) ?_
                refine x_istore C dX12_put_72 (by decide) ?_
                refine x_iconst C dX12_put_74 ki_1 ?_
                refine x_istore C dX12_put_75 (by decide) ?_
                obtain ⟨q280, e281, hf⟩ := j_bind hf
                refine x_loc [(0, .ref a0), (1, .int a1), (2, .int a2), (3, .int a3), (4, .int a4), (5, .int (1 : Int32)), (6, .int (1 : Int32))] rfl ?_
                refine x_loop (s_X12_put_L77 C hret hdd a0 a1 a2 a3 a4) e281 ?_
                refine x_iconst C dX12_put_119 ki_4 ?_
                refine x_iload_n (v := a1) C dX12_put_120 rfl ?_
                refine x_imul C dX12_put_121 ?_
                refine x_iload_n (v := a2) C dX12_put_122 rfl ?_
                refine x_iadd C dX12_put_123 ?_
                refine x_istore C dX12_put_124 (by decide) ?_
                refine x_iconst C dX12_put_126 ki_0 ?_
                refine x_istore C dX12_put_127 (by decide) ?_
                obtain ⟨q282, e283, hf⟩ := j_bind hf
                refine x_loc [(0, .ref a0), (3, .int a3), (4, .int a4), (5, .int q280.1.1), (6, .int (((4 : Int32) * a1) + a2)), (7, .int (0 : Int32))] rfl ?_
                refine x_loop (s_X12_put_L129 C hret hdd a0 a3 a4 q280.1.1 (((4 : Int32) * a1) + a2)) e283 ?_
                refine x_aload_n (v := a0) C dX12_put_196 rfl ?_
                obtain ⟨v284, e285, hf⟩ := j_bind hf
                refine x_get C dX12_put_197 (jgR_some e285) fg_X12_221 ?_
                refine x_iload (v := ((4 : Int32) * a1) + a2) C dX12_put_200 rfl ?_
                refine x_aload_n (v := a0) C dX12_put_202 rfl ?_
                obtain ⟨v286, e287, hf⟩ := j_bind hf
                refine x_get C dX12_put_203 (jgR_some e287) fg_X12_221 ?_
                refine x_iload (v := ((4 : Int32) * a1) + a2) C dX12_put_206 rfl ?_
                obtain ⟨v288, e289, hf⟩ := j_bind hf
                refine x_bald C dX12_put_208 e289 ?_
                refine x_if_ne (tgt := 217) C dX12_put_209 (by decide) (fun c428 => ?_) (fun c428 => ?_)
                · have hf := j_ifn hf c428
                  refine x_iconst C dX12_put_217 ki_1 ?_
                  refine x_goto (tgt := 222) C dX12_put_218 (by decide) ?_
                  obtain ⟨h290, e291, hf⟩ := j_bind hf
                  refine x_bast C dX12_put_222 e291 ?_
                  refine x_iload (v := q280.1.1) C dX12_put_223 rfl ?_
                  obtain ⟨u292, e293, hf⟩ := j_bind hf
                  obtain rfl := j_inj hf
                  exact x_zret C hret (jzb_some e293) dX12_put_225
                · have hf := j_ifp hf c428
                  refine x_iload (v := q280.1.1) C dX12_put_212 rfl ?_
                  refine x_if_eq (tgt := 221) C dX12_put_214 (by decide) (fun c429 => ?_) (fun c429 => ?_)
                  · have hf := j_ifp hf c429
                    refine x_iconst C dX12_put_221 ki_0 ?_
                    obtain ⟨h294, e295, hf⟩ := j_bind hf
                    refine x_bast C dX12_put_222 e295 ?_
                    refine x_iload (v := q280.1.1) C dX12_put_223 rfl ?_
                    obtain ⟨u296, e297, hf⟩ := j_bind hf
                    obtain rfl := j_inj hf
                    exact x_zret C hret (jzb_some e297) dX12_put_225
                  · have hf := j_ifn hf c429
                    refine x_iconst C dX12_put_217 ki_1 ?_
                    refine x_goto (tgt := 222) C dX12_put_218 (by decide) ?_
                    obtain ⟨h298, e299, hf⟩ := j_bind hf
                    refine x_bast C dX12_put_222 e299 ?_
                    refine x_iload (v := q280.1.1) C dX12_put_223 rfl ?_
                    obtain ⟨u300, e301, hf⟩ := j_bind hf
                    obtain rfl := j_inj hf
                    exact x_zret C hret (jzb_some e301) dX12_put_225
        · have hf := j_ifp hf c418
          refine x_iconst C dX12_put_42 ki_1 ?_
          refine x_goto (tgt := 47) C dX12_put_43 (by decide) ?_
          refine x_istore C dX12_put_47 (by decide) ?_
          refine x_iload_n (v := a3) C dX12_put_49 rfl ?_
          refine x_if_eq (tgt := 119) C dX12_put_50 (by decide) (fun c430 => ?_) (fun c430 => ?_)
          · have hf := j_ifp hf c430
            refine x_iconst C dX12_put_119 ki_4 ?_
            refine x_iload_n (v := a1) C dX12_put_120 rfl ?_
            refine x_imul C dX12_put_121 ?_
            refine x_iload_n (v := a2) C dX12_put_122 rfl ?_
            refine x_iadd C dX12_put_123 ?_
            refine x_istore C dX12_put_124 (by decide) ?_
            refine x_iconst C dX12_put_126 ki_0 ?_
            refine x_istore C dX12_put_127 (by decide) ?_
            obtain ⟨q302, e303, hf⟩ := j_bind hf
            refine x_loc [(0, .ref a0), (3, .int a3), (4, .int a4), (5, .int (1 : Int32)), (6, .int (((4 : Int32) * a1) + a2)), (7, .int (0 : Int32))] rfl ?_
            refine x_loop (s_X12_put_L129 C hret hdd a0 a3 a4 (1 : Int32) (((4 : Int32) * a1) + a2)) e303 ?_
            refine x_aload_n (v := a0) C dX12_put_196 rfl ?_
            obtain ⟨v304, e305, hf⟩ := j_bind hf
            refine x_get C dX12_put_197 (jgR_some e305) fg_X12_221 ?_
            refine x_iload (v := ((4 : Int32) * a1) + a2) C dX12_put_200 rfl ?_
            refine x_aload_n (v := a0) C dX12_put_202 rfl ?_
            obtain ⟨v306, e307, hf⟩ := j_bind hf
            refine x_get C dX12_put_203 (jgR_some e307) fg_X12_221 ?_
            refine x_iload (v := ((4 : Int32) * a1) + a2) C dX12_put_206 rfl ?_
            obtain ⟨v308, e309, hf⟩ := j_bind hf
            refine x_bald C dX12_put_208 e309 ?_
            refine x_if_ne (tgt := 217) C dX12_put_209 (by decide) (fun c431 => ?_) (fun c431 => ?_)
            · have hf := j_ifn hf c431
              refine x_iconst C dX12_put_217 ki_1 ?_
              refine x_goto (tgt := 222) C dX12_put_218 (by decide) ?_
              obtain ⟨h310, e311, hf⟩ := j_bind hf
              refine x_bast C dX12_put_222 e311 ?_
              refine x_iload (v := (1 : Int32)) C dX12_put_223 rfl ?_
              obtain ⟨u312, e313, hf⟩ := j_bind hf
              obtain rfl := j_inj hf
              exact x_zret C hret (jzb_some e313) dX12_put_225
            · have hf := j_ifp hf c431
              refine x_iload (v := (1 : Int32)) C dX12_put_212 rfl ?_
              refine x_if_eq (tgt := 221) C dX12_put_214 (by decide) (fun c432 => ?_) (fun c432 => ?_)
              · have hf := j_ifp hf c432
                refine x_iconst C dX12_put_221 ki_0 ?_
                obtain ⟨h314, e315, hf⟩ := j_bind hf
                refine x_bast C dX12_put_222 e315 ?_
                refine x_iload (v := (1 : Int32)) C dX12_put_223 rfl ?_
                obtain ⟨u316, e317, hf⟩ := j_bind hf
                obtain rfl := j_inj hf
                exact x_zret C hret (jzb_some e317) dX12_put_225
              · have hf := j_ifn hf c432
                refine x_iconst C dX12_put_217 ki_1 ?_
                refine x_goto (tgt := 222) C dX12_put_218 (by decide) ?_
                obtain ⟨h318, e319, hf⟩ := j_bind hf
                refine x_bast C dX12_put_222 e319 ?_
                refine x_iload (v := (1 : Int32)) C dX12_put_223 rfl ?_
                obtain ⟨u320, e321, hf⟩ := j_bind hf
                obtain rfl := j_inj hf
                exact x_zret C hret (jzb_some e321) dX12_put_225
          · have hf := j_ifn hf c430
            refine x_iload (v := (1 : Int32)) C dX12_put_53 rfl ?_
            refine x_if_eq (tgt := 71) C dX12_put_55 (by decide) (fun c433 => ?_) (fun c433 => ?_)
            · have hf := j_ifp hf c433
              refine x_iconst C dX12_put_71 ki_0 ?_
              refine x_istore C dX12_put_72 (by decide) ?_
              refine x_iconst C dX12_put_74 ki_1 ?_
              refine x_istore C dX12_put_75 (by decide) ?_
              obtain ⟨q322, e323, hf⟩ := j_bind hf
              refine x_loc [(0, .ref a0), (1, .int a1), (2, .int a2), (3, .int a3), (4, .int a4), (5, .int (0 : Int32)), (6, .int (1 : Int32))] rfl ?_
              refine x_loop (s_X12_put_L77 C hret hdd a0 a1 a2 a3 a4) e323 ?_
              refine x_iconst C dX12_put_119 ki_4 ?_
              refine x_iload_n (v := a1) C dX12_put_120 rfl ?_
              refine x_imul C dX12_put_121 ?_
              refine x_iload_n (v := a2) C dX12_put_122 rfl ?_
              refine x_iadd C dX12_put_123 ?_
              refine x_istore C dX12_put_124 (by decide) ?_
              refine x_iconst C dX12_put_126 ki_0 ?_
              refine x_istore C dX12_put_127 (by decide) ?_
              obtain ⟨q324, e325, hf⟩ := j_bind hf
              refine x_loc [(0, .ref a0), (3, .int a3), (4, .int a4), (5, .int q322.1.1), (6, .int (((4 : Int32) * a1) + a2)), (7, .int (0 : Int32))] rfl ?_
              refine x_loop (s_X12_put_L129 C hret hdd a0 a3 a4 q322.1.1 (((4 : Int32) * a1) + a2)) e325 ?_
              refine x_aload_n (v := a0) C dX12_put_196 rfl ?_
              obtain ⟨v326, e327, hf⟩ := j_bind hf
              refine x_get C dX12_put_197 (jgR_some e327) fg_X12_221 ?_
              refine x_iload (v := ((4 : Int32) * a1) + a2) C dX12_put_200 rfl ?_
              refine x_aload_n (v := a0) C dX12_put_202 rfl ?_
              obtain ⟨v328, e329, hf⟩ := j_bind hf
              refine x_get C dX12_put_203 (jgR_some e329) fg_X12_221 ?_
              refine x_iload (v := ((4 : Int32) * a1) + a2) C dX12_put_206 rfl ?_
              obtain ⟨v330, e331, hf⟩ := j_bind hf
              refine x_bald C dX12_put_208 e331 ?_
              refine x_if_ne (tgt := 217) C dX12_put_209 (by decide) (fun c434 => ?_) (fun c434 => ?_)
              · have hf := j_ifn hf c434
                refine x_iconst C dX12_put_217 ki_1 ?_
                refine x_goto (tgt := 222) C dX12_put_218 (by decide) ?_
                obtain ⟨h332, e333, hf⟩ := j_bind hf
                refine x_bast C dX12_put_222 e333 ?_
                refine x_iload (v := q322.1.1) C dX12_put_223 rfl ?_
                obtain ⟨u334, e335, hf⟩ := j_bind hf
                obtain rfl := j_inj hf
                exact x_zret C hret (jzb_some e335) dX12_put_225
              · have hf := j_ifp hf c434
                refine x_iload (v := q322.1.1) C dX12_put_212 rfl ?_
                refine x_if_eq (tgt := 221) C dX12_put_214 (by decide) (fun c435 => ?_) (fun c435 => ?_)
                · have hf := j_ifp hf c435
                  refine x_iconst C dX12_put_221 ki_0 ?_
                  obtain ⟨h336, e337, hf⟩ := j_bind hf
                  refine x_bast C dX12_put_222 e337 ?_
                  refine x_iload (v := q322.1.1) C dX12_put_223 rfl ?_
                  obtain ⟨u338, e339, hf⟩ := j_bind hf
                  obtain rfl := j_inj hf
                  exact x_zret C hret (jzb_some e339) dX12_put_225
                · have hf := j_ifn hf c435
                  refine x_iconst C dX12_put_217 ki_1 ?_
                  refine x_goto (tgt := 222) C dX12_put_218 (by decide) ?_
                  obtain ⟨h340, e341, hf⟩ := j_bind hf
                  refine x_bast C dX12_put_222 e341 ?_
                  refine x_iload (v := q322.1.1) C dX12_put_223 rfl ?_
                  obtain ⟨u342, e343, hf⟩ := j_bind hf
                  obtain rfl := j_inj hf
                  exact x_zret C hret (jzb_some e343) dX12_put_225
            · have hf := j_ifn hf c433
              refine x_iload (v := a4) C dX12_put_58 rfl ?_
              refine x_iconst C dX12_put_60 ki_1 ?_
              obtain ⟨q344, e345, hf⟩ := j_bind hf
              refine x_callS (As := [.int a4, .int (1 : Int32)]) (rest := []) C dX12_put_61 (m_X12_isTraced (l := l) (E := E) (d := d - 1) (by omega) e345) km_X12_isTraced lk_X12_310 ks_X12_isTraced rfl (by omega) (Nat.le_of_ble_eq_true rfl) (j_le_of (q_X12_isTraced e345)) (Or.inr (q_X12_isTraced e345)) ?_
              refine x_if_eq (tgt := 71) C dX12_put_64 (by decide) (fun c436 => ?_) (fun c436 => ?_)
              · have hf := j_ifp hf c436
                refine x_iconst C dX12_put_71 ki_0 ?_
                refine x_istore C dX12_put_72 (by decide) ?_
                refine x_iconst C dX12_put_74 ki_1 ?_
                refine x_istore C dX12_put_75 (by decide) ?_
                obtain ⟨q346, e347, hf⟩ := j_bind hf
                refine x_loc [(0, .ref a0), (1, .int a1), (2, .int a2), (3, .int a3), (4, .int a4), (5, .int (0 : Int32)), (6, .int (1 : Int32))] rfl ?_
                refine x_loop (s_X12_put_L77 C hret hdd a0 a1 a2 a3 a4) e347 ?_
                refine x_iconst C dX12_put_119 ki_4 ?_
                refine x_iload_n (v := a1) C dX12_put_120 rfl ?_
                refine x_imul C dX12_put_121 ?_
                refine x_iload_n (v := a2) C dX12_put_122 rfl ?_
                refine x_iadd C dX12_put_123 ?_
                refine x_istore C dX12_put_124 (by decide) ?_
                refine x_iconst C dX12_put_126 ki_0 ?_
                refine x_istore C dX12_put_127 (by decide) ?_
                obtain ⟨q348, e349, hf⟩ := j_bind hf
                refine x_loc [(0, .ref a0), (3, .int a3), (4, .int a4), (5, .int q346.1.1), (6, .int (((4 : Int32) * a1) + a2)), (7, .int (0 : Int32))] rfl ?_
                refine x_loop (s_X12_put_L129 C hret hdd a0 a3 a4 q346.1.1 (((4 : Int32) * a1) + a2)) e349 ?_
                refine x_aload_n (v := a0) C dX12_put_196 rfl ?_
                obtain ⟨v350, e351, hf⟩ := j_bind hf
                refine x_get C dX12_put_197 (jgR_some e351) fg_X12_221 ?_
                refine x_iload (v := ((4 : Int32) * a1) + a2) C dX12_put_200 rfl ?_
                refine x_aload_n (v := a0) C dX12_put_202 rfl ?_
                obtain ⟨v352, e353, hf⟩ := j_bind hf
                refine x_get C dX12_put_203 (jgR_some e353) fg_X12_221 ?_
                refine x_iload (v := ((4 : Int32) * a1) + a2) C dX12_put_206 rfl ?_
                obtain ⟨v354, e355, hf⟩ := j_bind hf
                refine x_bald C dX12_put_208 e355 ?_
                refine x_if_ne (tgt := 217) C dX12_put_209 (by decide) (fun c437 => ?_) (fun c437 => ?_)
                · have hf := j_ifn hf c437
                  refine x_iconst C dX12_put_217 ki_1 ?_
                  refine x_goto (tgt := 222) C dX12_put_218 (by decide) ?_
                  obtain ⟨h356, e357, hf⟩ := j_bind hf
                  refine x_bast C dX12_put_222 e357 ?_
                  refine x_iload (v := q346.1.1) C dX12_put_223 rfl ?_
                  obtain ⟨u358, e359, hf⟩ := j_bind hf
                  obtain rfl := j_inj hf
                  exact x_zret C hret (jzb_some e359) dX12_put_225
                · have hf := j_ifp hf c437
                  refine x_iload (v := q346.1.1) C dX12_put_212 rfl ?_
                  refine x_if_eq (tgt := 221) C dX12_put_214 (by decide) (fun c438 => ?_) (fun c438 => ?_)
                  · have hf := j_ifp hf c438
                    refine x_iconst C dX12_put_221 ki_0 ?_
                    obtain ⟨h360, e361, hf⟩ := j_bind hf
                    refine x_bast C dX12_put_222 e361 ?_
                    refine x_iload (v := q346.1.1) C dX12_put_223 rfl ?_
                    obtain ⟨u362, e363, hf⟩ := j_bind hf
                    obtain rfl := j_inj hf
                    exact x_zret C hret (jzb_some e363) dX12_put_225
                  · have hf := j_ifn hf c438
                    refine x_iconst C dX12_put_217 ki_1 ?_
                    refine x_goto (tgt := 222) C dX12_put_218 (by decide) ?_
                    obtain ⟨h364, e365, hf⟩ := j_bind hf
                    refine x_bast C dX12_put_222 e365 ?_
                    refine x_iload (v := q346.1.1) C dX12_put_223 rfl ?_
                    obtain ⟨u366, e367, hf⟩ := j_bind hf
                    obtain rfl := j_inj hf
                    exact x_zret C hret (jzb_some e367) dX12_put_225
              · have hf := j_ifn hf c436
                refine x_iconst C dX12_put_67 ki_1 ?_
                refine x_goto (tgt := 72) C dX12_put_68 (by decide) ?_
                refine x_istore C dX12_put_72 (by decide) ?_
                refine x_iconst C dX12_put_74 ki_1 ?_
                refine x_istore C dX12_put_75 (by decide) ?_
                obtain ⟨q368, e369, hf⟩ := j_bind hf
                refine x_loc [(0, .ref a0), (1, .int a1), (2, .int a2), (3, .int a3), (4, .int a4), (5, .int (1 : Int32)), (6, .int (1 : Int32))] rfl ?_
                refine x_loop (s_X12_put_L77 C hret hdd a0 a1 a2 a3 a4) e369 ?_
                refine x_iconst C dX12_put_119 ki_4 ?_
                refine x_iload_n (v := a1) C dX12_put_120 rfl ?_
                refine x_imul C dX12_put_121 ?_
                refine x_iload_n (v := a2) C dX12_put_122 rfl ?_
                refine x_iadd C dX12_put_123 ?_
                refine x_istore C dX12_put_124 (by decide) ?_
                refine x_iconst C dX12_put_126 ki_0 ?_
                refine x_istore C dX12_put_127 (by decide) ?_
                obtain ⟨q370, e371, hf⟩ := j_bind hf
                refine x_loc [(0, .ref a0), (3, .int a3), (4, .int a4), (5, .int q368.1.1), (6, .int (((4 : Int32) * a1) + a2)), (7, .int (0 : Int32))] rfl ?_
                refine x_loop (s_X12_put_L129 C hret hdd a0 a3 a4 q368.1.1 (((4 : Int32) * a1) + a2)) e371 ?_
                refine x_aload_n (v := a0) C dX12_put_196 rfl ?_
                obtain ⟨v372, e373, hf⟩ := j_bind hf
                refine x_get C dX12_put_197 (jgR_some e373) fg_X12_221 ?_
                refine x_iload (v := ((4 : Int32) * a1) + a2) C dX12_put_200 rfl ?_
                refine x_aload_n (v := a0) C dX12_put_202 rfl ?_
                obtain ⟨v374, e375, hf⟩ := j_bind hf
                refine x_get C dX12_put_203 (jgR_some e375) fg_X12_221 ?_
                refine x_iload (v := ((4 : Int32) * a1) + a2) C dX12_put_206 rfl ?_
                obtain ⟨v376, e377, hf⟩ := j_bind hf
                refine x_bald C dX12_put_208 e377 ?_
                refine x_if_ne (tgt := 217) C dX12_put_209 (by decide) (fun c439 => ?_) (fun c439 => ?_)
                · have hf := j_ifn hf c439
                  refine x_iconst C dX12_put_217 ki_1 ?_
                  refine x_goto (tgt := 222) C dX12_put_218 (by decide) ?_
                  obtain ⟨h378, e379, hf⟩ := j_bind hf
                  refine x_bast C dX12_put_222 e379 ?_
                  refine x_iload (v := q368.1.1) C dX12_put_223 rfl ?_
                  obtain ⟨u380, e381, hf⟩ := j_bind hf
                  obtain rfl := j_inj hf
                  exact x_zret C hret (jzb_some e381) dX12_put_225
                · have hf := j_ifp hf c439
                  refine x_iload (v := q368.1.1) C dX12_put_212 rfl ?_
                  refine x_if_eq (tgt := 221) C dX12_put_214 (by decide) (fun c440 => ?_) (fun c440 => ?_)
                  · have hf := j_ifp hf c440
                    refine x_iconst C dX12_put_221 ki_0 ?_
                    obtain ⟨h382, e383, hf⟩ := j_bind hf
                    refine x_bast C dX12_put_222 e383 ?_
                    refine x_iload (v := q368.1.1) C dX12_put_223 rfl ?_
                    obtain ⟨u384, e385, hf⟩ := j_bind hf
                    obtain rfl := j_inj hf
                    exact x_zret C hret (jzb_some e385) dX12_put_225
                  · have hf := j_ifn hf c440
                    refine x_iconst C dX12_put_217 ki_1 ?_
                    refine x_goto (tgt := 222) C dX12_put_218 (by decide) ?_
                    obtain ⟨h386, e387, hf⟩ := j_bind hf
                    refine x_bast C dX12_put_222 e387 ?_
                    refine x_iload (v := q368.1.1) C dX12_put_223 rfl ?_
                    obtain ⟨u388, e389, hf⟩ := j_bind hf
                    obtain rfl := j_inj hf
                    exact x_zret C hret (jzb_some e389) dX12_put_225
    · have hf := j_ifp hf c393
      refine x_iconst C dX12_put_23 ki_0 ?_
      obtain rfl := j_inj hf
      exact x_zret C hret (Or.inl rfl) dX12_put_24
set_option maxHeartbeats 4000000 in
set_option maxRecDepth 100000 in
theorem m_X12_row {l : Launch} {E : JE} {d : Nat} (hdd : 1 ≤ d) {a0 : Nat} {a1 : Int32} {a2 : Int32} {a3 : Int32} {h : JH} {q : Int64 × JH} (hf : f_X12_row a0 a1 a2 a3 h = some q) : Con l E d yX12_row cX12_row 4 (some .long) [.ref a0, .int a1, .int a2, .int a3] h (some (.long q.1)) q.2 := by
  refine j_start rfl (Nat.le_of_ble_eq_true rfl) ?_
  intro p e s m args below meth c C hret hnm
  refine x_loc [(0, .ref a0), (1, .int a1), (2, .int a2), (3, .int a3)] rfl ?_
  unfold f_X12_row at hf
  refine x_aload_n (v := a0) C dX12_row_0 rfl ?_
  refine x_iconst C dX12_row_1 ki_1 ?_
  obtain ⟨h1, e2, hf⟩ := j_bind hf
  refine x_put C dX12_row_2 e2 fp_X12_1 rfl rfl ?_
  refine x_iload_n (v := a1) C dX12_row_5 rfl ?_
  refine x_iconst C dX12_row_6 ki_0 ?_
  refine x_iconst C dX12_row_7 ki_1 ?_
  obtain ⟨q3, e4, hf⟩ := j_bind hf
  refine x_callS (As := [.int a1, .int (0 : Int32), .int (1 : Int32)]) (rest := []) C dX12_row_8 (m_X12_within (l := l) (E := E) (d := d - 1) (by omega) e4) km_X12_within lk_X12_45 ks_X12_within rfl (by omega) (Nat.le_of_ble_eq_true rfl) (j_le_of (q_X12_within e4)) (Or.inr (q_X12_within e4)) ?_
  refine x_if_eq (tgt := 59) C dX12_row_11 (by decide) (fun c31 => ?_) (fun c31 => ?_)
  · have hf := j_ifp hf c31
    refine x_lconst C dX12_row_59 kl_0 ?_
    obtain rfl := j_inj hf
    exact x_lret C hret dX12_row_60
  · have hf := j_ifn hf c31
    refine x_iload_n (v := a2) C dX12_row_14 rfl ?_
    refine x_iconst C dX12_row_15 ki_0 ?_
    refine x_iconst C dX12_row_16 ki_3 ?_
    obtain ⟨q5, e6, hf⟩ := j_bind hf
    refine x_callS (As := [.int a2, .int (0 : Int32), .int (3 : Int32)]) (rest := []) C dX12_row_17 (m_X12_within (l := l) (E := E) (d := d - 1) (by omega) e6) km_X12_within lk_X12_45 ks_X12_within rfl (by omega) (Nat.le_of_ble_eq_true rfl) (j_le_of (q_X12_within e6)) (Or.inr (q_X12_within e6)) ?_
    refine x_if_eq (tgt := 59) C dX12_row_20 (by decide) (fun c32 => ?_) (fun c32 => ?_)
    · have hf := j_ifp hf c32
      refine x_lconst C dX12_row_59 kl_0 ?_
      obtain rfl := j_inj hf
      exact x_lret C hret dX12_row_60
    · have hf := j_ifn hf c32
      refine x_aload_n (v := a0) C dX12_row_23 rfl ?_
      obtain ⟨v7, e8, hf⟩ := j_bind hf
      refine x_get C dX12_row_24 (jgR_some e8) fg_X12_221 ?_
      refine x_iconst C dX12_row_27 ki_4 ?_
      refine x_iload_n (v := a1) C dX12_row_28 rfl ?_
      refine x_imul C dX12_row_29 ?_
      refine x_iload_n (v := a2) C dX12_row_30 rfl ?_
      refine x_iadd C dX12_row_31 ?_
      obtain ⟨v9, e10, hf⟩ := j_bind hf
      refine x_bald C dX12_row_32 e10 ?_
      refine x_if_eq (tgt := 59) C dX12_row_33 (by decide) (fun c33 => ?_) (fun c33 => ?_)
      · have hf := j_ifp hf c33
        refine x_lconst C dX12_row_59 kl_0 ?_
        obtain rfl := j_inj hf
        exact x_lret C hret dX12_row_60
      · have hf := j_ifn hf c33
        refine x_iload_n (v := a3) C dX12_row_36 rfl ?_
        refine x_iconst C dX12_row_37 ki_0 ?_
        refine x_aload_n (v := a0) C dX12_row_38 rfl ?_
        refine x_iload_n (v := a1) C dX12_row_39 rfl ?_
        obtain ⟨u29, e30, hf⟩ := j_bind hf
        obtain ⟨q11, e12, hf⟩ := j_bind hf
        refine x_callV (As := [.int a1]) (rest := [.int (0 : Int32), .int a3]) C dX12_row_40 (m_X12_sortOf (l := l) (E := E) (d := d - 1) (by omega) e12) km_X12_sortOf lk_X12_368 kv_X12_sortOf (ci := 9) rfl e30 rfl (by omega) (Nat.le_of_ble_eq_true rfl) (j_le_of (q_X12_sortOf e12)) (Or.inr (q_X12_sortOf e12)) ?_
        refine x_if_ne (tgt := 51) C dX12_row_43 (by decide) (fun c34 => ?_) (fun c34 => ?_)
        · have hf := j_ifn hf c34
          refine x_bipush C dX12_row_51 kb_11 ?_
          obtain ⟨q13, e14, hf⟩ := j_bind hf
          refine x_callS (As := [.int a3, .int (0 : Int32), .int (11 : Int32)]) (rest := []) C dX12_row_53 (m_X12_within (l := l) (E := E) (d := d - 1) (by omega) e14) km_X12_within lk_X12_45 ks_X12_within rfl (by omega) (Nat.le_of_ble_eq_true rfl) (j_le_of (q_X12_within e14)) (Or.inr (q_X12_within e14)) ?_
          refine x_if_ne (tgt := 61) C dX12_row_56 (by decide) (fun c35 => ?_) (fun c35 => ?_)
          · have hf := j_ifn hf c35
            refine x_aload_n (v := a0) C dX12_row_61 rfl ?_
            refine x_iconst C dX12_row_62 ki_0 ?_
            obtain ⟨h15, e16, hf⟩ := j_bind hf
            refine x_put C dX12_row_63 e16 fp_X12_1 rfl rfl ?_
            refine x_aload_n (v := a0) C dX12_row_66 rfl ?_
            obtain ⟨v17, e18, hf⟩ := j_bind hf
            refine x_get C dX12_row_67 (jgR_some e18) fg_X12_250 ?_
            refine x_bipush C dX12_row_70 kb_13 ?_
            refine x_iconst C dX12_row_72 ki_4 ?_
            refine x_iload_n (v := a1) C dX12_row_73 rfl ?_
            refine x_imul C dX12_row_74 ?_
            refine x_iload_n (v := a2) C dX12_row_75 rfl ?_
            refine x_iadd C dX12_row_76 ?_
            refine x_imul C dX12_row_77 ?_
            refine x_iload_n (v := a3) C dX12_row_78 rfl ?_
            refine x_iadd C dX12_row_79 ?_
            obtain ⟨v19, e20, hf⟩ := j_bind hf
            refine x_lald C dX12_row_80 e20 ?_
            obtain rfl := j_inj hf
            exact x_lret C hret dX12_row_81
          · have hf := j_ifp hf c35
            refine x_lconst C dX12_row_59 kl_0 ?_
            obtain rfl := j_inj hf
            exact x_lret C hret dX12_row_60
        · have hf := j_ifp hf c34
          refine x_bipush C dX12_row_46 kb_12 ?_
          refine x_goto (tgt := 53) C dX12_row_48 (by decide) ?_
          obtain ⟨q21, e22, hf⟩ := j_bind hf
          refine x_callS (As := [.int a3, .int (0 : Int32), .int (12 : Int32)]) (rest := []) C dX12_row_53 (m_X12_within (l := l) (E := E) (d := d - 1) (by omega) e22) km_X12_within lk_X12_45 ks_X12_within rfl (by omega) (Nat.le_of_ble_eq_true rfl) (j_le_of (q_X12_within e22)) (Or.inr (q_X12_within e22)) ?_
          refine x_if_ne (tgt := 61) C dX12_row_56 (by decide) (fun c36 => ?_) (fun c36 => ?_)
          · have hf := j_ifn hf c36
            refine x_aload_n (v := a0) C dX12_row_61 rfl ?_
            refine x_iconst C dX12_row_62 ki_0 ?_
            obtain ⟨h23, e24, hf⟩ := j_bind hf
            refine x_put C dX12_row_63 e24 fp_X12_1 rfl rfl ?_
            refine x_aload_n (v := a0) C dX12_row_66 rfl ?_
            obtain ⟨v25, e26, hf⟩ := j_bind hf
            refine x_get C dX12_row_67 (jgR_some e26) fg_X12_250 ?_
            refine x_bipush C dX12_row_70 kb_13 ?_
            refine x_iconst C dX12_row_72 ki_4 ?_
            refine x_iload_n (v := a1) C dX12_row_73 rfl ?_
            refine x_imul C dX12_row_74 ?_
            refine x_iload_n (v := a2) C dX12_row_75 rfl ?_
            refine x_iadd C dX12_row_76 ?_
            refine x_imul C dX12_row_77 ?_
            refine x_iload_n (v := a3) C dX12_row_78 rfl ?_
            refine x_iadd C dX12_row_79 ?_
            obtain ⟨v27, e28, hf⟩ := j_bind hf
            refine x_lald C dX12_row_80 e28 ?_
            obtain rfl := j_inj hf
            exact x_lret C hret dX12_row_81
          · have hf := j_ifp hf c36
            refine x_lconst C dX12_row_59 kl_0 ?_
            obtain rfl := j_inj hf
            exact x_lret C hret dX12_row_60
set_option maxHeartbeats 4000000 in
set_option maxRecDepth 100000 in
theorem s_X12_swap_L17 {p : Program} {l : Launch} {e : Env} {R : Room} {s : State} {m : MethodId} {args : Array Value} {below : List Frame} {meth : Method} {c : Code} {E : JE} {h0 hF : JH} {rF : Option Value} {d : Nat} (C : j_C p s m args meth c R E cX12_swap 2 RX12 h0 hF d) (hret : meth.sig.returnType = (some .int)) (hdd : 0 ≤ d) (a0 : Nat) (z : Int32) (h : JH) (r : Int32 ⊕ Int32) (h1 : JH) (hf : f_X12_swap_L17 a0 z h = some (r, h1)) (hk : Sum.elim (fun z => Xw p l e R s m args below meth c E 2 h0 rF hF 17 [(0, .ref a0), (1, .int z)] [] h1) (fun t => Xw p l e R s m args below meth c E 2 h0 rF hF 36 [(0, .ref a0), (1, .int t)] [] h1) r) : Xw p l e R s m args below meth c E 2 h0 rF hF 17 [(0, .ref a0), (1, .int z)] [] h := by
  unfold f_X12_swap_L17 at hf
  refine x_iload_n (v := z) C dX12_swap_17 rfl ?_
  refine x_bipush C dX12_swap_18 kb_8 ?_
  refine x_icmp_ge (tgt := 36) C dX12_swap_20 (by decide) (fun c11 => ?_) (fun c11 => ?_)
  · have hf := j_ifp hf c11
    obtain ⟨rfl, rfl⟩ := j_inj2 hf
    exact x_locr hk rfl
  · have hf := j_ifn hf c11
    refine x_aload_n (v := a0) C dX12_swap_23 rfl ?_
    obtain ⟨v7, e8, hf⟩ := j_bind hf
    refine x_get C dX12_swap_24 (jgR_some e8) fg_X12_221 ?_
    refine x_iload_n (v := z) C dX12_swap_27 rfl ?_
    refine x_iconst C dX12_swap_28 ki_0 ?_
    obtain ⟨h9, e10, hf⟩ := j_bind hf
    refine x_bast C dX12_swap_29 e10 ?_
    refine x_iinc (v := z) C dX12_swap_30 rfl ki_1 (by decide) ?_
    refine x_goto (tgt := 17) C dX12_swap_33 (by decide) ?_
    obtain ⟨rfl, rfl⟩ := j_inj2 hf
    exact x_locr hk rfl
set_option maxHeartbeats 4000000 in
set_option maxRecDepth 100000 in
theorem m_X12_swap {l : Launch} {E : JE} {d : Nat} (hdd : 0 ≤ d) {a0 : Nat} {h : JH} {q : Int32 × JH} (hf : f_X12_swap a0 h = some q) : Con l E d yX12_swap cX12_swap 2 (some .int) [.ref a0] h (some (.int q.1)) q.2 := by
  refine j_start rfl (Nat.le_of_ble_eq_true rfl) ?_
  intro p e s m args below meth c C hret hnm
  refine x_loc [(0, .ref a0)] rfl ?_
  unfold f_X12_swap at hf
  refine x_aload_n (v := a0) C dX12_swap_0 rfl ?_
  refine x_iconst C dX12_swap_1 ki_0 ?_
  obtain ⟨h1, e2, hf⟩ := j_bind hf
  refine x_put C dX12_swap_2 e2 fp_X12_1 rfl rfl ?_
  refine x_aload_n (v := a0) C dX12_swap_5 rfl ?_
  refine x_iconst C dX12_swap_6 ki_1 ?_
  refine x_aload_n (v := a0) C dX12_swap_7 rfl ?_
  obtain ⟨v3, e4, hf⟩ := j_bind hf
  refine x_get C dX12_swap_8 (jgI_some e4) fg_X12_365 ?_
  refine x_isub C dX12_swap_11 ?_
  obtain ⟨h5, e6, hf⟩ := j_bind hf
  refine x_put C dX12_swap_12 e6 fp_X12_365 rfl rfl ?_
  refine x_iconst C dX12_swap_15 ki_0 ?_
  refine x_istore_n C dX12_swap_16 (by decide) ?_
  obtain ⟨q12, e13, hf⟩ := j_bind hf
  refine x_loc [(0, .ref a0), (1, .int (0 : Int32))] rfl ?_
  refine x_loop (s_X12_swap_L17 C hret hdd a0) e13 ?_
  refine x_aload_n (v := a0) C dX12_swap_36 rfl ?_
  obtain ⟨v14, e15, hf⟩ := j_bind hf
  refine x_get C dX12_swap_37 (jgI_some e15) fg_X12_365 ?_
  obtain rfl := j_inj hf
  exact x_iret C hret dX12_swap_40
set_option maxHeartbeats 4000000 in
set_option maxRecDepth 100000 in
theorem s_X12_image_L44 {p : Program} {l : Launch} {e : Env} {R : Room} {s : State} {m : MethodId} {args : Array Value} {below : List Frame} {meth : Method} {c : Code} {E : JE} {h0 hF : JH} {rF : Option Value} {d : Nat} (C : j_C p s m args meth c R E cX12_image 4 RX12 h0 hF d) (hret : meth.sig.returnType = (some .boolean)) (hdd : 1 ≤ d) (a0 : Nat) (a1 : Int32) (a2 : Int32) (z : Int32) (h : JH) (r : Int32 ⊕ Int32) (h1 : JH) (hf : f_X12_image_L44 a0 a1 a2 z h = some (r, h1)) (hk : Sum.elim (fun z => Xw p l e R s m args below meth c E 4 h0 rF hF 44 [(0, .ref a0), (1, .int a1), (2, .int a2), (3, .int z)] [] h1) (fun t => Xw p l e R s m args below meth c E 4 h0 rF hF 94 [(0, .ref a0), (1, .int a1), (2, .int a2), (3, .int t)] [] h1) r) : Xw p l e R s m args below meth c E 4 h0 rF hF 44 [(0, .ref a0), (1, .int a1), (2, .int a2), (3, .int z)] [] h := by
  unfold f_X12_image_L44 at hf
  refine x_iload_n (v := z) C dX12_image_44 rfl ?_
  refine x_iconst C dX12_image_45 ki_4 ?_
  refine x_icmp_ge (tgt := 94) C dX12_image_46 (by decide) (fun c21 => ?_) (fun c21 => ?_)
  · have hf := j_ifp hf c21
    obtain ⟨rfl, rfl⟩ := j_inj2 hf
    exact x_locr hk rfl
  · have hf := j_ifn hf c21
    refine x_iload_n (v := a2) C dX12_image_49 rfl ?_
    refine x_if_eq (tgt := 72) C dX12_image_50 (by decide) (fun c22 => ?_) (fun c22 => ?_)
    · have hf := j_ifp hf c22
      refine x_aload_n (v := a0) C dX12_image_72 rfl ?_
      obtain ⟨v5, e6, hf⟩ := j_bind hf
      refine x_get C dX12_image_73 (jgR_some e6) fg_X12_257 ?_
      refine x_iconst C dX12_image_76 ki_4 ?_
      refine x_iload_n (v := a1) C dX12_image_77 rfl ?_
      refine x_imul C dX12_image_78 ?_
      refine x_iload_n (v := z) C dX12_image_79 rfl ?_
      refine x_iadd C dX12_image_80 ?_
      refine x_aload_n (v := a0) C dX12_image_81 rfl ?_
      obtain ⟨v7, e8, hf⟩ := j_bind hf
      refine x_get C dX12_image_82 (jgR_some e8) fg_X12_215 ?_
      refine x_iload_n (v := z) C dX12_image_85 rfl ?_
      obtain ⟨v9, e10, hf⟩ := j_bind hf
      refine x_iald C dX12_image_86 e10 ?_
      obtain ⟨h11, e12, hf⟩ := j_bind hf
      refine x_iast C dX12_image_87 e12 ?_
      refine x_iinc (v := z) C dX12_image_88 rfl ki_1 (by decide) ?_
      refine x_goto (tgt := 44) C dX12_image_91 (by decide) ?_
      obtain ⟨rfl, rfl⟩ := j_inj2 hf
      exact x_locr hk rfl
    · have hf := j_ifn hf c22
      refine x_aload_n (v := a0) C dX12_image_53 rfl ?_
      obtain ⟨v13, e14, hf⟩ := j_bind hf
      refine x_get C dX12_image_54 (jgR_some e14) fg_X12_215 ?_
      refine x_iload_n (v := z) C dX12_image_57 rfl ?_
      refine x_aload_n (v := a0) C dX12_image_58 rfl ?_
      obtain ⟨v15, e16, hf⟩ := j_bind hf
      refine x_get C dX12_image_59 (jgR_some e16) fg_X12_257 ?_
      refine x_iconst C dX12_image_62 ki_4 ?_
      refine x_iload_n (v := a1) C dX12_image_63 rfl ?_
      refine x_imul C dX12_image_64 ?_
      refine x_iload_n (v := z) C dX12_image_65 rfl ?_
      refine x_iadd C dX12_image_66 ?_
      obtain ⟨v17, e18, hf⟩ := j_bind hf
      refine x_iald C dX12_image_67 e18 ?_
      obtain ⟨h19, e20, hf⟩ := j_bind hf
      refine x_iast C dX12_image_68 e20 ?_
      refine x_goto (tgt := 88) C dX12_image_69 (by decide) ?_
      refine x_iinc (v := z) C dX12_image_88 rfl ki_1 (by decide) ?_
      refine x_goto (tgt := 44) C dX12_image_91 (by decide) ?_
      obtain ⟨rfl, rfl⟩ := j_inj2 hf
      exact x_locr hk rfl
set_option maxHeartbeats 4000000 in
set_option maxRecDepth 100000 in
theorem s_X12_image_L96 {p : Program} {l : Launch} {e : Env} {R : Room} {s : State} {m : MethodId} {args : Array Value} {below : List Frame} {meth : Method} {c : Code} {E : JE} {h0 hF : JH} {rF : Option Value} {d : Nat} (C : j_C p s m args meth c R E cX12_image 4 RX12 h0 hF d) (hret : meth.sig.returnType = (some .boolean)) (hdd : 1 ≤ d) (a0 : Nat) (a1 : Int32) (a2 : Int32) (z : Int32) (h : JH) (r : Int32 ⊕ Int32) (h1 : JH) (hf : f_X12_image_L96 a0 a1 a2 z h = some (r, h1)) (hk : Sum.elim (fun z => Xw p l e R s m args below meth c E 4 h0 rF hF 96 [(0, .ref a0), (1, .int a1), (2, .int a2), (3, .int z)] [] h1) (fun t => Xw p l e R s m args below meth c E 4 h0 rF hF 152 [(0, .ref a0), (1, .int a1), (2, .int a2), (3, .int t)] [] h1) r) : Xw p l e R s m args below meth c E 4 h0 rF hF 96 [(0, .ref a0), (1, .int a1), (2, .int a2), (3, .int z)] [] h := by
  unfold f_X12_image_L96 at hf
  refine x_iload_n (v := z) C dX12_image_96 rfl ?_
  refine x_sipush C dX12_image_97 ks_724 ?_
  refine x_icmp_ge (tgt := 152) C dX12_image_100 (by decide) (fun c41 => ?_) (fun c41 => ?_)
  · have hf := j_ifp hf c41
    obtain ⟨rfl, rfl⟩ := j_inj2 hf
    exact x_locr hk rfl
  · have hf := j_ifn hf c41
    refine x_iload_n (v := a2) C dX12_image_103 rfl ?_
    refine x_if_eq (tgt := 128) C dX12_image_104 (by decide) (fun c42 => ?_) (fun c42 => ?_)
    · have hf := j_ifp hf c42
      refine x_aload_n (v := a0) C dX12_image_128 rfl ?_
      obtain ⟨v25, e26, hf⟩ := j_bind hf
      refine x_get C dX12_image_129 (jgR_some e26) fg_X12_260 ?_
      refine x_sipush C dX12_image_132 ks_724 ?_
      refine x_iload_n (v := a1) C dX12_image_135 rfl ?_
      refine x_imul C dX12_image_136 ?_
      refine x_iload_n (v := z) C dX12_image_137 rfl ?_
      refine x_iadd C dX12_image_138 ?_
      refine x_aload_n (v := a0) C dX12_image_139 rfl ?_
      obtain ⟨v27, e28, hf⟩ := j_bind hf
      refine x_get C dX12_image_140 (jgR_some e28) fg_X12_218 ?_
      refine x_iload_n (v := z) C dX12_image_143 rfl ?_
      obtain ⟨v29, e30, hf⟩ := j_bind hf
      refine x_iald C dX12_image_144 e30 ?_
      obtain ⟨h31, e32, hf⟩ := j_bind hf
      refine x_iast C dX12_image_145 e32 ?_
      refine x_iinc (v := z) C dX12_image_146 rfl ki_1 (by decide) ?_
      refine x_goto (tgt := 96) C dX12_image_149 (by decide) ?_
      obtain ⟨rfl, rfl⟩ := j_inj2 hf
      exact x_locr hk rfl
    · have hf := j_ifn hf c42
      refine x_aload_n (v := a0) C dX12_image_107 rfl ?_
      obtain ⟨v33, e34, hf⟩ := j_bind hf
      refine x_get C dX12_image_108 (jgR_some e34) fg_X12_218 ?_
      refine x_iload_n (v := z) C dX12_image_111 rfl ?_
      refine x_aload_n (v := a0) C dX12_image_112 rfl ?_
      obtain ⟨v35, e36, hf⟩ := j_bind hf
      refine x_get C dX12_image_113 (jgR_some e36) fg_X12_260 ?_
      refine x_sipush C dX12_image_116 ks_724 ?_
      refine x_iload_n (v := a1) C dX12_image_119 rfl ?_
      refine x_imul C dX12_image_120 ?_
      refine x_iload_n (v := z) C dX12_image_121 rfl ?_
      refine x_iadd C dX12_image_122 ?_
      obtain ⟨v37, e38, hf⟩ := j_bind hf
      refine x_iald C dX12_image_123 e38 ?_
      obtain ⟨h39, e40, hf⟩ := j_bind hf
      refine x_iast C dX12_image_124 e40 ?_
      refine x_goto (tgt := 146) C dX12_image_125 (by decide) ?_
      refine x_iinc (v := z) C dX12_image_146 rfl ki_1 (by decide) ?_
      refine x_goto (tgt := 96) C dX12_image_149 (by decide) ?_
      obtain ⟨rfl, rfl⟩ := j_inj2 hf
      exact x_locr hk rfl
set_option maxHeartbeats 4000000 in
set_option maxRecDepth 100000 in
theorem s_X12_image_L154 {p : Program} {l : Launch} {e : Env} {R : Room} {s : State} {m : MethodId} {args : Array Value} {below : List Frame} {meth : Method} {c : Code} {E : JE} {h0 hF : JH} {rF : Option Value} {d : Nat} (C : j_C p s m args meth c R E cX12_image 4 RX12 h0 hF d) (hret : meth.sig.returnType = (some .boolean)) (hdd : 1 ≤ d) (a0 : Nat) (a1 : Int32) (a2 : Int32) (z : Int32) (h : JH) (r : Int32 ⊕ Int32) (h1 : JH) (hf : f_X12_image_L154 a0 a1 a2 z h = some (r, h1)) (hk : Sum.elim (fun z => Xw p l e R s m args below meth c E 4 h0 rF hF 154 [(0, .ref a0), (1, .int a1), (2, .int a2), (3, .int z)] [] h1) (fun t => Xw p l e R s m args below meth c E 4 h0 rF hF 207 [(0, .ref a0), (1, .int a1), (2, .int a2), (3, .int t)] [] h1) r) : Xw p l e R s m args below meth c E 4 h0 rF hF 154 [(0, .ref a0), (1, .int a1), (2, .int a2), (3, .int z)] [] h := by
  unfold f_X12_image_L154 at hf
  refine x_iload_n (v := z) C dX12_image_154 rfl ?_
  refine x_bipush C dX12_image_155 kb_8 ?_
  refine x_icmp_ge (tgt := 207) C dX12_image_157 (by decide) (fun c61 => ?_) (fun c61 => ?_)
  · have hf := j_ifp hf c61
    obtain ⟨rfl, rfl⟩ := j_inj2 hf
    exact x_locr hk rfl
  · have hf := j_ifn hf c61
    refine x_iload_n (v := a2) C dX12_image_160 rfl ?_
    refine x_if_eq (tgt := 184) C dX12_image_161 (by decide) (fun c62 => ?_) (fun c62 => ?_)
    · have hf := j_ifp hf c62
      refine x_aload_n (v := a0) C dX12_image_184 rfl ?_
      obtain ⟨v45, e46, hf⟩ := j_bind hf
      refine x_get C dX12_image_185 (jgR_some e46) fg_X12_263 ?_
      refine x_bipush C dX12_image_188 kb_8 ?_
      refine x_iload_n (v := a1) C dX12_image_190 rfl ?_
      refine x_imul C dX12_image_191 ?_
      refine x_iload_n (v := z) C dX12_image_192 rfl ?_
      refine x_iadd C dX12_image_193 ?_
      refine x_aload_n (v := a0) C dX12_image_194 rfl ?_
      obtain ⟨v47, e48, hf⟩ := j_bind hf
      refine x_get C dX12_image_195 (jgR_some e48) fg_X12_221 ?_
      refine x_iload_n (v := z) C dX12_image_198 rfl ?_
      obtain ⟨v49, e50, hf⟩ := j_bind hf
      refine x_bald C dX12_image_199 e50 ?_
      obtain ⟨h51, e52, hf⟩ := j_bind hf
      refine x_bast C dX12_image_200 e52 ?_
      refine x_iinc (v := z) C dX12_image_201 rfl ki_1 (by decide) ?_
      refine x_goto (tgt := 154) C dX12_image_204 (by decide) ?_
      obtain ⟨rfl, rfl⟩ := j_inj2 hf
      exact x_locr hk rfl
    · have hf := j_ifn hf c62
      refine x_aload_n (v := a0) C dX12_image_164 rfl ?_
      obtain ⟨v53, e54, hf⟩ := j_bind hf
      refine x_get C dX12_image_165 (jgR_some e54) fg_X12_221 ?_
      refine x_iload_n (v := z) C dX12_image_168 rfl ?_
      refine x_aload_n (v := a0) C dX12_image_169 rfl ?_
      obtain ⟨v55, e56, hf⟩ := j_bind hf
      refine x_get C dX12_image_170 (jgR_some e56) fg_X12_263 ?_
      refine x_bipush C dX12_image_173 kb_8 ?_
      refine x_iload_n (v := a1) C dX12_image_175 rfl ?_
      refine x_imul C dX12_image_176 ?_
      refine x_iload_n (v := z) C dX12_image_177 rfl ?_
      refine x_iadd C dX12_image_178 ?_
      obtain ⟨v57, e58, hf⟩ := j_bind hf
      refine x_bald C dX12_image_179 e58 ?_
      obtain ⟨h59, e60, hf⟩ := j_bind hf
      refine x_bast C dX12_image_180 e60 ?_
      refine x_goto (tgt := 201) C dX12_image_181 (by decide) ?_
      refine x_iinc (v := z) C dX12_image_201 rfl ki_1 (by decide) ?_
      refine x_goto (tgt := 154) C dX12_image_204 (by decide) ?_
      obtain ⟨rfl, rfl⟩ := j_inj2 hf
      exact x_locr hk rfl
set_option maxHeartbeats 4000000 in
set_option maxRecDepth 100000 in
theorem s_X12_image_L209 {p : Program} {l : Launch} {e : Env} {R : Room} {s : State} {m : MethodId} {args : Array Value} {below : List Frame} {meth : Method} {c : Code} {E : JE} {h0 hF : JH} {rF : Option Value} {d : Nat} (C : j_C p s m args meth c R E cX12_image 4 RX12 h0 hF d) (hret : meth.sig.returnType = (some .boolean)) (hdd : 1 ≤ d) (a0 : Nat) (a1 : Int32) (a2 : Int32) (z : Int32) (h : JH) (r : Int32 ⊕ Int32) (h1 : JH) (hf : f_X12_image_L209 a0 a1 a2 z h = some (r, h1)) (hk : Sum.elim (fun z => Xw p l e R s m args below meth c E 4 h0 rF hF 209 [(0, .ref a0), (1, .int a1), (2, .int a2), (3, .int z)] [] h1) (fun t => Xw p l e R s m args below meth c E 4 h0 rF hF 262 [(0, .ref a0), (1, .int a1), (2, .int a2), (3, .int t)] [] h1) r) : Xw p l e R s m args below meth c E 4 h0 rF hF 209 [(0, .ref a0), (1, .int a1), (2, .int a2), (3, .int z)] [] h := by
  unfold f_X12_image_L209 at hf
  refine x_iload_n (v := z) C dX12_image_209 rfl ?_
  refine x_bipush C dX12_image_210 kb_104 ?_
  refine x_icmp_ge (tgt := 262) C dX12_image_212 (by decide) (fun c81 => ?_) (fun c81 => ?_)
  · have hf := j_ifp hf c81
    obtain ⟨rfl, rfl⟩ := j_inj2 hf
    exact x_locr hk rfl
  · have hf := j_ifn hf c81
    refine x_iload_n (v := a2) C dX12_image_215 rfl ?_
    refine x_if_eq (tgt := 239) C dX12_image_216 (by decide) (fun c82 => ?_) (fun c82 => ?_)
    · have hf := j_ifp hf c82
      refine x_aload_n (v := a0) C dX12_image_239 rfl ?_
      obtain ⟨v65, e66, hf⟩ := j_bind hf
      refine x_get C dX12_image_240 (jgR_some e66) fg_X12_266 ?_
      refine x_bipush C dX12_image_243 kb_104 ?_
      refine x_iload_n (v := a1) C dX12_image_245 rfl ?_
      refine x_imul C dX12_image_246 ?_
      refine x_iload_n (v := z) C dX12_image_247 rfl ?_
      refine x_iadd C dX12_image_248 ?_
      refine x_aload_n (v := a0) C dX12_image_249 rfl ?_
      obtain ⟨v67, e68, hf⟩ := j_bind hf
      refine x_get C dX12_image_250 (jgR_some e68) fg_X12_250 ?_
      refine x_iload_n (v := z) C dX12_image_253 rfl ?_
      obtain ⟨v69, e70, hf⟩ := j_bind hf
      refine x_lald C dX12_image_254 e70 ?_
      obtain ⟨h71, e72, hf⟩ := j_bind hf
      refine x_last C dX12_image_255 e72 ?_
      refine x_iinc (v := z) C dX12_image_256 rfl ki_1 (by decide) ?_
      refine x_goto (tgt := 209) C dX12_image_259 (by decide) ?_
      obtain ⟨rfl, rfl⟩ := j_inj2 hf
      exact x_locr hk rfl
    · have hf := j_ifn hf c82
      refine x_aload_n (v := a0) C dX12_image_219 rfl ?_
      obtain ⟨v73, e74, hf⟩ := j_bind hf
      refine x_get C dX12_image_220 (jgR_some e74) fg_X12_250 ?_
      refine x_iload_n (v := z) C dX12_image_223 rfl ?_
      refine x_aload_n (v := a0) C dX12_image_224 rfl ?_
      obtain ⟨v75, e76, hf⟩ := j_bind hf
      refine x_get C dX12_image_225 (jgR_some e76) fg_X12_266 ?_
      refine x_bipush C dX12_image_228 kb_104 ?_
      refine x_iload_n (v := a1) C dX12_image_230 rfl ?_
      refine x_imul C dX12_image_231 ?_
      refine x_iload_n (v := z) C dX12_image_232 rfl ?_
      refine x_iadd C dX12_image_233 ?_
      obtain ⟨v77, e78, hf⟩ := j_bind hf
      refine x_lald C dX12_image_234 e78 ?_
      obtain ⟨h79, e80, hf⟩ := j_bind hf
      refine x_last C dX12_image_235 e80 ?_
      refine x_goto (tgt := 256) C dX12_image_236 (by decide) ?_
      refine x_iinc (v := z) C dX12_image_256 rfl ki_1 (by decide) ?_
      refine x_goto (tgt := 209) C dX12_image_259 (by decide) ?_
      obtain ⟨rfl, rfl⟩ := j_inj2 hf
      exact x_locr hk rfl
set_option maxHeartbeats 4000000 in
set_option maxRecDepth 100000 in
theorem m_X12_image {l : Launch} {E : JE} {d : Nat} (hdd : 1 ≤ d) {a0 : Nat} {a1 : Int32} {a2 : Int32} {h : JH} {q : Int32 × JH} (hf : f_X12_image a0 a1 a2 h = some q) : Con l E d yX12_image cX12_image 4 (some .boolean) [.ref a0, .int a1, .int a2] h (some (.int q.1)) q.2 := by
  refine j_start rfl (Nat.le_of_ble_eq_true rfl) ?_
  intro p e s m args below meth c C hret hnm
  refine x_loc [(0, .ref a0), (1, .int a1), (2, .int a2)] rfl ?_
  unfold f_X12_image at hf
  refine x_aload_n (v := a0) C dX12_image_0 rfl ?_
  refine x_iconst C dX12_image_1 ki_0 ?_
  obtain ⟨h1, e2, hf⟩ := j_bind hf
  refine x_put C dX12_image_2 e2 fp_X12_1 rfl rfl ?_
  refine x_iload_n (v := a1) C dX12_image_5 rfl ?_
  refine x_iconst C dX12_image_6 ki_0 ?_
  refine x_iconst C dX12_image_7 ki_1 ?_
  obtain ⟨q3, e4, hf⟩ := j_bind hf
  refine x_callS (As := [.int a1, .int (0 : Int32), .int (1 : Int32)]) (rest := []) C dX12_image_8 (m_X12_within (l := l) (E := E) (d := d - 1) (by omega) e4) km_X12_within lk_X12_45 ks_X12_within rfl (by omega) (Nat.le_of_ble_eq_true rfl) (j_le_of (q_X12_within e4)) (Or.inr (q_X12_within e4)) ?_
  refine x_if_eq (tgt := 40) C dX12_image_11 (by decide) (fun c123 => ?_) (fun c123 => ?_)
  · have hf := j_ifp hf c123
    refine x_iconst C dX12_image_40 ki_0 ?_
    obtain rfl := j_inj hf
    exact x_zret C hret (Or.inl rfl) dX12_image_41
  · have hf := j_ifn hf c123
    refine x_iload_n (v := a2) C dX12_image_14 rfl ?_
    refine x_if_eq (tgt := 42) C dX12_image_15 (by decide) (fun c124 => ?_) (fun c124 => ?_)
    · have hf := j_ifp hf c124
      refine x_iconst C dX12_image_42 ki_0 ?_
      refine x_istore_n C dX12_image_43 (by decide) ?_
      obtain ⟨q23, e24, hf⟩ := j_bind hf
      refine x_loc [(0, .ref a0), (1, .int a1), (2, .int a2), (3, .int (0 : Int32))] rfl ?_
      refine x_loop (s_X12_image_L44 C hret hdd a0 a1 a2) e24 ?_
      refine x_iconst C dX12_image_94 ki_0 ?_
      refine x_istore_n C dX12_image_95 (by decide) ?_
      obtain ⟨q43, e44, hf⟩ := j_bind hf
      refine x_loc [(0, .ref a0), (1, .int a1), (2, .int a2), (3, .int (0 : Int32))] rfl ?_
      refine x_loop (s_X12_image_L96 C hret hdd a0 a1 a2) e44 ?_
      refine x_iconst C dX12_image_152 ki_0 ?_
      refine x_istore_n C dX12_image_153 (by decide) ?_
      obtain ⟨q63, e64, hf⟩ := j_bind hf
      refine x_loc [(0, .ref a0), (1, .int a1), (2, .int a2), (3, .int (0 : Int32))] rfl ?_
      refine x_loop (s_X12_image_L154 C hret hdd a0 a1 a2) e64 ?_
      refine x_iconst C dX12_image_207 ki_0 ?_
      refine x_istore_n C dX12_image_208 (by decide) ?_
      obtain ⟨q83, e84, hf⟩ := j_bind hf
      refine x_loc [(0, .ref a0), (1, .int a1), (2, .int a2), (3, .int (0 : Int32))] rfl ?_
      refine x_loop (s_X12_image_L209 C hret hdd a0 a1 a2) e84 ?_
      refine x_iload_n (v := a2) C dX12_image_262 rfl ?_
      refine x_if_ne (tgt := 283) C dX12_image_263 (by decide) (fun c125 => ?_) (fun c125 => ?_)
      · have hf := j_ifn hf c125
        refine x_iconst C dX12_image_283 ki_1 ?_
        obtain rfl := j_inj hf
        exact x_zret C hret (Or.inr rfl) dX12_image_284
      · have hf := j_ifp hf c125
        refine x_aload_n (v := a0) C dX12_image_266 rfl ?_
        obtain ⟨v85, e86, hf⟩ := j_bind hf
        refine x_get C dX12_image_267 (jgR_some e86) fg_X12_225 ?_
        refine x_iload_n (v := a1) C dX12_image_270 rfl ?_
        refine x_iconst C dX12_image_271 ki_1 ?_
        obtain ⟨h87, e88, hf⟩ := j_bind hf
        refine x_bast C dX12_image_272 e88 ?_
        refine x_aload_n (v := a0) C dX12_image_273 rfl ?_
        obtain ⟨v89, e90, hf⟩ := j_bind hf
        refine x_get C dX12_image_274 (jgR_some e90) fg_X12_254 ?_
        refine x_iload_n (v := a1) C dX12_image_277 rfl ?_
        refine x_aload_n (v := a0) C dX12_image_278 rfl ?_
        obtain ⟨v91, e92, hf⟩ := j_bind hf
        refine x_get C dX12_image_279 (jgI_some e92) fg_X12_365 ?_
        obtain ⟨h93, e94, hf⟩ := j_bind hf
        refine x_iast C dX12_image_282 e94 ?_
        refine x_iconst C dX12_image_283 ki_1 ?_
        obtain rfl := j_inj hf
        exact x_zret C hret (Or.inr rfl) dX12_image_284
    · have hf := j_ifn hf c124
      refine x_aload_n (v := a0) C dX12_image_18 rfl ?_
      obtain ⟨v95, e96, hf⟩ := j_bind hf
      refine x_get C dX12_image_19 (jgR_some e96) fg_X12_225 ?_
      refine x_iload_n (v := a1) C dX12_image_22 rfl ?_
      obtain ⟨v97, e98, hf⟩ := j_bind hf
      refine x_bald C dX12_image_23 e98 ?_
      refine x_if_eq (tgt := 40) C dX12_image_24 (by decide) (fun c126 => ?_) (fun c126 => ?_)
      · have hf := j_ifp hf c126
        refine x_iconst C dX12_image_40 ki_0 ?_
        obtain rfl := j_inj hf
        exact x_zret C hret (Or.inl rfl) dX12_image_41
      · have hf := j_ifn hf c126
        refine x_aload_n (v := a0) C dX12_image_27 rfl ?_
        obtain ⟨v99, e100, hf⟩ := j_bind hf
        refine x_get C dX12_image_28 (jgR_some e100) fg_X12_254 ?_
        refine x_iload_n (v := a1) C dX12_image_31 rfl ?_
        obtain ⟨v101, e102, hf⟩ := j_bind hf
        refine x_iald C dX12_image_32 e102 ?_
        refine x_aload_n (v := a0) C dX12_image_33 rfl ?_
        obtain ⟨v103, e104, hf⟩ := j_bind hf
        refine x_get C dX12_image_34 (jgI_some e104) fg_X12_365 ?_
        refine x_icmp_eq (tgt := 42) C dX12_image_37 (by decide) (fun c127 => ?_) (fun c127 => ?_)
        · have hf := j_ifp hf c127
          refine x_iconst C dX12_image_42 ki_0 ?_
          refine x_istore_n C dX12_image_43 (by decide) ?_
          obtain ⟨q105, e106, hf⟩ := j_bind hf
          refine x_loc [(0, .ref a0), (1, .int a1), (2, .int a2), (3, .int (0 : Int32))] rfl ?_
          refine x_loop (s_X12_image_L44 C hret hdd a0 a1 a2) e106 ?_
          refine x_iconst C dX12_image_94 ki_0 ?_
          refine x_istore_n C dX12_image_95 (by decide) ?_
          obtain ⟨q107, e108, hf⟩ := j_bind hf
          refine x_loc [(0, .ref a0), (1, .int a1), (2, .int a2), (3, .int (0 : Int32))] rfl ?_
          refine x_loop (s_X12_image_L96 C hret hdd a0 a1 a2) e108 ?_
          refine x_iconst C dX12_image_152 ki_0 ?_
          refine x_istore_n C dX12_image_153 (by decide) ?_
          obtain ⟨q109, e110, hf⟩ := j_bind hf
          refine x_loc [(0, .ref a0), (1, .int a1), (2, .int a2), (3, .int (0 : Int32))] rfl ?_
          refine x_loop (s_X12_image_L154 C hret hdd a0 a1 a2) e110 ?_
          refine x_iconst C dX12_image_207 ki_0 ?_
          refine x_istore_n C dX12_image_208 (by decide) ?_
          obtain ⟨q111, e112, hf⟩ := j_bind hf
          refine x_loc [(0, .ref a0), (1, .int a1), (2, .int a2), (3, .int (0 : Int32))] rfl ?_
          refine x_loop (s_X12_image_L209 C hret hdd a0 a1 a2) e112 ?_
          refine x_iload_n (v := a2) C dX12_image_262 rfl ?_
          refine x_if_ne (tgt := 283) C dX12_image_263 (by decide) (fun c128 => ?_) (fun c128 => ?_)
          · have hf := j_ifn hf c128
            refine x_iconst C dX12_image_283 ki_1 ?_
            obtain rfl := j_inj hf
            exact x_zret C hret (Or.inr rfl) dX12_image_284
          · have hf := j_ifp hf c128
            refine x_aload_n (v := a0) C dX12_image_266 rfl ?_
            obtain ⟨v113, e114, hf⟩ := j_bind hf
            refine x_get C dX12_image_267 (jgR_some e114) fg_X12_225 ?_
            refine x_iload_n (v := a1) C dX12_image_270 rfl ?_
            refine x_iconst C dX12_image_271 ki_1 ?_
            obtain ⟨h115, e116, hf⟩ := j_bind hf
            refine x_bast C dX12_image_272 e116 ?_
            refine x_aload_n (v := a0) C dX12_image_273 rfl ?_
            obtain ⟨v117, e118, hf⟩ := j_bind hf
            refine x_get C dX12_image_274 (jgR_some e118) fg_X12_254 ?_
            refine x_iload_n (v := a1) C dX12_image_277 rfl ?_
            refine x_aload_n (v := a0) C dX12_image_278 rfl ?_
            obtain ⟨v119, e120, hf⟩ := j_bind hf
            refine x_get C dX12_image_279 (jgI_some e120) fg_X12_365 ?_
            obtain ⟨h121, e122, hf⟩ := j_bind hf
            refine x_iast C dX12_image_282 e122 ?_
            refine x_iconst C dX12_image_283 ki_1 ?_
            obtain rfl := j_inj hf
            exact x_zret C hret (Or.inr rfl) dX12_image_284
        · have hf := j_ifn hf c127
          refine x_iconst C dX12_image_40 ki_0 ?_
          obtain rfl := j_inj hf
          exact x_zret C hret (Or.inl rfl) dX12_image_41
