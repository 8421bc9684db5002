set_option maxHeartbeats 4000000 in
set_option maxRecDepth 100000 in
theorem s_X12_laysPolynomial_L12 {p : Program} {l : Launch} {e : Env} {R : Room} {s : State} {m : MethodId} {args : Array Value} {below : List Frame} {meth : Method} {c : Code} {E : JE} {h0 hF : JH} {rF : Option Value} {d : Nat} (C : j_C p s m args meth c R E cX12_laysPolynomial 7 RX12 h0 hF d) (hret : meth.sig.returnType = none) (hdd : 1 ≤ d) (a0 : Nat) (z : Int32) (h : JH) (r : Int32 ⊕ Int32) (h1 : JH) (hf : f_X12_laysPolynomial_L12 a0 z h = some (r, h1)) (hk : Sum.elim (fun z => Xw p l e R s m args below meth c E 7 h0 rF hF 12 [(0, .ref a0), (1, .int z)] [] h1) (fun t => Xw p l e R s m args below meth c E 7 h0 rF hF 31 [(0, .ref a0), (1, .int t)] [] h1) r) : Xw p l e R s m args below meth c E 7 h0 rF hF 12 [(0, .ref a0), (1, .int z)] [] h := by
  unfold f_X12_laysPolynomial_L12 at hf
  refine x_iload_n (v := z) C dX12_laysPolynomial_12 rfl ?_
  refine x_bipush C dX12_laysPolynomial_13 kb_36 ?_
  refine x_icmp_ge (tgt := 31) C dX12_laysPolynomial_15 (by decide) (fun c11 => ?_) (fun c11 => ?_)
  · have hf := j_ifp hf c11
    obtain ⟨rfl, rfl⟩ := j_inj2 hf
    exact x_locr hk rfl
  · have hf := j_ifn hf c11
    refine x_aload_n (v := a0) C dX12_laysPolynomial_18 rfl ?_
    obtain ⟨v7, e8, hf⟩ := j_bind hf
    refine x_get C dX12_laysPolynomial_19 (jgR_some e8) fg_X12_239 ?_
    refine x_iload_n (v := z) C dX12_laysPolynomial_22 rfl ?_
    refine x_iconst C dX12_laysPolynomial_23 ki_0 ?_
    obtain ⟨h9, e10, hf⟩ := j_bind hf
    refine x_iast C dX12_laysPolynomial_24 e10 ?_
    refine x_iinc (v := z) C dX12_laysPolynomial_25 rfl ki_1 (by decide) ?_
    refine x_goto (tgt := 12) C dX12_laysPolynomial_28 (by decide) ?_
    obtain ⟨rfl, rfl⟩ := j_inj2 hf
    exact x_locr hk rfl
set_option maxHeartbeats 4000000 in
set_option maxRecDepth 100000 in
theorem s_X12_laysPolynomial_L43 {p : Program} {l : Launch} {e : Env} {R : Room} {s : State} {m : MethodId} {args : Array Value} {below : List Frame} {meth : Method} {c : Code} {E : JE} {h0 hF : JH} {rF : Option Value} {d : Nat} (C : j_C p s m args meth c R E cX12_laysPolynomial 7 RX12 h0 hF d) (hret : meth.sig.returnType = none) (hdd : 1 ≤ d) (a0 : Nat) (a1 : Int32) (z : Int32) (h : JH) (r : Int32 ⊕ Int32) (h1 : JH) (hf : f_X12_laysPolynomial_L43 a0 a1 z h = some (r, h1)) (hk : Sum.elim (fun z => Xw p l e R s m args below meth c E 7 h0 rF hF 43 [(0, .ref a0), (1, .int a1), (2, .int z)] [] h1) (fun t => Xw p l e R s m args below meth c E 7 h0 rF hF 94 [(0, .ref a0), (1, .int a1), (2, .int t)] [] h1) r) : Xw p l e R s m args below meth c E 7 h0 rF hF 43 [(0, .ref a0), (1, .int a1), (2, .int z)] [] h := by
  unfold f_X12_laysPolynomial_L43 at hf
  refine x_iload_n (v := z) C dX12_laysPolynomial_43 rfl ?_
  refine x_aload_n (v := a0) C dX12_laysPolynomial_44 rfl ?_
  obtain ⟨v16, e17, hf⟩ := j_bind hf
  refine x_get C dX12_laysPolynomial_45 (jgI_some e17) fg_X12_342 ?_
  refine x_icmp_ge (tgt := 94) C dX12_laysPolynomial_48 (by decide) (fun c36 => ?_) (fun c36 => ?_)
  · have hf := j_ifp hf c36
    obtain ⟨rfl, rfl⟩ := j_inj2 hf
    exact x_locr hk rfl
  · have hf := j_ifn hf c36
    refine x_aload_n (v := a0) C dX12_laysPolynomial_51 rfl ?_
    obtain ⟨v18, e19, hf⟩ := j_bind hf
    refine x_get C dX12_laysPolynomial_52 (jgR_some e19) fg_X12_239 ?_
    refine x_bipush C dX12_laysPolynomial_55 kb_7 ?_
    refine x_iload_n (v := z) C dX12_laysPolynomial_57 rfl ?_
    refine x_imul C dX12_laysPolynomial_58 ?_
    refine x_aload_n (v := a0) C dX12_laysPolynomial_59 rfl ?_
    refine x_aload_n (v := a0) C dX12_laysPolynomial_60 rfl ?_
    obtain ⟨v20, e21, hf⟩ := j_bind hf
    refine x_get C dX12_laysPolynomial_61 (jgR_some e21) fg_X12_239 ?_
    refine x_bipush C dX12_laysPolynomial_64 kb_7 ?_
    refine x_iload_n (v := z) C dX12_laysPolynomial_66 rfl ?_
    refine x_imul C dX12_laysPolynomial_67 ?_
    obtain ⟨v22, e23, hf⟩ := j_bind hf
    refine x_iald C dX12_laysPolynomial_68 e23 ?_
    refine x_aload_n (v := a0) C dX12_laysPolynomial_69 rfl ?_
    obtain ⟨v24, e25, hf⟩ := j_bind hf
    refine x_get C dX12_laysPolynomial_70 (jgR_some e25) fg_X12_236 ?_
    refine x_aload_n (v := a0) C dX12_laysPolynomial_73 rfl ?_
    obtain ⟨v26, e27, hf⟩ := j_bind hf
    refine x_get C dX12_laysPolynomial_74 (jgI_some e27) fg_X12_342 ?_
    refine x_iload_n (v := a1) C dX12_laysPolynomial_77 rfl ?_
    refine x_isub C dX12_laysPolynomial_78 ?_
    refine x_iconst C dX12_laysPolynomial_79 ki_1 ?_
    refine x_iadd C dX12_laysPolynomial_80 ?_
    obtain ⟨v28, e29, hf⟩ := j_bind hf
    refine x_iald C dX12_laysPolynomial_81 e29 ?_
    refine x_iadd C dX12_laysPolynomial_82 ?_
    refine x_i2l C dX12_laysPolynomial_83 ?_
    obtain ⟨u34, e35, hf⟩ := j_bind hf
    obtain ⟨q30, e31, hf⟩ := j_bind hf
    refine x_callV (As := [.long ((v22 + v28).toInt64)]) (rest := [.int ((7 : Int32) * z), .ref v18]) C dX12_laysPolynomial_84 (m_X12_left (l := l) (E := E) (d := d - 1) (by omega) e31) km_X12_left lk_X12_10 kv_X12_left (ci := 9) rfl e35 rfl (by omega) (Nat.le_of_ble_eq_true rfl) (j_le_of (q_X12_left e31)) (Or.inr (q_X12_left e31)) ?_
    obtain ⟨h32, e33, hf⟩ := j_bind hf
    refine x_iast C dX12_laysPolynomial_87 e33 ?_
    refine x_iinc (v := z) C dX12_laysPolynomial_88 rfl ki_1 (by decide) ?_
    refine x_goto (tgt := 43) C dX12_laysPolynomial_91 (by decide) ?_
    obtain ⟨rfl, rfl⟩ := j_inj2 hf
    exact x_locr hk rfl
set_option maxHeartbeats 4000000 in
set_option maxRecDepth 100000 in
theorem s_X12_laysPolynomial_L120 {p : Program} {l : Launch} {e : Env} {R : Room} {s : State} {m : MethodId} {args : Array Value} {below : List Frame} {meth : Method} {c : Code} {E : JE} {h0 hF : JH} {rF : Option Value} {d : Nat} (C : j_C p s m args meth c R E cX12_laysPolynomial 7 RX12 h0 hF d) (hret : meth.sig.returnType = none) (hdd : 1 ≤ d) (a0 : Nat) (a1 : Int32) (a2 : Int32) (a3 : Int32) (z : (Int64 × Int32)) (h : JH) (r : (Int64 × Int32) ⊕ (Int64 × Int32)) (h1 : JH) (hf : f_X12_laysPolynomial_L120 a0 a1 a2 a3 z h = some (r, h1)) (hk : Sum.elim (fun z => Xw p l e R s m args below meth c E 7 h0 rF hF 120 [(0, .ref a0), (1, .int a1), (2, .int a2), (3, .int a3), (4, .long z.1), (6, .int z.2)] [] h1) (fun t => Xw p l e R s m args below meth c E 7 h0 rF hF 167 [(0, .ref a0), (1, .int a1), (2, .int a2), (3, .int a3), (4, .long t.1), (6, .int t.2)] [] h1) r) : Xw p l e R s m args below meth c E 7 h0 rF hF 120 [(0, .ref a0), (1, .int a1), (2, .int a2), (3, .int a3), (4, .long z.1), (6, .int z.2)] [] h := by
  unfold f_X12_laysPolynomial_L120 at hf
  refine x_iload (v := z.2) C dX12_laysPolynomial_120 rfl ?_
  refine x_aload_n (v := a0) C dX12_laysPolynomial_122 rfl ?_
  obtain ⟨v43, e44, hf⟩ := j_bind hf
  refine x_get C dX12_laysPolynomial_123 (jgI_some e44) fg_X12_342 ?_
  refine x_icmp_ge (tgt := 167) C dX12_laysPolynomial_126 (by decide) (fun c53 => ?_) (fun c53 => ?_)
  · have hf := j_ifp hf c53
    obtain ⟨rfl, rfl⟩ := j_inj2 hf
    exact x_locr hk rfl
  · have hf := j_ifn hf c53
    refine x_lload (v := z.1) C dX12_laysPolynomial_129 rfl ?_
    refine x_aload_n (v := a0) C dX12_laysPolynomial_131 rfl ?_
    obtain ⟨v45, e46, hf⟩ := j_bind hf
    refine x_get C dX12_laysPolynomial_132 (jgR_some e46) fg_X12_233 ?_
    refine x_bipush C dX12_laysPolynomial_135 kb_6 ?_
    refine x_iload_n (v := a2) C dX12_laysPolynomial_137 rfl ?_
    refine x_imul C dX12_laysPolynomial_138 ?_
    refine x_iload (v := z.2) C dX12_laysPolynomial_139 rfl ?_
    refine x_iadd C dX12_laysPolynomial_141 ?_
    obtain ⟨v47, e48, hf⟩ := j_bind hf
    refine x_iald C dX12_laysPolynomial_142 e48 ?_
    refine x_i2l C dX12_laysPolynomial_143 ?_
    refine x_aload_n (v := a0) C dX12_laysPolynomial_144 rfl ?_
    obtain ⟨v49, e50, hf⟩ := j_bind hf
    refine x_get C dX12_laysPolynomial_145 (jgR_some e50) fg_X12_239 ?_
    refine x_bipush C dX12_laysPolynomial_148 kb_6 ?_
    refine x_iload (v := z.2) C dX12_laysPolynomial_150 rfl ?_
    refine x_imul C dX12_laysPolynomial_152 ?_
    refine x_iload_n (v := a3) C dX12_laysPolynomial_153 rfl ?_
    refine x_iadd C dX12_laysPolynomial_154 ?_
    obtain ⟨v51, e52, hf⟩ := j_bind hf
    refine x_iald C dX12_laysPolynomial_155 e52 ?_
    refine x_i2l C dX12_laysPolynomial_156 ?_
    refine x_lmul C dX12_laysPolynomial_157 ?_
    refine x_ladd C dX12_laysPolynomial_158 ?_
    refine x_lstore C dX12_laysPolynomial_159 (by decide) ?_
    refine x_iinc (v := z.2) C dX12_laysPolynomial_161 rfl ki_1 (by decide) ?_
    refine x_goto (tgt := 120) C dX12_laysPolynomial_164 (by decide) ?_
    obtain ⟨rfl, rfl⟩ := j_inj2 hf
    exact x_locr hk rfl
set_option maxHeartbeats 4000000 in
set_option maxRecDepth 100000 in
theorem s_X12_laysPolynomial_L106 {p : Program} {l : Launch} {e : Env} {R : Room} {s : State} {m : MethodId} {args : Array Value} {below : List Frame} {meth : Method} {c : Code} {E : JE} {h0 hF : JH} {rF : Option Value} {d : Nat} (C : j_C p s m args meth c R E cX12_laysPolynomial 7 RX12 h0 hF d) (hret : meth.sig.returnType = none) (hdd : 1 ≤ d) (a0 : Nat) (a1 : Int32) (a2 : Int32) (z : Int32) (h : JH) (r : Int32 ⊕ Int32) (h1 : JH) (hf : f_X12_laysPolynomial_L106 a0 a1 a2 z h = some (r, h1)) (hk : Sum.elim (fun z => Xw p l e R s m args below meth c E 7 h0 rF hF 106 [(0, .ref a0), (1, .int a1), (2, .int a2), (3, .int z)] [] h1) (fun t => Xw p l e R s m args below meth c E 7 h0 rF hF 190 [(0, .ref a0), (1, .int a1), (2, .int a2), (3, .int t)] [] h1) r) : Xw p l e R s m args below meth c E 7 h0 rF hF 106 [(0, .ref a0), (1, .int a1), (2, .int a2), (3, .int z)] [] h := by
  unfold f_X12_laysPolynomial_L106 at hf
  refine x_iload_n (v := z) C dX12_laysPolynomial_106 rfl ?_
  refine x_aload_n (v := a0) C dX12_laysPolynomial_107 rfl ?_
  obtain ⟨v41, e42, hf⟩ := j_bind hf
  refine x_get C dX12_laysPolynomial_108 (jgI_some e42) fg_X12_342 ?_
  refine x_icmp_ge (tgt := 190) C dX12_laysPolynomial_111 (by decide) (fun c53 => ?_) (fun c53 => ?_)
  · have hf := j_ifp hf c53
    obtain ⟨rfl, rfl⟩ := j_inj2 hf
    exact x_locr hk rfl
  · have hf := j_ifn hf c53
    refine x_lconst C dX12_laysPolynomial_114 kl_0 ?_
    refine x_lstore C dX12_laysPolynomial_115 (by decide) ?_
    refine x_iconst C dX12_laysPolynomial_117 ki_0 ?_
    refine x_istore C dX12_laysPolynomial_118 (by decide) ?_
    obtain ⟨q43, e44, hf⟩ := j_bind hf
    refine x_loc [(0, .ref a0), (1, .int a1), (2, .int a2), (3, .int z), (4, .long (0 : Int64)), (6, .int (0 : Int32))] rfl ?_
    refine x_loop (s_X12_laysPolynomial_L120 C hret hdd a0 a1 a2 z) e44 ?_
    refine x_aload_n (v := a0) C dX12_laysPolynomial_167 rfl ?_
    obtain ⟨v45, e46, hf⟩ := j_bind hf
    refine x_get C dX12_laysPolynomial_168 (jgR_some e46) fg_X12_241 ?_
    refine x_bipush C dX12_laysPolynomial_171 kb_6 ?_
    refine x_iload_n (v := a2) C dX12_laysPolynomial_173 rfl ?_
    refine x_imul C dX12_laysPolynomial_174 ?_
    refine x_iload_n (v := z) C dX12_laysPolynomial_175 rfl ?_
    refine x_iadd C dX12_laysPolynomial_176 ?_
    refine x_aload_n (v := a0) C dX12_laysPolynomial_177 rfl ?_
    refine x_lload (v := q43.1.1) C dX12_laysPolynomial_178 rfl ?_
    obtain ⟨u51, e52, hf⟩ := j_bind hf
    obtain ⟨q47, e48, hf⟩ := j_bind hf
    refine x_callV (As := [.long q43.1.1]) (rest := [.int (((6 : Int32) * a2) + z), .ref v45]) C dX12_laysPolynomial_180 (m_X12_left (l := l) (E := E) (d := d - 1) (by omega) e48) km_X12_left lk_X12_10 kv_X12_left (ci := 9) rfl e52 rfl (by omega) (Nat.le_of_ble_eq_true rfl) (j_le_of (q_X12_left e48)) (Or.inr (q_X12_left e48)) ?_
    obtain ⟨h49, e50, hf⟩ := j_bind hf
    refine x_iast C dX12_laysPolynomial_183 e50 ?_
    refine x_iinc (v := z) C dX12_laysPolynomial_184 rfl ki_1 (by decide) ?_
    refine x_goto (tgt := 106) C dX12_laysPolynomial_187 (by decide) ?_
    obtain ⟨rfl, rfl⟩ := j_inj2 hf
    exact x_locr hk rfl
set_option maxHeartbeats 4000000 in
set_option maxRecDepth 100000 in
theorem s_X12_laysPolynomial_L96 {p : Program} {l : Launch} {e : Env} {R : Room} {s : State} {m : MethodId} {args : Array Value} {below : List Frame} {meth : Method} {c : Code} {E : JE} {h0 hF : JH} {rF : Option Value} {d : Nat} (C : j_C p s m args meth c R E cX12_laysPolynomial 7 RX12 h0 hF d) (hret : meth.sig.returnType = none) (hdd : 1 ≤ d) (a0 : Nat) (a1 : Int32) (z : Int32) (h : JH) (r : Int32 ⊕ Int32) (h1 : JH) (hf : f_X12_laysPolynomial_L96 a0 a1 z h = some (r, h1)) (hk : Sum.elim (fun z => Xw p l e R s m args below meth c E 7 h0 rF hF 96 [(0, .ref a0), (1, .int a1), (2, .int z)] [] h1) (fun t => Xw p l e R s m args below meth c E 7 h0 rF hF 196 [(0, .ref a0), (1, .int a1), (2, .int t)] [] h1) r) : Xw p l e R s m args below meth c E 7 h0 rF hF 96 [(0, .ref a0), (1, .int a1), (2, .int z)] [] h := by
  unfold f_X12_laysPolynomial_L96 at hf
  refine x_iload_n (v := z) C dX12_laysPolynomial_96 rfl ?_
  refine x_aload_n (v := a0) C dX12_laysPolynomial_97 rfl ?_
  obtain ⟨v39, e40, hf⟩ := j_bind hf
  refine x_get C dX12_laysPolynomial_98 (jgI_some e40) fg_X12_342 ?_
  refine x_icmp_ge (tgt := 196) C dX12_laysPolynomial_101 (by decide) (fun c43 => ?_) (fun c43 => ?_)
  · have hf := j_ifp hf c43
    obtain ⟨rfl, rfl⟩ := j_inj2 hf
    exact x_locr hk rfl
  · have hf := j_ifn hf c43
    refine x_iconst C dX12_laysPolynomial_104 ki_0 ?_
    refine x_istore_n C dX12_laysPolynomial_105 (by decide) ?_
    obtain ⟨q41, e42, hf⟩ := j_bind hf
    refine x_loc [(0, .ref a0), (1, .int a1), (2, .int z), (3, .int (0 : Int32))] rfl ?_
    refine x_loop (s_X12_laysPolynomial_L106 C hret hdd a0 a1 z) e42 ?_
    refine x_iinc (v := z) C dX12_laysPolynomial_190 rfl ki_1 (by decide) ?_
    refine x_goto (tgt := 96) C dX12_laysPolynomial_193 (by decide) ?_
    obtain ⟨rfl, rfl⟩ := j_inj2 hf
    exact x_locr hk rfl
set_option maxHeartbeats 4000000 in
set_option maxRecDepth 100000 in
theorem s_X12_laysPolynomial_L201 {p : Program} {l : Launch} {e : Env} {R : Room} {s : State} {m : MethodId} {args : Array Value} {below : List Frame} {meth : Method} {c : Code} {E : JE} {h0 hF : JH} {rF : Option Value} {d : Nat} (C : j_C p s m args meth c R E cX12_laysPolynomial 7 RX12 h0 hF d) (hret : meth.sig.returnType = none) (hdd : 1 ≤ d) (a0 : Nat) (a1 : Int32) (a2 : Int64) (z : Int32) (h : JH) (r : Int32 ⊕ Int32) (h1 : JH) (hf : f_X12_laysPolynomial_L201 a0 a1 a2 z h = some (r, h1)) (hk : Sum.elim (fun z => Xw p l e R s m args below meth c E 7 h0 rF hF 201 [(0, .ref a0), (1, .int a1), (2, .long a2), (4, .int z)] [] h1) (fun t => Xw p l e R s m args below meth c E 7 h0 rF hF 228 [(0, .ref a0), (1, .int a1), (2, .long a2), (4, .int t)] [] h1) r) : Xw p l e R s m args below meth c E 7 h0 rF hF 201 [(0, .ref a0), (1, .int a1), (2, .long a2), (4, .int z)] [] h := by
  unfold f_X12_laysPolynomial_L201 at hf
  refine x_iload (v := z) C dX12_laysPolynomial_201 rfl ?_
  refine x_bipush C dX12_laysPolynomial_203 kb_36 ?_
  refine x_icmp_ge (tgt := 228) C dX12_laysPolynomial_205 (by decide) (fun c54 => ?_) (fun c54 => ?_)
  · have hf := j_ifp hf c54
    obtain ⟨rfl, rfl⟩ := j_inj2 hf
    exact x_locr hk rfl
  · have hf := j_ifn hf c54
    refine x_aload_n (v := a0) C dX12_laysPolynomial_208 rfl ?_
    obtain ⟨v46, e47, hf⟩ := j_bind hf
    refine x_get C dX12_laysPolynomial_209 (jgR_some e47) fg_X12_239 ?_
    refine x_iload (v := z) C dX12_laysPolynomial_212 rfl ?_
    refine x_aload_n (v := a0) C dX12_laysPolynomial_214 rfl ?_
    obtain ⟨v48, e49, hf⟩ := j_bind hf
    refine x_get C dX12_laysPolynomial_215 (jgR_some e49) fg_X12_241 ?_
    refine x_iload (v := z) C dX12_laysPolynomial_218 rfl ?_
    obtain ⟨v50, e51, hf⟩ := j_bind hf
    refine x_iald C dX12_laysPolynomial_220 e51 ?_
    obtain ⟨h52, e53, hf⟩ := j_bind hf
    refine x_iast C dX12_laysPolynomial_221 e53 ?_
    refine x_iinc (v := z) C dX12_laysPolynomial_222 rfl ki_1 (by decide) ?_
    refine x_goto (tgt := 201) C dX12_laysPolynomial_225 (by decide) ?_
    obtain ⟨rfl, rfl⟩ := j_inj2 hf
    exact x_locr hk rfl
set_option maxHeartbeats 4000000 in
set_option maxRecDepth 100000 in
theorem s_X12_laysPolynomial_L231 {p : Program} {l : Launch} {e : Env} {R : Room} {s : State} {m : MethodId} {args : Array Value} {below : List Frame} {meth : Method} {c : Code} {E : JE} {h0 hF : JH} {rF : Option Value} {d : Nat} (C : j_C p s m args meth c R E cX12_laysPolynomial 7 RX12 h0 hF d) (hret : meth.sig.returnType = none) (hdd : 1 ≤ d) (a0 : Nat) (a1 : Int32) (z : (Int64 × Int32)) (h : JH) (r : (Int64 × Int32) ⊕ (Int64 × Int32)) (h1 : JH) (hf : f_X12_laysPolynomial_L231 a0 a1 z h = some (r, h1)) (hk : Sum.elim (fun z => Xw p l e R s m args below meth c E 7 h0 rF hF 231 [(0, .ref a0), (1, .int a1), (2, .long z.1), (4, .int z.2)] [] h1) (fun t => Xw p l e R s m args below meth c E 7 h0 rF hF 260 [(0, .ref a0), (1, .int a1), (2, .long t.1), (4, .int t.2)] [] h1) r) : Xw p l e R s m args below meth c E 7 h0 rF hF 231 [(0, .ref a0), (1, .int a1), (2, .long z.1), (4, .int z.2)] [] h := by
  unfold f_X12_laysPolynomial_L231 at hf
  refine x_iload (v := z.2) C dX12_laysPolynomial_231 rfl ?_
  refine x_aload_n (v := a0) C dX12_laysPolynomial_233 rfl ?_
  obtain ⟨v57, e58, hf⟩ := j_bind hf
  refine x_get C dX12_laysPolynomial_234 (jgI_some e58) fg_X12_342 ?_
  refine x_icmp_ge (tgt := 260) C dX12_laysPolynomial_237 (by decide) (fun c63 => ?_) (fun c63 => ?_)
  · have hf := j_ifp hf c63
    obtain ⟨rfl, rfl⟩ := j_inj2 hf
    exact x_locr hk rfl
  · have hf := j_ifn hf c63
    refine x_lload_n (v := z.1) C dX12_laysPolynomial_240 rfl ?_
    refine x_aload_n (v := a0) C dX12_laysPolynomial_241 rfl ?_
    obtain ⟨v59, e60, hf⟩ := j_bind hf
    refine x_get C dX12_laysPolynomial_242 (jgR_some e60) fg_X12_239 ?_
    refine x_bipush C dX12_laysPolynomial_245 kb_7 ?_
    refine x_iload (v := z.2) C dX12_laysPolynomial_247 rfl ?_
    refine x_imul C dX12_laysPolynomial_249 ?_
    obtain ⟨v61, e62, hf⟩ := j_bind hf
    refine x_iald C dX12_laysPolynomial_250 e62 ?_
    refine x_i2l C dX12_laysPolynomial_251 ?_
    refine x_ladd C dX12_laysPolynomial_252 ?_
    refine x_lstore_n C dX12_laysPolynomial_253 (by decide) ?_
    refine x_iinc (v := z.2) C dX12_laysPolynomial_254 rfl ki_1 (by decide) ?_
    refine x_goto (tgt := 231) C dX12_laysPolynomial_257 (by decide) ?_
    obtain ⟨rfl, rfl⟩ := j_inj2 hf
    exact x_locr hk rfl
set_option maxHeartbeats 4000000 in
set_option maxRecDepth 100000 in
theorem s_X12_laysPolynomial_L33 {p : Program} {l : Launch} {e : Env} {R : Room} {s : State} {m : MethodId} {args : Array Value} {below : List Frame} {meth : Method} {c : Code} {E : JE} {h0 hF : JH} {rF : Option Value} {d : Nat} (C : j_C p s m args meth c R E cX12_laysPolynomial 7 RX12 h0 hF d) (hret : meth.sig.returnType = none) (hdd : 1 ≤ d) (a0 : Nat) (z : Int32) (h : JH) (r : Int32 ⊕ Int32) (h1 : JH) (hf : f_X12_laysPolynomial_L33 a0 z h = some (r, h1)) (hk : Sum.elim (fun z => Xw p l e R s m args below meth c E 7 h0 rF hF 33 [(0, .ref a0), (1, .int z)] [] h1) (fun t => Xw p l e R s m args below meth c E 7 h0 rF hF 296 [(0, .ref a0), (1, .int t)] [] h1) r) : Xw p l e R s m args below meth c E 7 h0 rF hF 33 [(0, .ref a0), (1, .int z)] [] h := by
  unfold f_X12_laysPolynomial_L33 at hf
  refine x_iload_n (v := z) C dX12_laysPolynomial_33 rfl ?_
  refine x_aload_n (v := a0) C dX12_laysPolynomial_34 rfl ?_
  obtain ⟨v14, e15, hf⟩ := j_bind hf
  refine x_get C dX12_laysPolynomial_35 (jgI_some e15) fg_X12_342 ?_
  refine x_icmp_gt (tgt := 296) C dX12_laysPolynomial_38 (by decide) (fun c42 => ?_) (fun c42 => ?_)
  · have hf := j_ifp hf c42
    obtain ⟨rfl, rfl⟩ := j_inj2 hf
    exact x_locr hk rfl
  · have hf := j_ifn hf c42
    refine x_iconst C dX12_laysPolynomial_41 ki_0 ?_
    refine x_istore_n C dX12_laysPolynomial_42 (by decide) ?_
    obtain ⟨q16, e17, hf⟩ := j_bind hf
    refine x_loc [(0, .ref a0), (1, .int z), (2, .int (0 : Int32))] rfl ?_
    refine x_loop (s_X12_laysPolynomial_L43 C hret hdd a0 z) e17 ?_
    refine x_iconst C dX12_laysPolynomial_94 ki_0 ?_
    refine x_istore_n C dX12_laysPolynomial_95 (by decide) ?_
    obtain ⟨q18, e19, hf⟩ := j_bind hf
    refine x_loc [(0, .ref a0), (1, .int z), (2, .int (0 : Int32))] rfl ?_
    refine x_loop (s_X12_laysPolynomial_L96 C hret hdd a0 z) e19 ?_
    refine x_lconst C dX12_laysPolynomial_196 kl_0 ?_
    refine x_lstore_n C dX12_laysPolynomial_197 (by decide) ?_
    refine x_iconst C dX12_laysPolynomial_198 ki_0 ?_
    refine x_istore C dX12_laysPolynomial_199 (by decide) ?_
    obtain ⟨q20, e21, hf⟩ := j_bind hf
    refine x_loc [(0, .ref a0), (1, .int z), (2, .long (0 : Int64)), (4, .int (0 : Int32))] rfl ?_
    refine x_loop (s_X12_laysPolynomial_L201 C hret hdd a0 z (0 : Int64)) e21 ?_
    refine x_iconst C dX12_laysPolynomial_228 ki_0 ?_
    refine x_istore C dX12_laysPolynomial_229 (by decide) ?_
    obtain ⟨q22, e23, hf⟩ := j_bind hf
    refine x_loc [(0, .ref a0), (1, .int z), (2, .long (0 : Int64)), (4, .int (0 : Int32))] rfl ?_
    refine x_loop (s_X12_laysPolynomial_L231 C hret hdd a0 z) e23 ?_
    refine x_aload_n (v := a0) C dX12_laysPolynomial_260 rfl ?_
    obtain ⟨v24, e25, hf⟩ := j_bind hf
    refine x_get C dX12_laysPolynomial_261 (jgR_some e25) fg_X12_236 ?_
    refine x_aload_n (v := a0) C dX12_laysPolynomial_264 rfl ?_
    obtain ⟨v26, e27, hf⟩ := j_bind hf
    refine x_get C dX12_laysPolynomial_265 (jgI_some e27) fg_X12_342 ?_
    refine x_iload_n (v := z) C dX12_laysPolynomial_268 rfl ?_
    refine x_isub C dX12_laysPolynomial_269 ?_
    refine x_aload_n (v := a0) C dX12_laysPolynomial_270 rfl ?_
    refine x_lload_n (v := q22.1.1) C dX12_laysPolynomial_271 rfl ?_
    refine x_lneg C dX12_laysPolynomial_272 ?_
    refine x_aload_n (v := a0) C dX12_laysPolynomial_273 rfl ?_
    obtain ⟨v28, e29, hf⟩ := j_bind hf
    refine x_get C dX12_laysPolynomial_274 (jgI_some e29) fg_X12_7 ?_
    refine x_i2l C dX12_laysPolynomial_277 ?_
    obtain ⟨u30, e31, hf⟩ := j_bind hf
    refine x_lrem C dX12_laysPolynomial_278 (jnzL_some e31) ?_
    refine x_aload_n (v := a0) C dX12_laysPolynomial_279 rfl ?_
    refine x_iload_n (v := z) C dX12_laysPolynomial_280 rfl ?_
    obtain ⟨u40, e41, hf⟩ := j_bind hf
    obtain ⟨q32, e33, hf⟩ := j_bind hf
    refine x_callV (As := [.int z]) (rest := [.long (jremL (-q22.1.1) v28.toInt64), .ref a0, .int (v26 - z), .ref v24]) C dX12_laysPolynomial_281 (m_X12_inverse (l := l) (E := E) (d := d - 1) (by omega) e33) km_X12_inverse lk_X12_41 kv_X12_inverse (ci := 9) rfl e41 rfl (by omega) (Nat.le_of_ble_eq_true rfl) (j_le_of (q_X12_inverse e33)) (Or.inr (q_X12_inverse e33)) ?_
    refine x_i2l C dX12_laysPolynomial_284 ?_
    refine x_lmul C dX12_laysPolynomial_285 ?_
    obtain ⟨u38, e39, hf⟩ := j_bind hf
    obtain ⟨q34, e35, hf⟩ := j_bind hf
    refine x_callV (As := [.long ((jremL (-q22.1.1) v28.toInt64) * q32.1.toInt64)]) (rest := [.int (v26 - z), .ref v24]) C dX12_laysPolynomial_286 (m_X12_left (l := l) (E := E) (d := d - 1) (by omega) e35) km_X12_left lk_X12_10 kv_X12_left (ci := 9) rfl e39 rfl (by omega) (Nat.le_of_ble_eq_true rfl) (j_le_of (q_X12_left e35)) (Or.inr (q_X12_left e35)) ?_
    obtain ⟨h36, e37, hf⟩ := j_bind hf
    refine x_iast C dX12_laysPolynomial_289 e37 ?_
    refine x_iinc (v := z) C dX12_laysPolynomial_290 rfl ki_1 (by decide) ?_
    refine x_goto (tgt := 33) C dX12_laysPolynomial_293 (by decide) ?_
    obtain ⟨rfl, rfl⟩ := j_inj2 hf
    exact x_locr hk rfl
set_option maxHeartbeats 4000000 in
set_option maxRecDepth 100000 in
theorem m_X12_laysPolynomial {l : Launch} {E : JE} {d : Nat} (hdd : 1 ≤ d) {a0 : Nat} {h : JH} {q : Unit × JH} (hf : f_X12_laysPolynomial a0 h = some q) : Con l E d yX12_laysPolynomial cX12_laysPolynomial 7 none [.ref a0] h (none) q.2 := by
  refine j_start rfl (Nat.le_of_ble_eq_true rfl) ?_
  intro p e s m args below meth c C hret hnm
  refine x_loc [(0, .ref a0)] rfl ?_
  unfold f_X12_laysPolynomial at hf
  refine x_aload_n (v := a0) C dX12_laysPolynomial_0 rfl ?_
  obtain ⟨v1, e2, hf⟩ := j_bind hf
  refine x_get C dX12_laysPolynomial_1 (jgR_some e2) fg_X12_236 ?_
  refine x_aload_n (v := a0) C dX12_laysPolynomial_4 rfl ?_
  obtain ⟨v3, e4, hf⟩ := j_bind hf
  refine x_get C dX12_laysPolynomial_5 (jgI_some e4) fg_X12_342 ?_
  refine x_iconst C dX12_laysPolynomial_8 ki_1 ?_
  obtain ⟨h5, e6, hf⟩ := j_bind hf
  refine x_iast C dX12_laysPolynomial_9 e6 ?_
  refine x_iconst C dX12_laysPolynomial_10 ki_0 ?_
  refine x_istore_n C dX12_laysPolynomial_11 (by decide) ?_
  obtain ⟨q12, e13, hf⟩ := j_bind hf
  refine x_loc [(0, .ref a0), (1, .int (0 : Int32))] rfl ?_
  refine x_loop (s_X12_laysPolynomial_L12 C hret hdd a0) e13 ?_
  refine x_iconst C dX12_laysPolynomial_31 ki_1 ?_
  refine x_istore_n C dX12_laysPolynomial_32 (by decide) ?_
  obtain ⟨q43, e44, hf⟩ := j_bind hf
  refine x_loc [(0, .ref a0), (1, .int (1 : Int32))] rfl ?_
  refine x_loop (s_X12_laysPolynomial_L33 C hret hdd a0) e44 ?_
  obtain rfl := j_inj hf
  exact x_vret C hret dX12_laysPolynomial_296
set_option maxHeartbeats 4000000 in
set_option maxRecDepth 100000 in
theorem m_X12_polynomial {l : Launch} {E : JE} {d : Nat} (hdd : 5 ≤ d) {a0 : Nat} {a1 : Int32} {a2 : Int32} {a3 : Int32} {h : JH} {q : Int32 × JH} (hf : f_X12_polynomial a0 a1 a2 a3 h = some q) : Con l E d yX12_polynomial cX12_polynomial 4 (some .int) [.ref a0, .int a1, .int a2, .int a3] h (some (.int q.1)) q.2 := by
  refine j_start rfl (Nat.le_of_ble_eq_true rfl) ?_
  intro p e s m args below meth c C hret hnm
  refine x_loc [(0, .ref a0), (1, .int a1), (2, .int a2), (3, .int a3)] rfl ?_
  unfold f_X12_polynomial at hf
  refine x_aload_n (v := a0) C dX12_polynomial_0 rfl ?_
  refine x_iconst C dX12_polynomial_1 ki_0 ?_
  obtain ⟨h1, e2, hf⟩ := j_bind hf
  refine x_put C dX12_polynomial_2 e2 fp_X12_1 rfl rfl ?_
  refine x_iload_n (v := a1) C dX12_polynomial_5 rfl ?_
  obtain ⟨q3, e4, hf⟩ := j_bind hf
  refine x_callS (As := [.int a1]) (rest := []) C dX12_polynomial_6 (m_X12_isWeight (l := l) (E := E) (d := d - 1) (by omega) e4) km_X12_isWeight lk_X12_272 ks_X12_isWeight rfl (by omega) (Nat.le_of_ble_eq_true rfl) (j_le_of (q_X12_isWeight e4)) (Or.inr (q_X12_isWeight e4)) ?_
  refine x_if_eq (tgt := 31) C dX12_polynomial_9 (by decide) (fun c23 => ?_) (fun c23 => ?_)
  · have hf := j_ifp hf c23
    refine x_iconst C dX12_polynomial_31 ki_m1 ?_
    obtain rfl := j_inj hf
    exact x_iret C hret dX12_polynomial_32
  · have hf := j_ifn hf c23
    refine x_iload_n (v := a2) C dX12_polynomial_12 rfl ?_
    obtain ⟨q5, e6, hf⟩ := j_bind hf
    refine x_callS (As := [.int a2]) (rest := []) C dX12_polynomial_13 (m_X12_isOperator (l := l) (E := E) (d := d - 1) (by omega) e6) km_X12_isOperator lk_X12_332 ks_X12_isOperator rfl (by omega) (Nat.le_of_ble_eq_true rfl) (j_le_of (q_X12_isOperator e6)) (Or.inr (q_X12_isOperator e6)) ?_
    refine x_if_eq (tgt := 31) C dX12_polynomial_16 (by decide) (fun c24 => ?_) (fun c24 => ?_)
    · have hf := j_ifp hf c24
      refine x_iconst C dX12_polynomial_31 ki_m1 ?_
      obtain rfl := j_inj hf
      exact x_iret C hret dX12_polynomial_32
    · have hf := j_ifn hf c24
      refine x_iload_n (v := a3) C dX12_polynomial_19 rfl ?_
      refine x_iconst C dX12_polynomial_20 ki_0 ?_
      refine x_iload_n (v := a1) C dX12_polynomial_21 rfl ?_
      obtain ⟨q7, e8, hf⟩ := j_bind hf
      refine x_callS (As := [.int a1]) (rest := [.int (0 : Int32), .int a3]) C dX12_polynomial_22 (m_X12_cuspsOf (l := l) (E := E) (d := d - 1) (by omega) e8) km_X12_cuspsOf lk_X12_275 ks_X12_cuspsOf rfl (by omega) (Nat.le_of_ble_eq_true rfl) (j_le_of (q_X12_cuspsOf e8)) (Or.inr (q_X12_cuspsOf e8)) ?_
      obtain ⟨q9, e10, hf⟩ := j_bind hf
      refine x_callS (As := [.int a3, .int (0 : Int32), .int q7.1]) (rest := []) C dX12_polynomial_25 (m_X12_within (l := l) (E := E) (d := d - 1) (by omega) e10) km_X12_within lk_X12_45 ks_X12_within rfl (by omega) (Nat.le_of_ble_eq_true rfl) (j_le_of (q_X12_within e10)) (Or.inr (q_X12_within e10)) ?_
      refine x_if_ne (tgt := 33) C dX12_polynomial_28 (by decide) (fun c25 => ?_) (fun c25 => ?_)
      · have hf := j_ifn hf c25
        refine x_aload_n (v := a0) C dX12_polynomial_33 rfl ?_
        refine x_iload_n (v := a1) C dX12_polynomial_34 rfl ?_
        refine x_iload_n (v := a2) C dX12_polynomial_35 rfl ?_
        obtain ⟨u21, e22, hf⟩ := j_bind hf
        obtain ⟨q11, e12, hf⟩ := j_bind hf
        refine x_callV (As := [.int a1, .int a2]) (rest := []) C dX12_polynomial_36 (m_X12_laysTable (l := l) (E := E) (d := d - 1) (by omega) e12) km_X12_laysTable lk_X12_345 kv_X12_laysTable (ci := 9) rfl e22 rfl (by omega) (Nat.le_of_ble_eq_true rfl) (j_le_of (q_X12_laysTable e12)) (Or.inr (q_X12_laysTable e12)) ?_
        refine x_aload_n (v := a0) C dX12_polynomial_39 rfl ?_
        obtain ⟨u19, e20, hf⟩ := j_bind hf
        obtain ⟨q13, e14, hf⟩ := j_bind hf
        refine x_callV (As := []) (rest := []) C dX12_polynomial_40 (m_X12_laysPolynomial (l := l) (E := E) (d := d - 1) (by omega) e14) km_X12_laysPolynomial lk_X12_349 kv_X12_laysPolynomial (ci := 9) rfl e20 rfl (by omega) (Nat.le_of_ble_eq_true rfl) (j_le_of (q_X12_laysPolynomial e14)) (Or.inr (q_X12_laysPolynomial e14)) ?_
        refine x_aload_n (v := a0) C dX12_polynomial_43 rfl ?_
        obtain ⟨v15, e16, hf⟩ := j_bind hf
        refine x_get C dX12_polynomial_44 (jgR_some e16) fg_X12_236 ?_
        refine x_iload_n (v := a3) C dX12_polynomial_47 rfl ?_
        obtain ⟨v17, e18, hf⟩ := j_bind hf
        refine x_iald C dX12_polynomial_48 e18 ?_
        obtain rfl := j_inj hf
        exact x_iret C hret dX12_polynomial_49
      · have hf := j_ifp hf c25
        refine x_iconst C dX12_polynomial_31 ki_m1 ?_
        obtain rfl := j_inj hf
        exact x_iret C hret dX12_polynomial_32
set_option maxHeartbeats 4000000 in
set_option maxRecDepth 100000 in
theorem s_X12_laysRoots_L40 {p : Program} {l : Launch} {e : Env} {R : Room} {s : State} {m : MethodId} {args : Array Value} {below : List Frame} {meth : Method} {c : Code} {E : JE} {h0 hF : JH} {rF : Option Value} {d : Nat} (C : j_C p s m args meth c R E cX12_laysRoots 6 RX12 h0 hF d) (hret : meth.sig.returnType = none) (hdd : 5 ≤ d) (a0 : Nat) (a2 : Int32) (z : (Int64 × Int32)) (h : JH) (r : (Int64 × Int32) ⊕ (Int64 × Int32)) (h1 : JH) (hf : f_X12_laysRoots_L40 a0 a2 z h = some (r, h1)) (hk : Sum.elim (fun z => Xw p l e R s m args below meth c E 6 h0 rF hF 40 [(0, .ref a0), (2, .int a2), (3, .long z.1), (5, .int z.2)] [] h1) (fun t => Xw p l e R s m args below meth c E 6 h0 rF hF 71 [(0, .ref a0), (2, .int a2), (3, .long t.1), (5, .int t.2)] [] h1) r) : Xw p l e R s m args below meth c E 6 h0 rF hF 40 [(0, .ref a0), (2, .int a2), (3, .long z.1), (5, .int z.2)] [] h := by
  unfold f_X12_laysRoots_L40 at hf
  refine x_iload (v := z.2) C dX12_laysRoots_40 rfl ?_
  refine x_if_lt (tgt := 71) C dX12_laysRoots_42 (by decide) (fun c21 => ?_) (fun c21 => ?_)
  · have hf := j_ifp hf c21
    obtain ⟨rfl, rfl⟩ := j_inj2 hf
    exact x_locr hk rfl
  · have hf := j_ifn hf c21
    refine x_lload_n (v := z.1) C dX12_laysRoots_45 rfl ?_
    refine x_iload_n (v := a2) C dX12_laysRoots_46 rfl ?_
    refine x_i2l C dX12_laysRoots_47 ?_
    refine x_lmul C dX12_laysRoots_48 ?_
    refine x_aload_n (v := a0) C dX12_laysRoots_49 rfl ?_
    obtain ⟨v13, e14, hf⟩ := j_bind hf
    refine x_get C dX12_laysRoots_50 (jgR_some e14) fg_X12_236 ?_
    refine x_iload (v := z.2) C dX12_laysRoots_53 rfl ?_
    obtain ⟨v15, e16, hf⟩ := j_bind hf
    refine x_iald C dX12_laysRoots_55 e16 ?_
    refine x_i2l C dX12_laysRoots_56 ?_
    refine x_ladd C dX12_laysRoots_57 ?_
    refine x_aload_n (v := a0) C dX12_laysRoots_58 rfl ?_
    obtain ⟨v17, e18, hf⟩ := j_bind hf
    refine x_get C dX12_laysRoots_59 (jgI_some e18) fg_X12_7 ?_
    refine x_i2l C dX12_laysRoots_62 ?_
    obtain ⟨u19, e20, hf⟩ := j_bind hf
    refine x_lrem C dX12_laysRoots_63 (jnzL_some e20) ?_
    refine x_lstore_n C dX12_laysRoots_64 (by decide) ?_
    refine x_iinc (v := z.2) C dX12_laysRoots_65 rfl ki_m1 (by decide) ?_
    refine x_goto (tgt := 40) C dX12_laysRoots_68 (by decide) ?_
    obtain ⟨rfl, rfl⟩ := j_inj2 hf
    exact x_locr hk rfl
set_option maxHeartbeats 4000000 in
set_option maxRecDepth 100000 in
theorem s_X12_laysRoots_L17 {p : Program} {l : Launch} {e : Env} {R : Room} {s : State} {m : MethodId} {args : Array Value} {below : List Frame} {meth : Method} {c : Code} {E : JE} {h0 hF : JH} {rF : Option Value} {d : Nat} (C : j_C p s m args meth c R E cX12_laysRoots 6 RX12 h0 hF d) (hret : meth.sig.returnType = none) (hdd : 5 ≤ d) (a0 : Nat) (z : Int32) (h : JH) (r : Int32 ⊕ Int32) (h1 : JH) (hf : f_X12_laysRoots_L17 a0 z h = some (r, h1)) (hk : Sum.elim (fun z => Xw p l e R s m args below meth c E 6 h0 rF hF 17 [(0, .ref a0), (2, .int z)] [] h1) (fun t => Xw p l e R s m args below meth c E 6 h0 rF hF 103 [(0, .ref a0), (2, .int t)] [] h1) r) : Xw p l e R s m args below meth c E 6 h0 rF hF 17 [(0, .ref a0), (2, .int z)] [] h := by
  unfold f_X12_laysRoots_L17 at hf
  refine x_iload_n (v := z) C dX12_laysRoots_17 rfl ?_
  refine x_aload_n (v := a0) C dX12_laysRoots_18 rfl ?_
  obtain ⟨v7, e8, hf⟩ := j_bind hf
  refine x_get C dX12_laysRoots_19 (jgI_some e8) fg_X12_7 ?_
  refine x_icmp_ge (tgt := 103) C dX12_laysRoots_22 (by decide) (fun c25 => ?_) (fun c25 => ?_)
  · have hf := j_ifp hf c25
    obtain ⟨rfl, rfl⟩ := j_inj2 hf
    exact x_locr hk rfl
  · have hf := j_ifn hf c25
    refine x_aload_n (v := a0) C dX12_laysRoots_25 rfl ?_
    obtain ⟨v9, e10, hf⟩ := j_bind hf
    refine x_get C dX12_laysRoots_26 (jgI_some e10) fg_X12_342 ?_
    refine x_if_le (tgt := 103) C dX12_laysRoots_29 (by decide) (fun c26 => ?_) (fun c26 => ?_)
    · have hf := j_ifp hf c26
      obtain ⟨rfl, rfl⟩ := j_inj2 hf
      exact x_locr hk rfl
    · have hf := j_ifn hf c26
      refine x_lconst C dX12_laysRoots_32 kl_0 ?_
      refine x_lstore_n C dX12_laysRoots_33 (by decide) ?_
      refine x_aload_n (v := a0) C dX12_laysRoots_34 rfl ?_
      obtain ⟨v11, e12, hf⟩ := j_bind hf
      refine x_get C dX12_laysRoots_35 (jgI_some e12) fg_X12_342 ?_
      refine x_istore C dX12_laysRoots_38 (by decide) ?_
      obtain ⟨q13, e14, hf⟩ := j_bind hf
      refine x_loc [(0, .ref a0), (2, .int z), (3, .long (0 : Int64)), (5, .int v11)] rfl ?_
      refine x_loop (s_X12_laysRoots_L40 C hret hdd a0 z) e14 ?_
      refine x_lload_n (v := q13.1.1) C dX12_laysRoots_71 rfl ?_
      refine x_lconst C dX12_laysRoots_72 kl_0 ?_
      refine x_lcmp C dX12_laysRoots_73 ?_
      refine x_if_ne (tgt := 97) C dX12_laysRoots_74 (by decide) (fun c27 => ?_) (fun c27 => ?_)
      · have hf := j_ifn hf c27
        refine x_iinc (v := z) C dX12_laysRoots_97 rfl ki_1 (by decide) ?_
        refine x_goto (tgt := 17) C dX12_laysRoots_100 (by decide) ?_
        obtain ⟨rfl, rfl⟩ := j_inj2 hf
        exact x_locr hk rfl
      · have hf := j_ifp hf c27
        refine x_aload_n (v := a0) C dX12_laysRoots_77 rfl ?_
        obtain ⟨v15, e16, hf⟩ := j_bind hf
        refine x_get C dX12_laysRoots_78 (jgR_some e16) fg_X12_244 ?_
        refine x_aload_n (v := a0) C dX12_laysRoots_81 rfl ?_
        obtain ⟨v17, e18, hf⟩ := j_bind hf
        refine x_get C dX12_laysRoots_82 (jgI_some e18) fg_X12_352 ?_
        refine x_iload_n (v := z) C dX12_laysRoots_85 rfl ?_
        obtain ⟨h19, e20, hf⟩ := j_bind hf
        refine x_iast C dX12_laysRoots_86 e20 ?_
        refine x_aload_n (v := a0) C dX12_laysRoots_87 rfl ?_
        refine x_dup C dX12_laysRoots_88 rfl ?_
        obtain ⟨v21, e22, hf⟩ := j_bind hf
        refine x_get C dX12_laysRoots_89 (jgI_some e22) fg_X12_352 ?_
        refine x_iconst C dX12_laysRoots_92 ki_1 ?_
        refine x_iadd C dX12_laysRoots_93 ?_
        obtain ⟨h23, e24, hf⟩ := j_bind hf
        refine x_put C dX12_laysRoots_94 e24 fp_X12_352 rfl rfl ?_
        refine x_iinc (v := z) C dX12_laysRoots_97 rfl ki_1 (by decide) ?_
        refine x_goto (tgt := 17) C dX12_laysRoots_100 (by decide) ?_
        obtain ⟨rfl, rfl⟩ := j_inj2 hf
        exact x_locr hk rfl
set_option maxHeartbeats 4000000 in
set_option maxRecDepth 100000 in
theorem m_X12_laysRoots {l : Launch} {E : JE} {d : Nat} (hdd : 5 ≤ d) {a0 : Nat} {a1 : Int32} {h : JH} {q : Unit × JH} (hf : f_X12_laysRoots a0 a1 h = some q) : Con l E d yX12_laysRoots cX12_laysRoots 6 none [.ref a0, .int a1] h (none) q.2 := by
  refine j_start rfl (Nat.le_of_ble_eq_true rfl) ?_
  intro p e s m args below meth c C hret hnm
  refine x_loc [(0, .ref a0), (1, .int a1)] rfl ?_
  unfold f_X12_laysRoots at hf
  refine x_aload_n (v := a0) C dX12_laysRoots_0 rfl ?_
  refine x_iload_n (v := a1) C dX12_laysRoots_1 rfl ?_
  refine x_iconst C dX12_laysRoots_2 ki_2 ?_
  obtain ⟨u32, e33, hf⟩ := j_bind hf
  obtain ⟨q1, e2, hf⟩ := j_bind hf
  refine x_callV (As := [.int a1, .int (2 : Int32)]) (rest := []) C dX12_laysRoots_3 (m_X12_laysTable (l := l) (E := E) (d := d - 1) (by omega) e2) km_X12_laysTable lk_X12_345 kv_X12_laysTable (ci := 9) rfl e33 rfl (by omega) (Nat.le_of_ble_eq_true rfl) (j_le_of (q_X12_laysTable e2)) (Or.inr (q_X12_laysTable e2)) ?_
  refine x_aload_n (v := a0) C dX12_laysRoots_6 rfl ?_
  obtain ⟨u30, e31, hf⟩ := j_bind hf
  obtain ⟨q3, e4, hf⟩ := j_bind hf
  refine x_callV (As := []) (rest := []) C dX12_laysRoots_7 (m_X12_laysPolynomial (l := l) (E := E) (d := d - 1) (by omega) e4) km_X12_laysPolynomial lk_X12_349 kv_X12_laysPolynomial (ci := 9) rfl e31 rfl (by omega) (Nat.le_of_ble_eq_true rfl) (j_le_of (q_X12_laysPolynomial e4)) (Or.inr (q_X12_laysPolynomial e4)) ?_
  refine x_aload_n (v := a0) C dX12_laysRoots_10 rfl ?_
  refine x_iconst C dX12_laysRoots_11 ki_0 ?_
  obtain ⟨h5, e6, hf⟩ := j_bind hf
  refine x_put C dX12_laysRoots_12 e6 fp_X12_352 rfl rfl ?_
  refine x_iconst C dX12_laysRoots_15 ki_0 ?_
  refine x_istore_n C dX12_laysRoots_16 (by decide) ?_
  obtain ⟨q28, e29, hf⟩ := j_bind hf
  refine x_loc [(0, .ref a0), (2, .int (0 : Int32))] rfl ?_
  refine x_loop (s_X12_laysRoots_L17 C hret hdd a0) e29 ?_
  obtain rfl := j_inj hf
  exact x_vret C hret dX12_laysRoots_103
set_option maxHeartbeats 4000000 in
set_option maxRecDepth 100000 in
theorem m_X12_root {l : Launch} {E : JE} {d : Nat} (hdd : 6 ≤ d) {a0 : Nat} {a1 : Int32} {a2 : Int32} {h : JH} {q : Int32 × JH} (hf : f_X12_root a0 a1 a2 h = some q) : Con l E d yX12_root cX12_root 3 (some .int) [.ref a0, .int a1, .int a2] h (some (.int q.1)) q.2 := by
  refine j_start rfl (Nat.le_of_ble_eq_true rfl) ?_
  intro p e s m args below meth c C hret hnm
  refine x_loc [(0, .ref a0), (1, .int a1), (2, .int a2)] rfl ?_
  unfold f_X12_root at hf
  refine x_aload_n (v := a0) C dX12_root_0 rfl ?_
  refine x_iconst C dX12_root_1 ki_0 ?_
  obtain ⟨h1, e2, hf⟩ := j_bind hf
  refine x_put C dX12_root_2 e2 fp_X12_1 rfl rfl ?_
  refine x_iload_n (v := a1) C dX12_root_5 rfl ?_
  obtain ⟨q3, e4, hf⟩ := j_bind hf
  refine x_callS (As := [.int a1]) (rest := []) C dX12_root_6 (m_X12_isWeight (l := l) (E := E) (d := d - 1) (by omega) e4) km_X12_isWeight lk_X12_272 ks_X12_isWeight rfl (by omega) (Nat.le_of_ble_eq_true rfl) (j_le_of (q_X12_isWeight e4)) (Or.inr (q_X12_isWeight e4)) ?_
  refine x_if_ne (tgt := 14) C dX12_root_9 (by decide) (fun c19 => ?_) (fun c19 => ?_)
  · have hf := j_ifn hf c19
    refine x_aload_n (v := a0) C dX12_root_14 rfl ?_
    refine x_iload_n (v := a1) C dX12_root_15 rfl ?_
    obtain ⟨u17, e18, hf⟩ := j_bind hf
    obtain ⟨q5, e6, hf⟩ := j_bind hf
    refine x_callV (As := [.int a1]) (rest := []) C dX12_root_16 (m_X12_laysRoots (l := l) (E := E) (d := d - 1) (by omega) e6) km_X12_laysRoots lk_X12_355 kv_X12_laysRoots (ci := 9) rfl e18 rfl (by omega) (Nat.le_of_ble_eq_true rfl) (j_le_of (q_X12_laysRoots e6)) (Or.inr (q_X12_laysRoots e6)) ?_
    refine x_iload_n (v := a2) C dX12_root_19 rfl ?_
    refine x_iconst C dX12_root_20 ki_m1 ?_
    refine x_icmp_ne (tgt := 31) C dX12_root_21 (by decide) (fun c20 => ?_) (fun c20 => ?_)
    · have hf := j_ifn hf c20
      refine x_iload_n (v := a2) C dX12_root_31 rfl ?_
      refine x_iconst C dX12_root_32 ki_0 ?_
      refine x_aload_n (v := a0) C dX12_root_33 rfl ?_
      obtain ⟨v7, e8, hf⟩ := j_bind hf
      refine x_get C dX12_root_34 (jgI_some e8) fg_X12_352 ?_
      refine x_iconst C dX12_root_37 ki_1 ?_
      refine x_isub C dX12_root_38 ?_
      obtain ⟨q9, e10, hf⟩ := j_bind hf
      refine x_callS (As := [.int a2, .int (0 : Int32), .int (v7 - (1 : Int32))]) (rest := []) C dX12_root_39 (m_X12_within (l := l) (E := E) (d := d - 1) (by omega) e10) km_X12_within lk_X12_45 ks_X12_within rfl (by omega) (Nat.le_of_ble_eq_true rfl) (j_le_of (q_X12_within e10)) (Or.inr (q_X12_within e10)) ?_
      refine x_if_eq (tgt := 54) C dX12_root_42 (by decide) (fun c21 => ?_) (fun c21 => ?_)
      · have hf := j_ifp hf c21
        refine x_iconst C dX12_root_54 ki_m1 ?_
        obtain rfl := j_inj hf
        exact x_iret C hret dX12_root_55
      · have hf := j_ifn hf c21
        refine x_aload_n (v := a0) C dX12_root_45 rfl ?_
        obtain ⟨v11, e12, hf⟩ := j_bind hf
        refine x_get C dX12_root_46 (jgR_some e12) fg_X12_244 ?_
        refine x_iload_n (v := a2) C dX12_root_49 rfl ?_
        obtain ⟨v13, e14, hf⟩ := j_bind hf
        refine x_iald C dX12_root_50 e14 ?_
        refine x_goto (tgt := 55) C dX12_root_51 (by decide) ?_
        obtain rfl := j_inj hf
        exact x_iret C hret dX12_root_55
    · have hf := j_ifp hf c20
      refine x_aload_n (v := a0) C dX12_root_24 rfl ?_
      obtain ⟨v15, e16, hf⟩ := j_bind hf
      refine x_get C dX12_root_25 (jgI_some e16) fg_X12_352 ?_
      refine x_goto (tgt := 55) C dX12_root_28 (by decide) ?_
      obtain rfl := j_inj hf
      exact x_iret C hret dX12_root_55
  · have hf := j_ifp hf c19
    refine x_iconst C dX12_root_12 ki_m1 ?_
    obtain rfl := j_inj hf
    exact x_iret C hret dX12_root_13
set_option maxHeartbeats 4000000 in
set_option maxRecDepth 100000 in
theorem s_X12_takesStep_L20 {p : Program} {l : Launch} {e : Env} {R : Room} {s : State} {m : MethodId} {args : Array Value} {below : List Frame} {meth : Method} {c : Code} {E : JE} {h0 hF : JH} {rF : Option Value} {d : Nat} (C : j_C p s m args meth c R E cX12_takesStep 9 RX12 h0 hF d) (hret : meth.sig.returnType = none) (hdd : 1 ≤ d) (a0 : Nat) (a1 : Int32) (a2 : Int32) (a3 : Int32) (a4 : Int32) (z : Int32) (h : JH) (r : Int32 ⊕ Int32) (h1 : JH) (hf : f_X12_takesStep_L20 a0 a1 a2 a3 a4 z h = some (r, h1)) (hk : Sum.elim (fun z => Xw p l e R s m args below meth c E 9 h0 rF hF 20 [(0, .ref a0), (1, .int a1), (2, .int a2), (3, .int a3), (4, .int a4), (5, .int z)] [] h1) (fun t => Xw p l e R s m args below meth c E 9 h0 rF hF 96 [(0, .ref a0), (1, .int a1), (2, .int a2), (3, .int a3), (4, .int a4), (5, .int t)] [] h1) r) : Xw p l e R s m args below meth c E 9 h0 rF hF 20 [(0, .ref a0), (1, .int a1), (2, .int a2), (3, .int a3), (4, .int a4), (5, .int z)] [] h := by
  unfold f_X12_takesStep_L20 at hf
  refine x_iload (v := z) C dX12_takesStep_20 rfl ?_
  refine x_aload_n (v := a0) C dX12_takesStep_22 rfl ?_
  obtain ⟨v7, e8, hf⟩ := j_bind hf
  refine x_get C dX12_takesStep_23 (jgI_some e8) fg_X12_342 ?_
  refine x_icmp_ge (tgt := 96) C dX12_takesStep_26 (by decide) (fun c29 => ?_) (fun c29 => ?_)
  · have hf := j_ifp hf c29
    obtain ⟨rfl, rfl⟩ := j_inj2 hf
    exact x_locr hk rfl
  · have hf := j_ifn hf c29
    refine x_aload_n (v := a0) C dX12_takesStep_29 rfl ?_
    obtain ⟨v9, e10, hf⟩ := j_bind hf
    refine x_get C dX12_takesStep_30 (jgR_some e10) fg_X12_247 ?_
    refine x_bipush C dX12_takesStep_33 kb_6 ?_
    refine x_iload_n (v := a2) C dX12_takesStep_35 rfl ?_
    refine x_imul C dX12_takesStep_36 ?_
    refine x_iload (v := z) C dX12_takesStep_37 rfl ?_
    refine x_iadd C dX12_takesStep_39 ?_
    obtain ⟨v11, e12, hf⟩ := j_bind hf
    refine x_iald C dX12_takesStep_40 e12 ?_
    refine x_istore C dX12_takesStep_41 (by decide) ?_
    refine x_aload_n (v := a0) C dX12_takesStep_43 rfl ?_
    obtain ⟨v13, e14, hf⟩ := j_bind hf
    refine x_get C dX12_takesStep_44 (jgR_some e14) fg_X12_247 ?_
    refine x_bipush C dX12_takesStep_47 kb_6 ?_
    refine x_iload_n (v := a2) C dX12_takesStep_49 rfl ?_
    refine x_imul C dX12_takesStep_50 ?_
    refine x_iload (v := z) C dX12_takesStep_51 rfl ?_
    refine x_iadd C dX12_takesStep_53 ?_
    refine x_aload_n (v := a0) C dX12_takesStep_54 rfl ?_
    obtain ⟨v15, e16, hf⟩ := j_bind hf
    refine x_get C dX12_takesStep_55 (jgR_some e16) fg_X12_247 ?_
    refine x_bipush C dX12_takesStep_58 kb_6 ?_
    refine x_iload_n (v := a1) C dX12_takesStep_60 rfl ?_
    refine x_imul C dX12_takesStep_61 ?_
    refine x_iload (v := z) C dX12_takesStep_62 rfl ?_
    refine x_iadd C dX12_takesStep_64 ?_
    obtain ⟨v17, e18, hf⟩ := j_bind hf
    refine x_iald C dX12_takesStep_65 e18 ?_
    obtain ⟨h19, e20, hf⟩ := j_bind hf
    refine x_iast C dX12_takesStep_66 e20 ?_
    refine x_aload_n (v := a0) C dX12_takesStep_67 rfl ?_
    obtain ⟨v21, e22, hf⟩ := j_bind hf
    refine x_get C dX12_takesStep_68 (jgR_some e22) fg_X12_247 ?_
    refine x_bipush C dX12_takesStep_71 kb_6 ?_
    refine x_iload_n (v := a1) C dX12_takesStep_73 rfl ?_
    refine x_imul C dX12_takesStep_74 ?_
    refine x_iload (v := z) C dX12_takesStep_75 rfl ?_
    refine x_iadd C dX12_takesStep_77 ?_
    refine x_aload_n (v := a0) C dX12_takesStep_78 rfl ?_
    refine x_iload (v := v11) C dX12_takesStep_79 rfl ?_
    refine x_i2l C dX12_takesStep_81 ?_
    refine x_iload (v := a4) C dX12_takesStep_82 rfl ?_
    refine x_i2l C dX12_takesStep_84 ?_
    refine x_lmul C dX12_takesStep_85 ?_
    obtain ⟨u27, e28, hf⟩ := j_bind hf
    obtain ⟨q23, e24, hf⟩ := j_bind hf
    refine x_callV (As := [.long (v11.toInt64 * a4.toInt64)]) (rest := [.int (((6 : Int32) * a1) + z), .ref v21]) C dX12_takesStep_86 (m_X12_left (l := l) (E := E) (d := d - 1) (by omega) e24) km_X12_left lk_X12_10 kv_X12_left (ci := 9) rfl e28 rfl (by omega) (Nat.le_of_ble_eq_true rfl) (j_le_of (q_X12_left e24)) (Or.inr (q_X12_left e24)) ?_
    obtain ⟨h25, e26, hf⟩ := j_bind hf
    refine x_iast C dX12_takesStep_89 e26 ?_
    refine x_iinc (v := z) C dX12_takesStep_90 rfl ki_1 (by decide) ?_
    refine x_goto (tgt := 20) C dX12_takesStep_93 (by decide) ?_
    obtain ⟨rfl, rfl⟩ := j_inj2 hf
    exact x_locr hk rfl
set_option maxHeartbeats 4000000 in
set_option maxRecDepth 100000 in
theorem s_X12_takesStep_L126 {p : Program} {l : Launch} {e : Env} {R : Room} {s : State} {m : MethodId} {args : Array Value} {below : List Frame} {meth : Method} {c : Code} {E : JE} {h0 hF : JH} {rF : Option Value} {d : Nat} (C : j_C p s m args meth c R E cX12_takesStep 9 RX12 h0 hF d) (hret : meth.sig.returnType = none) (hdd : 1 ≤ d) (a0 : Nat) (a1 : Int32) (a3 : Int32) (a5 : Int32) (a6 : Int64) (z : Int32) (h : JH) (r : Int32 ⊕ Int32) (h1 : JH) (hf : f_X12_takesStep_L126 a0 a1 a3 a5 a6 z h = some (r, h1)) (hk : Sum.elim (fun z => Xw p l e R s m args below meth c E 9 h0 rF hF 126 [(0, .ref a0), (1, .int a1), (3, .int a3), (5, .int a5), (6, .long a6), (8, .int z)] [] h1) (fun t => Xw p l e R s m args below meth c E 9 h0 rF hF 195 [(0, .ref a0), (1, .int a1), (3, .int a3), (5, .int a5), (6, .long a6), (8, .int t)] [] h1) r) : Xw p l e R s m args below meth c E 9 h0 rF hF 126 [(0, .ref a0), (1, .int a1), (3, .int a3), (5, .int a5), (6, .long a6), (8, .int z)] [] h := by
  unfold f_X12_takesStep_L126 at hf
  refine x_iload (v := z) C dX12_takesStep_126 rfl ?_
  refine x_aload_n (v := a0) C dX12_takesStep_128 rfl ?_
  obtain ⟨v38, e39, hf⟩ := j_bind hf
  refine x_get C dX12_takesStep_129 (jgI_some e39) fg_X12_342 ?_
  refine x_icmp_ge (tgt := 195) C dX12_takesStep_132 (by decide) (fun c56 => ?_) (fun c56 => ?_)
  · have hf := j_ifp hf c56
    obtain ⟨rfl, rfl⟩ := j_inj2 hf
    exact x_locr hk rfl
  · have hf := j_ifn hf c56
    refine x_iload (v := a5) C dX12_takesStep_135 rfl ?_
    refine x_iload_n (v := a1) C dX12_takesStep_137 rfl ?_
    refine x_icmp_eq (tgt := 195) C dX12_takesStep_138 (by decide) (fun c57 => ?_) (fun c57 => ?_)
    · have hf := j_ifp hf c57
      obtain ⟨rfl, rfl⟩ := j_inj2 hf
      exact x_locr hk rfl
    · have hf := j_ifn hf c57
      refine x_aload_n (v := a0) C dX12_takesStep_141 rfl ?_
      obtain ⟨v40, e41, hf⟩ := j_bind hf
      refine x_get C dX12_takesStep_142 (jgR_some e41) fg_X12_247 ?_
      refine x_bipush C dX12_takesStep_145 kb_6 ?_
      refine x_iload (v := a5) C dX12_takesStep_147 rfl ?_
      refine x_imul C dX12_takesStep_149 ?_
      refine x_iload (v := z) C dX12_takesStep_150 rfl ?_
      refine x_iadd C dX12_takesStep_152 ?_
      refine x_aload_n (v := a0) C dX12_takesStep_153 rfl ?_
      refine x_aload_n (v := a0) C dX12_takesStep_154 rfl ?_
      obtain ⟨v42, e43, hf⟩ := j_bind hf
      refine x_get C dX12_takesStep_155 (jgR_some e43) fg_X12_247 ?_
      refine x_bipush C dX12_takesStep_158 kb_6 ?_
      refine x_iload (v := a5) C dX12_takesStep_160 rfl ?_
      refine x_imul C dX12_takesStep_162 ?_
      refine x_iload (v := z) C dX12_takesStep_163 rfl ?_
      refine x_iadd C dX12_takesStep_165 ?_
      obtain ⟨v44, e45, hf⟩ := j_bind hf
      refine x_iald C dX12_takesStep_166 e45 ?_
      refine x_i2l C dX12_takesStep_167 ?_
      refine x_lload (v := a6) C dX12_takesStep_168 rfl ?_
      refine x_aload_n (v := a0) C dX12_takesStep_170 rfl ?_
      obtain ⟨v46, e47, hf⟩ := j_bind hf
      refine x_get C dX12_takesStep_171 (jgR_some e47) fg_X12_247 ?_
      refine x_bipush C dX12_takesStep_174 kb_6 ?_
      refine x_iload_n (v := a1) C dX12_takesStep_176 rfl ?_
      refine x_imul C dX12_takesStep_177 ?_
      refine x_iload (v := z) C dX12_takesStep_178 rfl ?_
      refine x_iadd C dX12_takesStep_180 ?_
      obtain ⟨v48, e49, hf⟩ := j_bind hf
      refine x_iald C dX12_takesStep_181 e49 ?_
      refine x_i2l C dX12_takesStep_182 ?_
      refine x_lmul C dX12_takesStep_183 ?_
      refine x_lsub C dX12_takesStep_184 ?_
      obtain ⟨u54, e55, hf⟩ := j_bind hf
      obtain ⟨q50, e51, hf⟩ := j_bind hf
      refine x_callV (As := [.long (v44.toInt64 - (a6 * v48.toInt64))]) (rest := [.int (((6 : Int32) * a5) + z), .ref v40]) C dX12_takesStep_185 (m_X12_left (l := l) (E := E) (d := d - 1) (by omega) e51) km_X12_left lk_X12_10 kv_X12_left (ci := 9) rfl e55 rfl (by omega) (Nat.le_of_ble_eq_true rfl) (j_le_of (q_X12_left e51)) (Or.inr (q_X12_left e51)) ?_
      obtain ⟨h52, e53, hf⟩ := j_bind hf
      refine x_iast C dX12_takesStep_188 e53 ?_
      refine x_iinc (v := z) C dX12_takesStep_189 rfl ki_1 (by decide) ?_
      refine x_goto (tgt := 126) C dX12_takesStep_192 (by decide) ?_
      obtain ⟨rfl, rfl⟩ := j_inj2 hf
      exact x_locr hk rfl
set_option maxHeartbeats 4000000 in
set_option maxRecDepth 100000 in
theorem s_X12_takesStep_L99 {p : Program} {l : Launch} {e : Env} {R : Room} {s : State} {m : MethodId} {args : Array Value} {below : List Frame} {meth : Method} {c : Code} {E : JE} {h0 hF : JH} {rF : Option Value} {d : Nat} (C : j_C p s m args meth c R E cX12_takesStep 9 RX12 h0 hF d) (hret : meth.sig.returnType = none) (hdd : 1 ≤ d) (a0 : Nat) (a1 : Int32) (a3 : Int32) (z : Int32) (h : JH) (r : Int32 ⊕ Int32) (h1 : JH) (hf : f_X12_takesStep_L99 a0 a1 a3 z h = some (r, h1)) (hk : Sum.elim (fun z => Xw p l e R s m args below meth c E 9 h0 rF hF 99 [(0, .ref a0), (1, .int a1), (3, .int a3), (5, .int z)] [] h1) (fun t => Xw p l e R s m args below meth c E 9 h0 rF hF 201 [(0, .ref a0), (1, .int a1), (3, .int a3), (5, .int t)] [] h1) r) : Xw p l e R s m args below meth c E 9 h0 rF hF 99 [(0, .ref a0), (1, .int a1), (3, .int a3), (5, .int z)] [] h := by
  unfold f_X12_takesStep_L99 at hf
  refine x_iload (v := z) C dX12_takesStep_99 rfl ?_
  refine x_aload_n (v := a0) C dX12_takesStep_101 rfl ?_
  obtain ⟨v32, e33, hf⟩ := j_bind hf
  refine x_get C dX12_takesStep_102 (jgI_some e33) fg_X12_342 ?_
  refine x_icmp_ge (tgt := 201) C dX12_takesStep_105 (by decide) (fun c40 => ?_) (fun c40 => ?_)
  · have hf := j_ifp hf c40
    obtain ⟨rfl, rfl⟩ := j_inj2 hf
    exact x_locr hk rfl
  · have hf := j_ifn hf c40
    refine x_aload_n (v := a0) C dX12_takesStep_108 rfl ?_
    obtain ⟨v34, e35, hf⟩ := j_bind hf
    refine x_get C dX12_takesStep_109 (jgR_some e35) fg_X12_247 ?_
    refine x_bipush C dX12_takesStep_112 kb_6 ?_
    refine x_iload (v := z) C dX12_takesStep_114 rfl ?_
    refine x_imul C dX12_takesStep_116 ?_
    refine x_iload_n (v := a3) C dX12_takesStep_117 rfl ?_
    refine x_iadd C dX12_takesStep_118 ?_
    obtain ⟨v36, e37, hf⟩ := j_bind hf
    refine x_iald C dX12_takesStep_119 e37 ?_
    refine x_i2l C dX12_takesStep_120 ?_
    refine x_lstore C dX12_takesStep_121 (by decide) ?_
    refine x_iconst C dX12_takesStep_123 ki_0 ?_
    refine x_istore C dX12_takesStep_124 (by decide) ?_
    obtain ⟨q38, e39, hf⟩ := j_bind hf
    refine x_loc [(0, .ref a0), (1, .int a1), (3, .int a3), (5, .int z), (6, .long v36.toInt64), (8, .int (0 : Int32))] rfl ?_
    refine x_loop (s_X12_takesStep_L126 C hret hdd a0 a1 a3 z v36.toInt64) e39 ?_
    refine x_iinc (v := z) C dX12_takesStep_195 rfl ki_1 (by decide) ?_
    refine x_goto (tgt := 99) C dX12_takesStep_198 (by decide) ?_
    obtain ⟨rfl, rfl⟩ := j_inj2 hf
    exact x_locr hk rfl
set_option maxHeartbeats 4000000 in
set_option maxRecDepth 100000 in
theorem m_X12_takesStep {l : Launch} {E : JE} {d : Nat} (hdd : 1 ≤ d) {a0 : Nat} {a1 : Int32} {a2 : Int32} {a3 : Int32} {h : JH} {q : Unit × JH} (hf : f_X12_takesStep a0 a1 a2 a3 h = some q) : Con l E d yX12_takesStep cX12_takesStep 9 none [.ref a0, .int a1, .int a2, .int a3] h (none) q.2 := by
  refine j_start rfl (Nat.le_of_ble_eq_true rfl) ?_
  intro p e s m args below meth c C hret hnm
  refine x_loc [(0, .ref a0), (1, .int a1), (2, .int a2), (3, .int a3)] rfl ?_
  unfold f_X12_takesStep at hf
  refine x_aload_n (v := a0) C dX12_takesStep_0 rfl ?_
  refine x_aload_n (v := a0) C dX12_takesStep_1 rfl ?_
  obtain ⟨v1, e2, hf⟩ := j_bind hf
  refine x_get C dX12_takesStep_2 (jgR_some e2) fg_X12_247 ?_
  refine x_bipush C dX12_takesStep_5 kb_6 ?_
  refine x_iload_n (v := a2) C dX12_takesStep_7 rfl ?_
  refine x_imul C dX12_takesStep_8 ?_
  refine x_iload_n (v := a3) C dX12_takesStep_9 rfl ?_
  refine x_iadd C dX12_takesStep_10 ?_
  obtain ⟨v3, e4, hf⟩ := j_bind hf
  refine x_iald C dX12_takesStep_11 e4 ?_
  obtain ⟨u43, e44, hf⟩ := j_bind hf
  obtain ⟨q5, e6, hf⟩ := j_bind hf
  refine x_callV (As := [.int v3]) (rest := []) C dX12_takesStep_12 (m_X12_inverse (l := l) (E := E) (d := d - 1) (by omega) e6) km_X12_inverse lk_X12_41 kv_X12_inverse (ci := 9) rfl e44 rfl (by omega) (Nat.le_of_ble_eq_true rfl) (j_le_of (q_X12_inverse e6)) (Or.inr (q_X12_inverse e6)) ?_
  refine x_istore C dX12_takesStep_15 (by decide) ?_
  refine x_iconst C dX12_takesStep_17 ki_0 ?_
  refine x_istore C dX12_takesStep_18 (by decide) ?_
  obtain ⟨q30, e31, hf⟩ := j_bind hf
  refine x_loc [(0, .ref a0), (1, .int a1), (2, .int a2), (3, .int a3), (4, .int q5.1), (5, .int (0 : Int32))] rfl ?_
  refine x_loop (s_X12_takesStep_L20 C hret hdd a0 a1 a2 a3 q5.1) e31 ?_
  refine x_iconst C dX12_takesStep_96 ki_0 ?_
  refine x_istore C dX12_takesStep_97 (by decide) ?_
  obtain ⟨q41, e42, hf⟩ := j_bind hf
  refine x_loc [(0, .ref a0), (1, .int a1), (3, .int a3), (5, .int (0 : Int32))] rfl ?_
  refine x_loop (s_X12_takesStep_L99 C hret hdd a0 a1 a3) e42 ?_
  obtain rfl := j_inj hf
  exact x_vret C hret dX12_takesStep_201
set_option maxHeartbeats 4000000 in
set_option maxRecDepth 100000 in
theorem s_X12_solves_L12 {p : Program} {l : Launch} {e : Env} {R : Room} {s : State} {m : MethodId} {args : Array Value} {below : List Frame} {meth : Method} {c : Code} {E : JE} {h0 hF : JH} {rF : Option Value} {d : Nat} (C : j_C p s m args meth c R E cX12_solves 5 RX12 h0 hF d) (hret : meth.sig.returnType = (some .boolean)) (hdd : 2 ≤ d) (a0 : Nat) (a1 : Int32) (a2 : Int32) (z : Int32) (h : JH) (r : Int32 ⊕ Int32) (h1 : JH) (hf : f_X12_solves_L12 a0 a1 a2 z h = some (r, h1)) (hk : Sum.elim (fun z => Xw p l e R s m args below meth c E 5 h0 rF hF 12 [(0, .ref a0), (1, .int a1), (2, .int a2), (3, .int z)] [] h1) (fun t => Xw p l e R s m args below meth c E 5 h0 rF hF 64 [(0, .ref a0), (1, .int a1), (2, .int a2), (3, .int t)] [] h1) r) : Xw p l e R s m args below meth c E 5 h0 rF hF 12 [(0, .ref a0), (1, .int a1), (2, .int a2), (3, .int z)] [] h := by
  unfold f_X12_solves_L12 at hf
  refine x_iload_n (v := z) C dX12_solves_12 rfl ?_
  refine x_aload_n (v := a0) C dX12_solves_13 rfl ?_
  obtain ⟨v3, e4, hf⟩ := j_bind hf
  refine x_get C dX12_solves_14 (jgI_some e4) fg_X12_342 ?_
  refine x_icmp_ge (tgt := 64) C dX12_solves_17 (by decide) (fun c23 => ?_) (fun c23 => ?_)
  · have hf := j_ifp hf c23
    obtain ⟨rfl, rfl⟩ := j_inj2 hf
    exact x_locr hk rfl
  · have hf := j_ifn hf c23
    refine x_aload_n (v := a0) C dX12_solves_20 rfl ?_
    obtain ⟨v5, e6, hf⟩ := j_bind hf
    refine x_get C dX12_solves_21 (jgR_some e6) fg_X12_247 ?_
    refine x_bipush C dX12_solves_24 kb_6 ?_
    refine x_iload_n (v := a2) C dX12_solves_26 rfl ?_
    refine x_imul C dX12_solves_27 ?_
    refine x_iload_n (v := z) C dX12_solves_28 rfl ?_
    refine x_iadd C dX12_solves_29 ?_
    refine x_aload_n (v := a0) C dX12_solves_30 rfl ?_
    refine x_aload_n (v := a0) C dX12_solves_31 rfl ?_
    obtain ⟨v7, e8, hf⟩ := j_bind hf
    refine x_get C dX12_solves_32 (jgR_some e8) fg_X12_233 ?_
    refine x_bipush C dX12_solves_35 kb_6 ?_
    refine x_iload_n (v := z) C dX12_solves_37 rfl ?_
    refine x_imul C dX12_solves_38 ?_
    refine x_iload_n (v := a2) C dX12_solves_39 rfl ?_
    refine x_iadd C dX12_solves_40 ?_
    obtain ⟨v9, e10, hf⟩ := j_bind hf
    refine x_iald C dX12_solves_41 e10 ?_
    refine x_iload_n (v := z) C dX12_solves_42 rfl ?_
    refine x_iload_n (v := a2) C dX12_solves_43 rfl ?_
    refine x_icmp_ne (tgt := 51) C dX12_solves_44 (by decide) (fun c24 => ?_) (fun c24 => ?_)
    · have hf := j_ifn hf c24
      refine x_iconst C dX12_solves_51 ki_0 ?_
      refine x_isub C dX12_solves_52 ?_
      refine x_i2l C dX12_solves_53 ?_
      obtain ⟨u15, e16, hf⟩ := j_bind hf
      obtain ⟨q11, e12, hf⟩ := j_bind hf
      refine x_callV (As := [.long ((v9 - (0 : Int32)).toInt64)]) (rest := [.int (((6 : Int32) * a2) + z), .ref v5]) C dX12_solves_54 (m_X12_left (l := l) (E := E) (d := d - 1) (by omega) e12) km_X12_left lk_X12_10 kv_X12_left (ci := 9) rfl e16 rfl (by omega) (Nat.le_of_ble_eq_true rfl) (j_le_of (q_X12_left e12)) (Or.inr (q_X12_left e12)) ?_
      obtain ⟨h13, e14, hf⟩ := j_bind hf
      refine x_iast C dX12_solves_57 e14 ?_
      refine x_iinc (v := z) C dX12_solves_58 rfl ki_1 (by decide) ?_
      refine x_goto (tgt := 12) C dX12_solves_61 (by decide) ?_
      obtain ⟨rfl, rfl⟩ := j_inj2 hf
      exact x_locr hk rfl
    · have hf := j_ifp hf c24
      refine x_iload_n (v := a1) C dX12_solves_47 rfl ?_
      refine x_goto (tgt := 52) C dX12_solves_48 (by decide) ?_
      refine x_isub C dX12_solves_52 ?_
      refine x_i2l C dX12_solves_53 ?_
      obtain ⟨u21, e22, hf⟩ := j_bind hf
      obtain ⟨q17, e18, hf⟩ := j_bind hf
      refine x_callV (As := [.long ((v9 - a1).toInt64)]) (rest := [.int (((6 : Int32) * a2) + z), .ref v5]) C dX12_solves_54 (m_X12_left (l := l) (E := E) (d := d - 1) (by omega) e18) km_X12_left lk_X12_10 kv_X12_left (ci := 9) rfl e22 rfl (by omega) (Nat.le_of_ble_eq_true rfl) (j_le_of (q_X12_left e18)) (Or.inr (q_X12_left e18)) ?_
      obtain ⟨h19, e20, hf⟩ := j_bind hf
      refine x_iast C dX12_solves_57 e20 ?_
      refine x_iinc (v := z) C dX12_solves_58 rfl ki_1 (by decide) ?_
      refine x_goto (tgt := 12) C dX12_solves_61 (by decide) ?_
      obtain ⟨rfl, rfl⟩ := j_inj2 hf
      exact x_locr hk rfl
set_option maxHeartbeats 4000000 in
set_option maxRecDepth 100000 in
theorem s_X12_solves_L2 {p : Program} {l : Launch} {e : Env} {R : Room} {s : State} {m : MethodId} {args : Array Value} {below : List Frame} {meth : Method} {c : Code} {E : JE} {h0 hF : JH} {rF : Option Value} {d : Nat} (C : j_C p s m args meth c R E cX12_solves 5 RX12 h0 hF d) (hret : meth.sig.returnType = (some .boolean)) (hdd : 2 ≤ d) (a0 : Nat) (a1 : Int32) (z : Int32) (h : JH) (r : Int32 ⊕ Int32) (h1 : JH) (hf : f_X12_solves_L2 a0 a1 z h = some (r, h1)) (hk : Sum.elim (fun z => Xw p l e R s m args below meth c E 5 h0 rF hF 2 [(0, .ref a0), (1, .int a1), (2, .int z)] [] h1) (fun t => Xw p l e R s m args below meth c E 5 h0 rF hF 70 [(0, .ref a0), (1, .int a1), (2, .int t)] [] h1) r) : Xw p l e R s m args below meth c E 5 h0 rF hF 2 [(0, .ref a0), (1, .int a1), (2, .int z)] [] h := by
  unfold f_X12_solves_L2 at hf
  refine x_iload_n (v := z) C dX12_solves_2 rfl ?_
  refine x_aload_n (v := a0) C dX12_solves_3 rfl ?_
  obtain ⟨v1, e2, hf⟩ := j_bind hf
  refine x_get C dX12_solves_4 (jgI_some e2) fg_X12_342 ?_
  refine x_icmp_ge (tgt := 70) C dX12_solves_7 (by decide) (fun c5 => ?_) (fun c5 => ?_)
  · have hf := j_ifp hf c5
    obtain ⟨rfl, rfl⟩ := j_inj2 hf
    exact x_locr hk rfl
  · have hf := j_ifn hf c5
    refine x_iconst C dX12_solves_10 ki_0 ?_
    refine x_istore_n C dX12_solves_11 (by decide) ?_
    obtain ⟨q3, e4, hf⟩ := j_bind hf
    refine x_loc [(0, .ref a0), (1, .int a1), (2, .int z), (3, .int (0 : Int32))] rfl ?_
    refine x_loop (s_X12_solves_L12 C hret hdd a0 a1 z) e4 ?_
    refine x_iinc (v := z) C dX12_solves_64 rfl ki_1 (by decide) ?_
    refine x_goto (tgt := 2) C dX12_solves_67 (by decide) ?_
    obtain ⟨rfl, rfl⟩ := j_inj2 hf
    exact x_locr hk rfl
set_option maxHeartbeats 4000000 in
set_option maxRecDepth 100000 in
theorem s_X12_solves_L85 {p : Program} {l : Launch} {e : Env} {R : Room} {s : State} {m : MethodId} {args : Array Value} {below : List Frame} {meth : Method} {c : Code} {E : JE} {h0 hF : JH} {rF : Option Value} {d : Nat} (C : j_C p s m args meth c R E cX12_solves 5 RX12 h0 hF d) (hret : meth.sig.returnType = (some .boolean)) (hdd : 2 ≤ d) (a0 : Nat) (a2 : Int32) (a3 : Int32) (z : Int32) (h : JH) (r : Int32 ⊕ Int32) (h1 : JH) (hf : f_X12_solves_L85 a0 a2 a3 z h = some (r, h1)) (hk : Sum.elim (fun z => Xw p l e R s m args below meth c E 5 h0 rF hF 85 [(0, .ref a0), (2, .int a2), (3, .int a3), (4, .int z)] [] h1) (fun t => Xw p l e R s m args below meth c E 5 h0 rF hF 115 [(0, .ref a0), (2, .int a2), (3, .int a3), (4, .int t)] [] h1) r) : Xw p l e R s m args below meth c E 5 h0 rF hF 85 [(0, .ref a0), (2, .int a2), (3, .int a3), (4, .int z)] [] h := by
  unfold f_X12_solves_L85 at hf
  refine x_iload (v := z) C dX12_solves_85 rfl ?_
  refine x_aload_n (v := a0) C dX12_solves_87 rfl ?_
  obtain ⟨v10, e11, hf⟩ := j_bind hf
  refine x_get C dX12_solves_88 (jgI_some e11) fg_X12_342 ?_
  refine x_icmp_ge (tgt := 115) C dX12_solves_91 (by decide) (fun c16 => ?_) (fun c16 => ?_)
  · have hf := j_ifp hf c16
    obtain ⟨rfl, rfl⟩ := j_inj2 hf
    exact x_locr hk rfl
  · have hf := j_ifn hf c16
    refine x_aload_n (v := a0) C dX12_solves_94 rfl ?_
    obtain ⟨v12, e13, hf⟩ := j_bind hf
    refine x_get C dX12_solves_95 (jgR_some e13) fg_X12_247 ?_
    refine x_bipush C dX12_solves_98 kb_6 ?_
    refine x_iload (v := z) C dX12_solves_100 rfl ?_
    refine x_imul C dX12_solves_102 ?_
    refine x_iload_n (v := a3) C dX12_solves_103 rfl ?_
    refine x_iadd C dX12_solves_104 ?_
    obtain ⟨v14, e15, hf⟩ := j_bind hf
    refine x_iald C dX12_solves_105 e15 ?_
    refine x_if_ne (tgt := 115) C dX12_solves_106 (by decide) (fun c17 => ?_) (fun c17 => ?_)
    · have hf := j_ifn hf c17
      obtain ⟨rfl, rfl⟩ := j_inj2 hf
      exact x_locr hk rfl
    · have hf := j_ifp hf c17
      refine x_iinc (v := z) C dX12_solves_109 rfl ki_1 (by decide) ?_
      refine x_goto (tgt := 85) C dX12_solves_112 (by decide) ?_
      obtain ⟨rfl, rfl⟩ := j_inj2 hf
      exact x_locr hk rfl
set_option maxHeartbeats 4000000 in
set_option maxRecDepth 100000 in
theorem s_X12_solves_L74 {p : Program} {l : Launch} {e : Env} {R : Room} {s : State} {m : MethodId} {args : Array Value} {below : List Frame} {meth : Method} {c : Code} {E : JE} {h0 hF : JH} {rF : Option Value} {d : Nat} (C : j_C p s m args meth c R E cX12_solves 5 RX12 h0 hF d) (hret : meth.sig.returnType = (some .boolean)) (hdd : 2 ≤ d) (a0 : Nat) (z : (Int32 × Int32)) (h : JH) (r : (Int32 × Int32) ⊕ (Int32 ⊕ (Int32 × Int32))) (h1 : JH) (hf : f_X12_solves_L74 a0 z h = some (r, h1)) (hk : Sum.elim (fun z => Xw p l e R s m args below meth c E 5 h0 rF hF 74 [(0, .ref a0), (2, .int z.1), (3, .int z.2)] [] h1) (fun t => Sum.elim (fun rr => some (.int rr) = rF ∧ h1 = hF) (fun t => Xw p l e R s m args below meth c E 5 h0 rF hF 143 [(0, .ref a0), (2, .int t.1), (3, .int t.2)] [] h1) t) r) : Xw p l e R s m args below meth c E 5 h0 rF hF 74 [(0, .ref a0), (2, .int z.1), (3, .int z.2)] [] h := by
  unfold f_X12_solves_L74 at hf
  refine x_iload_n (v := z.2) C dX12_solves_74 rfl ?_
  refine x_aload_n (v := a0) C dX12_solves_75 rfl ?_
  obtain ⟨v8, e9, hf⟩ := j_bind hf
  refine x_get C dX12_solves_76 (jgI_some e9) fg_X12_342 ?_
  refine x_icmp_ge (tgt := 143) C dX12_solves_79 (by decide) (fun c26 => ?_) (fun c26 => ?_)
  · have hf := j_ifp hf c26
    obtain ⟨rfl, rfl⟩ := j_inj2 hf
    exact x_locr hk rfl
  · have hf := j_ifn hf c26
    refine x_iload_n (v := z.1) C dX12_solves_82 rfl ?_
    refine x_istore C dX12_solves_83 (by decide) ?_
    obtain ⟨q18, e19, hf⟩ := j_bind hf
    refine x_loc [(0, .ref a0), (2, .int z.1), (3, .int z.2), (4, .int z.1)] rfl ?_
    refine x_loop (s_X12_solves_L85 C hret hdd a0 z.1 z.2) e19 ?_
    refine x_iload (v := q18.1) C dX12_solves_115 rfl ?_
    refine x_aload_n (v := a0) C dX12_solves_117 rfl ?_
    obtain ⟨v20, e21, hf⟩ := j_bind hf
    refine x_get C dX12_solves_118 (jgI_some e21) fg_X12_342 ?_
    refine x_icmp_ne (tgt := 126) C dX12_solves_121 (by decide) (fun c27 => ?_) (fun c27 => ?_)
    · have hf := j_ifn hf c27
      refine x_aload_n (v := a0) C dX12_solves_126 rfl ?_
      refine x_iload_n (v := z.1) C dX12_solves_127 rfl ?_
      refine x_iload (v := q18.1) C dX12_solves_128 rfl ?_
      refine x_iload_n (v := z.2) C dX12_solves_130 rfl ?_
      obtain ⟨u24, e25, hf⟩ := j_bind hf
      obtain ⟨q22, e23, hf⟩ := j_bind hf
      refine x_callV (As := [.int z.1, .int q18.1, .int z.2]) (rest := []) C dX12_solves_131 (m_X12_takesStep (l := l) (E := E) (d := d - 1) (by omega) e23) km_X12_takesStep lk_X12_358 kv_X12_takesStep (ci := 9) rfl e25 rfl (by omega) (Nat.le_of_ble_eq_true rfl) (j_le_of (q_X12_takesStep e23)) (Or.inr (q_X12_takesStep e23)) ?_
      refine x_iinc (v := z.1) C dX12_solves_134 rfl ki_1 (by decide) ?_
      refine x_iinc (v := z.2) C dX12_solves_137 rfl ki_1 (by decide) ?_
      refine x_goto (tgt := 74) C dX12_solves_140 (by decide) ?_
      obtain ⟨rfl, rfl⟩ := j_inj2 hf
      exact x_locr hk rfl
    · have hf := j_ifp hf c27
      refine x_iconst C dX12_solves_124 ki_0 ?_
      obtain ⟨rfl, rfl⟩ := j_inj2 hf
      obtain ⟨rfl, rfl⟩ := hk
      exact x_zret C hret (Or.inl rfl) dX12_solves_125
set_option maxHeartbeats 4000000 in
set_option maxRecDepth 100000 in
theorem s_X12_solves_L145 {p : Program} {l : Launch} {e : Env} {R : Room} {s : State} {m : MethodId} {args : Array Value} {below : List Frame} {meth : Method} {c : Code} {E : JE} {h0 hF : JH} {rF : Option Value} {d : Nat} (C : j_C p s m args meth c R E cX12_solves 5 RX12 h0 hF d) (hret : meth.sig.returnType = (some .boolean)) (hdd : 2 ≤ d) (a0 : Nat) (z : Int32) (h : JH) (r : Int32 ⊕ (Int32 ⊕ Int32)) (h1 : JH) (hf : f_X12_solves_L145 a0 z h = some (r, h1)) (hk : Sum.elim (fun z => Xw p l e R s m args below meth c E 5 h0 rF hF 145 [(0, .ref a0), (3, .int z)] [] h1) (fun t => Sum.elim (fun rr => some (.int rr) = rF ∧ h1 = hF) (fun t => Xw p l e R s m args below meth c E 5 h0 rF hF 173 [(0, .ref a0), (3, .int t)] [] h1) t) r) : Xw p l e R s m args below meth c E 5 h0 rF hF 145 [(0, .ref a0), (3, .int z)] [] h := by
  unfold f_X12_solves_L145 at hf
  refine x_iload_n (v := z) C dX12_solves_145 rfl ?_
  refine x_aload_n (v := a0) C dX12_solves_146 rfl ?_
  obtain ⟨v32, e33, hf⟩ := j_bind hf
  refine x_get C dX12_solves_147 (jgI_some e33) fg_X12_342 ?_
  refine x_icmp_ge (tgt := 173) C dX12_solves_150 (by decide) (fun c38 => ?_) (fun c38 => ?_)
  · have hf := j_ifp hf c38
    obtain ⟨rfl, rfl⟩ := j_inj2 hf
    exact x_locr hk rfl
  · have hf := j_ifn hf c38
    refine x_aload_n (v := a0) C dX12_solves_153 rfl ?_
    obtain ⟨v34, e35, hf⟩ := j_bind hf
    refine x_get C dX12_solves_154 (jgR_some e35) fg_X12_247 ?_
    refine x_bipush C dX12_solves_157 kb_6 ?_
    refine x_iload_n (v := z) C dX12_solves_159 rfl ?_
    refine x_imul C dX12_solves_160 ?_
    obtain ⟨v36, e37, hf⟩ := j_bind hf
    refine x_iald C dX12_solves_161 e37 ?_
    refine x_if_eq (tgt := 167) C dX12_solves_162 (by decide) (fun c39 => ?_) (fun c39 => ?_)
    · have hf := j_ifp hf c39
      refine x_iinc (v := z) C dX12_solves_167 rfl ki_1 (by decide) ?_
      refine x_goto (tgt := 145) C dX12_solves_170 (by decide) ?_
      obtain ⟨rfl, rfl⟩ := j_inj2 hf
      exact x_locr hk rfl
    · have hf := j_ifn hf c39
      refine x_iconst C dX12_solves_165 ki_0 ?_
      obtain ⟨rfl, rfl⟩ := j_inj2 hf
      obtain ⟨rfl, rfl⟩ := hk
      exact x_zret C hret (Or.inl rfl) dX12_solves_166
set_option maxHeartbeats 4000000 in
set_option maxRecDepth 100000 in
theorem s_X12_solves_L189 {p : Program} {l : Launch} {e : Env} {R : Room} {s : State} {m : MethodId} {args : Array Value} {below : List Frame} {meth : Method} {c : Code} {E : JE} {h0 hF : JH} {rF : Option Value} {d : Nat} (C : j_C p s m args meth c R E cX12_solves 5 RX12 h0 hF d) (hret : meth.sig.returnType = (some .boolean)) (hdd : 2 ≤ d) (a0 : Nat) (z : Int32) (h : JH) (r : Int32 ⊕ Int32) (h1 : JH) (hf : f_X12_solves_L189 a0 z h = some (r, h1)) (hk : Sum.elim (fun z => Xw p l e R s m args below meth c E 5 h0 rF hF 189 [(0, .ref a0), (3, .int z)] [] h1) (fun t => Xw p l e R s m args below meth c E 5 h0 rF hF 228 [(0, .ref a0), (3, .int t)] [] h1) r) : Xw p l e R s m args below meth c E 5 h0 rF hF 189 [(0, .ref a0), (3, .int z)] [] h := by
  unfold f_X12_solves_L189 at hf
  refine x_iload_n (v := z) C dX12_solves_189 rfl ?_
  refine x_aload_n (v := a0) C dX12_solves_190 rfl ?_
  obtain ⟨v52, e53, hf⟩ := j_bind hf
  refine x_get C dX12_solves_191 (jgI_some e53) fg_X12_342 ?_
  refine x_icmp_ge (tgt := 228) C dX12_solves_194 (by decide) (fun c66 => ?_) (fun c66 => ?_)
  · have hf := j_ifp hf c66
    obtain ⟨rfl, rfl⟩ := j_inj2 hf
    exact x_locr hk rfl
  · have hf := j_ifn hf c66
    refine x_aload_n (v := a0) C dX12_solves_197 rfl ?_
    obtain ⟨v54, e55, hf⟩ := j_bind hf
    refine x_get C dX12_solves_198 (jgR_some e55) fg_X12_72 ?_
    refine x_iload_n (v := z) C dX12_solves_201 rfl ?_
    refine x_iconst C dX12_solves_202 ki_1 ?_
    refine x_iadd C dX12_solves_203 ?_
    refine x_aload_n (v := a0) C dX12_solves_204 rfl ?_
    refine x_aload_n (v := a0) C dX12_solves_205 rfl ?_
    obtain ⟨v56, e57, hf⟩ := j_bind hf
    refine x_get C dX12_solves_206 (jgR_some e57) fg_X12_247 ?_
    refine x_bipush C dX12_solves_209 kb_6 ?_
    refine x_iload_n (v := z) C dX12_solves_211 rfl ?_
    refine x_iconst C dX12_solves_212 ki_1 ?_
    refine x_isub C dX12_solves_213 ?_
    refine x_imul C dX12_solves_214 ?_
    obtain ⟨v58, e59, hf⟩ := j_bind hf
    refine x_iald C dX12_solves_215 e59 ?_
    refine x_ineg C dX12_solves_216 ?_
    refine x_i2l C dX12_solves_217 ?_
    obtain ⟨u64, e65, hf⟩ := j_bind hf
    obtain ⟨q60, e61, hf⟩ := j_bind hf
    refine x_callV (As := [.long ((-v58).toInt64)]) (rest := [.int (z + (1 : Int32)), .ref v54]) C dX12_solves_218 (m_X12_left (l := l) (E := E) (d := d - 1) (by omega) e61) km_X12_left lk_X12_10 kv_X12_left (ci := 9) rfl e65 rfl (by omega) (Nat.le_of_ble_eq_true rfl) (j_le_of (q_X12_left e61)) (Or.inr (q_X12_left e61)) ?_
    obtain ⟨h62, e63, hf⟩ := j_bind hf
    refine x_iast C dX12_solves_221 e63 ?_
    refine x_iinc (v := z) C dX12_solves_222 rfl ki_1 (by decide) ?_
    refine x_goto (tgt := 189) C dX12_solves_225 (by decide) ?_
    obtain ⟨rfl, rfl⟩ := j_inj2 hf
    exact x_locr hk rfl
set_option maxHeartbeats 4000000 in
set_option maxRecDepth 100000 in
theorem m_X12_solves {l : Launch} {E : JE} {d : Nat} (hdd : 2 ≤ d) {a0 : Nat} {a1 : Int32} {h : JH} {q : Int32 × JH} (hf : f_X12_solves a0 a1 h = some q) : Con l E d yX12_solves cX12_solves 5 (some .boolean) [.ref a0, .int a1] h (some (.int q.1)) q.2 := by
  refine j_start rfl (Nat.le_of_ble_eq_true rfl) ?_
  intro p e s m args below meth c C hret hnm
  refine x_loc [(0, .ref a0), (1, .int a1)] rfl ?_
  unfold f_X12_solves at hf
  refine x_iconst C dX12_solves_0 ki_0 ?_
  refine x_istore_n C dX12_solves_1 (by decide) ?_
  obtain ⟨q6, e7, hf⟩ := j_bind hf
  refine x_loc [(0, .ref a0), (1, .int a1), (2, .int (0 : Int32))] rfl ?_
  refine x_loop (s_X12_solves_L2 C hret hdd a0 a1) e7 ?_
  refine x_iconst C dX12_solves_70 ki_0 ?_
  refine x_istore_n C dX12_solves_71 (by decide) ?_
  refine x_iconst C dX12_solves_72 ki_1 ?_
  refine x_istore_n C dX12_solves_73 (by decide) ?_
  obtain ⟨q28, e29, hf⟩ := j_bind hf
  refine x_loc [(0, .ref a0), (2, .int (0 : Int32)), (3, .int (1 : Int32))] rfl ?_
  refine x_loop (s_X12_solves_L74 C hret hdd a0) e29 ?_
  cases y71 : q28.1 with
  | inl r31 =>
    rw [y71] at hf
    have hf := j_eliml hf
    obtain rfl := j_inj hf
    exact ⟨rfl, rfl⟩
  | inr t30 =>
    rw [y71] at hf
    have hf := j_elimr hf
    refine j_elimG ?_
    refine x_iload_n (v := t30.1) C dX12_solves_143 rfl ?_
    refine x_istore_n C dX12_solves_144 (by decide) ?_
    obtain ⟨q40, e41, hf⟩ := j_bind hf
    refine x_loc [(0, .ref a0), (3, .int t30.1)] rfl ?_
    refine x_loop (s_X12_solves_L145 C hret hdd a0) e41 ?_
    cases y72 : q40.1 with
    | inl r43 =>
      rw [y72] at hf
      have hf := j_eliml hf
      obtain rfl := j_inj hf
      exact ⟨rfl, rfl⟩
    | inr t42 =>
      rw [y72] at hf
      have hf := j_elimr hf
      refine j_elimG ?_
      refine x_aload_n (v := a0) C dX12_solves_173 rfl ?_
      obtain ⟨v44, e45, hf⟩ := j_bind hf
      refine x_get C dX12_solves_174 (jgR_some e45) fg_X12_72 ?_
      refine x_iconst C dX12_solves_177 ki_0 ?_
      refine x_iconst C dX12_solves_178 ki_0 ?_
      obtain ⟨h46, e47, hf⟩ := j_bind hf
      refine x_iast C dX12_solves_179 e47 ?_
      refine x_aload_n (v := a0) C dX12_solves_180 rfl ?_
      obtain ⟨v48, e49, hf⟩ := j_bind hf
      refine x_get C dX12_solves_181 (jgR_some e49) fg_X12_72 ?_
      refine x_iconst C dX12_solves_184 ki_1 ?_
      refine x_iconst C dX12_solves_185 ki_1 ?_
      obtain ⟨h50, e51, hf⟩ := j_bind hf
      refine x_iast C dX12_solves_186 e51 ?_
      refine x_iconst C dX12_solves_187 ki_1 ?_
      refine x_istore_n C dX12_solves_188 (by decide) ?_
      obtain ⟨q67, e68, hf⟩ := j_bind hf
      refine x_loc [(0, .ref a0), (3, .int (1 : Int32))] rfl ?_
      refine x_loop (s_X12_solves_L189 C hret hdd a0) e68 ?_
      refine x_iconst C dX12_solves_228 ki_1 ?_
      obtain rfl := j_inj hf
      exact x_zret C hret (Or.inr rfl) dX12_solves_229
set_option maxHeartbeats 4000000 in
set_option maxRecDepth 100000 in
theorem m_X12_own {l : Launch} {E : JE} {d : Nat} (hdd : 6 ≤ d) {a0 : Nat} {a1 : Int32} {a2 : Int32} {a3 : Int32} {h : JH} {q : Int32 × JH} (hf : f_X12_own a0 a1 a2 a3 h = some q) : Con l E d yX12_own cX12_own 4 (some .int) [.ref a0, .int a1, .int a2, .int a3] h (some (.int q.1)) q.2 := by
  refine j_start rfl (Nat.le_of_ble_eq_true rfl) ?_
  intro p e s m args below meth c C hret hnm
  refine x_loc [(0, .ref a0), (1, .int a1), (2, .int a2), (3, .int a3)] rfl ?_
  unfold f_X12_own at hf
  refine x_aload_n (v := a0) C dX12_own_0 rfl ?_
  refine x_iconst C dX12_own_1 ki_0 ?_
  obtain ⟨h1, e2, hf⟩ := j_bind hf
  refine x_put C dX12_own_2 e2 fp_X12_1 rfl rfl ?_
  refine x_aload_n (v := a0) C dX12_own_5 rfl ?_
  refine x_iload_n (v := a1) C dX12_own_6 rfl ?_
  obtain ⟨u41, e42, hf⟩ := j_bind hf
  obtain ⟨q3, e4, hf⟩ := j_bind hf
  refine x_callV (As := [.int a1]) (rest := []) C dX12_own_7 (m_X12_isRegister (l := l) (E := E) (d := d - 1) (by omega) e4) km_X12_isRegister lk_X12_269 kv_X12_isRegister (ci := 9) rfl e42 rfl (by omega) (Nat.le_of_ble_eq_true rfl) (j_le_of (q_X12_isRegister e4)) (Or.inr (q_X12_isRegister e4)) ?_
  refine x_if_eq (tgt := 20) C dX12_own_10 (by decide) (fun c43 => ?_) (fun c43 => ?_)
  · have hf := j_ifp hf c43
    refine x_iconst C dX12_own_20 ki_m1 ?_
    obtain rfl := j_inj hf
    exact x_iret C hret dX12_own_21
  · have hf := j_ifn hf c43
    refine x_iload_n (v := a2) C dX12_own_13 rfl ?_
    obtain ⟨q5, e6, hf⟩ := j_bind hf
    refine x_callS (As := [.int a2]) (rest := []) C dX12_own_14 (m_X12_isWeight (l := l) (E := E) (d := d - 1) (by omega) e6) km_X12_isWeight lk_X12_272 ks_X12_isWeight rfl (by omega) (Nat.le_of_ble_eq_true rfl) (j_le_of (q_X12_isWeight e6)) (Or.inr (q_X12_isWeight e6)) ?_
    refine x_if_ne (tgt := 22) C dX12_own_17 (by decide) (fun c44 => ?_) (fun c44 => ?_)
    · have hf := j_ifn hf c44
      refine x_aload_n (v := a0) C dX12_own_22 rfl ?_
      refine x_iload_n (v := a2) C dX12_own_23 rfl ?_
      obtain ⟨u39, e40, hf⟩ := j_bind hf
      obtain ⟨q7, e8, hf⟩ := j_bind hf
      refine x_callV (As := [.int a2]) (rest := []) C dX12_own_24 (m_X12_laysRoots (l := l) (E := E) (d := d - 1) (by omega) e8) km_X12_laysRoots lk_X12_355 kv_X12_laysRoots (ci := 9) rfl e40 rfl (by omega) (Nat.le_of_ble_eq_true rfl) (j_le_of (q_X12_laysRoots e8)) (Or.inr (q_X12_laysRoots e8)) ?_
      refine x_iload_n (v := a3) C dX12_own_27 rfl ?_
      refine x_iconst C dX12_own_28 ki_0 ?_
      refine x_aload_n (v := a0) C dX12_own_29 rfl ?_
      obtain ⟨v9, e10, hf⟩ := j_bind hf
      refine x_get C dX12_own_30 (jgI_some e10) fg_X12_352 ?_
      refine x_iconst C dX12_own_33 ki_1 ?_
      refine x_isub C dX12_own_34 ?_
      obtain ⟨q11, e12, hf⟩ := j_bind hf
      refine x_callS (As := [.int a3, .int (0 : Int32), .int (v9 - (1 : Int32))]) (rest := []) C dX12_own_35 (m_X12_within (l := l) (E := E) (d := d - 1) (by omega) e12) km_X12_within lk_X12_45 ks_X12_within rfl (by omega) (Nat.le_of_ble_eq_true rfl) (j_le_of (q_X12_within e12)) (Or.inr (q_X12_within e12)) ?_
      refine x_if_ne (tgt := 43) C dX12_own_38 (by decide) (fun c45 => ?_) (fun c45 => ?_)
      · have hf := j_ifn hf c45
        refine x_aload_n (v := a0) C dX12_own_43 rfl ?_
        refine x_aload_n (v := a0) C dX12_own_44 rfl ?_
        obtain ⟨v13, e14, hf⟩ := j_bind hf
        refine x_get C dX12_own_45 (jgR_some e14) fg_X12_244 ?_
        refine x_iload_n (v := a3) C dX12_own_48 rfl ?_
        obtain ⟨v15, e16, hf⟩ := j_bind hf
        refine x_iald C dX12_own_49 e16 ?_
        obtain ⟨u37, e38, hf⟩ := j_bind hf
        obtain ⟨q17, e18, hf⟩ := j_bind hf
        refine x_callV (As := [.int v15]) (rest := []) C dX12_own_50 (m_X12_solves (l := l) (E := E) (d := d - 1) (by omega) e18) km_X12_solves lk_X12_362 kv_X12_solves (ci := 9) rfl e38 rfl (by omega) (Nat.le_of_ble_eq_true rfl) (j_le_of (q_X12_solves e18)) (Or.inr (q_X12_solves e18)) ?_
        refine x_if_ne (tgt := 59) C dX12_own_53 (by decide) (fun c46 => ?_) (fun c46 => ?_)
        · have hf := j_ifn hf c46
          refine x_aload_n (v := a0) C dX12_own_59 rfl ?_
          refine x_iload_n (v := a2) C dX12_own_60 rfl ?_
          obtain ⟨u35, e36, hf⟩ := j_bind hf
          obtain ⟨q19, e20, hf⟩ := j_bind hf
          refine x_callV (As := [.int a2]) (rest := []) C dX12_own_61 (m_X12_builds (l := l) (E := E) (d := d - 1) (by omega) e20) km_X12_builds lk_X12_339 kv_X12_builds (ci := 9) rfl e36 rfl (by omega) (Nat.le_of_ble_eq_true rfl) (j_le_of (q_X12_builds e20)) (Or.inr (q_X12_builds e20)) ?_
          refine x_aload_n (v := a0) C dX12_own_64 rfl ?_
          obtain ⟨v21, e22, hf⟩ := j_bind hf
          refine x_get C dX12_own_65 (jgR_some e22) fg_X12_69 ?_
          refine x_iconst C dX12_own_68 ki_0 ?_
          refine x_aload_n (v := a0) C dX12_own_69 rfl ?_
          obtain ⟨v23, e24, hf⟩ := j_bind hf
          refine x_get C dX12_own_70 (jgR_some e24) fg_X12_218 ?_
          refine x_sipush C dX12_own_73 ks_181 ?_
          refine x_iload_n (v := a1) C dX12_own_76 rfl ?_
          refine x_imul C dX12_own_77 ?_
          obtain ⟨q25, e26, hf⟩ := j_bind hf
          refine x_callS (As := [.ref v21, .int (0 : Int32), .ref v23, .int ((181 : Int32) * a1)]) (rest := []) C dX12_own_78 (m_X12_copies (l := l) (E := E) (d := d - 1) (by omega) e26) km_X12_copies lk_X12_58 ks_X12_copies rfl (by omega) (Nat.le_of_ble_eq_true rfl) (j_le_of (q_X12_copies e26)) (Or.inr (q_X12_copies e26)) ?_
          refine x_aload_n (v := a0) C dX12_own_81 rfl ?_
          obtain ⟨v27, e28, hf⟩ := j_bind hf
          refine x_get C dX12_own_82 (jgR_some e28) fg_X12_215 ?_
          refine x_iload_n (v := a1) C dX12_own_85 rfl ?_
          refine x_iload_n (v := a2) C dX12_own_86 rfl ?_
          obtain ⟨h29, e30, hf⟩ := j_bind hf
          refine x_iast C dX12_own_87 e30 ?_
          refine x_aload_n (v := a0) C dX12_own_88 rfl ?_
          obtain ⟨v31, e32, hf⟩ := j_bind hf
          refine x_get C dX12_own_89 (jgR_some e32) fg_X12_244 ?_
          refine x_iload_n (v := a3) C dX12_own_92 rfl ?_
          obtain ⟨v33, e34, hf⟩ := j_bind hf
          refine x_iald C dX12_own_93 e34 ?_
          obtain rfl := j_inj hf
          exact x_iret C hret dX12_own_94
        · have hf := j_ifp hf c46
          refine x_bipush C dX12_own_56 kb_m2 ?_
          obtain rfl := j_inj hf
          exact x_iret C hret dX12_own_58
      · have hf := j_ifp hf c45
        refine x_iconst C dX12_own_41 ki_m1 ?_
        obtain rfl := j_inj hf
        exact x_iret C hret dX12_own_42
    · have hf := j_ifp hf c44
      refine x_iconst C dX12_own_20 ki_m1 ?_
      obtain rfl := j_inj hf
      exact x_iret C hret dX12_own_21
set_option maxHeartbeats 4000000 in
set_option maxRecDepth 100000 in
theorem m_X12_sortOf {l : Launch} {E : JE} {d : Nat} (hdd : 0 ≤ d) {a0 : Nat} {a1 : Int32} {h : JH} {q : Int32 × JH} (hf : f_X12_sortOf a0 a1 h = some q) : Con l E d yX12_sortOf cX12_sortOf 2 (some .int) [.ref a0, .int a1] h (some (.int q.1)) q.2 := by
  refine j_start rfl (Nat.le_of_ble_eq_true rfl) ?_
  intro p e s m args below meth c C hret hnm
  refine x_loc [(0, .ref a0), (1, .int a1)] rfl ?_
  unfold f_X12_sortOf at hf
  refine x_iload_n (v := a1) C dX12_sortOf_0 rfl ?_
  refine x_if_ne (tgt := 11) C dX12_sortOf_1 (by decide) (fun c5 => ?_) (fun c5 => ?_)
  · have hf := j_ifn hf c5
    refine x_iconst C dX12_sortOf_11 ki_1 ?_
    refine x_aload_n (v := a0) C dX12_sortOf_12 rfl ?_
    obtain ⟨v1, e2, hf⟩ := j_bind hf
    refine x_get C dX12_sortOf_13 (jgI_some e2) fg_X12_365 ?_
    refine x_isub C dX12_sortOf_16 ?_
    obtain rfl := j_inj hf
    exact x_iret C hret dX12_sortOf_17
  · have hf := j_ifp hf c5
    refine x_aload_n (v := a0) C dX12_sortOf_4 rfl ?_
    obtain ⟨v3, e4, hf⟩ := j_bind hf
    refine x_get C dX12_sortOf_5 (jgI_some e4) fg_X12_365 ?_
    refine x_goto (tgt := 17) C dX12_sortOf_8 (by decide) ?_
    obtain rfl := j_inj hf
    exact x_iret C hret dX12_sortOf_17
