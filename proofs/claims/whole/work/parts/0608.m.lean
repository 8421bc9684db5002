set_option maxHeartbeats 4000000 in
set_option maxRecDepth 100000 in
theorem s_X12_takes_L15 {p : Program} {l : Launch} {e : Env} {R : Room} {s : State} {m : MethodId} {args : Array Value} {below : List Frame} {meth : Method} {c : Code} {E : JE} {h0 hF : JH} {rF : Option Value} {d : Nat} (C : j_C p s m args meth c R E cX12_takes 3 RX12 h0 hF d) (hret : meth.sig.returnType = none) (hdd : 0 ≤ d) (a0 : Nat) (z : Int32) (h : JH) (r : Int32 ⊕ Int32) (h1 : JH) (hf : f_X12_takes_L15 a0 z h = some (r, h1)) (hk : Sum.elim (fun z => Xw p l e R s m args below meth c E 3 h0 rF hF 15 [(0, .ref a0), (1, .int z)] [] h1) (fun t => Xw p l e R s m args below meth c E 3 h0 rF hF 39 [(0, .ref a0), (1, .int t)] [] h1) r) : Xw p l e R s m args below meth c E 3 h0 rF hF 15 [(0, .ref a0), (1, .int z)] [] h := by
  unfold f_X12_takes_L15 at hf
  refine x_iload_n (v := z) C dX12_takes_15 rfl ?_
  refine x_bipush C dX12_takes_16 kb_6 ?_
  refine x_icmp_ge (tgt := 39) C dX12_takes_18 (by decide) (fun c15 => ?_) (fun c15 => ?_)
  · have hf := j_ifp hf c15
    obtain ⟨rfl, rfl⟩ := j_inj2 hf
    exact x_locr hk rfl
  · have hf := j_ifn hf c15
    refine x_aload_n (v := a0) C dX12_takes_21 rfl ?_
    obtain ⟨v7, e8, hf⟩ := j_bind hf
    refine x_get C dX12_takes_22 (jgR_some e8) fg_X12_209 ?_
    refine x_iload_n (v := z) C dX12_takes_25 rfl ?_
    refine x_aload_n (v := a0) C dX12_takes_26 rfl ?_
    obtain ⟨v9, e10, hf⟩ := j_bind hf
    refine x_get C dX12_takes_27 (jgR_some e10) fg_X12_174 ?_
    refine x_iload_n (v := z) C dX12_takes_30 rfl ?_
    obtain ⟨v11, e12, hf⟩ := j_bind hf
    refine x_iald C dX12_takes_31 e12 ?_
    obtain ⟨h13, e14, hf⟩ := j_bind hf
    refine x_iast C dX12_takes_32 e14 ?_
    refine x_iinc (v := z) C dX12_takes_33 rfl ki_1 (by decide) ?_
    refine x_goto (tgt := 15) C dX12_takes_36 (by decide) ?_
    obtain ⟨rfl, rfl⟩ := j_inj2 hf
    exact x_locr hk rfl
set_option maxHeartbeats 4000000 in
set_option maxRecDepth 100000 in
theorem s_X12_takes_L41 {p : Program} {l : Launch} {e : Env} {R : Room} {s : State} {m : MethodId} {args : Array Value} {below : List Frame} {meth : Method} {c : Code} {E : JE} {h0 hF : JH} {rF : Option Value} {d : Nat} (C : j_C p s m args meth c R E cX12_takes 3 RX12 h0 hF d) (hret : meth.sig.returnType = none) (hdd : 0 ≤ d) (a0 : Nat) (z : Int32) (h : JH) (r : Int32 ⊕ Int32) (h1 : JH) (hf : f_X12_takes_L41 a0 z h = some (r, h1)) (hk : Sum.elim (fun z => Xw p l e R s m args below meth c E 3 h0 rF hF 41 [(0, .ref a0), (1, .int z)] [] h1) (fun t => Xw p l e R s m args below meth c E 3 h0 rF hF 66 [(0, .ref a0), (1, .int t)] [] h1) r) : Xw p l e R s m args below meth c E 3 h0 rF hF 41 [(0, .ref a0), (1, .int z)] [] h := by
  unfold f_X12_takes_L41 at hf
  refine x_iload_n (v := z) C dX12_takes_41 rfl ?_
  refine x_sipush C dX12_takes_42 ks_1086 ?_
  refine x_icmp_ge (tgt := 66) C dX12_takes_45 (by decide) (fun c26 => ?_) (fun c26 => ?_)
  · have hf := j_ifp hf c26
    obtain ⟨rfl, rfl⟩ := j_inj2 hf
    exact x_locr hk rfl
  · have hf := j_ifn hf c26
    refine x_aload_n (v := a0) C dX12_takes_48 rfl ?_
    obtain ⟨v18, e19, hf⟩ := j_bind hf
    refine x_get C dX12_takes_49 (jgR_some e19) fg_X12_212 ?_
    refine x_iload_n (v := z) C dX12_takes_52 rfl ?_
    refine x_aload_n (v := a0) C dX12_takes_53 rfl ?_
    obtain ⟨v20, e21, hf⟩ := j_bind hf
    refine x_get C dX12_takes_54 (jgR_some e21) fg_X12_177 ?_
    refine x_iload_n (v := z) C dX12_takes_57 rfl ?_
    obtain ⟨v22, e23, hf⟩ := j_bind hf
    refine x_iald C dX12_takes_58 e23 ?_
    obtain ⟨h24, e25, hf⟩ := j_bind hf
    refine x_iast C dX12_takes_59 e25 ?_
    refine x_iinc (v := z) C dX12_takes_60 rfl ki_1 (by decide) ?_
    refine x_goto (tgt := 41) C dX12_takes_63 (by decide) ?_
    obtain ⟨rfl, rfl⟩ := j_inj2 hf
    exact x_locr hk rfl
set_option maxHeartbeats 4000000 in
set_option maxRecDepth 100000 in
theorem s_X12_takes_L82 {p : Program} {l : Launch} {e : Env} {R : Room} {s : State} {m : MethodId} {args : Array Value} {below : List Frame} {meth : Method} {c : Code} {E : JE} {h0 hF : JH} {rF : Option Value} {d : Nat} (C : j_C p s m args meth c R E cX12_takes 3 RX12 h0 hF d) (hret : meth.sig.returnType = none) (hdd : 0 ≤ d) (a0 : Nat) (a1 : Int32) (z : Int32) (h : JH) (r : Int32 ⊕ Int32) (h1 : JH) (hf : f_X12_takes_L82 a0 a1 z h = some (r, h1)) (hk : Sum.elim (fun z => Xw p l e R s m args below meth c E 3 h0 rF hF 82 [(0, .ref a0), (1, .int a1), (2, .int z)] [] h1) (fun t => Xw p l e R s m args below meth c E 3 h0 rF hF 116 [(0, .ref a0), (1, .int a1), (2, .int t)] [] h1) r) : Xw p l e R s m args below meth c E 3 h0 rF hF 82 [(0, .ref a0), (1, .int a1), (2, .int z)] [] h := by
  unfold f_X12_takes_L82 at hf
  refine x_iload_n (v := z) C dX12_takes_82 rfl ?_
  refine x_sipush C dX12_takes_83 ks_181 ?_
  refine x_icmp_ge (tgt := 116) C dX12_takes_86 (by decide) (fun c39 => ?_) (fun c39 => ?_)
  · have hf := j_ifp hf c39
    obtain ⟨rfl, rfl⟩ := j_inj2 hf
    exact x_locr hk rfl
  · have hf := j_ifn hf c39
    refine x_aload_n (v := a0) C dX12_takes_89 rfl ?_
    obtain ⟨v33, e34, hf⟩ := j_bind hf
    refine x_get C dX12_takes_90 (jgR_some e34) fg_X12_218 ?_
    refine x_sipush C dX12_takes_93 ks_181 ?_
    refine x_iload_n (v := a1) C dX12_takes_96 rfl ?_
    refine x_imul C dX12_takes_97 ?_
    refine x_iload_n (v := z) C dX12_takes_98 rfl ?_
    refine x_iadd C dX12_takes_99 ?_
    refine x_iload_n (v := z) C dX12_takes_100 rfl ?_
    refine x_if_ne (tgt := 108) C dX12_takes_101 (by decide) (fun c40 => ?_) (fun c40 => ?_)
    · have hf := j_ifn hf c40
      refine x_iconst C dX12_takes_108 ki_0 ?_
      obtain ⟨h35, e36, hf⟩ := j_bind hf
      refine x_iast C dX12_takes_109 e36 ?_
      refine x_iinc (v := z) C dX12_takes_110 rfl ki_1 (by decide) ?_
      refine x_goto (tgt := 82) C dX12_takes_113 (by decide) ?_
      obtain ⟨rfl, rfl⟩ := j_inj2 hf
      exact x_locr hk rfl
    · have hf := j_ifp hf c40
      refine x_iconst C dX12_takes_104 ki_1 ?_
      refine x_goto (tgt := 109) C dX12_takes_105 (by decide) ?_
      obtain ⟨h37, e38, hf⟩ := j_bind hf
      refine x_iast C dX12_takes_109 e38 ?_
      refine x_iinc (v := z) C dX12_takes_110 rfl ki_1 (by decide) ?_
      refine x_goto (tgt := 82) C dX12_takes_113 (by decide) ?_
      obtain ⟨rfl, rfl⟩ := j_inj2 hf
      exact x_locr hk rfl
set_option maxHeartbeats 4000000 in
set_option maxRecDepth 100000 in
theorem s_X12_takes_L68 {p : Program} {l : Launch} {e : Env} {R : Room} {s : State} {m : MethodId} {args : Array Value} {below : List Frame} {meth : Method} {c : Code} {E : JE} {h0 hF : JH} {rF : Option Value} {d : Nat} (C : j_C p s m args meth c R E cX12_takes 3 RX12 h0 hF d) (hret : meth.sig.returnType = none) (hdd : 0 ≤ d) (a0 : Nat) (z : Int32) (h : JH) (r : Int32 ⊕ Int32) (h1 : JH) (hf : f_X12_takes_L68 a0 z h = some (r, h1)) (hk : Sum.elim (fun z => Xw p l e R s m args below meth c E 3 h0 rF hF 68 [(0, .ref a0), (1, .int z)] [] h1) (fun t => Xw p l e R s m args below meth c E 3 h0 rF hF 122 [(0, .ref a0), (1, .int t)] [] h1) r) : Xw p l e R s m args below meth c E 3 h0 rF hF 68 [(0, .ref a0), (1, .int z)] [] h := by
  unfold f_X12_takes_L68 at hf
  refine x_iload_n (v := z) C dX12_takes_68 rfl ?_
  refine x_iconst C dX12_takes_69 ki_4 ?_
  refine x_icmp_ge (tgt := 122) C dX12_takes_70 (by decide) (fun c35 => ?_) (fun c35 => ?_)
  · have hf := j_ifp hf c35
    obtain ⟨rfl, rfl⟩ := j_inj2 hf
    exact x_locr hk rfl
  · have hf := j_ifn hf c35
    refine x_aload_n (v := a0) C dX12_takes_73 rfl ?_
    obtain ⟨v29, e30, hf⟩ := j_bind hf
    refine x_get C dX12_takes_74 (jgR_some e30) fg_X12_215 ?_
    refine x_iload_n (v := z) C dX12_takes_77 rfl ?_
    refine x_iconst C dX12_takes_78 ki_0 ?_
    obtain ⟨h31, e32, hf⟩ := j_bind hf
    refine x_iast C dX12_takes_79 e32 ?_
    refine x_iconst C dX12_takes_80 ki_0 ?_
    refine x_istore_n C dX12_takes_81 (by decide) ?_
    obtain ⟨q33, e34, hf⟩ := j_bind hf
    refine x_loc [(0, .ref a0), (1, .int z), (2, .int (0 : Int32))] rfl ?_
    refine x_loop (s_X12_takes_L82 C hret hdd a0 z) e34 ?_
    refine x_iinc (v := z) C dX12_takes_116 rfl ki_1 (by decide) ?_
    refine x_goto (tgt := 68) C dX12_takes_119 (by decide) ?_
    obtain ⟨rfl, rfl⟩ := j_inj2 hf
    exact x_locr hk rfl
set_option maxHeartbeats 4000000 in
set_option maxRecDepth 100000 in
theorem s_X12_takes_L124 {p : Program} {l : Launch} {e : Env} {R : Room} {s : State} {m : MethodId} {args : Array Value} {below : List Frame} {meth : Method} {c : Code} {E : JE} {h0 hF : JH} {rF : Option Value} {d : Nat} (C : j_C p s m args meth c R E cX12_takes 3 RX12 h0 hF d) (hret : meth.sig.returnType = none) (hdd : 0 ≤ d) (a0 : Nat) (z : Int32) (h : JH) (r : Int32 ⊕ Int32) (h1 : JH) (hf : f_X12_takes_L124 a0 z h = some (r, h1)) (hk : Sum.elim (fun z => Xw p l e R s m args below meth c E 3 h0 rF hF 124 [(0, .ref a0), (1, .int z)] [] h1) (fun t => Xw p l e R s m args below meth c E 3 h0 rF hF 143 [(0, .ref a0), (1, .int t)] [] h1) r) : Xw p l e R s m args below meth c E 3 h0 rF hF 124 [(0, .ref a0), (1, .int z)] [] h := by
  unfold f_X12_takes_L124 at hf
  refine x_iload_n (v := z) C dX12_takes_124 rfl ?_
  refine x_bipush C dX12_takes_125 kb_8 ?_
  refine x_icmp_ge (tgt := 143) C dX12_takes_127 (by decide) (fun c42 => ?_) (fun c42 => ?_)
  · have hf := j_ifp hf c42
    obtain ⟨rfl, rfl⟩ := j_inj2 hf
    exact x_locr hk rfl
  · have hf := j_ifn hf c42
    refine x_aload_n (v := a0) C dX12_takes_130 rfl ?_
    obtain ⟨v38, e39, hf⟩ := j_bind hf
    refine x_get C dX12_takes_131 (jgR_some e39) fg_X12_221 ?_
    refine x_iload_n (v := z) C dX12_takes_134 rfl ?_
    refine x_iconst C dX12_takes_135 ki_0 ?_
    obtain ⟨h40, e41, hf⟩ := j_bind hf
    refine x_bast C dX12_takes_136 e41 ?_
    refine x_iinc (v := z) C dX12_takes_137 rfl ki_1 (by decide) ?_
    refine x_goto (tgt := 124) C dX12_takes_140 (by decide) ?_
    obtain ⟨rfl, rfl⟩ := j_inj2 hf
    exact x_locr hk rfl
set_option maxHeartbeats 4000000 in
set_option maxRecDepth 100000 in
theorem s_X12_takes_L145 {p : Program} {l : Launch} {e : Env} {R : Room} {s : State} {m : MethodId} {args : Array Value} {below : List Frame} {meth : Method} {c : Code} {E : JE} {h0 hF : JH} {rF : Option Value} {d : Nat} (C : j_C p s m args meth c R E cX12_takes 3 RX12 h0 hF d) (hret : meth.sig.returnType = none) (hdd : 0 ≤ d) (a0 : Nat) (z : Int32) (h : JH) (r : Int32 ⊕ Int32) (h1 : JH) (hf : f_X12_takes_L145 a0 z h = some (r, h1)) (hk : Sum.elim (fun z => Xw p l e R s m args below meth c E 3 h0 rF hF 145 [(0, .ref a0), (1, .int z)] [] h1) (fun t => Xw p l e R s m args below meth c E 3 h0 rF hF 163 [(0, .ref a0), (1, .int t)] [] h1) r) : Xw p l e R s m args below meth c E 3 h0 rF hF 145 [(0, .ref a0), (1, .int z)] [] h := by
  unfold f_X12_takes_L145 at hf
  refine x_iload_n (v := z) C dX12_takes_145 rfl ?_
  refine x_iconst C dX12_takes_146 ki_2 ?_
  refine x_icmp_ge (tgt := 163) C dX12_takes_147 (by decide) (fun c49 => ?_) (fun c49 => ?_)
  · have hf := j_ifp hf c49
    obtain ⟨rfl, rfl⟩ := j_inj2 hf
    exact x_locr hk rfl
  · have hf := j_ifn hf c49
    refine x_aload_n (v := a0) C dX12_takes_150 rfl ?_
    obtain ⟨v45, e46, hf⟩ := j_bind hf
    refine x_get C dX12_takes_151 (jgR_some e46) fg_X12_225 ?_
    refine x_iload_n (v := z) C dX12_takes_154 rfl ?_
    refine x_iconst C dX12_takes_155 ki_0 ?_
    obtain ⟨h47, e48, hf⟩ := j_bind hf
    refine x_bast C dX12_takes_156 e48 ?_
    refine x_iinc (v := z) C dX12_takes_157 rfl ki_1 (by decide) ?_
    refine x_goto (tgt := 145) C dX12_takes_160 (by decide) ?_
    obtain ⟨rfl, rfl⟩ := j_inj2 hf
    exact x_locr hk rfl
set_option maxHeartbeats 4000000 in
set_option maxRecDepth 100000 in
theorem m_X12_takes {l : Launch} {E : JE} {d : Nat} (hdd : 0 ≤ d) {a0 : Nat} {h : JH} {q : Unit × JH} (hf : f_X12_takes a0 h = some q) : Con l E d yX12_takes cX12_takes 3 none [.ref a0] h (none) q.2 := by
  refine j_start rfl (Nat.le_of_ble_eq_true rfl) ?_
  intro p e s m args below meth c C hret hnm
  refine x_loc [(0, .ref a0)] rfl ?_
  unfold f_X12_takes at hf
  refine x_aload_n (v := a0) C dX12_takes_0 rfl ?_
  refine x_iconst C dX12_takes_1 ki_m1 ?_
  obtain ⟨h1, e2, hf⟩ := j_bind hf
  refine x_put C dX12_takes_2 e2 fp_X12_49 rfl rfl ?_
  refine x_aload_n (v := a0) C dX12_takes_5 rfl ?_
  refine x_aload_n (v := a0) C dX12_takes_6 rfl ?_
  obtain ⟨v3, e4, hf⟩ := j_bind hf
  refine x_get C dX12_takes_7 (jgI_some e4) fg_X12_129 ?_
  obtain ⟨h5, e6, hf⟩ := j_bind hf
  refine x_put C dX12_takes_10 e6 fp_X12_206 rfl rfl ?_
  refine x_iconst C dX12_takes_13 ki_0 ?_
  refine x_istore_n C dX12_takes_14 (by decide) ?_
  obtain ⟨q16, e17, hf⟩ := j_bind hf
  refine x_loc [(0, .ref a0), (1, .int (0 : Int32))] rfl ?_
  refine x_loop (s_X12_takes_L15 C hret hdd a0) e17 ?_
  refine x_iconst C dX12_takes_39 ki_0 ?_
  refine x_istore_n C dX12_takes_40 (by decide) ?_
  obtain ⟨q27, e28, hf⟩ := j_bind hf
  refine x_loc [(0, .ref a0), (1, .int (0 : Int32))] rfl ?_
  refine x_loop (s_X12_takes_L41 C hret hdd a0) e28 ?_
  refine x_iconst C dX12_takes_66 ki_0 ?_
  refine x_istore_n C dX12_takes_67 (by decide) ?_
  obtain ⟨q36, e37, hf⟩ := j_bind hf
  refine x_loc [(0, .ref a0), (1, .int (0 : Int32))] rfl ?_
  refine x_loop (s_X12_takes_L68 C hret hdd a0) e37 ?_
  refine x_iconst C dX12_takes_122 ki_0 ?_
  refine x_istore_n C dX12_takes_123 (by decide) ?_
  obtain ⟨q43, e44, hf⟩ := j_bind hf
  refine x_loc [(0, .ref a0), (1, .int (0 : Int32))] rfl ?_
  refine x_loop (s_X12_takes_L124 C hret hdd a0) e44 ?_
  refine x_iconst C dX12_takes_143 ki_0 ?_
  refine x_istore_n C dX12_takes_144 (by decide) ?_
  obtain ⟨q50, e51, hf⟩ := j_bind hf
  refine x_loc [(0, .ref a0), (1, .int (0 : Int32))] rfl ?_
  refine x_loop (s_X12_takes_L145 C hret hdd a0) e51 ?_
  obtain rfl := j_inj hf
  exact x_vret C hret dX12_takes_163
set_option maxHeartbeats 4000000 in
set_option maxRecDepth 100000 in
theorem s_X12_book_L99 {p : Program} {l : Launch} {e : Env} {R : Room} {s : State} {m : MethodId} {args : Array Value} {below : List Frame} {meth : Method} {c : Code} {E : JE} {h0 hF : JH} {rF : Option Value} {d : Nat} (C : j_C p s m args meth c R E cX12_book 4 RX12 h0 hF d) (hret : meth.sig.returnType = (some .int)) (hdd : 62 ≤ d) (a0 : Nat) (a2 : Int32) (z : Int32) (h : JH) (r : Int32 ⊕ Int32) (h1 : JH) (hf : f_X12_book_L99 a0 a2 z h = some (r, h1)) (hk : Sum.elim (fun z => Xw p l e R s m args below meth c E 4 h0 rF hF 99 [(0, .ref a0), (2, .int a2), (3, .int z)] [] h1) (fun t => Xw p l e R s m args below meth c E 4 h0 rF hF 118 [(0, .ref a0), (2, .int a2), (3, .int t)] [] h1) r) : Xw p l e R s m args below meth c E 4 h0 rF hF 99 [(0, .ref a0), (2, .int a2), (3, .int z)] [] h := by
  unfold f_X12_book_L99 at hf
  refine x_iload_n (v := z) C dX12_book_99 rfl ?_
  refine x_if_eq (tgt := 118) C dX12_book_100 (by decide) (fun c35 => ?_) (fun c35 => ?_)
  · have hf := j_ifp hf c35
    obtain ⟨rfl, rfl⟩ := j_inj2 hf
    exact x_locr hk rfl
  · have hf := j_ifn hf c35
    refine x_aload_n (v := a0) C dX12_book_103 rfl ?_
    obtain ⟨v29, e30, hf⟩ := j_bind hf
    refine x_get C dX12_book_104 (jgI_some e30) fg_X12_97 ?_
    refine x_if_eq (tgt := 118) C dX12_book_107 (by decide) (fun c36 => ?_) (fun c36 => ?_)
    · have hf := j_ifp hf c36
      obtain ⟨rfl, rfl⟩ := j_inj2 hf
      exact x_locr hk rfl
    · have hf := j_ifn hf c36
      refine x_aload_n (v := a0) C dX12_book_110 rfl ?_
      obtain ⟨u33, e34, hf⟩ := j_bind hf
      obtain ⟨q31, e32, hf⟩ := j_bind hf
      refine x_callV (As := []) (rest := []) C dX12_book_111 (m_X12_letLine (l := l) (E := E) (d := d - 1) (by omega) e32) km_X12_letLine lk_X12_200 kv_X12_letLine (ci := 9) rfl e34 rfl (by omega) (Nat.le_of_ble_eq_true rfl) (j_le_of (q_X12_letLine e32)) (Or.inr (q_X12_letLine e32)) ?_
      refine x_istore_n C dX12_book_114 (by decide) ?_
      refine x_goto (tgt := 99) C dX12_book_115 (by decide) ?_
      obtain ⟨rfl, rfl⟩ := j_inj2 hf
      exact x_locr hk rfl
set_option maxHeartbeats 4000000 in
set_option maxRecDepth 100000 in
theorem m_X12_book {l : Launch} {E : JE} {d : Nat} (hdd : 62 ≤ d) {a0 : Nat} {a1 : Int32} {h : JH} {q : Int32 × JH} (hf : f_X12_book a0 a1 h = some q) : Con l E d yX12_book cX12_book 4 (some .int) [.ref a0, .int a1] h (some (.int q.1)) q.2 := by
  refine j_start rfl (Nat.le_of_ble_eq_true rfl) ?_
  intro p e s m args below meth c C hret hnm
  refine x_loc [(0, .ref a0), (1, .int a1)] rfl ?_
  unfold f_X12_book at hf
  refine x_aload_n (v := a0) C dX12_book_0 rfl ?_
  refine x_iconst C dX12_book_1 ki_0 ?_
  obtain ⟨h1, e2, hf⟩ := j_bind hf
  refine x_put C dX12_book_2 e2 fp_X12_1 rfl rfl ?_
  refine x_iload_n (v := a1) C dX12_book_5 rfl ?_
  refine x_iconst C dX12_book_6 ki_0 ?_
  refine x_aload_n (v := a0) C dX12_book_7 rfl ?_
  obtain ⟨v3, e4, hf⟩ := j_bind hf
  refine x_get C dX12_book_8 (jgI_some e4) fg_X12_75 ?_
  obtain ⟨q5, e6, hf⟩ := j_bind hf
  refine x_callS (As := [.int a1, .int (0 : Int32), .int v3]) (rest := []) C dX12_book_11 (m_X12_within (l := l) (E := E) (d := d - 1) (by omega) e6) km_X12_within lk_X12_45 ks_X12_within rfl (by omega) (Nat.le_of_ble_eq_true rfl) (j_le_of (q_X12_within e6)) (Or.inr (q_X12_within e6)) ?_
  refine x_if_ne (tgt := 19) C dX12_book_14 (by decide) (fun c95 => ?_) (fun c95 => ?_)
  · have hf := j_ifn hf c95
    refine x_aload_n (v := a0) C dX12_book_19 rfl ?_
    refine x_iload_n (v := a1) C dX12_book_20 rfl ?_
    obtain ⟨h7, e8, hf⟩ := j_bind hf
    refine x_put C dX12_book_21 e8 fp_X12_85 rfl rfl ?_
    refine x_aload_n (v := a0) C dX12_book_24 rfl ?_
    refine x_iconst C dX12_book_25 ki_0 ?_
    obtain ⟨h9, e10, hf⟩ := j_bind hf
    refine x_put C dX12_book_26 e10 fp_X12_75 rfl rfl ?_
    refine x_aload_n (v := a0) C dX12_book_29 rfl ?_
    refine x_iconst C dX12_book_30 ki_0 ?_
    obtain ⟨h11, e12, hf⟩ := j_bind hf
    refine x_put C dX12_book_31 e12 fp_X12_88 rfl rfl ?_
    refine x_aload_n (v := a0) C dX12_book_34 rfl ?_
    refine x_iconst C dX12_book_35 ki_0 ?_
    obtain ⟨h13, e14, hf⟩ := j_bind hf
    refine x_put C dX12_book_36 e14 fp_X12_108 rfl rfl ?_
    refine x_aload_n (v := a0) C dX12_book_39 rfl ?_
    refine x_iconst C dX12_book_40 ki_0 ?_
    obtain ⟨h15, e16, hf⟩ := j_bind hf
    refine x_put C dX12_book_41 e16 fp_X12_129 rfl rfl ?_
    refine x_aload_n (v := a0) C dX12_book_44 rfl ?_
    refine x_iconst C dX12_book_45 ki_0 ?_
    obtain ⟨h17, e18, hf⟩ := j_bind hf
    refine x_put C dX12_book_46 e18 fp_X12_158 rfl rfl ?_
    refine x_aload_n (v := a0) C dX12_book_49 rfl ?_
    obtain ⟨v19, e20, hf⟩ := j_bind hf
    refine x_get C dX12_book_50 (jgI_some e20) fg_X12_7 ?_
    refine x_istore_n C dX12_book_53 (by decide) ?_
    refine x_aload_n (v := a0) C dX12_book_54 rfl ?_
    refine x_sipush C dX12_book_55 ks_1009 ?_
    obtain ⟨h21, e22, hf⟩ := j_bind hf
    refine x_put C dX12_book_58 e22 fp_X12_7 rfl rfl ?_
    refine x_aload_n (v := a0) C dX12_book_61 rfl ?_
    obtain ⟨u93, e94, hf⟩ := j_bind hf
    obtain ⟨q23, e24, hf⟩ := j_bind hf
    refine x_callV (As := []) (rest := []) C dX12_book_62 (m_X12_laysBasic (l := l) (E := E) (d := d - 1) (by omega) e24) km_X12_laysBasic lk_X12_194 kv_X12_laysBasic (ci := 9) rfl e94 rfl (by omega) (Nat.le_of_ble_eq_true rfl) (j_le_of (q_X12_laysBasic e24)) (Or.inr (q_X12_laysBasic e24)) ?_
    refine x_aload_n (v := a0) C dX12_book_65 rfl ?_
    obtain ⟨u91, e92, hf⟩ := j_bind hf
    obtain ⟨q25, e26, hf⟩ := j_bind hf
    refine x_callV (As := []) (rest := []) C dX12_book_66 (m_X12_go (l := l) (E := E) (d := d - 1) (by omega) e26) km_X12_go lk_X12_121 kv_X12_go (ci := 9) rfl e92 rfl (by omega) (Nat.le_of_ble_eq_true rfl) (j_le_of (q_X12_go e26)) (Or.inr (q_X12_go e26)) ?_
    refine x_aload_n (v := a0) C dX12_book_69 rfl ?_
    refine x_bipush C dX12_book_70 kb_112 ?_
    refine x_bipush C dX12_book_72 kb_114 ?_
    refine x_bipush C dX12_book_74 kb_105 ?_
    refine x_bipush C dX12_book_76 kb_109 ?_
    refine x_bipush C dX12_book_78 kb_101 ?_
    obtain ⟨u89, e90, hf⟩ := j_bind hf
    obtain ⟨q27, e28, hf⟩ := j_bind hf
    refine x_callV (As := [.int (112 : Int32), .int (114 : Int32), .int (105 : Int32), .int (109 : Int32), .int (101 : Int32)]) (rest := []) C dX12_book_80 (m_X12_isWord (l := l) (E := E) (d := d - 1) (by omega) e28) km_X12_isWord lk_X12_125 kv_X12_isWord (ci := 9) rfl e90 rfl (by omega) (Nat.le_of_ble_eq_true rfl) (j_le_of (q_X12_isWord e28)) (Or.inr (q_X12_isWord e28)) ?_
    refine x_if_eq (tgt := 93) C dX12_book_83 (by decide) (fun c96 => ?_) (fun c96 => ?_)
    · have hf := j_ifp hf c96
      refine x_iconst C dX12_book_93 ki_1 ?_
      refine x_goto (tgt := 98) C dX12_book_94 (by decide) ?_
      refine x_istore_n C dX12_book_98 (by decide) ?_
      obtain ⟨q37, e38, hf⟩ := j_bind hf
      refine x_loc [(0, .ref a0), (2, .int v19), (3, .int (1 : Int32))] rfl ?_
      refine x_loop (s_X12_book_L99 C hret hdd a0 v19) e38 ?_
      refine x_iload_n (v := q37.1) C dX12_book_118 rfl ?_
      refine x_if_ne (tgt := 139) C dX12_book_119 (by decide) (fun c97 => ?_) (fun c97 => ?_)
      · have hf := j_ifn hf c97
        refine x_aload_n (v := a0) C dX12_book_139 rfl ?_
        obtain ⟨u43, e44, hf⟩ := j_bind hf
        obtain ⟨q39, e40, hf⟩ := j_bind hf
        refine x_callV (As := []) (rest := []) C dX12_book_140 (m_X12_takes (l := l) (E := E) (d := d - 1) (by omega) e40) km_X12_takes lk_X12_203 kv_X12_takes (ci := 9) rfl e44 rfl (by omega) (Nat.le_of_ble_eq_true rfl) (j_le_of (q_X12_takes e40)) (Or.inr (q_X12_takes e40)) ?_
        refine x_aload_n (v := a0) C dX12_book_143 rfl ?_
        obtain ⟨v41, e42, hf⟩ := j_bind hf
        refine x_get C dX12_book_144 (jgI_some e42) fg_X12_206 ?_
        obtain rfl := j_inj hf
        exact x_iret C hret dX12_book_147
      · have hf := j_ifp hf c97
        refine x_aload_n (v := a0) C dX12_book_122 rfl ?_
        refine x_iload_n (v := v19) C dX12_book_123 rfl ?_
        obtain ⟨h45, e46, hf⟩ := j_bind hf
        refine x_put C dX12_book_124 e46 fp_X12_7 rfl rfl ?_
        refine x_aload_n (v := a0) C dX12_book_127 rfl ?_
        obtain ⟨u51, e52, hf⟩ := j_bind hf
        obtain ⟨q47, e48, hf⟩ := j_bind hf
        refine x_callV (As := []) (rest := []) C dX12_book_128 (m_X12_laysBasic (l := l) (E := E) (d := d - 1) (by omega) e48) km_X12_laysBasic lk_X12_194 kv_X12_laysBasic (ci := 9) rfl e52 rfl (by omega) (Nat.le_of_ble_eq_true rfl) (j_le_of (q_X12_laysBasic e48)) (Or.inr (q_X12_laysBasic e48)) ?_
        refine x_bipush C dX12_book_131 kb_m2 ?_
        refine x_aload_n (v := a0) C dX12_book_133 rfl ?_
        obtain ⟨v49, e50, hf⟩ := j_bind hf
        refine x_get C dX12_book_134 (jgI_some e50) fg_X12_108 ?_
        refine x_isub C dX12_book_137 ?_
        obtain rfl := j_inj hf
        exact x_iret C hret dX12_book_138
    · have hf := j_ifn hf c96
      refine x_aload_n (v := a0) C dX12_book_86 rfl ?_
      obtain ⟨u87, e88, hf⟩ := j_bind hf
      obtain ⟨q53, e54, hf⟩ := j_bind hf
      refine x_callV (As := []) (rest := []) C dX12_book_87 (m_X12_primeLine (l := l) (E := E) (d := d - 1) (by omega) e54) km_X12_primeLine lk_X12_197 kv_X12_primeLine (ci := 9) rfl e88 rfl (by omega) (Nat.le_of_ble_eq_true rfl) (j_le_of (q_X12_primeLine e54)) (Or.inr (q_X12_primeLine e54)) ?_
      refine x_if_eq (tgt := 97) C dX12_book_90 (by decide) (fun c98 => ?_) (fun c98 => ?_)
      · have hf := j_ifp hf c98
        refine x_iconst C dX12_book_97 ki_0 ?_
        refine x_istore_n C dX12_book_98 (by decide) ?_
        obtain ⟨q55, e56, hf⟩ := j_bind hf
        refine x_loc [(0, .ref a0), (2, .int v19), (3, .int (0 : Int32))] rfl ?_
        refine x_loop (s_X12_book_L99 C hret hdd a0 v19) e56 ?_
        refine x_iload_n (v := q55.1) C dX12_book_118 rfl ?_
        refine x_if_ne (tgt := 139) C dX12_book_119 (by decide) (fun c99 => ?_) (fun c99 => ?_)
        · have hf := j_ifn hf c99
          refine x_aload_n (v := a0) C dX12_book_139 rfl ?_
          obtain ⟨u61, e62, hf⟩ := j_bind hf
          obtain ⟨q57, e58, hf⟩ := j_bind hf
          refine x_callV (As := []) (rest := []) C dX12_book_140 (m_X12_takes (l := l) (E := E) (d := d - 1) (by omega) e58) km_X12_takes lk_X12_203 kv_X12_takes (ci := 9) rfl e62 rfl (by omega) (Nat.le_of_ble_eq_true rfl) (j_le_of (q_X12_takes e58)) (Or.inr (q_X12_takes e58)) ?_
          refine x_aload_n (v := a0) C dX12_book_143 rfl ?_
          obtain ⟨v59, e60, hf⟩ := j_bind hf
          refine x_get C dX12_book_144 (jgI_some e60) fg_X12_206 ?_
          obtain rfl := j_inj hf
          exact x_iret C hret dX12_book_147
        · have hf := j_ifp hf c99
          refine x_aload_n (v := a0) C dX12_book_122 rfl ?_
          refine x_iload_n (v := v19) C dX12_book_123 rfl ?_
          obtain ⟨h63, e64, hf⟩ := j_bind hf
          refine x_put C dX12_book_124 e64 fp_X12_7 rfl rfl ?_
          refine x_aload_n (v := a0) C dX12_book_127 rfl ?_
          obtain ⟨u69, e70, hf⟩ := j_bind hf
          obtain ⟨q65, e66, hf⟩ := j_bind hf
          refine x_callV (As := []) (rest := []) C dX12_book_128 (m_X12_laysBasic (l := l) (E := E) (d := d - 1) (by omega) e66) km_X12_laysBasic lk_X12_194 kv_X12_laysBasic (ci := 9) rfl e70 rfl (by omega) (Nat.le_of_ble_eq_true rfl) (j_le_of (q_X12_laysBasic e66)) (Or.inr (q_X12_laysBasic e66)) ?_
          refine x_bipush C dX12_book_131 kb_m2 ?_
          refine x_aload_n (v := a0) C dX12_book_133 rfl ?_
          obtain ⟨v67, e68, hf⟩ := j_bind hf
          refine x_get C dX12_book_134 (jgI_some e68) fg_X12_108 ?_
          refine x_isub C dX12_book_137 ?_
          obtain rfl := j_inj hf
          exact x_iret C hret dX12_book_138
      · have hf := j_ifn hf c98
        refine x_iconst C dX12_book_93 ki_1 ?_
        refine x_goto (tgt := 98) C dX12_book_94 (by decide) ?_
        refine x_istore_n C dX12_book_98 (by decide) ?_
        obtain ⟨q71, e72, hf⟩ := j_bind hf
        refine x_loc [(0, .ref a0), (2, .int v19), (3, .int (1 : Int32))] rfl ?_
        refine x_loop (s_X12_book_L99 C hret hdd a0 v19) e72 ?_
        refine x_iload_n (v := q71.1) C dX12_book_118 rfl ?_
        refine x_if_ne (tgt := 139) C dX12_book_119 (by decide) (fun c100 => ?_) (fun c100 => ?_)
        · have hf := j_ifn hf c100
          refine x_aload_n (v := a0) C dX12_book_139 rfl ?_
          obtain ⟨u77, e78, hf⟩ := j_bind hf
          obtain ⟨q73, e74, hf⟩ := j_bind hf
          refine x_callV (As := []) (rest := []) C dX12_book_140 (m_X12_takes (l := l) (E := E) (d := d - 1) (by omega) e74) km_X12_takes lk_X12_203 kv_X12_takes (ci := 9) rfl e78 rfl (by omega) (Nat.le_of_ble_eq_true rfl) (j_le_of (q_X12_takes e74)) (Or.inr (q_X12_takes e74)) ?_
          refine x_aload_n (v := a0) C dX12_book_143 rfl ?_
          obtain ⟨v75, e76, hf⟩ := j_bind hf
          refine x_get C dX12_book_144 (jgI_some e76) fg_X12_206 ?_
          obtain rfl := j_inj hf
          exact x_iret C hret dX12_book_147
        · have hf := j_ifp hf c100
          refine x_aload_n (v := a0) C dX12_book_122 rfl ?_
          refine x_iload_n (v := v19) C dX12_book_123 rfl ?_
          obtain ⟨h79, e80, hf⟩ := j_bind hf
          refine x_put C dX12_book_124 e80 fp_X12_7 rfl rfl ?_
          refine x_aload_n (v := a0) C dX12_book_127 rfl ?_
          obtain ⟨u85, e86, hf⟩ := j_bind hf
          obtain ⟨q81, e82, hf⟩ := j_bind hf
          refine x_callV (As := []) (rest := []) C dX12_book_128 (m_X12_laysBasic (l := l) (E := E) (d := d - 1) (by omega) e82) km_X12_laysBasic lk_X12_194 kv_X12_laysBasic (ci := 9) rfl e86 rfl (by omega) (Nat.le_of_ble_eq_true rfl) (j_le_of (q_X12_laysBasic e82)) (Or.inr (q_X12_laysBasic e82)) ?_
          refine x_bipush C dX12_book_131 kb_m2 ?_
          refine x_aload_n (v := a0) C dX12_book_133 rfl ?_
          obtain ⟨v83, e84, hf⟩ := j_bind hf
          refine x_get C dX12_book_134 (jgI_some e84) fg_X12_108 ?_
          refine x_isub C dX12_book_137 ?_
          obtain rfl := j_inj hf
          exact x_iret C hret dX12_book_138
  · have hf := j_ifp hf c95
    refine x_iconst C dX12_book_17 ki_m1 ?_
    obtain rfl := j_inj hf
    exact x_iret C hret dX12_book_18
