set_option maxHeartbeats 4000000 in
set_option maxRecDepth 100000 in
theorem m_X12_trace {l : Launch} {E : JE} {d : Nat} (hdd : 4 ≤ d) {a0 : Nat} {a1 : Int32} {a2 : Int32} {h : JH} {q : Int64 × JH} (hf : f_X12_trace a0 a1 a2 h = some q) : Con l E d yX12_trace cX12_trace 5 (some .long) [.ref a0, .int a1, .int a2] h (some (.long q.1)) q.2 := by
  refine j_start rfl (Nat.le_of_ble_eq_true rfl) ?_
  intro p e s m args below meth c C hret hnm
  refine x_loc [(0, .ref a0), (1, .int a1), (2, .int a2)] rfl ?_
  unfold f_X12_trace at hf
  refine x_aload_n (v := a0) C dX12_trace_0 rfl ?_
  refine x_iconst C dX12_trace_1 ki_0 ?_
  obtain ⟨h1, e2, hf⟩ := j_bind hf
  refine x_put C dX12_trace_2 e2 fp_X12_1 rfl rfl ?_
  refine x_iload_n (v := a1) C dX12_trace_5 rfl ?_
  refine x_iload_n (v := a2) C dX12_trace_6 rfl ?_
  obtain ⟨q3, e4, hf⟩ := j_bind hf
  refine x_callS (As := [.int a1, .int a2]) (rest := []) C dX12_trace_7 (m_X12_isTraced (l := l) (E := E) (d := d - 1) (by omega) e4) km_X12_isTraced lk_X12_310 ks_X12_isTraced rfl (by omega) (Nat.le_of_ble_eq_true rfl) (j_le_of (q_X12_isTraced e4)) (Or.inr (q_X12_isTraced e4)) ?_
  refine x_if_ne (tgt := 17) C dX12_trace_10 (by decide) (fun c11 => ?_) (fun c11 => ?_)
  · have hf := j_ifn hf c11
    refine x_aload_n (v := a0) C dX12_trace_17 rfl ?_
    refine x_iload_n (v := a1) C dX12_trace_18 rfl ?_
    refine x_iload_n (v := a2) C dX12_trace_19 rfl ?_
    obtain ⟨u9, e10, hf⟩ := j_bind hf
    obtain ⟨q5, e6, hf⟩ := j_bind hf
    refine x_callV (As := [.int a1, .int a2]) (rest := []) C dX12_trace_20 (m_X12_traceOf (l := l) (E := E) (d := d - 1) (by omega) e6) km_X12_traceOf lk_X12_317 kv_X12_traceOf (ci := 9) rfl e10 rfl (by omega) (Nat.le_of_ble_eq_true rfl) (j_le_of (q_X12_traceOf e6)) (Or.inr (q_X12_traceOf e6)) ?_
    refine x_lstore_n C dX12_trace_23 (by decide) ?_
    refine x_aload_n (v := a0) C dX12_trace_24 rfl ?_
    obtain ⟨v7, e8, hf⟩ := j_bind hf
    refine x_get C dX12_trace_25 (jgI_some e8) fg_X12_293 ?_
    refine x_if_eq (tgt := 37) C dX12_trace_28 (by decide) (fun c12 => ?_) (fun c12 => ?_)
    · have hf := j_ifp hf c12
      refine x_lload_n (v := q5.1) C dX12_trace_37 rfl ?_
      obtain rfl := j_inj hf
      exact x_lret C hret dX12_trace_38
    · have hf := j_ifn hf c12
      refine x_ldc2 C dX12_trace_31 cn_X12_321 ?_
      refine x_goto (tgt := 38) C dX12_trace_34 (by decide) ?_
      obtain rfl := j_inj hf
      exact x_lret C hret dX12_trace_38
  · have hf := j_ifp hf c11
    refine x_ldc2 C dX12_trace_13 cn_X12_315 ?_
    obtain rfl := j_inj hf
    exact x_lret C hret dX12_trace_16
set_option maxHeartbeats 4000000 in
set_option maxRecDepth 100000 in
theorem s_X12_traceLeft_L58 {p : Program} {l : Launch} {e : Env} {R : Room} {s : State} {m : MethodId} {args : Array Value} {below : List Frame} {meth : Method} {c : Code} {E : JE} {h0 hF : JH} {rF : Option Value} {d : Nat} (C : j_C p s m args meth c R E cX12_traceLeft 13 RX12 h0 hF d) (hret : meth.sig.returnType = (some .int)) (hdd : 3 ≤ d) (a0 : Nat) (a1 : Int32) (a2 : Int32) (a3 : Int64) (a5 : Int32) (z : (Int64 × Int64 × Int32)) (h : JH) (r : (Int64 × Int64 × Int32) ⊕ (Int64 × Int64 × Int32)) (h1 : JH) (hf : f_X12_traceLeft_L58 a0 a1 a2 a3 a5 z h = some (r, h1)) (hk : Sum.elim (fun z => Xw p l e R s m args below meth c E 13 h0 rF hF 58 [(0, .ref a0), (1, .int a1), (2, .int a2), (3, .long a3), (5, .int a5), (6, .long z.1), (8, .long z.2.1), (10, .int z.2.2)] [] h1) (fun t => Xw p l e R s m args below meth c E 13 h0 rF hF 102 [(0, .ref a0), (1, .int a1), (2, .int a2), (3, .long a3), (5, .int a5), (6, .long t.1), (8, .long t.2.1), (10, .int t.2.2)] [] h1) r) : Xw p l e R s m args below meth c E 13 h0 rF hF 58 [(0, .ref a0), (1, .int a1), (2, .int a2), (3, .long a3), (5, .int a5), (6, .long z.1), (8, .long z.2.1), (10, .int z.2.2)] [] h := by
  unfold f_X12_traceLeft_L58 at hf
  refine x_iload (v := z.2.2) C dX12_traceLeft_58 rfl ?_
  refine x_iload_n (v := a1) C dX12_traceLeft_60 rfl ?_
  refine x_icmp_gt (tgt := 102) C dX12_traceLeft_61 (by decide) (fun c15 => ?_) (fun c15 => ?_)
  · have hf := j_ifp hf c15
    obtain ⟨rfl, rfl⟩ := j_inj2 hf
    exact x_locr hk rfl
  · have hf := j_ifn hf c15
    refine x_aload_n (v := a0) C dX12_traceLeft_64 rfl ?_
    refine x_aload_n (v := a0) C dX12_traceLeft_65 rfl ?_
    refine x_iload (v := a5) C dX12_traceLeft_66 rfl ?_
    refine x_i2l C dX12_traceLeft_68 ?_
    obtain ⟨u13, e14, hf⟩ := j_bind hf
    obtain ⟨q7, e8, hf⟩ := j_bind hf
    refine x_callV (As := [.long a5.toInt64]) (rest := [.ref a0]) C dX12_traceLeft_69 (m_X12_left (l := l) (E := E) (d := d - 1) (by omega) e8) km_X12_left lk_X12_10 kv_X12_left (ci := 9) rfl e14 rfl (by omega) (Nat.le_of_ble_eq_true rfl) (j_le_of (q_X12_left e8)) (Or.inr (q_X12_left e8)) ?_
    refine x_i2l C dX12_traceLeft_72 ?_
    refine x_lload (v := z.2.1) C dX12_traceLeft_73 rfl ?_
    refine x_lmul C dX12_traceLeft_75 ?_
    refine x_iload_n (v := a2) C dX12_traceLeft_76 rfl ?_
    refine x_i2l C dX12_traceLeft_77 ?_
    refine x_lload (v := z.1) C dX12_traceLeft_78 rfl ?_
    refine x_lmul C dX12_traceLeft_80 ?_
    refine x_lsub C dX12_traceLeft_81 ?_
    obtain ⟨u11, e12, hf⟩ := j_bind hf
    obtain ⟨q9, e10, hf⟩ := j_bind hf
    refine x_callV (As := [.long ((q7.1.toInt64 * z.2.1) - (a2.toInt64 * z.1))]) (rest := []) C dX12_traceLeft_82 (m_X12_left (l := l) (E := E) (d := d - 1) (by omega) e10) km_X12_left lk_X12_10 kv_X12_left (ci := 9) rfl e12 rfl (by omega) (Nat.le_of_ble_eq_true rfl) (j_le_of (q_X12_left e10)) (Or.inr (q_X12_left e10)) ?_
    refine x_i2l C dX12_traceLeft_85 ?_
    refine x_lstore C dX12_traceLeft_86 (by decide) ?_
    refine x_lload (v := z.2.1) C dX12_traceLeft_88 rfl ?_
    refine x_lstore C dX12_traceLeft_90 (by decide) ?_
    refine x_lload (v := q9.1.toInt64) C dX12_traceLeft_92 rfl ?_
    refine x_lstore C dX12_traceLeft_94 (by decide) ?_
    refine x_iinc (v := z.2.2) C dX12_traceLeft_96 rfl ki_1 (by decide) ?_
    refine x_goto (tgt := 58) C dX12_traceLeft_99 (by decide) ?_
    obtain ⟨rfl, rfl⟩ := j_inj2 hf
    exact x_locr hk rfl
set_option maxHeartbeats 4000000 in
set_option maxRecDepth 100000 in
theorem s_X12_traceLeft_L23 {p : Program} {l : Launch} {e : Env} {R : Room} {s : State} {m : MethodId} {args : Array Value} {below : List Frame} {meth : Method} {c : Code} {E : JE} {h0 hF : JH} {rF : Option Value} {d : Nat} (C : j_C p s m args meth c R E cX12_traceLeft 13 RX12 h0 hF d) (hret : meth.sig.returnType = (some .int)) (hdd : 3 ≤ d) (a0 : Nat) (a1 : Int32) (a2 : Int32) (z : (Int64 × Int32)) (h : JH) (r : (Int64 × Int32) ⊕ (Int64 × Int32)) (h1 : JH) (hf : f_X12_traceLeft_L23 a0 a1 a2 z h = some (r, h1)) (hk : Sum.elim (fun z => Xw p l e R s m args below meth c E 13 h0 rF hF 23 [(0, .ref a0), (1, .int a1), (2, .int a2), (3, .long z.1), (5, .int z.2)] [] h1) (fun t => Xw p l e R s m args below meth c E 13 h0 rF hF 132 [(0, .ref a0), (1, .int a1), (2, .int a2), (3, .long t.1), (5, .int t.2)] [] h1) r) : Xw p l e R s m args below meth c E 13 h0 rF hF 23 [(0, .ref a0), (1, .int a1), (2, .int a2), (3, .long z.1), (5, .int z.2)] [] h := by
  unfold f_X12_traceLeft_L23 at hf
  refine x_iload (v := z.2) C dX12_traceLeft_23 rfl ?_
  refine x_iconst C dX12_traceLeft_25 ki_2 ?_
  refine x_iload_n (v := a2) C dX12_traceLeft_26 rfl ?_
  refine x_imul C dX12_traceLeft_27 ?_
  refine x_icmp_gt (tgt := 132) C dX12_traceLeft_28 (by decide) (fun c17 => ?_) (fun c17 => ?_)
  · have hf := j_ifp hf c17
    obtain ⟨rfl, rfl⟩ := j_inj2 hf
    exact x_locr hk rfl
  · have hf := j_ifn hf c17
    refine x_iload (v := z.2) C dX12_traceLeft_31 rfl ?_
    refine x_iload (v := z.2) C dX12_traceLeft_33 rfl ?_
    refine x_imul C dX12_traceLeft_35 ?_
    refine x_iconst C dX12_traceLeft_36 ki_4 ?_
    refine x_iload_n (v := a2) C dX12_traceLeft_37 rfl ?_
    refine x_imul C dX12_traceLeft_38 ?_
    refine x_icmp_gt (tgt := 126) C dX12_traceLeft_39 (by decide) (fun c18 => ?_) (fun c18 => ?_)
    · have hf := j_ifp hf c18
      refine x_iinc (v := z.2) C dX12_traceLeft_126 rfl ki_1 (by decide) ?_
      refine x_goto (tgt := 23) C dX12_traceLeft_129 (by decide) ?_
      obtain ⟨rfl, rfl⟩ := j_inj2 hf
      exact x_locr hk rfl
    · have hf := j_ifn hf c18
      refine x_lconst C dX12_traceLeft_42 kl_1 ?_
      refine x_lstore C dX12_traceLeft_43 (by decide) ?_
      refine x_aload_n (v := a0) C dX12_traceLeft_45 rfl ?_
      refine x_iload (v := z.2) C dX12_traceLeft_46 rfl ?_
      refine x_i2l C dX12_traceLeft_48 ?_
      obtain ⟨u15, e16, hf⟩ := j_bind hf
      obtain ⟨q5, e6, hf⟩ := j_bind hf
      refine x_callV (As := [.long z.2.toInt64]) (rest := []) C dX12_traceLeft_49 (m_X12_left (l := l) (E := E) (d := d - 1) (by omega) e6) km_X12_left lk_X12_10 kv_X12_left (ci := 9) rfl e16 rfl (by omega) (Nat.le_of_ble_eq_true rfl) (j_le_of (q_X12_left e6)) (Or.inr (q_X12_left e6)) ?_
      refine x_i2l C dX12_traceLeft_52 ?_
      refine x_lstore C dX12_traceLeft_53 (by decide) ?_
      refine x_iconst C dX12_traceLeft_55 ki_4 ?_
      refine x_istore C dX12_traceLeft_56 (by decide) ?_
      obtain ⟨q7, e8, hf⟩ := j_bind hf
      refine x_loc [(0, .ref a0), (1, .int a1), (2, .int a2), (3, .long z.1), (5, .int z.2), (6, .long (1 : Int64)), (8, .long q5.1.toInt64), (10, .int (4 : Int32))] rfl ?_
      refine x_loop (s_X12_traceLeft_L58 C hret hdd a0 a1 a2 z.1 z.2) e8 ?_
      refine x_aload_n (v := a0) C dX12_traceLeft_102 rfl ?_
      refine x_lload_n (v := z.1) C dX12_traceLeft_103 rfl ?_
      refine x_lload (v := q7.1.2.1) C dX12_traceLeft_104 rfl ?_
      refine x_iconst C dX12_traceLeft_106 ki_4 ?_
      refine x_iload_n (v := a2) C dX12_traceLeft_107 rfl ?_
      refine x_imul C dX12_traceLeft_108 ?_
      refine x_iload (v := z.2) C dX12_traceLeft_109 rfl ?_
      refine x_iload (v := z.2) C dX12_traceLeft_111 rfl ?_
      refine x_imul C dX12_traceLeft_113 ?_
      refine x_isub C dX12_traceLeft_114 ?_
      obtain ⟨q9, e10, hf⟩ := j_bind hf
      refine x_callS (As := [.int (((4 : Int32) * a2) - (z.2 * z.2))]) (rest := [.long q7.1.2.1, .long z.1, .ref a0]) C dX12_traceLeft_115 (m_X12_wholeOf (l := l) (E := E) (d := d - 1) (by omega) e10) km_X12_wholeOf lk_X12_288 ks_X12_wholeOf rfl (by omega) (Nat.le_of_ble_eq_true rfl) (j_le_of (q_X12_wholeOf e10)) (Or.inr (q_X12_wholeOf e10)) ?_
      refine x_i2l C dX12_traceLeft_118 ?_
      refine x_lmul C dX12_traceLeft_119 ?_
      refine x_ladd C dX12_traceLeft_120 ?_
      obtain ⟨u13, e14, hf⟩ := j_bind hf
      obtain ⟨q11, e12, hf⟩ := j_bind hf
      refine x_callV (As := [.long (z.1 + (q7.1.2.1 * q9.1.toInt64))]) (rest := []) C dX12_traceLeft_121 (m_X12_left (l := l) (E := E) (d := d - 1) (by omega) e12) km_X12_left lk_X12_10 kv_X12_left (ci := 9) rfl e14 rfl (by omega) (Nat.le_of_ble_eq_true rfl) (j_le_of (q_X12_left e12)) (Or.inr (q_X12_left e12)) ?_
      refine x_i2l C dX12_traceLeft_124 ?_
      refine x_lstore_n C dX12_traceLeft_125 (by decide) ?_
      refine x_iinc (v := z.2) C dX12_traceLeft_126 rfl ki_1 (by decide) ?_
      refine x_goto (tgt := 23) C dX12_traceLeft_129 (by decide) ?_
      obtain ⟨rfl, rfl⟩ := j_inj2 hf
      exact x_locr hk rfl
set_option maxHeartbeats 4000000 in
set_option maxRecDepth 100000 in
theorem s_X12_traceLeft_L135 {p : Program} {l : Launch} {e : Env} {R : Room} {s : State} {m : MethodId} {args : Array Value} {below : List Frame} {meth : Method} {c : Code} {E : JE} {h0 hF : JH} {rF : Option Value} {d : Nat} (C : j_C p s m args meth c R E cX12_traceLeft 13 RX12 h0 hF d) (hret : meth.sig.returnType = (some .int)) (hdd : 3 ≤ d) (a0 : Nat) (a1 : Int32) (a2 : Int32) (z : (Int64 × Int32)) (h : JH) (r : (Int64 × Int32) ⊕ (Int64 × Int32)) (h1 : JH) (hf : f_X12_traceLeft_L135 a0 a1 a2 z h = some (r, h1)) (hk : Sum.elim (fun z => Xw p l e R s m args below meth c E 13 h0 rF hF 135 [(0, .ref a0), (1, .int a1), (2, .int a2), (3, .long z.1), (5, .int z.2)] [] h1) (fun t => Xw p l e R s m args below meth c E 13 h0 rF hF 192 [(0, .ref a0), (1, .int a1), (2, .int a2), (3, .long t.1), (5, .int t.2)] [] h1) r) : Xw p l e R s m args below meth c E 13 h0 rF hF 135 [(0, .ref a0), (1, .int a1), (2, .int a2), (3, .long z.1), (5, .int z.2)] [] h := by
  unfold f_X12_traceLeft_L135 at hf
  refine x_iload (v := z.2) C dX12_traceLeft_135 rfl ?_
  refine x_iload_n (v := a2) C dX12_traceLeft_137 rfl ?_
  refine x_icmp_gt (tgt := 192) C dX12_traceLeft_138 (by decide) (fun c43 => ?_) (fun c43 => ?_)
  · have hf := j_ifp hf c43
    obtain ⟨rfl, rfl⟩ := j_inj2 hf
    exact x_locr hk rfl
  · have hf := j_ifn hf c43
    refine x_iload_n (v := a2) C dX12_traceLeft_141 rfl ?_
    refine x_iload (v := z.2) C dX12_traceLeft_142 rfl ?_
    obtain ⟨u21, e22, hf⟩ := j_bind hf
    refine x_irem C dX12_traceLeft_144 (jnz_some e22) ?_
    refine x_if_ne (tgt := 186) C dX12_traceLeft_145 (by decide) (fun c44 => ?_) (fun c44 => ?_)
    · have hf := j_ifn hf c44
      refine x_iinc (v := z.2) C dX12_traceLeft_186 rfl ki_1 (by decide) ?_
      refine x_goto (tgt := 135) C dX12_traceLeft_189 (by decide) ?_
      obtain ⟨rfl, rfl⟩ := j_inj2 hf
      exact x_locr hk rfl
    · have hf := j_ifp hf c44
      refine x_aload_n (v := a0) C dX12_traceLeft_148 rfl ?_
      refine x_lload_n (v := z.1) C dX12_traceLeft_149 rfl ?_
      refine x_ldc2 C dX12_traceLeft_150 cn_X12_306 ?_
      refine x_aload_n (v := a0) C dX12_traceLeft_153 rfl ?_
      refine x_iload (v := z.2) C dX12_traceLeft_154 rfl ?_
      refine x_iload_n (v := a2) C dX12_traceLeft_156 rfl ?_
      refine x_iload (v := z.2) C dX12_traceLeft_157 rfl ?_
      obtain ⟨u23, e24, hf⟩ := j_bind hf
      refine x_idiv C dX12_traceLeft_159 (jnz_some e24) ?_
      refine x_icmp_ge (tgt := 168) C dX12_traceLeft_160 (by decide) (fun c45 => ?_) (fun c45 => ?_)
      · have hf := j_ifp hf c45
        refine x_iload_n (v := a2) C dX12_traceLeft_168 rfl ?_
        refine x_iload (v := z.2) C dX12_traceLeft_169 rfl ?_
        obtain ⟨u25, e26, hf⟩ := j_bind hf
        refine x_idiv C dX12_traceLeft_171 (jnz_some e26) ?_
        refine x_iload_n (v := a1) C dX12_traceLeft_172 rfl ?_
        refine x_iconst C dX12_traceLeft_173 ki_1 ?_
        refine x_isub C dX12_traceLeft_174 ?_
        obtain ⟨u33, e34, hf⟩ := j_bind hf
        obtain ⟨q27, e28, hf⟩ := j_bind hf
        refine x_callV (As := [.int (a2 / z.2), .int (a1 - (1 : Int32))]) (rest := [.long (12 : Int64), .long z.1, .ref a0]) C dX12_traceLeft_175 (m_X12_power (l := l) (E := E) (d := d - 1) (by omega) e28) km_X12_power lk_X12_14 kv_X12_power (ci := 9) rfl e34 rfl (by omega) (Nat.le_of_ble_eq_true rfl) (j_le_of (q_X12_power e28)) (Or.inr (q_X12_power e28)) ?_
        refine x_i2l C dX12_traceLeft_178 ?_
        refine x_lmul C dX12_traceLeft_179 ?_
        refine x_ladd C dX12_traceLeft_180 ?_
        obtain ⟨u31, e32, hf⟩ := j_bind hf
        obtain ⟨q29, e30, hf⟩ := j_bind hf
        refine x_callV (As := [.long (z.1 + ((12 : Int64) * q27.1.toInt64))]) (rest := []) C dX12_traceLeft_181 (m_X12_left (l := l) (E := E) (d := d - 1) (by omega) e30) km_X12_left lk_X12_10 kv_X12_left (ci := 9) rfl e32 rfl (by omega) (Nat.le_of_ble_eq_true rfl) (j_le_of (q_X12_left e30)) (Or.inr (q_X12_left e30)) ?_
        refine x_i2l C dX12_traceLeft_184 ?_
        refine x_lstore_n C dX12_traceLeft_185 (by decide) ?_
        refine x_iinc (v := z.2) C dX12_traceLeft_186 rfl ki_1 (by decide) ?_
        refine x_goto (tgt := 135) C dX12_traceLeft_189 (by decide) ?_
        obtain ⟨rfl, rfl⟩ := j_inj2 hf
        exact x_locr hk rfl
      · have hf := j_ifn hf c45
        refine x_iload (v := z.2) C dX12_traceLeft_163 rfl ?_
        refine x_goto (tgt := 172) C dX12_traceLeft_165 (by decide) ?_
        refine x_iload_n (v := a1) C dX12_traceLeft_172 rfl ?_
        refine x_iconst C dX12_traceLeft_173 ki_1 ?_
        refine x_isub C dX12_traceLeft_174 ?_
        obtain ⟨u41, e42, hf⟩ := j_bind hf
        obtain ⟨q35, e36, hf⟩ := j_bind hf
        refine x_callV (As := [.int z.2, .int (a1 - (1 : Int32))]) (rest := [.long (12 : Int64), .long z.1, .ref a0]) C dX12_traceLeft_175 (m_X12_power (l := l) (E := E) (d := d - 1) (by omega) e36) km_X12_power lk_X12_14 kv_X12_power (ci := 9) rfl e42 rfl (by omega) (Nat.le_of_ble_eq_true rfl) (j_le_of (q_X12_power e36)) (Or.inr (q_X12_power e36)) ?_
        refine x_i2l C dX12_traceLeft_178 ?_
        refine x_lmul C dX12_traceLeft_179 ?_
        refine x_ladd C dX12_traceLeft_180 ?_
        obtain ⟨u39, e40, hf⟩ := j_bind hf
        obtain ⟨q37, e38, hf⟩ := j_bind hf
        refine x_callV (As := [.long (z.1 + ((12 : Int64) * q35.1.toInt64))]) (rest := []) C dX12_traceLeft_181 (m_X12_left (l := l) (E := E) (d := d - 1) (by omega) e38) km_X12_left lk_X12_10 kv_X12_left (ci := 9) rfl e40 rfl (by omega) (Nat.le_of_ble_eq_true rfl) (j_le_of (q_X12_left e38)) (Or.inr (q_X12_left e38)) ?_
        refine x_i2l C dX12_traceLeft_184 ?_
        refine x_lstore_n C dX12_traceLeft_185 (by decide) ?_
        refine x_iinc (v := z.2) C dX12_traceLeft_186 rfl ki_1 (by decide) ?_
        refine x_goto (tgt := 135) C dX12_traceLeft_189 (by decide) ?_
        obtain ⟨rfl, rfl⟩ := j_inj2 hf
        exact x_locr hk rfl
set_option maxHeartbeats 4000000 in
set_option maxRecDepth 100000 in
theorem m_X12_traceLeft {l : Launch} {E : JE} {d : Nat} (hdd : 3 ≤ d) {a0 : Nat} {a1 : Int32} {a2 : Int32} {h : JH} {q : Int32 × JH} (hf : f_X12_traceLeft a0 a1 a2 h = some q) : Con l E d yX12_traceLeft cX12_traceLeft 13 (some .int) [.ref a0, .int a1, .int a2] h (some (.int q.1)) q.2 := by
  refine j_start rfl (Nat.le_of_ble_eq_true rfl) ?_
  intro p e s m args below meth c C hret hnm
  refine x_loc [(0, .ref a0), (1, .int a1), (2, .int a2)] rfl ?_
  unfold f_X12_traceLeft at hf
  refine x_aload_n (v := a0) C dX12_traceLeft_0 rfl ?_
  refine x_iconst C dX12_traceLeft_1 ki_0 ?_
  obtain ⟨h1, e2, hf⟩ := j_bind hf
  refine x_put C dX12_traceLeft_2 e2 fp_X12_1 rfl rfl ?_
  refine x_iload_n (v := a1) C dX12_traceLeft_5 rfl ?_
  refine x_iload_n (v := a2) C dX12_traceLeft_6 rfl ?_
  obtain ⟨q3, e4, hf⟩ := j_bind hf
  refine x_callS (As := [.int a1, .int a2]) (rest := []) C dX12_traceLeft_7 (m_X12_isTraced (l := l) (E := E) (d := d - 1) (by omega) e4) km_X12_isTraced lk_X12_310 ks_X12_isTraced rfl (by omega) (Nat.le_of_ble_eq_true rfl) (j_le_of (q_X12_isTraced e4)) (Or.inr (q_X12_isTraced e4)) ?_
  refine x_if_ne (tgt := 15) C dX12_traceLeft_10 (by decide) (fun c56 => ?_) (fun c56 => ?_)
  · have hf := j_ifn hf c56
    refine x_lconst C dX12_traceLeft_15 kl_0 ?_
    refine x_lstore_n C dX12_traceLeft_16 (by decide) ?_
    refine x_bipush C dX12_traceLeft_17 kb_m2 ?_
    refine x_iload_n (v := a2) C dX12_traceLeft_19 rfl ?_
    refine x_imul C dX12_traceLeft_20 ?_
    refine x_istore C dX12_traceLeft_21 (by decide) ?_
    obtain ⟨q19, e20, hf⟩ := j_bind hf
    refine x_loc [(0, .ref a0), (1, .int a1), (2, .int a2), (3, .long (0 : Int64)), (5, .int ((-2 : Int32) * a2))] rfl ?_
    refine x_loop (s_X12_traceLeft_L23 C hret hdd a0 a1 a2) e20 ?_
    refine x_iconst C dX12_traceLeft_132 ki_1 ?_
    refine x_istore C dX12_traceLeft_133 (by decide) ?_
    obtain ⟨q46, e47, hf⟩ := j_bind hf
    refine x_loc [(0, .ref a0), (1, .int a1), (2, .int a2), (3, .long q19.1.1), (5, .int (1 : Int32))] rfl ?_
    refine x_loop (s_X12_traceLeft_L135 C hret hdd a0 a1 a2) e47 ?_
    refine x_aload_n (v := a0) C dX12_traceLeft_192 rfl ?_
    refine x_lload_n (v := q46.1.1) C dX12_traceLeft_193 rfl ?_
    refine x_lneg C dX12_traceLeft_194 ?_
    refine x_aload_n (v := a0) C dX12_traceLeft_195 rfl ?_
    refine x_bipush C dX12_traceLeft_196 kb_24 ?_
    obtain ⟨u54, e55, hf⟩ := j_bind hf
    obtain ⟨q48, e49, hf⟩ := j_bind hf
    refine x_callV (As := [.int (24 : Int32)]) (rest := [.long (-q46.1.1), .ref a0]) C dX12_traceLeft_198 (m_X12_inverse (l := l) (E := E) (d := d - 1) (by omega) e49) km_X12_inverse lk_X12_41 kv_X12_inverse (ci := 9) rfl e55 rfl (by omega) (Nat.le_of_ble_eq_true rfl) (j_le_of (q_X12_inverse e49)) (Or.inr (q_X12_inverse e49)) ?_
    refine x_i2l C dX12_traceLeft_201 ?_
    refine x_lmul C dX12_traceLeft_202 ?_
    obtain ⟨u52, e53, hf⟩ := j_bind hf
    obtain ⟨q50, e51, hf⟩ := j_bind hf
    refine x_callV (As := [.long ((-q46.1.1) * q48.1.toInt64)]) (rest := []) C dX12_traceLeft_203 (m_X12_left (l := l) (E := E) (d := d - 1) (by omega) e51) km_X12_left lk_X12_10 kv_X12_left (ci := 9) rfl e53 rfl (by omega) (Nat.le_of_ble_eq_true rfl) (j_le_of (q_X12_left e51)) (Or.inr (q_X12_left e51)) ?_
    obtain rfl := j_inj hf
    exact x_iret C hret dX12_traceLeft_206
  · have hf := j_ifp hf c56
    refine x_iconst C dX12_traceLeft_13 ki_m1 ?_
    obtain rfl := j_inj hf
    exact x_iret C hret dX12_traceLeft_14
set_option maxHeartbeats 4000000 in
set_option maxRecDepth 100000 in
theorem m_Jxf58ca_isNaN_12338 {l : Launch} {E : JE} {d : Nat} (hdd : 0 ≤ d) {a0 : UInt32} {h : JH} {q : Int32 × JH} (hf : f_Jxf58ca_isNaN_12338 a0 h = some q) : Con l E d yJxf58ca_isNaN_12338 cJxf58ca_isNaN_12338 1 (some .boolean) [.float a0] h (some (.int q.1)) q.2 := by
  refine j_startF (by decide +kernel) (Nat.le_of_ble_eq_true rfl) ?_
  intro p e s m args below meth c C hret hnm
  refine x_loc [(0, .float a0)] rfl ?_
  unfold f_Jxf58ca_isNaN_12338 at hf
  refine x_fload_n (v := a0) C dJxf58ca_isNaN_12338_0 rfl ?_
  refine x_fload_n (v := a0) C dJxf58ca_isNaN_12338_1 rfl ?_
  refine x_fcmp C dJxf58ca_isNaN_12338_2 ?_
  refine x_if_eq (tgt := 10) C dJxf58ca_isNaN_12338_3 (by decide) (fun c1 => ?_) (fun c1 => ?_)
  · have hf := j_ifp hf c1
    refine x_iconst C dJxf58ca_isNaN_12338_10 ki_0 ?_
    obtain rfl := j_inj hf
    exact x_zret C hret (Or.inl rfl) dJxf58ca_isNaN_12338_11
  · have hf := j_ifn hf c1
    refine x_iconst C dJxf58ca_isNaN_12338_6 ki_1 ?_
    refine x_goto (tgt := 11) C dJxf58ca_isNaN_12338_7 (by decide) ?_
    obtain rfl := j_inj hf
    exact x_zret C hret (Or.inr rfl) dJxf58ca_isNaN_12338_11
set_option maxHeartbeats 4000000 in
set_option maxRecDepth 100000 in
theorem m_Jxf58ca_floatToIntBits_5c35a {l : Launch} {E : JE} {d : Nat} (hdd : 1 ≤ d) {a0 : UInt32} {h : JH} {q : Int32 × JH} (hf : f_Jxf58ca_floatToIntBits_5c35a a0 h = some q) : Con l E d yJxf58ca_floatToIntBits_5c35a cJxf58ca_floatToIntBits_5c35a 1 (some .int) [.float a0] h (some (.int q.1)) q.2 := by
  refine j_startF (by decide +kernel) (Nat.le_of_ble_eq_true rfl) ?_
  intro p e s m args below meth c C hret hnm
  refine x_loc [(0, .float a0)] rfl ?_
  unfold f_Jxf58ca_floatToIntBits_5c35a at hf
  refine x_fload_n (v := a0) C dJxf58ca_floatToIntBits_5c35a_0 rfl ?_
  obtain ⟨q1, e2, hf⟩ := j_bind hf
  refine x_callS (As := [.float a0]) (rest := []) C dJxf58ca_floatToIntBits_5c35a_1 (m_Jxf58ca_isNaN_12338 (l := l) (E := E) (d := d - 1) (by omega) e2) km_Jxf58ca_isNaN_12338 lk_Jxf58ca_59 ks_Jxf58ca_isNaN_12338 rfl (by omega) (Nat.le_of_ble_eq_true rfl) (j_le_of (q_Jxf58ca_isNaN_12338 e2)) (Or.inr (q_Jxf58ca_isNaN_12338 e2)) ?_
  refine x_if_ne (tgt := 12) C dJxf58ca_floatToIntBits_5c35a_4 (by decide) (fun c3 => ?_) (fun c3 => ?_)
  · have hf := j_ifn hf c3
    refine x_ldc C dJxf58ca_floatToIntBits_5c35a_12 cn_Jxf58ca_77 ?_
    obtain rfl := j_inj hf
    exact x_iret C hret dJxf58ca_floatToIntBits_5c35a_14
  · have hf := j_ifp hf c3
    refine x_fload_n (v := a0) C dJxf58ca_floatToIntBits_5c35a_7 rfl ?_
    refine x_f2raw C dJxf58ca_floatToIntBits_5c35a_8 w_f2r (by omega) (Nat.le_of_ble_eq_true rfl) ?_
    obtain rfl := j_inj hf
    exact x_iret C hret dJxf58ca_floatToIntBits_5c35a_11
set_option maxHeartbeats 4000000 in
set_option maxRecDepth 100000 in
theorem s_X12_share_L51 {p : Program} {l : Launch} {e : Env} {R : Room} {s : State} {m : MethodId} {args : Array Value} {below : List Frame} {meth : Method} {c : Code} {E : JE} {h0 hF : JH} {rF : Option Value} {d : Nat} (C : j_C p s m args meth c R E cX12_share 8 RX12 h0 hF d) (hret : meth.sig.returnType = (some .int)) (hdd : 4 ≤ d) (a1 : Int32) (a2 : Int32) (a3 : Int64) (z : (UInt32 × Int32)) (h : JH) (r : (UInt32 × Int32) ⊕ (UInt32 × Int32)) (h1 : JH) (hf : f_X12_share_L51 a1 a2 a3 z h = some (r, h1)) (hk : Sum.elim (fun z => Xw p l e R s m args below meth c E 8 h0 rF hF 51 [(1, .int a1), (2, .int a2), (3, .long a3), (5, .float z.1), (6, .int z.2)] [] h1) (fun t => Xw p l e R s m args below meth c E 8 h0 rF hF 76 [(1, .int a1), (2, .int a2), (3, .long a3), (5, .float t.1), (6, .int t.2)] [] h1) r) : Xw p l e R s m args below meth c E 8 h0 rF hF 51 [(1, .int a1), (2, .int a2), (3, .long a3), (5, .float z.1), (6, .int z.2)] [] h := by
  unfold f_X12_share_L51 at hf
  refine x_iload (v := z.2) C dX12_share_51 rfl ?_
  refine x_bipush C dX12_share_53 kb_20 ?_
  refine x_icmp_ge (tgt := 76) C dX12_share_55 (by decide) (fun c17 => ?_) (fun c17 => ?_)
  · have hf := j_ifp hf c17
    obtain ⟨rfl, rfl⟩ := j_inj2 hf
    exact x_locr hk rfl
  · have hf := j_ifn hf c17
    refine x_fload (v := z.1) C dX12_share_58 rfl ?_
    refine x_iload_n (v := a2) C dX12_share_60 rfl ?_
    refine x_i2f C dX12_share_61 ?_
    refine x_fload (v := z.1) C dX12_share_62 rfl ?_
    obtain ⟨u11, e12, hf⟩ := j_bind hf
    refine x_fdiv C dX12_share_64 (jnn_some e12) ?_
    obtain ⟨u13, e14, hf⟩ := j_bind hf
    refine x_fadd C dX12_share_65 (jnn_some e14) ?_
    refine x_fconst2 C dX12_share_66 ?_
    obtain ⟨u15, e16, hf⟩ := j_bind hf
    refine x_fdiv C dX12_share_67 (jnn_some e16) ?_
    refine x_fstore C dX12_share_68 (by decide) ?_
    refine x_iinc (v := z.2) C dX12_share_70 rfl ki_1 (by decide) ?_
    refine x_goto (tgt := 51) C dX12_share_73 (by decide) ?_
    obtain ⟨rfl, rfl⟩ := j_inj2 hf
    exact x_locr hk rfl
set_option maxHeartbeats 4000000 in
set_option maxRecDepth 100000 in
theorem s_X12_share_L82 {p : Program} {l : Launch} {e : Env} {R : Room} {s : State} {m : MethodId} {args : Array Value} {below : List Frame} {meth : Method} {c : Code} {E : JE} {h0 hF : JH} {rF : Option Value} {d : Nat} (C : j_C p s m args meth c R E cX12_share 8 RX12 h0 hF d) (hret : meth.sig.returnType = (some .int)) (hdd : 4 ≤ d) (a1 : Int32) (a2 : Int32) (a3 : Int64) (a5 : UInt32) (z : (UInt32 × Int32)) (h : JH) (r : (UInt32 × Int32) ⊕ (UInt32 × Int32)) (h1 : JH) (hf : f_X12_share_L82 a1 a2 a3 a5 z h = some (r, h1)) (hk : Sum.elim (fun z => Xw p l e R s m args below meth c E 8 h0 rF hF 82 [(1, .int a1), (2, .int a2), (3, .long a3), (5, .float a5), (6, .float z.1), (7, .int z.2)] [] h1) (fun t => Xw p l e R s m args below meth c E 8 h0 rF hF 105 [(1, .int a1), (2, .int a2), (3, .long a3), (5, .float a5), (6, .float t.1), (7, .int t.2)] [] h1) r) : Xw p l e R s m args below meth c E 8 h0 rF hF 82 [(1, .int a1), (2, .int a2), (3, .long a3), (5, .float a5), (6, .float z.1), (7, .int z.2)] [] h := by
  unfold f_X12_share_L82 at hf
  refine x_iload (v := z.2) C dX12_share_82 rfl ?_
  refine x_iload_n (v := a1) C dX12_share_84 rfl ?_
  refine x_iconst C dX12_share_85 ki_2 ?_
  refine x_isub C dX12_share_86 ?_
  refine x_iconst C dX12_share_87 ki_2 ?_
  refine x_idiv C dX12_share_88 (by decide) ?_
  refine x_icmp_ge (tgt := 105) C dX12_share_89 (by decide) (fun c22 => ?_) (fun c22 => ?_)
  · have hf := j_ifp hf c22
    obtain ⟨rfl, rfl⟩ := j_inj2 hf
    exact x_locr hk rfl
  · have hf := j_ifn hf c22
    refine x_fload (v := z.1) C dX12_share_92 rfl ?_
    refine x_iload_n (v := a2) C dX12_share_94 rfl ?_
    refine x_i2f C dX12_share_95 ?_
    obtain ⟨u20, e21, hf⟩ := j_bind hf
    refine x_fmul C dX12_share_96 (jnn_some e21) ?_
    refine x_fstore C dX12_share_97 (by decide) ?_
    refine x_iinc (v := z.2) C dX12_share_99 rfl ki_1 (by decide) ?_
    refine x_goto (tgt := 82) C dX12_share_102 (by decide) ?_
    obtain ⟨rfl, rfl⟩ := j_inj2 hf
    exact x_locr hk rfl
set_option maxHeartbeats 4000000 in
set_option maxRecDepth 100000 in
theorem m_X12_share {l : Launch} {E : JE} {d : Nat} (hdd : 4 ≤ d) {a0 : Nat} {a1 : Int32} {a2 : Int32} {h : JH} {q : Int32 × JH} (hf : f_X12_share a0 a1 a2 h = some q) : Con l E d yX12_share cX12_share 8 (some .int) [.ref a0, .int a1, .int a2] h (some (.int q.1)) q.2 := by
  refine j_start rfl (Nat.le_of_ble_eq_true rfl) ?_
  intro p e s m args below meth c C hret hnm
  refine x_loc [(0, .ref a0), (1, .int a1), (2, .int a2)] rfl ?_
  unfold f_X12_share at hf
  refine x_aload_n (v := a0) C dX12_share_0 rfl ?_
  refine x_iconst C dX12_share_1 ki_0 ?_
  obtain ⟨h1, e2, hf⟩ := j_bind hf
  refine x_put C dX12_share_2 e2 fp_X12_1 rfl rfl ?_
  refine x_iload_n (v := a1) C dX12_share_5 rfl ?_
  refine x_iload_n (v := a2) C dX12_share_6 rfl ?_
  obtain ⟨q3, e4, hf⟩ := j_bind hf
  refine x_callS (As := [.int a1, .int a2]) (rest := []) C dX12_share_7 (m_X12_isTraced (l := l) (E := E) (d := d - 1) (by omega) e4) km_X12_isTraced lk_X12_310 ks_X12_isTraced rfl (by omega) (Nat.le_of_ble_eq_true rfl) (j_le_of (q_X12_isTraced e4)) (Or.inr (q_X12_isTraced e4)) ?_
  refine x_if_ne (tgt := 17) C dX12_share_10 (by decide) (fun c39 => ?_) (fun c39 => ?_)
  · have hf := j_ifn hf c39
    refine x_aload_n (v := a0) C dX12_share_17 rfl ?_
    refine x_iload_n (v := a1) C dX12_share_18 rfl ?_
    refine x_iload_n (v := a2) C dX12_share_19 rfl ?_
    obtain ⟨u37, e38, hf⟩ := j_bind hf
    obtain ⟨q5, e6, hf⟩ := j_bind hf
    refine x_callV (As := [.int a1, .int a2]) (rest := []) C dX12_share_20 (m_X12_traceOf (l := l) (E := E) (d := d - 1) (by omega) e6) km_X12_traceOf lk_X12_317 kv_X12_traceOf (ci := 9) rfl e38 rfl (by omega) (Nat.le_of_ble_eq_true rfl) (j_le_of (q_X12_traceOf e6)) (Or.inr (q_X12_traceOf e6)) ?_
    refine x_lstore_n C dX12_share_23 (by decide) ?_
    refine x_aload_n (v := a0) C dX12_share_24 rfl ?_
    obtain ⟨v7, e8, hf⟩ := j_bind hf
    refine x_get C dX12_share_25 (jgI_some e8) fg_X12_293 ?_
    refine x_if_eq (tgt := 35) C dX12_share_28 (by decide) (fun c40 => ?_) (fun c40 => ?_)
    · have hf := j_ifp hf c40
      refine x_iload_n (v := a1) C dX12_share_35 rfl ?_
      obtain ⟨q9, e10, hf⟩ := j_bind hf
      refine x_callS (As := [.int a1]) (rest := []) C dX12_share_36 (m_X12_cuspsOf (l := l) (E := E) (d := d - 1) (by omega) e10) km_X12_cuspsOf lk_X12_275 ks_X12_cuspsOf rfl (by omega) (Nat.le_of_ble_eq_true rfl) (j_le_of (q_X12_cuspsOf e10)) (Or.inr (q_X12_cuspsOf e10)) ?_
      refine x_if_ne (tgt := 44) C dX12_share_39 (by decide) (fun c41 => ?_) (fun c41 => ?_)
      · have hf := j_ifn hf c41
        refine x_iload_n (v := a2) C dX12_share_44 rfl ?_
        refine x_i2f C dX12_share_45 ?_
        refine x_fstore C dX12_share_46 (by decide) ?_
        refine x_iconst C dX12_share_48 ki_0 ?_
        refine x_istore C dX12_share_49 (by decide) ?_
        obtain ⟨q18, e19, hf⟩ := j_bind hf
        refine x_loc [(1, .int a1), (2, .int a2), (3, .long q5.1), (5, .float (FP.i2f a2)), (6, .int (0 : Int32))] rfl ?_
        refine x_loop (s_X12_share_L51 C hret hdd a1 a2 q5.1) e19 ?_
        refine x_fconst1 C dX12_share_76 ?_
        refine x_fstore C dX12_share_77 (by decide) ?_
        refine x_iconst C dX12_share_79 ki_0 ?_
        refine x_istore C dX12_share_80 (by decide) ?_
        obtain ⟨q23, e24, hf⟩ := j_bind hf
        refine x_loc [(1, .int a1), (2, .int a2), (3, .long q5.1), (5, .float q18.1.1), (6, .float FP.fconst1), (7, .int (0 : Int32))] rfl ?_
        refine x_loop (s_X12_share_L82 C hret hdd a1 a2 q5.1 q18.1.1) e24 ?_
        refine x_fload (v := q23.1.1) C dX12_share_105 rfl ?_
        refine x_fload (v := q18.1.1) C dX12_share_107 rfl ?_
        obtain ⟨u25, e26, hf⟩ := j_bind hf
        refine x_fmul C dX12_share_109 (jnn_some e26) ?_
        refine x_fstore C dX12_share_110 (by decide) ?_
        refine x_lload_n (v := q5.1) C dX12_share_112 rfl ?_
        refine x_l2f C dX12_share_113 ?_
        refine x_fconst2 C dX12_share_114 ?_
        refine x_fload (v := FP.fmul q23.1.1 q18.1.1) C dX12_share_115 rfl ?_
        obtain ⟨u27, e28, hf⟩ := j_bind hf
        refine x_fmul C dX12_share_117 (jnn_some e28) ?_
        refine x_iload_n (v := a1) C dX12_share_118 rfl ?_
        obtain ⟨q29, e30, hf⟩ := j_bind hf
        refine x_callS (As := [.int a1]) (rest := [.float (FP.fmul FP.fconst2 (FP.fmul q23.1.1 q18.1.1)), .float (FP.l2f q5.1)]) C dX12_share_119 (m_X12_cuspsOf (l := l) (E := E) (d := d - 1) (by omega) e30) km_X12_cuspsOf lk_X12_275 ks_X12_cuspsOf rfl (by omega) (Nat.le_of_ble_eq_true rfl) (j_le_of (q_X12_cuspsOf e30)) (Or.inr (q_X12_cuspsOf e30)) ?_
        refine x_i2f C dX12_share_122 ?_
        obtain ⟨u31, e32, hf⟩ := j_bind hf
        refine x_fmul C dX12_share_123 (jnn_some e32) ?_
        obtain ⟨u33, e34, hf⟩ := j_bind hf
        refine x_fdiv C dX12_share_124 (jnn_some e34) ?_
        obtain ⟨q35, e36, hf⟩ := j_bind hf
        refine x_callS (As := [.float (FP.fdiv (FP.l2f q5.1) (FP.fmul (FP.fmul FP.fconst2 (FP.fmul q23.1.1 q18.1.1)) (FP.i2f q29.1)))]) (rest := []) C dX12_share_125 (m_Jxf58ca_floatToIntBits_5c35a (l := l) (E := E) (d := d - 1) (by omega) e36) km_Jxf58ca_floatToIntBits_5c35a lk_X12_326 ks_Jxf58ca_floatToIntBits_5c35a rfl (by omega) (Nat.le_of_ble_eq_true rfl) (j_le_of (q_Jxf58ca_floatToIntBits_5c35a e36)) (Or.inr (q_Jxf58ca_floatToIntBits_5c35a e36)) ?_
        obtain rfl := j_inj hf
        exact x_iret C hret dX12_share_128
      · have hf := j_ifp hf c41
        refine x_iconst C dX12_share_42 ki_0 ?_
        obtain rfl := j_inj hf
        exact x_iret C hret dX12_share_43
    · have hf := j_ifn hf c40
      refine x_ldcw C dX12_share_31 cn_X12_325 ?_
      obtain rfl := j_inj hf
      exact x_iret C hret dX12_share_34
  · have hf := j_ifp hf c39
    refine x_ldcw C dX12_share_13 cn_X12_325 ?_
    obtain rfl := j_inj hf
    exact x_iret C hret dX12_share_16
set_option maxHeartbeats 4000000 in
set_option maxRecDepth 100000 in
theorem m_X12_take {l : Launch} {E : JE} {d : Nat} (hdd : 2 ≤ d) {a0 : Nat} {a1 : Int32} {a2 : Int32} {h : JH} {q : Int32 × JH} (hf : f_X12_take a0 a1 a2 h = some q) : Con l E d yX12_take cX12_take 3 (some .int) [.ref a0, .int a1, .int a2] h (some (.int q.1)) q.2 := by
  refine j_start rfl (Nat.le_of_ble_eq_true rfl) ?_
  intro p e s m args below meth c C hret hnm
  refine x_loc [(0, .ref a0), (1, .int a1), (2, .int a2)] rfl ?_
  unfold f_X12_take at hf
  refine x_aload_n (v := a0) C dX12_take_0 rfl ?_
  refine x_iconst C dX12_take_1 ki_0 ?_
  obtain ⟨h1, e2, hf⟩ := j_bind hf
  refine x_put C dX12_take_2 e2 fp_X12_1 rfl rfl ?_
  refine x_aload_n (v := a0) C dX12_take_5 rfl ?_
  refine x_iload_n (v := a1) C dX12_take_6 rfl ?_
  obtain ⟨u27, e28, hf⟩ := j_bind hf
  obtain ⟨q3, e4, hf⟩ := j_bind hf
  refine x_callV (As := [.int a1]) (rest := []) C dX12_take_7 (m_X12_isRegister (l := l) (E := E) (d := d - 1) (by omega) e4) km_X12_isRegister lk_X12_269 kv_X12_isRegister (ci := 9) rfl e28 rfl (by omega) (Nat.le_of_ble_eq_true rfl) (j_le_of (q_X12_isRegister e4)) (Or.inr (q_X12_isRegister e4)) ?_
  refine x_if_eq (tgt := 27) C dX12_take_10 (by decide) (fun c29 => ?_) (fun c29 => ?_)
  · have hf := j_ifp hf c29
    refine x_iconst C dX12_take_27 ki_m1 ?_
    obtain rfl := j_inj hf
    exact x_iret C hret dX12_take_28
  · have hf := j_ifn hf c29
    refine x_iload_n (v := a2) C dX12_take_13 rfl ?_
    refine x_iconst C dX12_take_14 ki_0 ?_
    refine x_aload_n (v := a0) C dX12_take_15 rfl ?_
    obtain ⟨v5, e6, hf⟩ := j_bind hf
    refine x_get C dX12_take_16 (jgI_some e6) fg_X12_206 ?_
    refine x_iconst C dX12_take_19 ki_1 ?_
    refine x_isub C dX12_take_20 ?_
    obtain ⟨q7, e8, hf⟩ := j_bind hf
    refine x_callS (As := [.int a2, .int (0 : Int32), .int (v5 - (1 : Int32))]) (rest := []) C dX12_take_21 (m_X12_within (l := l) (E := E) (d := d - 1) (by omega) e8) km_X12_within lk_X12_45 ks_X12_within rfl (by omega) (Nat.le_of_ble_eq_true rfl) (j_le_of (q_X12_within e8)) (Or.inr (q_X12_within e8)) ?_
    refine x_if_ne (tgt := 29) C dX12_take_24 (by decide) (fun c30 => ?_) (fun c30 => ?_)
    · have hf := j_ifn hf c30
      refine x_aload_n (v := a0) C dX12_take_29 rfl ?_
      obtain ⟨v9, e10, hf⟩ := j_bind hf
      refine x_get C dX12_take_30 (jgR_some e10) fg_X12_215 ?_
      refine x_iload_n (v := a1) C dX12_take_33 rfl ?_
      refine x_aload_n (v := a0) C dX12_take_34 rfl ?_
      obtain ⟨v11, e12, hf⟩ := j_bind hf
      refine x_get C dX12_take_35 (jgR_some e12) fg_X12_209 ?_
      refine x_iload_n (v := a2) C dX12_take_38 rfl ?_
      obtain ⟨v13, e14, hf⟩ := j_bind hf
      refine x_iald C dX12_take_39 e14 ?_
      obtain ⟨h15, e16, hf⟩ := j_bind hf
      refine x_iast C dX12_take_40 e16 ?_
      refine x_aload_n (v := a0) C dX12_take_41 rfl ?_
      obtain ⟨v17, e18, hf⟩ := j_bind hf
      refine x_get C dX12_take_42 (jgR_some e18) fg_X12_212 ?_
      refine x_sipush C dX12_take_45 ks_181 ?_
      refine x_iload_n (v := a2) C dX12_take_48 rfl ?_
      refine x_imul C dX12_take_49 ?_
      refine x_aload_n (v := a0) C dX12_take_50 rfl ?_
      obtain ⟨v19, e20, hf⟩ := j_bind hf
      refine x_get C dX12_take_51 (jgR_some e20) fg_X12_218 ?_
      refine x_sipush C dX12_take_54 ks_181 ?_
      refine x_iload_n (v := a1) C dX12_take_57 rfl ?_
      refine x_imul C dX12_take_58 ?_
      obtain ⟨q21, e22, hf⟩ := j_bind hf
      refine x_callS (As := [.ref v17, .int ((181 : Int32) * a2), .ref v19, .int ((181 : Int32) * a1)]) (rest := []) C dX12_take_59 (m_X12_copies (l := l) (E := E) (d := d - 1) (by omega) e22) km_X12_copies lk_X12_58 ks_X12_copies rfl (by omega) (Nat.le_of_ble_eq_true rfl) (j_le_of (q_X12_copies e22)) (Or.inr (q_X12_copies e22)) ?_
      refine x_aload_n (v := a0) C dX12_take_62 rfl ?_
      obtain ⟨v23, e24, hf⟩ := j_bind hf
      refine x_get C dX12_take_63 (jgR_some e24) fg_X12_215 ?_
      refine x_iload_n (v := a1) C dX12_take_66 rfl ?_
      obtain ⟨v25, e26, hf⟩ := j_bind hf
      refine x_iald C dX12_take_67 e26 ?_
      obtain rfl := j_inj hf
      exact x_iret C hret dX12_take_68
    · have hf := j_ifp hf c30
      refine x_iconst C dX12_take_27 ki_m1 ?_
      obtain rfl := j_inj hf
      exact x_iret C hret dX12_take_28
set_option maxHeartbeats 4000000 in
set_option maxRecDepth 100000 in
theorem s_X12_plus__L50 {p : Program} {l : Launch} {e : Env} {R : Room} {s : State} {m : MethodId} {args : Array Value} {below : List Frame} {meth : Method} {c : Code} {E : JE} {h0 hF : JH} {rF : Option Value} {d : Nat} (C : j_C p s m args meth c R E cX12_plus_ 7 RX12 h0 hF d) (hret : meth.sig.returnType = (some .boolean)) (hdd : 2 ≤ d) (a0 : Nat) (a1 : Int32) (a2 : Int32) (a4 : Int64) (z : Int32) (h : JH) (r : Int32 ⊕ Int32) (h1 : JH) (hf : f_X12_plus__L50 a0 a1 a2 a4 z h = some (r, h1)) (hk : Sum.elim (fun z => Xw p l e R s m args below meth c E 7 h0 rF hF 50 [(0, .ref a0), (1, .int a1), (2, .int a2), (4, .long a4), (6, .int z)] [] h1) (fun t => Xw p l e R s m args below meth c E 7 h0 rF hF 107 [(0, .ref a0), (1, .int a1), (2, .int a2), (4, .long a4), (6, .int t)] [] h1) r) : Xw p l e R s m args below meth c E 7 h0 rF hF 50 [(0, .ref a0), (1, .int a1), (2, .int a2), (4, .long a4), (6, .int z)] [] h := by
  unfold f_X12_plus__L50 at hf
  refine x_iload (v := z) C dX12_plus__50 rfl ?_
  refine x_sipush C dX12_plus__52 ks_181 ?_
  refine x_icmp_ge (tgt := 107) C dX12_plus__55 (by decide) (fun c33 => ?_) (fun c33 => ?_)
  · have hf := j_ifp hf c33
    obtain ⟨rfl, rfl⟩ := j_inj2 hf
    exact x_locr hk rfl
  · have hf := j_ifn hf c33
    refine x_aload_n (v := a0) C dX12_plus__58 rfl ?_
    obtain ⟨v17, e18, hf⟩ := j_bind hf
    refine x_get C dX12_plus__59 (jgR_some e18) fg_X12_29 ?_
    refine x_iload (v := z) C dX12_plus__62 rfl ?_
    refine x_aload_n (v := a0) C dX12_plus__64 rfl ?_
    refine x_aload_n (v := a0) C dX12_plus__65 rfl ?_
    obtain ⟨v19, e20, hf⟩ := j_bind hf
    refine x_get C dX12_plus__66 (jgR_some e20) fg_X12_218 ?_
    refine x_sipush C dX12_plus__69 ks_181 ?_
    refine x_iload_n (v := a1) C dX12_plus__72 rfl ?_
    refine x_imul C dX12_plus__73 ?_
    refine x_iload (v := z) C dX12_plus__74 rfl ?_
    refine x_iadd C dX12_plus__76 ?_
    obtain ⟨v21, e22, hf⟩ := j_bind hf
    refine x_iald C dX12_plus__77 e22 ?_
    refine x_i2l C dX12_plus__78 ?_
    refine x_lload (v := a4) C dX12_plus__79 rfl ?_
    refine x_aload_n (v := a0) C dX12_plus__81 rfl ?_
    obtain ⟨v23, e24, hf⟩ := j_bind hf
    refine x_get C dX12_plus__82 (jgR_some e24) fg_X12_218 ?_
    refine x_sipush C dX12_plus__85 ks_181 ?_
    refine x_iload_n (v := a2) C dX12_plus__88 rfl ?_
    refine x_imul C dX12_plus__89 ?_
    refine x_iload (v := z) C dX12_plus__90 rfl ?_
    refine x_iadd C dX12_plus__92 ?_
    obtain ⟨v25, e26, hf⟩ := j_bind hf
    refine x_iald C dX12_plus__93 e26 ?_
    refine x_i2l C dX12_plus__94 ?_
    refine x_lmul C dX12_plus__95 ?_
    refine x_ladd C dX12_plus__96 ?_
    obtain ⟨u31, e32, hf⟩ := j_bind hf
    obtain ⟨q27, e28, hf⟩ := j_bind hf
    refine x_callV (As := [.long (v21.toInt64 + (a4 * v25.toInt64))]) (rest := [.int z, .ref v17]) C dX12_plus__97 (m_X12_left (l := l) (E := E) (d := d - 1) (by omega) e28) km_X12_left lk_X12_10 kv_X12_left (ci := 9) rfl e32 rfl (by omega) (Nat.le_of_ble_eq_true rfl) (j_le_of (q_X12_left e28)) (Or.inr (q_X12_left e28)) ?_
    obtain ⟨h29, e30, hf⟩ := j_bind hf
    refine x_iast C dX12_plus__100 e30 ?_
    refine x_iinc (v := z) C dX12_plus__101 rfl ki_1 (by decide) ?_
    refine x_goto (tgt := 50) C dX12_plus__104 (by decide) ?_
    obtain ⟨rfl, rfl⟩ := j_inj2 hf
    exact x_locr hk rfl
set_option maxHeartbeats 4000000 in
set_option maxRecDepth 100000 in
theorem m_X12_plus_ {l : Launch} {E : JE} {d : Nat} (hdd : 2 ≤ d) {a0 : Nat} {a1 : Int32} {a2 : Int32} {a3 : Int32} {h : JH} {q : Int32 × JH} (hf : f_X12_plus_ a0 a1 a2 a3 h = some q) : Con l E d yX12_plus_ cX12_plus_ 7 (some .boolean) [.ref a0, .int a1, .int a2, .int a3] h (some (.int q.1)) q.2 := by
  refine j_start rfl (Nat.le_of_ble_eq_true rfl) ?_
  intro p e s m args below meth c C hret hnm
  refine x_loc [(0, .ref a0), (1, .int a1), (2, .int a2), (3, .int a3)] rfl ?_
  unfold f_X12_plus_ at hf
  refine x_aload_n (v := a0) C dX12_plus__0 rfl ?_
  refine x_iconst C dX12_plus__1 ki_0 ?_
  obtain ⟨h1, e2, hf⟩ := j_bind hf
  refine x_put C dX12_plus__2 e2 fp_X12_1 rfl rfl ?_
  refine x_aload_n (v := a0) C dX12_plus__5 rfl ?_
  refine x_iload_n (v := a1) C dX12_plus__6 rfl ?_
  obtain ⟨u46, e47, hf⟩ := j_bind hf
  obtain ⟨q3, e4, hf⟩ := j_bind hf
  refine x_callV (As := [.int a1]) (rest := []) C dX12_plus__7 (m_X12_isRegister (l := l) (E := E) (d := d - 1) (by omega) e4) km_X12_isRegister lk_X12_269 kv_X12_isRegister (ci := 9) rfl e47 rfl (by omega) (Nat.le_of_ble_eq_true rfl) (j_le_of (q_X12_isRegister e4)) (Or.inr (q_X12_isRegister e4)) ?_
  refine x_if_eq (tgt := 36) C dX12_plus__10 (by decide) (fun c48 => ?_) (fun c48 => ?_)
  · have hf := j_ifp hf c48
    refine x_iconst C dX12_plus__36 ki_0 ?_
    obtain rfl := j_inj hf
    exact x_zret C hret (Or.inl rfl) dX12_plus__37
  · have hf := j_ifn hf c48
    refine x_aload_n (v := a0) C dX12_plus__13 rfl ?_
    refine x_iload_n (v := a2) C dX12_plus__14 rfl ?_
    obtain ⟨u44, e45, hf⟩ := j_bind hf
    obtain ⟨q5, e6, hf⟩ := j_bind hf
    refine x_callV (As := [.int a2]) (rest := []) C dX12_plus__15 (m_X12_isRegister (l := l) (E := E) (d := d - 1) (by omega) e6) km_X12_isRegister lk_X12_269 kv_X12_isRegister (ci := 9) rfl e45 rfl (by omega) (Nat.le_of_ble_eq_true rfl) (j_le_of (q_X12_isRegister e6)) (Or.inr (q_X12_isRegister e6)) ?_
    refine x_if_eq (tgt := 36) C dX12_plus__18 (by decide) (fun c49 => ?_) (fun c49 => ?_)
    · have hf := j_ifp hf c49
      refine x_iconst C dX12_plus__36 ki_0 ?_
      obtain rfl := j_inj hf
      exact x_zret C hret (Or.inl rfl) dX12_plus__37
    · have hf := j_ifn hf c49
      refine x_aload_n (v := a0) C dX12_plus__21 rfl ?_
      obtain ⟨v7, e8, hf⟩ := j_bind hf
      refine x_get C dX12_plus__22 (jgR_some e8) fg_X12_215 ?_
      refine x_iload_n (v := a1) C dX12_plus__25 rfl ?_
      obtain ⟨v9, e10, hf⟩ := j_bind hf
      refine x_iald C dX12_plus__26 e10 ?_
      refine x_aload_n (v := a0) C dX12_plus__27 rfl ?_
      obtain ⟨v11, e12, hf⟩ := j_bind hf
      refine x_get C dX12_plus__28 (jgR_some e12) fg_X12_215 ?_
      refine x_iload_n (v := a2) C dX12_plus__31 rfl ?_
      obtain ⟨v13, e14, hf⟩ := j_bind hf
      refine x_iald C dX12_plus__32 e14 ?_
      refine x_icmp_eq (tgt := 38) C dX12_plus__33 (by decide) (fun c50 => ?_) (fun c50 => ?_)
      · have hf := j_ifp hf c50
        refine x_aload_n (v := a0) C dX12_plus__38 rfl ?_
        refine x_iload_n (v := a3) C dX12_plus__39 rfl ?_
        refine x_i2l C dX12_plus__40 ?_
        obtain ⟨u42, e43, hf⟩ := j_bind hf
        obtain ⟨q15, e16, hf⟩ := j_bind hf
        refine x_callV (As := [.long a3.toInt64]) (rest := []) C dX12_plus__41 (m_X12_left (l := l) (E := E) (d := d - 1) (by omega) e16) km_X12_left lk_X12_10 kv_X12_left (ci := 9) rfl e43 rfl (by omega) (Nat.le_of_ble_eq_true rfl) (j_le_of (q_X12_left e16)) (Or.inr (q_X12_left e16)) ?_
        refine x_i2l C dX12_plus__44 ?_
        refine x_lstore C dX12_plus__45 (by decide) ?_
        refine x_iconst C dX12_plus__47 ki_0 ?_
        refine x_istore C dX12_plus__48 (by decide) ?_
        obtain ⟨q34, e35, hf⟩ := j_bind hf
        refine x_loc [(0, .ref a0), (1, .int a1), (2, .int a2), (4, .long q15.1.toInt64), (6, .int (0 : Int32))] rfl ?_
        refine x_loop (s_X12_plus__L50 C hret hdd a0 a1 a2 q15.1.toInt64) e35 ?_
        refine x_aload_n (v := a0) C dX12_plus__107 rfl ?_
        obtain ⟨v36, e37, hf⟩ := j_bind hf
        refine x_get C dX12_plus__108 (jgR_some e37) fg_X12_29 ?_
        refine x_iconst C dX12_plus__111 ki_0 ?_
        refine x_aload_n (v := a0) C dX12_plus__112 rfl ?_
        obtain ⟨v38, e39, hf⟩ := j_bind hf
        refine x_get C dX12_plus__113 (jgR_some e39) fg_X12_218 ?_
        refine x_sipush C dX12_plus__116 ks_181 ?_
        refine x_iload_n (v := a1) C dX12_plus__119 rfl ?_
        refine x_imul C dX12_plus__120 ?_
        obtain ⟨q40, e41, hf⟩ := j_bind hf
        refine x_callS (As := [.ref v36, .int (0 : Int32), .ref v38, .int ((181 : Int32) * a1)]) (rest := []) C dX12_plus__121 (m_X12_copies (l := l) (E := E) (d := d - 1) (by omega) e41) km_X12_copies lk_X12_58 ks_X12_copies rfl (by omega) (Nat.le_of_ble_eq_true rfl) (j_le_of (q_X12_copies e41)) (Or.inr (q_X12_copies e41)) ?_
        refine x_iconst C dX12_plus__124 ki_1 ?_
        obtain rfl := j_inj hf
        exact x_zret C hret (Or.inr rfl) dX12_plus__125
      · have hf := j_ifn hf c50
        refine x_iconst C dX12_plus__36 ki_0 ?_
        obtain rfl := j_inj hf
        exact x_zret C hret (Or.inl rfl) dX12_plus__37
set_option maxHeartbeats 4000000 in
set_option maxRecDepth 100000 in
theorem m_X12_times_ {l : Launch} {E : JE} {d : Nat} (hdd : 2 ≤ d) {a0 : Nat} {a1 : Int32} {a2 : Int32} {h : JH} {q : Int32 × JH} (hf : f_X12_times_ a0 a1 a2 h = some q) : Con l E d yX12_times_ cX12_times_ 3 (some .int) [.ref a0, .int a1, .int a2] h (some (.int q.1)) q.2 := by
  refine j_start rfl (Nat.le_of_ble_eq_true rfl) ?_
  intro p e s m args below meth c C hret hnm
  refine x_loc [(0, .ref a0), (1, .int a1), (2, .int a2)] rfl ?_
  unfold f_X12_times_ at hf
  refine x_aload_n (v := a0) C dX12_times__0 rfl ?_
  refine x_iconst C dX12_times__1 ki_0 ?_
  obtain ⟨h1, e2, hf⟩ := j_bind hf
  refine x_put C dX12_times__2 e2 fp_X12_1 rfl rfl ?_
  refine x_aload_n (v := a0) C dX12_times__5 rfl ?_
  refine x_iload_n (v := a1) C dX12_times__6 rfl ?_
  obtain ⟨u47, e48, hf⟩ := j_bind hf
  obtain ⟨q3, e4, hf⟩ := j_bind hf
  refine x_callV (As := [.int a1]) (rest := []) C dX12_times__7 (m_X12_isRegister (l := l) (E := E) (d := d - 1) (by omega) e4) km_X12_isRegister lk_X12_269 kv_X12_isRegister (ci := 9) rfl e48 rfl (by omega) (Nat.le_of_ble_eq_true rfl) (j_le_of (q_X12_isRegister e4)) (Or.inr (q_X12_isRegister e4)) ?_
  refine x_if_eq (tgt := 39) C dX12_times__10 (by decide) (fun c49 => ?_) (fun c49 => ?_)
  · have hf := j_ifp hf c49
    refine x_iconst C dX12_times__39 ki_m1 ?_
    obtain rfl := j_inj hf
    exact x_iret C hret dX12_times__40
  · have hf := j_ifn hf c49
    refine x_aload_n (v := a0) C dX12_times__13 rfl ?_
    refine x_iload_n (v := a2) C dX12_times__14 rfl ?_
    obtain ⟨u45, e46, hf⟩ := j_bind hf
    obtain ⟨q5, e6, hf⟩ := j_bind hf
    refine x_callV (As := [.int a2]) (rest := []) C dX12_times__15 (m_X12_isRegister (l := l) (E := E) (d := d - 1) (by omega) e6) km_X12_isRegister lk_X12_269 kv_X12_isRegister (ci := 9) rfl e46 rfl (by omega) (Nat.le_of_ble_eq_true rfl) (j_le_of (q_X12_isRegister e6)) (Or.inr (q_X12_isRegister e6)) ?_
    refine x_if_eq (tgt := 39) C dX12_times__18 (by decide) (fun c50 => ?_) (fun c50 => ?_)
    · have hf := j_ifp hf c50
      refine x_iconst C dX12_times__39 ki_m1 ?_
      obtain rfl := j_inj hf
      exact x_iret C hret dX12_times__40
    · have hf := j_ifn hf c50
      refine x_aload_n (v := a0) C dX12_times__21 rfl ?_
      obtain ⟨v7, e8, hf⟩ := j_bind hf
      refine x_get C dX12_times__22 (jgR_some e8) fg_X12_215 ?_
      refine x_iload_n (v := a1) C dX12_times__25 rfl ?_
      obtain ⟨v9, e10, hf⟩ := j_bind hf
      refine x_iald C dX12_times__26 e10 ?_
      refine x_aload_n (v := a0) C dX12_times__27 rfl ?_
      obtain ⟨v11, e12, hf⟩ := j_bind hf
      refine x_get C dX12_times__28 (jgR_some e12) fg_X12_215 ?_
      refine x_iload_n (v := a2) C dX12_times__31 rfl ?_
      obtain ⟨v13, e14, hf⟩ := j_bind hf
      refine x_iald C dX12_times__32 e14 ?_
      refine x_iadd C dX12_times__33 ?_
      refine x_bipush C dX12_times__34 kb_60 ?_
      refine x_icmp_le (tgt := 41) C dX12_times__36 (by decide) (fun c51 => ?_) (fun c51 => ?_)
      · have hf := j_ifp hf c51
        refine x_aload_n (v := a0) C dX12_times__41 rfl ?_
        refine x_aload_n (v := a0) C dX12_times__42 rfl ?_
        obtain ⟨v15, e16, hf⟩ := j_bind hf
        refine x_get C dX12_times__43 (jgR_some e16) fg_X12_218 ?_
        refine x_sipush C dX12_times__46 ks_181 ?_
        refine x_iload_n (v := a1) C dX12_times__49 rfl ?_
        refine x_imul C dX12_times__50 ?_
        refine x_aload_n (v := a0) C dX12_times__51 rfl ?_
        obtain ⟨v17, e18, hf⟩ := j_bind hf
        refine x_get C dX12_times__52 (jgR_some e18) fg_X12_218 ?_
        refine x_sipush C dX12_times__55 ks_181 ?_
        refine x_iload_n (v := a2) C dX12_times__58 rfl ?_
        refine x_imul C dX12_times__59 ?_
        refine x_aload_n (v := a0) C dX12_times__60 rfl ?_
        obtain ⟨v19, e20, hf⟩ := j_bind hf
        refine x_get C dX12_times__61 (jgR_some e20) fg_X12_55 ?_
        obtain ⟨u43, e44, hf⟩ := j_bind hf
        obtain ⟨q21, e22, hf⟩ := j_bind hf
        refine x_callV (As := [.ref v15, .int ((181 : Int32) * a1), .ref v17, .int ((181 : Int32) * a2), .ref v19]) (rest := []) C dX12_times__64 (m_X12_multiplies (l := l) (E := E) (d := d - 1) (by omega) e22) km_X12_multiplies lk_X12_32 kv_X12_multiplies (ci := 9) rfl e44 rfl (by omega) (Nat.le_of_ble_eq_true rfl) (j_le_of (q_X12_multiplies e22)) (Or.inr (q_X12_multiplies e22)) ?_
        refine x_aload_n (v := a0) C dX12_times__67 rfl ?_
        obtain ⟨v23, e24, hf⟩ := j_bind hf
        refine x_get C dX12_times__68 (jgR_some e24) fg_X12_55 ?_
        refine x_iconst C dX12_times__71 ki_0 ?_
        refine x_aload_n (v := a0) C dX12_times__72 rfl ?_
        obtain ⟨v25, e26, hf⟩ := j_bind hf
        refine x_get C dX12_times__73 (jgR_some e26) fg_X12_218 ?_
        refine x_sipush C dX12_times__76 ks_181 ?_
        refine x_iload_n (v := a1) C dX12_times__79 rfl ?_
        refine x_imul C dX12_times__80 ?_
        obtain ⟨q27, e28, hf⟩ := j_bind hf
        refine x_callS (As := [.ref v23, .int (0 : Int32), .ref v25, .int ((181 : Int32) * a1)]) (rest := []) C dX12_times__81 (m_X12_copies (l := l) (E := E) (d := d - 1) (by omega) e28) km_X12_copies lk_X12_58 ks_X12_copies rfl (by omega) (Nat.le_of_ble_eq_true rfl) (j_le_of (q_X12_copies e28)) (Or.inr (q_X12_copies e28)) ?_
        refine x_aload_n (v := a0) C dX12_times__84 rfl ?_
        obtain ⟨v29, e30, hf⟩ := j_bind hf
        refine x_get C dX12_times__85 (jgR_some e30) fg_X12_215 ?_
        refine x_iload_n (v := a1) C dX12_times__88 rfl ?_
        refine x_dup2 C dX12_times__89 rfl rfl ?_
        obtain ⟨v31, e32, hf⟩ := j_bind hf
        refine x_iald C dX12_times__90 e32 ?_
        refine x_aload_n (v := a0) C dX12_times__91 rfl ?_
        obtain ⟨v33, e34, hf⟩ := j_bind hf
        refine x_get C dX12_times__92 (jgR_some e34) fg_X12_215 ?_
        refine x_iload_n (v := a2) C dX12_times__95 rfl ?_
        obtain ⟨v35, e36, hf⟩ := j_bind hf
        refine x_iald C dX12_times__96 e36 ?_
        refine x_iadd C dX12_times__97 ?_
        obtain ⟨h37, e38, hf⟩ := j_bind hf
        refine x_iast C dX12_times__98 e38 ?_
        refine x_aload_n (v := a0) C dX12_times__99 rfl ?_
        obtain ⟨v39, e40, hf⟩ := j_bind hf
        refine x_get C dX12_times__100 (jgR_some e40) fg_X12_215 ?_
        refine x_iload_n (v := a1) C dX12_times__103 rfl ?_
        obtain ⟨v41, e42, hf⟩ := j_bind hf
        refine x_iald C dX12_times__104 e42 ?_
        obtain rfl := j_inj hf
        exact x_iret C hret dX12_times__105
      · have hf := j_ifn hf c51
        refine x_iconst C dX12_times__39 ki_m1 ?_
        obtain rfl := j_inj hf
        exact x_iret C hret dX12_times__40
set_option maxHeartbeats 4000000 in
set_option maxRecDepth 100000 in
theorem m_X12_isOperator {l : Launch} {E : JE} {d : Nat} (hdd : 1 ≤ d) {a0 : Int32} {h : JH} {q : Int32 × JH} (hf : f_X12_isOperator a0 h = some q) : Con l E d yX12_isOperator cX12_isOperator 1 (some .boolean) [.int a0] h (some (.int q.1)) q.2 := by
  refine j_start rfl (Nat.le_of_ble_eq_true rfl) ?_
  intro p e s m args below meth c C hret hnm
  refine x_loc [(0, .int a0)] rfl ?_
  unfold f_X12_isOperator at hf
  refine x_iload_n (v := a0) C dX12_isOperator_0 rfl ?_
  refine x_iconst C dX12_isOperator_1 ki_1 ?_
  refine x_bipush C dX12_isOperator_2 kb_30 ?_
  obtain ⟨q1, e2, hf⟩ := j_bind hf
  refine x_callS (As := [.int a0, .int (1 : Int32), .int (30 : Int32)]) (rest := []) C dX12_isOperator_4 (m_X12_within (l := l) (E := E) (d := d - 1) (by omega) e2) km_X12_within lk_X12_45 ks_X12_within rfl (by omega) (Nat.le_of_ble_eq_true rfl) (j_le_of (q_X12_within e2)) (Or.inr (q_X12_within e2)) ?_
  obtain ⟨u3, e4, hf⟩ := j_bind hf
  obtain rfl := j_inj hf
  exact x_zret C hret (jzb_some e4) dX12_isOperator_7
set_option maxHeartbeats 4000000 in
set_option maxRecDepth 100000 in
theorem s_X12_hecke_L32 {p : Program} {l : Launch} {e : Env} {R : Room} {s : State} {m : MethodId} {args : Array Value} {below : List Frame} {meth : Method} {c : Code} {E : JE} {h0 hF : JH} {rF : Option Value} {d : Nat} (C : j_C p s m args meth c R E cX12_hecke 5 RX12 h0 hF d) (hret : meth.sig.returnType = (some .boolean)) (hdd : 4 ≤ d) (a0 : Nat) (a1 : Int32) (a2 : Int32) (a3 : Int32) (z : Int32) (h : JH) (r : Int32 ⊕ Int32) (h1 : JH) (hf : f_X12_hecke_L32 a0 a1 a2 a3 z h = some (r, h1)) (hk : Sum.elim (fun z => Xw p l e R s m args below meth c E 5 h0 rF hF 32 [(0, .ref a0), (1, .int a1), (2, .int a2), (3, .int a3), (4, .int z)] [] h1) (fun t => Xw p l e R s m args below meth c E 5 h0 rF hF 71 [(0, .ref a0), (1, .int a1), (2, .int a2), (3, .int a3), (4, .int t)] [] h1) r) : Xw p l e R s m args below meth c E 5 h0 rF hF 32 [(0, .ref a0), (1, .int a1), (2, .int a2), (3, .int a3), (4, .int z)] [] h := by
  unfold f_X12_hecke_L32 at hf
  refine x_iload (v := z) C dX12_hecke_32 rfl ?_
  refine x_iload_n (v := a3) C dX12_hecke_34 rfl ?_
  obtain ⟨q11, e12, hf⟩ := j_bind hf
  refine x_callS (As := [.int a3]) (rest := [.int z]) C dX12_hecke_35 (m_X12_longOf (l := l) (E := E) (d := d - 1) (by omega) e12) km_X12_longOf lk_X12_52 ks_X12_longOf rfl (by omega) (Nat.le_of_ble_eq_true rfl) (j_le_of (q_X12_longOf e12)) (Or.inr (q_X12_longOf e12)) ?_
  refine x_icmp_ge (tgt := 71) C dX12_hecke_38 (by decide) (fun c23 => ?_) (fun c23 => ?_)
  · have hf := j_ifp hf c23
    obtain ⟨rfl, rfl⟩ := j_inj2 hf
    exact x_locr hk rfl
  · have hf := j_ifn hf c23
    refine x_aload_n (v := a0) C dX12_hecke_41 rfl ?_
    obtain ⟨v13, e14, hf⟩ := j_bind hf
    refine x_get C dX12_hecke_42 (jgR_some e14) fg_X12_72 ?_
    refine x_iload (v := z) C dX12_hecke_45 rfl ?_
    refine x_aload_n (v := a0) C dX12_hecke_47 rfl ?_
    refine x_aload_n (v := a0) C dX12_hecke_48 rfl ?_
    obtain ⟨v15, e16, hf⟩ := j_bind hf
    refine x_get C dX12_hecke_49 (jgR_some e16) fg_X12_218 ?_
    refine x_sipush C dX12_hecke_52 ks_181 ?_
    refine x_iload_n (v := a1) C dX12_hecke_55 rfl ?_
    refine x_imul C dX12_hecke_56 ?_
    refine x_iload_n (v := a3) C dX12_hecke_57 rfl ?_
    refine x_iload_n (v := a2) C dX12_hecke_58 rfl ?_
    refine x_iload (v := z) C dX12_hecke_59 rfl ?_
    obtain ⟨u21, e22, hf⟩ := j_bind hf
    obtain ⟨q17, e18, hf⟩ := j_bind hf
    refine x_callV (As := [.ref v15, .int ((181 : Int32) * a1), .int a3, .int a2, .int z]) (rest := [.int z, .ref v13]) C dX12_hecke_61 (m_X12_heckeAt (l := l) (E := E) (d := d - 1) (by omega) e18) km_X12_heckeAt lk_X12_335 kv_X12_heckeAt (ci := 9) rfl e22 rfl (by omega) (Nat.le_of_ble_eq_true rfl) (j_le_of (q_X12_heckeAt e18)) (Or.inr (q_X12_heckeAt e18)) ?_
    obtain ⟨h19, e20, hf⟩ := j_bind hf
    refine x_iast C dX12_hecke_64 e20 ?_
    refine x_iinc (v := z) C dX12_hecke_65 rfl ki_1 (by decide) ?_
    refine x_goto (tgt := 32) C dX12_hecke_68 (by decide) ?_
    obtain ⟨rfl, rfl⟩ := j_inj2 hf
    exact x_locr hk rfl
set_option maxHeartbeats 4000000 in
set_option maxRecDepth 100000 in
theorem m_X12_hecke {l : Launch} {E : JE} {d : Nat} (hdd : 4 ≤ d) {a0 : Nat} {a1 : Int32} {a2 : Int32} {h : JH} {q : Int32 × JH} (hf : f_X12_hecke a0 a1 a2 h = some q) : Con l E d yX12_hecke cX12_hecke 5 (some .boolean) [.ref a0, .int a1, .int a2] h (some (.int q.1)) q.2 := by
  refine j_start rfl (Nat.le_of_ble_eq_true rfl) ?_
  intro p e s m args below meth c C hret hnm
  refine x_loc [(0, .ref a0), (1, .int a1), (2, .int a2)] rfl ?_
  unfold f_X12_hecke at hf
  refine x_aload_n (v := a0) C dX12_hecke_0 rfl ?_
  refine x_iconst C dX12_hecke_1 ki_0 ?_
  obtain ⟨h1, e2, hf⟩ := j_bind hf
  refine x_put C dX12_hecke_2 e2 fp_X12_1 rfl rfl ?_
  refine x_aload_n (v := a0) C dX12_hecke_5 rfl ?_
  refine x_iload_n (v := a1) C dX12_hecke_6 rfl ?_
  obtain ⟨u36, e37, hf⟩ := j_bind hf
  obtain ⟨q3, e4, hf⟩ := j_bind hf
  refine x_callV (As := [.int a1]) (rest := []) C dX12_hecke_7 (m_X12_isRegister (l := l) (E := E) (d := d - 1) (by omega) e4) km_X12_isRegister lk_X12_269 kv_X12_isRegister (ci := 9) rfl e37 rfl (by omega) (Nat.le_of_ble_eq_true rfl) (j_le_of (q_X12_isRegister e4)) (Or.inr (q_X12_isRegister e4)) ?_
  refine x_if_eq (tgt := 20) C dX12_hecke_10 (by decide) (fun c38 => ?_) (fun c38 => ?_)
  · have hf := j_ifp hf c38
    refine x_iconst C dX12_hecke_20 ki_0 ?_
    obtain rfl := j_inj hf
    exact x_zret C hret (Or.inl rfl) dX12_hecke_21
  · have hf := j_ifn hf c38
    refine x_iload_n (v := a2) C dX12_hecke_13 rfl ?_
    obtain ⟨q5, e6, hf⟩ := j_bind hf
    refine x_callS (As := [.int a2]) (rest := []) C dX12_hecke_14 (m_X12_isOperator (l := l) (E := E) (d := d - 1) (by omega) e6) km_X12_isOperator lk_X12_332 ks_X12_isOperator rfl (by omega) (Nat.le_of_ble_eq_true rfl) (j_le_of (q_X12_isOperator e6)) (Or.inr (q_X12_isOperator e6)) ?_
    refine x_if_ne (tgt := 22) C dX12_hecke_17 (by decide) (fun c39 => ?_) (fun c39 => ?_)
    · have hf := j_ifn hf c39
      refine x_aload_n (v := a0) C dX12_hecke_22 rfl ?_
      obtain ⟨v7, e8, hf⟩ := j_bind hf
      refine x_get C dX12_hecke_23 (jgR_some e8) fg_X12_215 ?_
      refine x_iload_n (v := a1) C dX12_hecke_26 rfl ?_
      obtain ⟨v9, e10, hf⟩ := j_bind hf
      refine x_iald C dX12_hecke_27 e10 ?_
      refine x_istore_n C dX12_hecke_28 (by decide) ?_
      refine x_iconst C dX12_hecke_29 ki_0 ?_
      refine x_istore C dX12_hecke_30 (by decide) ?_
      obtain ⟨q24, e25, hf⟩ := j_bind hf
      refine x_loc [(0, .ref a0), (1, .int a1), (2, .int a2), (3, .int v9), (4, .int (0 : Int32))] rfl ?_
      refine x_loop (s_X12_hecke_L32 C hret hdd a0 a1 a2 v9) e25 ?_
      refine x_aload_n (v := a0) C dX12_hecke_71 rfl ?_
      refine x_iload_n (v := v9) C dX12_hecke_72 rfl ?_
      obtain ⟨u34, e35, hf⟩ := j_bind hf
      obtain ⟨q26, e27, hf⟩ := j_bind hf
      refine x_callV (As := [.int v9]) (rest := []) C dX12_hecke_73 (m_X12_builds (l := l) (E := E) (d := d - 1) (by omega) e27) km_X12_builds lk_X12_339 kv_X12_builds (ci := 9) rfl e35 rfl (by omega) (Nat.le_of_ble_eq_true rfl) (j_le_of (q_X12_builds e27)) (Or.inr (q_X12_builds e27)) ?_
      refine x_aload_n (v := a0) C dX12_hecke_76 rfl ?_
      obtain ⟨v28, e29, hf⟩ := j_bind hf
      refine x_get C dX12_hecke_77 (jgR_some e29) fg_X12_69 ?_
      refine x_iconst C dX12_hecke_80 ki_0 ?_
      refine x_aload_n (v := a0) C dX12_hecke_81 rfl ?_
      obtain ⟨v30, e31, hf⟩ := j_bind hf
      refine x_get C dX12_hecke_82 (jgR_some e31) fg_X12_218 ?_
      refine x_sipush C dX12_hecke_85 ks_181 ?_
      refine x_iload_n (v := a1) C dX12_hecke_88 rfl ?_
      refine x_imul C dX12_hecke_89 ?_
      obtain ⟨q32, e33, hf⟩ := j_bind hf
      refine x_callS (As := [.ref v28, .int (0 : Int32), .ref v30, .int ((181 : Int32) * a1)]) (rest := []) C dX12_hecke_90 (m_X12_copies (l := l) (E := E) (d := d - 1) (by omega) e33) km_X12_copies lk_X12_58 ks_X12_copies rfl (by omega) (Nat.le_of_ble_eq_true rfl) (j_le_of (q_X12_copies e33)) (Or.inr (q_X12_copies e33)) ?_
      refine x_iconst C dX12_hecke_93 ki_1 ?_
      obtain rfl := j_inj hf
      exact x_zret C hret (Or.inr rfl) dX12_hecke_94
    · have hf := j_ifp hf c39
      refine x_iconst C dX12_hecke_20 ki_0 ?_
      obtain rfl := j_inj hf
      exact x_zret C hret (Or.inl rfl) dX12_hecke_21
set_option maxHeartbeats 4000000 in
set_option maxRecDepth 100000 in
theorem s_X12_multiplies__L43 {p : Program} {l : Launch} {e : Env} {R : Room} {s : State} {m : MethodId} {args : Array Value} {below : List Frame} {meth : Method} {c : Code} {E : JE} {h0 hF : JH} {rF : Option Value} {d : Nat} (C : j_C p s m args meth c R E cX12_multiplies_ 8 RX12 h0 hF d) (hret : meth.sig.returnType = (some .int)) (hdd : 2 ≤ d) (a0 : Nat) (a2 : Int32) (a3 : Int32) (a4 : Int32) (z : (Int32 × Int32)) (h : JH) (r : (Int32 × Int32) ⊕ (Int32 × Int32)) (h1 : JH) (hf : f_X12_multiplies__L43 a0 a2 a3 a4 z h = some (r, h1)) (hk : Sum.elim (fun z => Xw p l e R s m args below meth c E 8 h0 rF hF 43 [(0, .ref a0), (2, .int a2), (3, .int a3), (4, .int a4), (5, .int z.1), (6, .int z.2)] [] h1) (fun t => Xw p l e R s m args below meth c E 8 h0 rF hF 120 [(0, .ref a0), (2, .int a2), (3, .int a3), (4, .int a4), (5, .int t.1), (6, .int t.2)] [] h1) r) : Xw p l e R s m args below meth c E 8 h0 rF hF 43 [(0, .ref a0), (2, .int a2), (3, .int a3), (4, .int a4), (5, .int z.1), (6, .int z.2)] [] h := by
  unfold f_X12_multiplies__L43 at hf
  refine x_iload (v := z.2) C dX12_multiplies__43 rfl ?_
  refine x_iload_n (v := a3) C dX12_multiplies__45 rfl ?_
  obtain ⟨q11, e12, hf⟩ := j_bind hf
  refine x_callS (As := [.int a3]) (rest := [.int z.2]) C dX12_multiplies__46 (m_X12_longOf (l := l) (E := E) (d := d - 1) (by omega) e12) km_X12_longOf lk_X12_52 ks_X12_longOf rfl (by omega) (Nat.le_of_ble_eq_true rfl) (j_le_of (q_X12_longOf e12)) (Or.inr (q_X12_longOf e12)) ?_
  refine x_icmp_ge (tgt := 120) C dX12_multiplies__49 (by decide) (fun c35 => ?_) (fun c35 => ?_)
  · have hf := j_ifp hf c35
    obtain ⟨rfl, rfl⟩ := j_inj2 hf
    exact x_locr hk rfl
  · have hf := j_ifn hf c35
    refine x_iload (v := z.1) C dX12_multiplies__52 rfl ?_
    refine x_bipush C dX12_multiplies__54 kb_m2 ?_
    refine x_icmp_ne (tgt := 120) C dX12_multiplies__56 (by decide) (fun c36 => ?_) (fun c36 => ?_)
    · have hf := j_ifn hf c36
      obtain ⟨rfl, rfl⟩ := j_inj2 hf
      exact x_locr hk rfl
    · have hf := j_ifp hf c36
      refine x_aload_n (v := a0) C dX12_multiplies__59 rfl ?_
      obtain ⟨v13, e14, hf⟩ := j_bind hf
      refine x_get C dX12_multiplies__60 (jgR_some e14) fg_X12_218 ?_
      refine x_iload (v := a4) C dX12_multiplies__63 rfl ?_
      refine x_iload (v := z.2) C dX12_multiplies__65 rfl ?_
      refine x_iadd C dX12_multiplies__67 ?_
      obtain ⟨v15, e16, hf⟩ := j_bind hf
      refine x_iald C dX12_multiplies__68 e16 ?_
      refine x_if_ne (tgt := 77) C dX12_multiplies__69 (by decide) (fun c37 => ?_) (fun c37 => ?_)
      · have hf := j_ifn hf c37
        refine x_aload_n (v := a0) C dX12_multiplies__77 rfl ?_
        refine x_aload_n (v := a0) C dX12_multiplies__78 rfl ?_
        refine x_aload_n (v := a0) C dX12_multiplies__79 rfl ?_
        obtain ⟨v17, e18, hf⟩ := j_bind hf
        refine x_get C dX12_multiplies__80 (jgR_some e18) fg_X12_218 ?_
        refine x_iload (v := a4) C dX12_multiplies__83 rfl ?_
        refine x_iload_n (v := a3) C dX12_multiplies__85 rfl ?_
        refine x_iload_n (v := a2) C dX12_multiplies__86 rfl ?_
        refine x_iload (v := z.2) C dX12_multiplies__87 rfl ?_
        obtain ⟨u33, e34, hf⟩ := j_bind hf
        obtain ⟨q19, e20, hf⟩ := j_bind hf
        refine x_callV (As := [.ref v17, .int a4, .int a3, .int a2, .int z.2]) (rest := [.ref a0]) C dX12_multiplies__89 (m_X12_heckeAt (l := l) (E := E) (d := d - 1) (by omega) e20) km_X12_heckeAt lk_X12_335 kv_X12_heckeAt (ci := 9) rfl e34 rfl (by omega) (Nat.le_of_ble_eq_true rfl) (j_le_of (q_X12_heckeAt e20)) (Or.inr (q_X12_heckeAt e20)) ?_
        refine x_i2l C dX12_multiplies__92 ?_
        refine x_aload_n (v := a0) C dX12_multiplies__93 rfl ?_
        refine x_aload_n (v := a0) C dX12_multiplies__94 rfl ?_
        obtain ⟨v21, e22, hf⟩ := j_bind hf
        refine x_get C dX12_multiplies__95 (jgR_some e22) fg_X12_218 ?_
        refine x_iload (v := a4) C dX12_multiplies__98 rfl ?_
        refine x_iload (v := z.2) C dX12_multiplies__100 rfl ?_
        refine x_iadd C dX12_multiplies__102 ?_
        obtain ⟨v23, e24, hf⟩ := j_bind hf
        refine x_iald C dX12_multiplies__103 e24 ?_
        obtain ⟨u31, e32, hf⟩ := j_bind hf
        obtain ⟨q25, e26, hf⟩ := j_bind hf
        refine x_callV (As := [.int v23]) (rest := [.long q19.1.toInt64, .ref a0]) C dX12_multiplies__104 (m_X12_inverse (l := l) (E := E) (d := d - 1) (by omega) e26) km_X12_inverse lk_X12_41 kv_X12_inverse (ci := 9) rfl e32 rfl (by omega) (Nat.le_of_ble_eq_true rfl) (j_le_of (q_X12_inverse e26)) (Or.inr (q_X12_inverse e26)) ?_
        refine x_i2l C dX12_multiplies__107 ?_
        refine x_lmul C dX12_multiplies__108 ?_
        obtain ⟨u29, e30, hf⟩ := j_bind hf
        obtain ⟨q27, e28, hf⟩ := j_bind hf
        refine x_callV (As := [.long (q19.1.toInt64 * q25.1.toInt64)]) (rest := []) C dX12_multiplies__109 (m_X12_left (l := l) (E := E) (d := d - 1) (by omega) e28) km_X12_left lk_X12_10 kv_X12_left (ci := 9) rfl e30 rfl (by omega) (Nat.le_of_ble_eq_true rfl) (j_le_of (q_X12_left e28)) (Or.inr (q_X12_left e28)) ?_
        refine x_istore C dX12_multiplies__112 (by decide) ?_
        refine x_iinc (v := z.2) C dX12_multiplies__114 rfl ki_1 (by decide) ?_
        refine x_goto (tgt := 43) C dX12_multiplies__117 (by decide) ?_
        obtain ⟨rfl, rfl⟩ := j_inj2 hf
        exact x_locr hk rfl
      · have hf := j_ifp hf c37
        refine x_bipush C dX12_multiplies__72 kb_m2 ?_
        refine x_goto (tgt := 112) C dX12_multiplies__74 (by decide) ?_
        refine x_istore C dX12_multiplies__112 (by decide) ?_
        refine x_iinc (v := z.2) C dX12_multiplies__114 rfl ki_1 (by decide) ?_
        refine x_goto (tgt := 43) C dX12_multiplies__117 (by decide) ?_
        obtain ⟨rfl, rfl⟩ := j_inj2 hf
        exact x_locr hk rfl
set_option maxHeartbeats 4000000 in
set_option maxRecDepth 100000 in
theorem s_X12_multiplies__L137 {p : Program} {l : Launch} {e : Env} {R : Room} {s : State} {m : MethodId} {args : Array Value} {below : List Frame} {meth : Method} {c : Code} {E : JE} {h0 hF : JH} {rF : Option Value} {d : Nat} (C : j_C p s m args meth c R E cX12_multiplies_ 8 RX12 h0 hF d) (hret : meth.sig.returnType = (some .int)) (hdd : 2 ≤ d) (a0 : Nat) (a2 : Int32) (a3 : Int32) (a4 : Int32) (a5 : Int32) (z : (Int32 × Int32)) (h : JH) (r : (Int32 × Int32) ⊕ (Int32 × Int32)) (h1 : JH) (hf : f_X12_multiplies__L137 a0 a2 a3 a4 a5 z h = some (r, h1)) (hk : Sum.elim (fun z => Xw p l e R s m args below meth c E 8 h0 rF hF 137 [(0, .ref a0), (2, .int a2), (3, .int a3), (4, .int a4), (5, .int a5), (6, .int z.1), (7, .int z.2)] [] h1) (fun t => Xw p l e R s m args below meth c E 8 h0 rF hF 200 [(0, .ref a0), (2, .int a2), (3, .int a3), (4, .int a4), (5, .int a5), (6, .int t.1), (7, .int t.2)] [] h1) r) : Xw p l e R s m args below meth c E 8 h0 rF hF 137 [(0, .ref a0), (2, .int a2), (3, .int a3), (4, .int a4), (5, .int a5), (6, .int z.1), (7, .int z.2)] [] h := by
  unfold f_X12_multiplies__L137 at hf
  refine x_iload (v := z.2) C dX12_multiplies__137 rfl ?_
  refine x_iload_n (v := a3) C dX12_multiplies__139 rfl ?_
  obtain ⟨q40, e41, hf⟩ := j_bind hf
  refine x_callS (As := [.int a3]) (rest := [.int z.2]) C dX12_multiplies__140 (m_X12_longOf (l := l) (E := E) (d := d - 1) (by omega) e41) km_X12_longOf lk_X12_52 ks_X12_longOf rfl (by omega) (Nat.le_of_ble_eq_true rfl) (j_le_of (q_X12_longOf e41)) (Or.inr (q_X12_longOf e41)) ?_
  refine x_icmp_ge (tgt := 200) C dX12_multiplies__143 (by decide) (fun c56 => ?_) (fun c56 => ?_)
  · have hf := j_ifp hf c56
    obtain ⟨rfl, rfl⟩ := j_inj2 hf
    exact x_locr hk rfl
  · have hf := j_ifn hf c56
    refine x_iload (v := z.1) C dX12_multiplies__146 rfl ?_
    refine x_if_eq (tgt := 200) C dX12_multiplies__148 (by decide) (fun c57 => ?_) (fun c57 => ?_)
    · have hf := j_ifp hf c57
      obtain ⟨rfl, rfl⟩ := j_inj2 hf
      exact x_locr hk rfl
    · have hf := j_ifn hf c57
      refine x_aload_n (v := a0) C dX12_multiplies__151 rfl ?_
      refine x_aload_n (v := a0) C dX12_multiplies__152 rfl ?_
      obtain ⟨v42, e43, hf⟩ := j_bind hf
      refine x_get C dX12_multiplies__153 (jgR_some e43) fg_X12_218 ?_
      refine x_iload (v := a4) C dX12_multiplies__156 rfl ?_
      refine x_iload_n (v := a3) C dX12_multiplies__158 rfl ?_
      refine x_iload_n (v := a2) C dX12_multiplies__159 rfl ?_
      refine x_iload (v := z.2) C dX12_multiplies__160 rfl ?_
      obtain ⟨u54, e55, hf⟩ := j_bind hf
      obtain ⟨q44, e45, hf⟩ := j_bind hf
      refine x_callV (As := [.ref v42, .int a4, .int a3, .int a2, .int z.2]) (rest := []) C dX12_multiplies__162 (m_X12_heckeAt (l := l) (E := E) (d := d - 1) (by omega) e45) km_X12_heckeAt lk_X12_335 kv_X12_heckeAt (ci := 9) rfl e55 rfl (by omega) (Nat.le_of_ble_eq_true rfl) (j_le_of (q_X12_heckeAt e45)) (Or.inr (q_X12_heckeAt e45)) ?_
      refine x_aload_n (v := a0) C dX12_multiplies__165 rfl ?_
      refine x_iload (v := a5) C dX12_multiplies__166 rfl ?_
      refine x_i2l C dX12_multiplies__168 ?_
      refine x_aload_n (v := a0) C dX12_multiplies__169 rfl ?_
      obtain ⟨v46, e47, hf⟩ := j_bind hf
      refine x_get C dX12_multiplies__170 (jgR_some e47) fg_X12_218 ?_
      refine x_iload (v := a4) C dX12_multiplies__173 rfl ?_
      refine x_iload (v := z.2) C dX12_multiplies__175 rfl ?_
      refine x_iadd C dX12_multiplies__177 ?_
      obtain ⟨v48, e49, hf⟩ := j_bind hf
      refine x_iald C dX12_multiplies__178 e49 ?_
      refine x_i2l C dX12_multiplies__179 ?_
      refine x_lmul C dX12_multiplies__180 ?_
      obtain ⟨u52, e53, hf⟩ := j_bind hf
      obtain ⟨q50, e51, hf⟩ := j_bind hf
      refine x_callV (As := [.long (a5.toInt64 * v48.toInt64)]) (rest := [.int q44.1]) C dX12_multiplies__181 (m_X12_left (l := l) (E := E) (d := d - 1) (by omega) e51) km_X12_left lk_X12_10 kv_X12_left (ci := 9) rfl e53 rfl (by omega) (Nat.le_of_ble_eq_true rfl) (j_le_of (q_X12_left e51)) (Or.inr (q_X12_left e51)) ?_
      refine x_icmp_ne (tgt := 191) C dX12_multiplies__184 (by decide) (fun c58 => ?_) (fun c58 => ?_)
      · have hf := j_ifn hf c58
        refine x_iconst C dX12_multiplies__191 ki_0 ?_
        refine x_istore C dX12_multiplies__192 (by decide) ?_
        refine x_iinc (v := z.2) C dX12_multiplies__194 rfl ki_1 (by decide) ?_
        refine x_goto (tgt := 137) C dX12_multiplies__197 (by decide) ?_
        obtain ⟨rfl, rfl⟩ := j_inj2 hf
        exact x_locr hk rfl
      · have hf := j_ifp hf c58
        refine x_iconst C dX12_multiplies__187 ki_1 ?_
        refine x_goto (tgt := 192) C dX12_multiplies__188 (by decide) ?_
        refine x_istore C dX12_multiplies__192 (by decide) ?_
        refine x_iinc (v := z.2) C dX12_multiplies__194 rfl ki_1 (by decide) ?_
        refine x_goto (tgt := 137) C dX12_multiplies__197 (by decide) ?_
        obtain ⟨rfl, rfl⟩ := j_inj2 hf
        exact x_locr hk rfl
set_option maxHeartbeats 4000000 in
set_option maxRecDepth 100000 in
theorem m_X12_multiplies_ {l : Launch} {E : JE} {d : Nat} (hdd : 2 ≤ d) {a0 : Nat} {a1 : Int32} {a2 : Int32} {h : JH} {q : Int32 × JH} (hf : f_X12_multiplies_ a0 a1 a2 h = some q) : Con l E d yX12_multiplies_ cX12_multiplies_ 8 (some .int) [.ref a0, .int a1, .int a2] h (some (.int q.1)) q.2 := by
  refine j_start rfl (Nat.le_of_ble_eq_true rfl) ?_
  intro p e s m args below meth c C hret hnm
  refine x_loc [(0, .ref a0), (1, .int a1), (2, .int a2)] rfl ?_
  unfold f_X12_multiplies_ at hf
  refine x_aload_n (v := a0) C dX12_multiplies__0 rfl ?_
  refine x_iconst C dX12_multiplies__1 ki_0 ?_
  obtain ⟨h1, e2, hf⟩ := j_bind hf
  refine x_put C dX12_multiplies__2 e2 fp_X12_1 rfl rfl ?_
  refine x_aload_n (v := a0) C dX12_multiplies__5 rfl ?_
  refine x_iload_n (v := a1) C dX12_multiplies__6 rfl ?_
  obtain ⟨u63, e64, hf⟩ := j_bind hf
  obtain ⟨q3, e4, hf⟩ := j_bind hf
  refine x_callV (As := [.int a1]) (rest := []) C dX12_multiplies__7 (m_X12_isRegister (l := l) (E := E) (d := d - 1) (by omega) e4) km_X12_isRegister lk_X12_269 kv_X12_isRegister (ci := 9) rfl e64 rfl (by omega) (Nat.le_of_ble_eq_true rfl) (j_le_of (q_X12_isRegister e4)) (Or.inr (q_X12_isRegister e4)) ?_
  refine x_if_eq (tgt := 20) C dX12_multiplies__10 (by decide) (fun c65 => ?_) (fun c65 => ?_)
  · have hf := j_ifp hf c65
    refine x_iconst C dX12_multiplies__20 ki_m1 ?_
    obtain rfl := j_inj hf
    exact x_iret C hret dX12_multiplies__21
  · have hf := j_ifn hf c65
    refine x_iload_n (v := a2) C dX12_multiplies__13 rfl ?_
    obtain ⟨q5, e6, hf⟩ := j_bind hf
    refine x_callS (As := [.int a2]) (rest := []) C dX12_multiplies__14 (m_X12_isOperator (l := l) (E := E) (d := d - 1) (by omega) e6) km_X12_isOperator lk_X12_332 ks_X12_isOperator rfl (by omega) (Nat.le_of_ble_eq_true rfl) (j_le_of (q_X12_isOperator e6)) (Or.inr (q_X12_isOperator e6)) ?_
    refine x_if_ne (tgt := 22) C dX12_multiplies__17 (by decide) (fun c66 => ?_) (fun c66 => ?_)
    · have hf := j_ifn hf c66
      refine x_aload_n (v := a0) C dX12_multiplies__22 rfl ?_
      obtain ⟨v7, e8, hf⟩ := j_bind hf
      refine x_get C dX12_multiplies__23 (jgR_some e8) fg_X12_215 ?_
      refine x_iload_n (v := a1) C dX12_multiplies__26 rfl ?_
      obtain ⟨v9, e10, hf⟩ := j_bind hf
      refine x_iald C dX12_multiplies__27 e10 ?_
      refine x_istore_n C dX12_multiplies__28 (by decide) ?_
      refine x_sipush C dX12_multiplies__29 ks_181 ?_
      refine x_iload_n (v := a1) C dX12_multiplies__32 rfl ?_
      refine x_imul C dX12_multiplies__33 ?_
      refine x_istore C dX12_multiplies__34 (by decide) ?_
      refine x_bipush C dX12_multiplies__36 kb_m2 ?_
      refine x_istore C dX12_multiplies__38 (by decide) ?_
      refine x_iconst C dX12_multiplies__40 ki_0 ?_
      refine x_istore C dX12_multiplies__41 (by decide) ?_
      obtain ⟨q38, e39, hf⟩ := j_bind hf
      refine x_loc [(0, .ref a0), (2, .int a2), (3, .int v9), (4, .int ((181 : Int32) * a1)), (5, .int (-2 : Int32)), (6, .int (0 : Int32))] rfl ?_
      refine x_loop (s_X12_multiplies__L43 C hret hdd a0 a2 v9 ((181 : Int32) * a1)) e39 ?_
      refine x_iload (v := q38.1.1) C dX12_multiplies__120 rfl ?_
      refine x_bipush C dX12_multiplies__122 kb_m2 ?_
      refine x_icmp_eq (tgt := 131) C dX12_multiplies__124 (by decide) (fun c67 => ?_) (fun c67 => ?_)
      · have hf := j_ifp hf c67
        refine x_iconst C dX12_multiplies__131 ki_0 ?_
        refine x_istore C dX12_multiplies__132 (by decide) ?_
        refine x_iconst C dX12_multiplies__134 ki_0 ?_
        refine x_istore C dX12_multiplies__135 (by decide) ?_
        obtain ⟨q59, e60, hf⟩ := j_bind hf
        refine x_loc [(0, .ref a0), (2, .int a2), (3, .int v9), (4, .int ((181 : Int32) * a1)), (5, .int q38.1.1), (6, .int (0 : Int32)), (7, .int (0 : Int32))] rfl ?_
        refine x_loop (s_X12_multiplies__L137 C hret hdd a0 a2 v9 ((181 : Int32) * a1) q38.1.1) e60 ?_
        refine x_iload (v := q59.1.1) C dX12_multiplies__200 rfl ?_
        refine x_if_eq (tgt := 210) C dX12_multiplies__202 (by decide) (fun c68 => ?_) (fun c68 => ?_)
        · have hf := j_ifp hf c68
          refine x_bipush C dX12_multiplies__210 kb_m2 ?_
          obtain rfl := j_inj hf
          exact x_iret C hret dX12_multiplies__212
        · have hf := j_ifn hf c68
          refine x_iload (v := q38.1.1) C dX12_multiplies__205 rfl ?_
          refine x_goto (tgt := 212) C dX12_multiplies__207 (by decide) ?_
          obtain rfl := j_inj hf
          exact x_iret C hret dX12_multiplies__212
      · have hf := j_ifn hf c67
        refine x_iconst C dX12_multiplies__127 ki_1 ?_
        refine x_goto (tgt := 132) C dX12_multiplies__128 (by decide) ?_
        refine x_istore C dX12_multiplies__132 (by decide) ?_
        refine x_iconst C dX12_multiplies__134 ki_0 ?_
        refine x_istore C dX12_multiplies__135 (by decide) ?_
        obtain ⟨q61, e62, hf⟩ := j_bind hf
        refine x_loc [(0, .ref a0), (2, .int a2), (3, .int v9), (4, .int ((181 : Int32) * a1)), (5, .int q38.1.1), (6, .int (1 : Int32)), (7, .int (0 : Int32))] rfl ?_
        refine x_loop (s_X12_multiplies__L137 C hret hdd a0 a2 v9 ((181 : Int32) * a1) q38.1.1) e62 ?_
        refine x_iload (v := q61.1.1) C dX12_multiplies__200 rfl ?_
        refine x_if_eq (tgt := 210) C dX12_multiplies__202 (by decide) (fun c69 => ?_) (fun c69 => ?_)
        · have hf := j_ifp hf c69
          refine x_bipush C dX12_multiplies__210 kb_m2 ?_
          obtain rfl := j_inj hf
          exact x_iret C hret dX12_multiplies__212
        · have hf := j_ifn hf c69
          refine x_iload (v := q38.1.1) C dX12_multiplies__205 rfl ?_
          refine x_goto (tgt := 212) C dX12_multiplies__207 (by decide) ?_
          obtain rfl := j_inj hf
          exact x_iret C hret dX12_multiplies__212
    · have hf := j_ifp hf c66
      refine x_iconst C dX12_multiplies__20 ki_m1 ?_
      obtain rfl := j_inj hf
      exact x_iret C hret dX12_multiplies__21
set_option maxHeartbeats 4000000 in
set_option maxRecDepth 100000 in
theorem s_X12_alike_L59 {p : Program} {l : Launch} {e : Env} {R : Room} {s : State} {m : MethodId} {args : Array Value} {below : List Frame} {meth : Method} {c : Code} {E : JE} {h0 hF : JH} {rF : Option Value} {d : Nat} (C : j_C p s m args meth c R E cX12_alike 6 RX12 h0 hF d) (hret : meth.sig.returnType = (some .int)) (hdd : 2 ≤ d) (a0 : Nat) (a1 : Int32) (a2 : Int32) (a3 : Int32) (z : (Int32 × Int32)) (h : JH) (r : (Int32 × Int32) ⊕ (Int32 × Int32)) (h1 : JH) (hf : f_X12_alike_L59 a0 a1 a2 a3 z h = some (r, h1)) (hk : Sum.elim (fun z => Xw p l e R s m args below meth c E 6 h0 rF hF 59 [(0, .ref a0), (1, .int a1), (2, .int a2), (3, .int a3), (4, .int z.1), (5, .int z.2)] [] h1) (fun t => Xw p l e R s m args below meth c E 6 h0 rF hF 112 [(0, .ref a0), (1, .int a1), (2, .int a2), (3, .int a3), (4, .int t.1), (5, .int t.2)] [] h1) r) : Xw p l e R s m args below meth c E 6 h0 rF hF 59 [(0, .ref a0), (1, .int a1), (2, .int a2), (3, .int a3), (4, .int z.1), (5, .int z.2)] [] h := by
  unfold f_X12_alike_L59 at hf
  refine x_iload (v := z.2) C dX12_alike_59 rfl ?_
  refine x_iload_n (v := a3) C dX12_alike_61 rfl ?_
  refine x_icmp_gt (tgt := 112) C dX12_alike_62 (by decide) (fun c25 => ?_) (fun c25 => ?_)
  · have hf := j_ifp hf c25
    obtain ⟨rfl, rfl⟩ := j_inj2 hf
    exact x_locr hk rfl
  · have hf := j_ifn hf c25
    refine x_iload (v := z.1) C dX12_alike_65 rfl ?_
    refine x_if_eq (tgt := 112) C dX12_alike_67 (by decide) (fun c26 => ?_) (fun c26 => ?_)
    · have hf := j_ifp hf c26
      obtain ⟨rfl, rfl⟩ := j_inj2 hf
      exact x_locr hk rfl
    · have hf := j_ifn hf c26
      refine x_aload_n (v := a0) C dX12_alike_70 rfl ?_
      obtain ⟨v17, e18, hf⟩ := j_bind hf
      refine x_get C dX12_alike_71 (jgR_some e18) fg_X12_218 ?_
      refine x_sipush C dX12_alike_74 ks_181 ?_
      refine x_iload_n (v := a1) C dX12_alike_77 rfl ?_
      refine x_imul C dX12_alike_78 ?_
      refine x_iload (v := z.2) C dX12_alike_79 rfl ?_
      refine x_iadd C dX12_alike_81 ?_
      obtain ⟨v19, e20, hf⟩ := j_bind hf
      refine x_iald C dX12_alike_82 e20 ?_
      refine x_aload_n (v := a0) C dX12_alike_83 rfl ?_
      obtain ⟨v21, e22, hf⟩ := j_bind hf
      refine x_get C dX12_alike_84 (jgR_some e22) fg_X12_218 ?_
      refine x_sipush C dX12_alike_87 ks_181 ?_
      refine x_iload_n (v := a2) C dX12_alike_90 rfl ?_
      refine x_imul C dX12_alike_91 ?_
      refine x_iload (v := z.2) C dX12_alike_92 rfl ?_
      refine x_iadd C dX12_alike_94 ?_
      obtain ⟨v23, e24, hf⟩ := j_bind hf
      refine x_iald C dX12_alike_95 e24 ?_
      refine x_icmp_ne (tgt := 103) C dX12_alike_96 (by decide) (fun c27 => ?_) (fun c27 => ?_)
      · have hf := j_ifn hf c27
        refine x_iconst C dX12_alike_103 ki_0 ?_
        refine x_istore C dX12_alike_104 (by decide) ?_
        refine x_iinc (v := z.2) C dX12_alike_106 rfl ki_1 (by decide) ?_
        refine x_goto (tgt := 59) C dX12_alike_109 (by decide) ?_
        obtain ⟨rfl, rfl⟩ := j_inj2 hf
        exact x_locr hk rfl
      · have hf := j_ifp hf c27
        refine x_iconst C dX12_alike_99 ki_1 ?_
        refine x_goto (tgt := 104) C dX12_alike_100 (by decide) ?_
        refine x_istore C dX12_alike_104 (by decide) ?_
        refine x_iinc (v := z.2) C dX12_alike_106 rfl ki_1 (by decide) ?_
        refine x_goto (tgt := 59) C dX12_alike_109 (by decide) ?_
        obtain ⟨rfl, rfl⟩ := j_inj2 hf
        exact x_locr hk rfl
set_option maxHeartbeats 4000000 in
set_option maxRecDepth 100000 in
theorem m_X12_alike {l : Launch} {E : JE} {d : Nat} (hdd : 2 ≤ d) {a0 : Nat} {a1 : Int32} {a2 : Int32} {a3 : Int32} {h : JH} {q : Int32 × JH} (hf : f_X12_alike a0 a1 a2 a3 h = some q) : Con l E d yX12_alike cX12_alike 6 (some .int) [.ref a0, .int a1, .int a2, .int a3] h (some (.int q.1)) q.2 := by
  refine j_start rfl (Nat.le_of_ble_eq_true rfl) ?_
  intro p e s m args below meth c C hret hnm
  refine x_loc [(0, .ref a0), (1, .int a1), (2, .int a2), (3, .int a3)] rfl ?_
  unfold f_X12_alike at hf
  refine x_aload_n (v := a0) C dX12_alike_0 rfl ?_
  refine x_iconst C dX12_alike_1 ki_0 ?_
  obtain ⟨h1, e2, hf⟩ := j_bind hf
  refine x_put C dX12_alike_2 e2 fp_X12_1 rfl rfl ?_
  refine x_aload_n (v := a0) C dX12_alike_5 rfl ?_
  refine x_iload_n (v := a1) C dX12_alike_6 rfl ?_
  obtain ⟨u34, e35, hf⟩ := j_bind hf
  obtain ⟨q3, e4, hf⟩ := j_bind hf
  refine x_callV (As := [.int a1]) (rest := []) C dX12_alike_7 (m_X12_isRegister (l := l) (E := E) (d := d - 1) (by omega) e4) km_X12_isRegister lk_X12_269 kv_X12_isRegister (ci := 9) rfl e35 rfl (by omega) (Nat.le_of_ble_eq_true rfl) (j_le_of (q_X12_isRegister e4)) (Or.inr (q_X12_isRegister e4)) ?_
  refine x_if_eq (tgt := 32) C dX12_alike_10 (by decide) (fun c36 => ?_) (fun c36 => ?_)
  · have hf := j_ifp hf c36
    refine x_iconst C dX12_alike_32 ki_m1 ?_
    obtain rfl := j_inj hf
    exact x_iret C hret dX12_alike_33
  · have hf := j_ifn hf c36
    refine x_aload_n (v := a0) C dX12_alike_13 rfl ?_
    refine x_iload_n (v := a2) C dX12_alike_14 rfl ?_
    obtain ⟨u32, e33, hf⟩ := j_bind hf
    obtain ⟨q5, e6, hf⟩ := j_bind hf
    refine x_callV (As := [.int a2]) (rest := []) C dX12_alike_15 (m_X12_isRegister (l := l) (E := E) (d := d - 1) (by omega) e6) km_X12_isRegister lk_X12_269 kv_X12_isRegister (ci := 9) rfl e33 rfl (by omega) (Nat.le_of_ble_eq_true rfl) (j_le_of (q_X12_isRegister e6)) (Or.inr (q_X12_isRegister e6)) ?_
    refine x_if_eq (tgt := 32) C dX12_alike_18 (by decide) (fun c37 => ?_) (fun c37 => ?_)
    · have hf := j_ifp hf c37
      refine x_iconst C dX12_alike_32 ki_m1 ?_
      obtain rfl := j_inj hf
      exact x_iret C hret dX12_alike_33
    · have hf := j_ifn hf c37
      refine x_iload_n (v := a3) C dX12_alike_21 rfl ?_
      refine x_iconst C dX12_alike_22 ki_0 ?_
      refine x_sipush C dX12_alike_23 ks_180 ?_
      obtain ⟨q7, e8, hf⟩ := j_bind hf
      refine x_callS (As := [.int a3, .int (0 : Int32), .int (180 : Int32)]) (rest := []) C dX12_alike_26 (m_X12_within (l := l) (E := E) (d := d - 1) (by omega) e8) km_X12_within lk_X12_45 ks_X12_within rfl (by omega) (Nat.le_of_ble_eq_true rfl) (j_le_of (q_X12_within e8)) (Or.inr (q_X12_within e8)) ?_
      refine x_if_ne (tgt := 34) C dX12_alike_29 (by decide) (fun c38 => ?_) (fun c38 => ?_)
      · have hf := j_ifn hf c38
        refine x_aload_n (v := a0) C dX12_alike_34 rfl ?_
        obtain ⟨v9, e10, hf⟩ := j_bind hf
        refine x_get C dX12_alike_35 (jgR_some e10) fg_X12_215 ?_
        refine x_iload_n (v := a1) C dX12_alike_38 rfl ?_
        obtain ⟨v11, e12, hf⟩ := j_bind hf
        refine x_iald C dX12_alike_39 e12 ?_
        refine x_aload_n (v := a0) C dX12_alike_40 rfl ?_
        obtain ⟨v13, e14, hf⟩ := j_bind hf
        refine x_get C dX12_alike_41 (jgR_some e14) fg_X12_215 ?_
        refine x_iload_n (v := a2) C dX12_alike_44 rfl ?_
        obtain ⟨v15, e16, hf⟩ := j_bind hf
        refine x_iald C dX12_alike_45 e16 ?_
        refine x_icmp_ne (tgt := 53) C dX12_alike_46 (by decide) (fun c39 => ?_) (fun c39 => ?_)
        · have hf := j_ifn hf c39
          refine x_iconst C dX12_alike_53 ki_0 ?_
          refine x_istore C dX12_alike_54 (by decide) ?_
          refine x_iconst C dX12_alike_56 ki_0 ?_
          refine x_istore C dX12_alike_57 (by decide) ?_
          obtain ⟨q28, e29, hf⟩ := j_bind hf
          refine x_loc [(0, .ref a0), (1, .int a1), (2, .int a2), (3, .int a3), (4, .int (0 : Int32)), (5, .int (0 : Int32))] rfl ?_
          refine x_loop (s_X12_alike_L59 C hret hdd a0 a1 a2 a3) e29 ?_
          refine x_iload (v := q28.1.1) C dX12_alike_112 rfl ?_
          refine x_if_eq (tgt := 121) C dX12_alike_114 (by decide) (fun c40 => ?_) (fun c40 => ?_)
          · have hf := j_ifp hf c40
            refine x_iconst C dX12_alike_121 ki_0 ?_
            obtain rfl := j_inj hf
            exact x_iret C hret dX12_alike_122
          · have hf := j_ifn hf c40
            refine x_iconst C dX12_alike_117 ki_1 ?_
            refine x_goto (tgt := 122) C dX12_alike_118 (by decide) ?_
            obtain rfl := j_inj hf
            exact x_iret C hret dX12_alike_122
        · have hf := j_ifp hf c39
          refine x_iconst C dX12_alike_49 ki_1 ?_
          refine x_goto (tgt := 54) C dX12_alike_50 (by decide) ?_
          refine x_istore C dX12_alike_54 (by decide) ?_
          refine x_iconst C dX12_alike_56 ki_0 ?_
          refine x_istore C dX12_alike_57 (by decide) ?_
          obtain ⟨q30, e31, hf⟩ := j_bind hf
          refine x_loc [(0, .ref a0), (1, .int a1), (2, .int a2), (3, .int a3), (4, .int (1 : Int32)), (5, .int (0 : Int32))] rfl ?_
          refine x_loop (s_X12_alike_L59 C hret hdd a0 a1 a2 a3) e31 ?_
          refine x_iload (v := q30.1.1) C dX12_alike_112 rfl ?_
          refine x_if_eq (tgt := 121) C dX12_alike_114 (by decide) (fun c41 => ?_) (fun c41 => ?_)
          · have hf := j_ifp hf c41
            refine x_iconst C dX12_alike_121 ki_0 ?_
            obtain rfl := j_inj hf
            exact x_iret C hret dX12_alike_122
          · have hf := j_ifn hf c41
            refine x_iconst C dX12_alike_117 ki_1 ?_
            refine x_goto (tgt := 122) C dX12_alike_118 (by decide) ?_
            obtain rfl := j_inj hf
            exact x_iret C hret dX12_alike_122
      · have hf := j_ifp hf c38
        refine x_iconst C dX12_alike_32 ki_m1 ?_
        obtain rfl := j_inj hf
        exact x_iret C hret dX12_alike_33
set_option maxHeartbeats 4000000 in
set_option maxRecDepth 100000 in
theorem s_X12_parts_L40 {p : Program} {l : Launch} {e : Env} {R : Room} {s : State} {m : MethodId} {args : Array Value} {below : List Frame} {meth : Method} {c : Code} {E : JE} {h0 hF : JH} {rF : Option Value} {d : Nat} (C : j_C p s m args meth c R E cX12_parts 4 RX12 h0 hF d) (hret : meth.sig.returnType = (some .int)) (hdd : 2 ≤ d) (a0 : Nat) (a1 : Int32) (a2 : Int32) (z : Int32) (h : JH) (r : Int32 ⊕ (Int32 ⊕ Int32)) (h1 : JH) (hf : f_X12_parts_L40 a0 a1 a2 z h = some (r, h1)) (hk : Sum.elim (fun z => Xw p l e R s m args below meth c E 4 h0 rF hF 40 [(0, .ref a0), (1, .int a1), (2, .int a2), (3, .int z)] [] h1) (fun t => Sum.elim (fun rr => some (.int rr) = rF ∧ h1 = hF) (fun t => Xw p l e R s m args below meth c E 4 h0 rF hF 88 [(0, .ref a0), (1, .int a1), (2, .int a2), (3, .int t)] [] h1) t) r) : Xw p l e R s m args below meth c E 4 h0 rF hF 40 [(0, .ref a0), (1, .int a1), (2, .int a2), (3, .int z)] [] h := by
  unfold f_X12_parts_L40 at hf
  refine x_iload_n (v := z) C dX12_parts_40 rfl ?_
  refine x_aload_n (v := a0) C dX12_parts_41 rfl ?_
  obtain ⟨v15, e16, hf⟩ := j_bind hf
  refine x_get C dX12_parts_42 (jgR_some e16) fg_X12_215 ?_
  refine x_iload_n (v := a1) C dX12_parts_45 rfl ?_
  obtain ⟨v17, e18, hf⟩ := j_bind hf
  refine x_iald C dX12_parts_46 e18 ?_
  refine x_bipush C dX12_parts_47 kb_12 ?_
  refine x_idiv C dX12_parts_49 (by decide) ?_
  refine x_icmp_gt (tgt := 88) C dX12_parts_50 (by decide) (fun c27 => ?_) (fun c27 => ?_)
  · have hf := j_ifp hf c27
    obtain ⟨rfl, rfl⟩ := j_inj2 hf
    exact x_locr hk rfl
  · have hf := j_ifn hf c27
    refine x_aload_n (v := a0) C dX12_parts_53 rfl ?_
    obtain ⟨v19, e20, hf⟩ := j_bind hf
    refine x_get C dX12_parts_54 (jgR_some e20) fg_X12_218 ?_
    refine x_sipush C dX12_parts_57 ks_181 ?_
    refine x_iload_n (v := a1) C dX12_parts_60 rfl ?_
    refine x_imul C dX12_parts_61 ?_
    refine x_iload_n (v := z) C dX12_parts_62 rfl ?_
    refine x_iadd C dX12_parts_63 ?_
    obtain ⟨v21, e22, hf⟩ := j_bind hf
    refine x_iald C dX12_parts_64 e22 ?_
    refine x_aload_n (v := a0) C dX12_parts_65 rfl ?_
    obtain ⟨v23, e24, hf⟩ := j_bind hf
    refine x_get C dX12_parts_66 (jgR_some e24) fg_X12_218 ?_
    refine x_sipush C dX12_parts_69 ks_181 ?_
    refine x_iload_n (v := a2) C dX12_parts_72 rfl ?_
    refine x_imul C dX12_parts_73 ?_
    refine x_iload_n (v := z) C dX12_parts_74 rfl ?_
    refine x_iadd C dX12_parts_75 ?_
    obtain ⟨v25, e26, hf⟩ := j_bind hf
    refine x_iald C dX12_parts_76 e26 ?_
    refine x_icmp_eq (tgt := 82) C dX12_parts_77 (by decide) (fun c28 => ?_) (fun c28 => ?_)
    · have hf := j_ifp hf c28
      refine x_iinc (v := z) C dX12_parts_82 rfl ki_1 (by decide) ?_
      refine x_goto (tgt := 40) C dX12_parts_85 (by decide) ?_
      obtain ⟨rfl, rfl⟩ := j_inj2 hf
      exact x_locr hk rfl
    · have hf := j_ifn hf c28
      refine x_iload_n (v := z) C dX12_parts_80 rfl ?_
      obtain ⟨rfl, rfl⟩ := j_inj2 hf
      obtain ⟨rfl, rfl⟩ := hk
      exact x_iret C hret dX12_parts_81
set_option maxHeartbeats 4000000 in
set_option maxRecDepth 100000 in
theorem m_X12_parts {l : Launch} {E : JE} {d : Nat} (hdd : 2 ≤ d) {a0 : Nat} {a1 : Int32} {a2 : Int32} {h : JH} {q : Int32 × JH} (hf : f_X12_parts a0 a1 a2 h = some q) : Con l E d yX12_parts cX12_parts 4 (some .int) [.ref a0, .int a1, .int a2] h (some (.int q.1)) q.2 := by
  refine j_start rfl (Nat.le_of_ble_eq_true rfl) ?_
  intro p e s m args below meth c C hret hnm
  refine x_loc [(0, .ref a0), (1, .int a1), (2, .int a2)] rfl ?_
  unfold f_X12_parts at hf
  refine x_aload_n (v := a0) C dX12_parts_0 rfl ?_
  refine x_iconst C dX12_parts_1 ki_0 ?_
  obtain ⟨h1, e2, hf⟩ := j_bind hf
  refine x_put C dX12_parts_2 e2 fp_X12_1 rfl rfl ?_
  refine x_aload_n (v := a0) C dX12_parts_5 rfl ?_
  refine x_iload_n (v := a1) C dX12_parts_6 rfl ?_
  obtain ⟨u35, e36, hf⟩ := j_bind hf
  obtain ⟨q3, e4, hf⟩ := j_bind hf
  refine x_callV (As := [.int a1]) (rest := []) C dX12_parts_7 (m_X12_isRegister (l := l) (E := E) (d := d - 1) (by omega) e4) km_X12_isRegister lk_X12_269 kv_X12_isRegister (ci := 9) rfl e36 rfl (by omega) (Nat.le_of_ble_eq_true rfl) (j_le_of (q_X12_isRegister e4)) (Or.inr (q_X12_isRegister e4)) ?_
  refine x_if_eq (tgt := 36) C dX12_parts_10 (by decide) (fun c38 => ?_) (fun c38 => ?_)
  · have hf := j_ifp hf c38
    refine x_iconst C dX12_parts_36 ki_m1 ?_
    obtain rfl := j_inj hf
    exact x_iret C hret dX12_parts_37
  · have hf := j_ifn hf c38
    refine x_aload_n (v := a0) C dX12_parts_13 rfl ?_
    refine x_iload_n (v := a2) C dX12_parts_14 rfl ?_
    obtain ⟨u33, e34, hf⟩ := j_bind hf
    obtain ⟨q5, e6, hf⟩ := j_bind hf
    refine x_callV (As := [.int a2]) (rest := []) C dX12_parts_15 (m_X12_isRegister (l := l) (E := E) (d := d - 1) (by omega) e6) km_X12_isRegister lk_X12_269 kv_X12_isRegister (ci := 9) rfl e34 rfl (by omega) (Nat.le_of_ble_eq_true rfl) (j_le_of (q_X12_isRegister e6)) (Or.inr (q_X12_isRegister e6)) ?_
    refine x_if_eq (tgt := 36) C dX12_parts_18 (by decide) (fun c39 => ?_) (fun c39 => ?_)
    · have hf := j_ifp hf c39
      refine x_iconst C dX12_parts_36 ki_m1 ?_
      obtain rfl := j_inj hf
      exact x_iret C hret dX12_parts_37
    · have hf := j_ifn hf c39
      refine x_aload_n (v := a0) C dX12_parts_21 rfl ?_
      obtain ⟨v7, e8, hf⟩ := j_bind hf
      refine x_get C dX12_parts_22 (jgR_some e8) fg_X12_215 ?_
      refine x_iload_n (v := a1) C dX12_parts_25 rfl ?_
      obtain ⟨v9, e10, hf⟩ := j_bind hf
      refine x_iald C dX12_parts_26 e10 ?_
      refine x_aload_n (v := a0) C dX12_parts_27 rfl ?_
      obtain ⟨v11, e12, hf⟩ := j_bind hf
      refine x_get C dX12_parts_28 (jgR_some e12) fg_X12_215 ?_
      refine x_iload_n (v := a2) C dX12_parts_31 rfl ?_
      obtain ⟨v13, e14, hf⟩ := j_bind hf
      refine x_iald C dX12_parts_32 e14 ?_
      refine x_icmp_eq (tgt := 38) C dX12_parts_33 (by decide) (fun c40 => ?_) (fun c40 => ?_)
      · have hf := j_ifp hf c40
        refine x_iconst C dX12_parts_38 ki_0 ?_
        refine x_istore_n C dX12_parts_39 (by decide) ?_
        obtain ⟨q29, e30, hf⟩ := j_bind hf
        refine x_loc [(0, .ref a0), (1, .int a1), (2, .int a2), (3, .int (0 : Int32))] rfl ?_
        refine x_loop (s_X12_parts_L40 C hret hdd a0 a1 a2) e30 ?_
        cases y41 : q29.1 with
        | inl r32 =>
          rw [y41] at hf
          have hf := j_eliml hf
          obtain rfl := j_inj hf
          exact ⟨rfl, rfl⟩
        | inr t31 =>
          rw [y41] at hf
          have hf := j_elimr hf
          refine j_elimG ?_
          refine x_bipush C dX12_parts_88 kb_m2 ?_
          obtain rfl := j_inj hf
          exact x_iret C hret dX12_parts_90
      · have hf := j_ifn hf c40
        refine x_iconst C dX12_parts_36 ki_m1 ?_
        obtain rfl := j_inj hf
        exact x_iret C hret dX12_parts_37
set_option maxHeartbeats 4000000 in
set_option maxRecDepth 100000 in
theorem s_X12_laysTable_L21 {p : Program} {l : Launch} {e : Env} {R : Room} {s : State} {m : MethodId} {args : Array Value} {below : List Frame} {meth : Method} {c : Code} {E : JE} {h0 hF : JH} {rF : Option Value} {d : Nat} (C : j_C p s m args meth c R E cX12_laysTable 5 RX12 h0 hF d) (hret : meth.sig.returnType = none) (hdd : 4 ≤ d) (a0 : Nat) (a1 : Int32) (a2 : Int32) (a3 : Int32) (z : Int32) (h : JH) (r : Int32 ⊕ Int32) (h1 : JH) (hf : f_X12_laysTable_L21 a0 a1 a2 a3 z h = some (r, h1)) (hk : Sum.elim (fun z => Xw p l e R s m args below meth c E 5 h0 rF hF 21 [(0, .ref a0), (1, .int a1), (2, .int a2), (3, .int a3), (4, .int z)] [] h1) (fun t => Xw p l e R s m args below meth c E 5 h0 rF hF 54 [(0, .ref a0), (1, .int a1), (2, .int a2), (3, .int a3), (4, .int t)] [] h1) r) : Xw p l e R s m args below meth c E 5 h0 rF hF 21 [(0, .ref a0), (1, .int a1), (2, .int a2), (3, .int a3), (4, .int z)] [] h := by
  unfold f_X12_laysTable_L21 at hf
  refine x_iload (v := z) C dX12_laysTable_21 rfl ?_
  refine x_bipush C dX12_laysTable_23 kb_6 ?_
  refine x_icmp_ge (tgt := 54) C dX12_laysTable_25 (by decide) (fun c13 => ?_) (fun c13 => ?_)
  · have hf := j_ifp hf c13
    obtain ⟨rfl, rfl⟩ := j_inj2 hf
    exact x_locr hk rfl
  · have hf := j_ifn hf c13
    refine x_aload_n (v := a0) C dX12_laysTable_28 rfl ?_
    obtain ⟨v7, e8, hf⟩ := j_bind hf
    refine x_get C dX12_laysTable_29 (jgR_some e8) fg_X12_72 ?_
    refine x_iload (v := z) C dX12_laysTable_32 rfl ?_
    refine x_iload (v := z) C dX12_laysTable_34 rfl ?_
    refine x_iload_n (v := a3) C dX12_laysTable_36 rfl ?_
    refine x_iconst C dX12_laysTable_37 ki_1 ?_
    refine x_iadd C dX12_laysTable_38 ?_
    refine x_icmp_ne (tgt := 46) C dX12_laysTable_39 (by decide) (fun c14 => ?_) (fun c14 => ?_)
    · have hf := j_ifn hf c14
      refine x_iconst C dX12_laysTable_46 ki_0 ?_
      obtain ⟨h9, e10, hf⟩ := j_bind hf
      refine x_iast C dX12_laysTable_47 e10 ?_
      refine x_iinc (v := z) C dX12_laysTable_48 rfl ki_1 (by decide) ?_
      refine x_goto (tgt := 21) C dX12_laysTable_51 (by decide) ?_
      obtain ⟨rfl, rfl⟩ := j_inj2 hf
      exact x_locr hk rfl
    · have hf := j_ifp hf c14
      refine x_iconst C dX12_laysTable_42 ki_1 ?_
      refine x_goto (tgt := 47) C dX12_laysTable_43 (by decide) ?_
      obtain ⟨h11, e12, hf⟩ := j_bind hf
      refine x_iast C dX12_laysTable_47 e12 ?_
      refine x_iinc (v := z) C dX12_laysTable_48 rfl ki_1 (by decide) ?_
      refine x_goto (tgt := 21) C dX12_laysTable_51 (by decide) ?_
      obtain ⟨rfl, rfl⟩ := j_inj2 hf
      exact x_locr hk rfl
set_option maxHeartbeats 4000000 in
set_option maxRecDepth 100000 in
theorem s_X12_laysTable_L62 {p : Program} {l : Launch} {e : Env} {R : Room} {s : State} {m : MethodId} {args : Array Value} {below : List Frame} {meth : Method} {c : Code} {E : JE} {h0 hF : JH} {rF : Option Value} {d : Nat} (C : j_C p s m args meth c R E cX12_laysTable 5 RX12 h0 hF d) (hret : meth.sig.returnType = none) (hdd : 4 ≤ d) (a0 : Nat) (a1 : Int32) (a2 : Int32) (a3 : Int32) (z : Int32) (h : JH) (r : Int32 ⊕ Int32) (h1 : JH) (hf : f_X12_laysTable_L62 a0 a1 a2 a3 z h = some (r, h1)) (hk : Sum.elim (fun z => Xw p l e R s m args below meth c E 5 h0 rF hF 62 [(0, .ref a0), (1, .int a1), (2, .int a2), (3, .int a3), (4, .int z)] [] h1) (fun t => Xw p l e R s m args below meth c E 5 h0 rF hF 104 [(0, .ref a0), (1, .int a1), (2, .int a2), (3, .int a3), (4, .int t)] [] h1) r) : Xw p l e R s m args below meth c E 5 h0 rF hF 62 [(0, .ref a0), (1, .int a1), (2, .int a2), (3, .int a3), (4, .int z)] [] h := by
  unfold f_X12_laysTable_L62 at hf
  refine x_iload (v := z) C dX12_laysTable_62 rfl ?_
  refine x_aload_n (v := a0) C dX12_laysTable_64 rfl ?_
  obtain ⟨v19, e20, hf⟩ := j_bind hf
  refine x_get C dX12_laysTable_65 (jgI_some e20) fg_X12_342 ?_
  refine x_icmp_ge (tgt := 104) C dX12_laysTable_68 (by decide) (fun c31 => ?_) (fun c31 => ?_)
  · have hf := j_ifp hf c31
    obtain ⟨rfl, rfl⟩ := j_inj2 hf
    exact x_locr hk rfl
  · have hf := j_ifn hf c31
    refine x_aload_n (v := a0) C dX12_laysTable_71 rfl ?_
    obtain ⟨v21, e22, hf⟩ := j_bind hf
    refine x_get C dX12_laysTable_72 (jgR_some e22) fg_X12_233 ?_
    refine x_bipush C dX12_laysTable_75 kb_6 ?_
    refine x_iload_n (v := a3) C dX12_laysTable_77 rfl ?_
    refine x_imul C dX12_laysTable_78 ?_
    refine x_iload (v := z) C dX12_laysTable_79 rfl ?_
    refine x_iadd C dX12_laysTable_81 ?_
    refine x_aload_n (v := a0) C dX12_laysTable_82 rfl ?_
    refine x_aload_n (v := a0) C dX12_laysTable_83 rfl ?_
    obtain ⟨v23, e24, hf⟩ := j_bind hf
    refine x_get C dX12_laysTable_84 (jgR_some e24) fg_X12_69 ?_
    refine x_iconst C dX12_laysTable_87 ki_0 ?_
    refine x_iload_n (v := a1) C dX12_laysTable_88 rfl ?_
    refine x_iload_n (v := a2) C dX12_laysTable_89 rfl ?_
    refine x_iload (v := z) C dX12_laysTable_90 rfl ?_
    refine x_iconst C dX12_laysTable_92 ki_1 ?_
    refine x_iadd C dX12_laysTable_93 ?_
    obtain ⟨u29, e30, hf⟩ := j_bind hf
    obtain ⟨q25, e26, hf⟩ := j_bind hf
    refine x_callV (As := [.ref v23, .int (0 : Int32), .int a1, .int a2, .int (z + (1 : Int32))]) (rest := [.int (((6 : Int32) * a3) + z), .ref v21]) C dX12_laysTable_94 (m_X12_heckeAt (l := l) (E := E) (d := d - 1) (by omega) e26) km_X12_heckeAt lk_X12_335 kv_X12_heckeAt (ci := 9) rfl e30 rfl (by omega) (Nat.le_of_ble_eq_true rfl) (j_le_of (q_X12_heckeAt e26)) (Or.inr (q_X12_heckeAt e26)) ?_
    obtain ⟨h27, e28, hf⟩ := j_bind hf
    refine x_iast C dX12_laysTable_97 e28 ?_
    refine x_iinc (v := z) C dX12_laysTable_98 rfl ki_1 (by decide) ?_
    refine x_goto (tgt := 62) C dX12_laysTable_101 (by decide) ?_
    obtain ⟨rfl, rfl⟩ := j_inj2 hf
    exact x_locr hk rfl
set_option maxHeartbeats 4000000 in
set_option maxRecDepth 100000 in
theorem s_X12_laysTable_L10 {p : Program} {l : Launch} {e : Env} {R : Room} {s : State} {m : MethodId} {args : Array Value} {below : List Frame} {meth : Method} {c : Code} {E : JE} {h0 hF : JH} {rF : Option Value} {d : Nat} (C : j_C p s m args meth c R E cX12_laysTable 5 RX12 h0 hF d) (hret : meth.sig.returnType = none) (hdd : 4 ≤ d) (a0 : Nat) (a1 : Int32) (a2 : Int32) (z : Int32) (h : JH) (r : Int32 ⊕ Int32) (h1 : JH) (hf : f_X12_laysTable_L10 a0 a1 a2 z h = some (r, h1)) (hk : Sum.elim (fun z => Xw p l e R s m args below meth c E 5 h0 rF hF 10 [(0, .ref a0), (1, .int a1), (2, .int a2), (3, .int z)] [] h1) (fun t => Xw p l e R s m args below meth c E 5 h0 rF hF 110 [(0, .ref a0), (1, .int a1), (2, .int a2), (3, .int t)] [] h1) r) : Xw p l e R s m args below meth c E 5 h0 rF hF 10 [(0, .ref a0), (1, .int a1), (2, .int a2), (3, .int z)] [] h := by
  unfold f_X12_laysTable_L10 at hf
  refine x_iload_n (v := z) C dX12_laysTable_10 rfl ?_
  refine x_aload_n (v := a0) C dX12_laysTable_11 rfl ?_
  obtain ⟨v5, e6, hf⟩ := j_bind hf
  refine x_get C dX12_laysTable_12 (jgI_some e6) fg_X12_342 ?_
  refine x_icmp_ge (tgt := 110) C dX12_laysTable_15 (by decide) (fun c15 => ?_) (fun c15 => ?_)
  · have hf := j_ifp hf c15
    obtain ⟨rfl, rfl⟩ := j_inj2 hf
    exact x_locr hk rfl
  · have hf := j_ifn hf c15
    refine x_iconst C dX12_laysTable_18 ki_0 ?_
    refine x_istore C dX12_laysTable_19 (by decide) ?_
    obtain ⟨q7, e8, hf⟩ := j_bind hf
    refine x_loc [(0, .ref a0), (1, .int a1), (2, .int a2), (3, .int z), (4, .int (0 : Int32))] rfl ?_
    refine x_loop (s_X12_laysTable_L21 C hret hdd a0 a1 a2 z) e8 ?_
    refine x_aload_n (v := a0) C dX12_laysTable_54 rfl ?_
    refine x_iload_n (v := a1) C dX12_laysTable_55 rfl ?_
    obtain ⟨u13, e14, hf⟩ := j_bind hf
    obtain ⟨q9, e10, hf⟩ := j_bind hf
    refine x_callV (As := [.int a1]) (rest := []) C dX12_laysTable_56 (m_X12_builds (l := l) (E := E) (d := d - 1) (by omega) e10) km_X12_builds lk_X12_339 kv_X12_builds (ci := 9) rfl e14 rfl (by omega) (Nat.le_of_ble_eq_true rfl) (j_le_of (q_X12_builds e10)) (Or.inr (q_X12_builds e10)) ?_
    refine x_iconst C dX12_laysTable_59 ki_0 ?_
    refine x_istore C dX12_laysTable_60 (by decide) ?_
    obtain ⟨q11, e12, hf⟩ := j_bind hf
    refine x_loc [(0, .ref a0), (1, .int a1), (2, .int a2), (3, .int z), (4, .int (0 : Int32))] rfl ?_
    refine x_loop (s_X12_laysTable_L62 C hret hdd a0 a1 a2 z) e12 ?_
    refine x_iinc (v := z) C dX12_laysTable_104 rfl ki_1 (by decide) ?_
    refine x_goto (tgt := 10) C dX12_laysTable_107 (by decide) ?_
    obtain ⟨rfl, rfl⟩ := j_inj2 hf
    exact x_locr hk rfl
set_option maxHeartbeats 4000000 in
set_option maxRecDepth 100000 in
theorem m_X12_laysTable {l : Launch} {E : JE} {d : Nat} (hdd : 4 ≤ d) {a0 : Nat} {a1 : Int32} {a2 : Int32} {h : JH} {q : Unit × JH} (hf : f_X12_laysTable a0 a1 a2 h = some q) : Con l E d yX12_laysTable cX12_laysTable 5 none [.ref a0, .int a1, .int a2] h (none) q.2 := by
  refine j_start rfl (Nat.le_of_ble_eq_true rfl) ?_
  intro p e s m args below meth c C hret hnm
  refine x_loc [(0, .ref a0), (1, .int a1), (2, .int a2)] rfl ?_
  unfold f_X12_laysTable at hf
  refine x_aload_n (v := a0) C dX12_laysTable_0 rfl ?_
  refine x_iload_n (v := a1) C dX12_laysTable_1 rfl ?_
  obtain ⟨q1, e2, hf⟩ := j_bind hf
  refine x_callS (As := [.int a1]) (rest := [.ref a0]) C dX12_laysTable_2 (m_X12_cuspsOf (l := l) (E := E) (d := d - 1) (by omega) e2) km_X12_cuspsOf lk_X12_275 ks_X12_cuspsOf rfl (by omega) (Nat.le_of_ble_eq_true rfl) (j_le_of (q_X12_cuspsOf e2)) (Or.inr (q_X12_cuspsOf e2)) ?_
  obtain ⟨h3, e4, hf⟩ := j_bind hf
  refine x_put C dX12_laysTable_5 e4 fp_X12_342 rfl rfl ?_
  refine x_iconst C dX12_laysTable_8 ki_0 ?_
  refine x_istore_n C dX12_laysTable_9 (by decide) ?_
  obtain ⟨q16, e17, hf⟩ := j_bind hf
  refine x_loc [(0, .ref a0), (1, .int a1), (2, .int a2), (3, .int (0 : Int32))] rfl ?_
  refine x_loop (s_X12_laysTable_L10 C hret hdd a0 a1 a2) e17 ?_
  obtain rfl := j_inj hf
  exact x_vret C hret dX12_laysTable_110
set_option maxHeartbeats 4000000 in
set_option maxRecDepth 100000 in
theorem m_X12_table {l : Launch} {E : JE} {d : Nat} (hdd : 5 ≤ d) {a0 : Nat} {a1 : Int32} {a2 : Int32} {a3 : Int32} {a4 : Int32} {h : JH} {q : Int32 × JH} (hf : f_X12_table a0 a1 a2 a3 a4 h = some q) : Con l E d yX12_table cX12_table 5 (some .int) [.ref a0, .int a1, .int a2, .int a3, .int a4] h (some (.int q.1)) q.2 := by
  refine j_start rfl (Nat.le_of_ble_eq_true rfl) ?_
  intro p e s m args below meth c C hret hnm
  refine x_loc [(0, .ref a0), (1, .int a1), (2, .int a2), (3, .int a3), (4, .int a4)] rfl ?_
  unfold f_X12_table at hf
  refine x_aload_n (v := a0) C dX12_table_0 rfl ?_
  refine x_iconst C dX12_table_1 ki_0 ?_
  obtain ⟨h1, e2, hf⟩ := j_bind hf
  refine x_put C dX12_table_2 e2 fp_X12_1 rfl rfl ?_
  refine x_iload_n (v := a1) C dX12_table_5 rfl ?_
  obtain ⟨q3, e4, hf⟩ := j_bind hf
  refine x_callS (As := [.int a1]) (rest := []) C dX12_table_6 (m_X12_isWeight (l := l) (E := E) (d := d - 1) (by omega) e4) km_X12_isWeight lk_X12_272 ks_X12_isWeight rfl (by omega) (Nat.le_of_ble_eq_true rfl) (j_le_of (q_X12_isWeight e4)) (Or.inr (q_X12_isWeight e4)) ?_
  refine x_if_eq (tgt := 44) C dX12_table_9 (by decide) (fun c23 => ?_) (fun c23 => ?_)
  · have hf := j_ifp hf c23
    refine x_iconst C dX12_table_44 ki_m1 ?_
    obtain rfl := j_inj hf
    exact x_iret C hret dX12_table_45
  · have hf := j_ifn hf c23
    refine x_iload_n (v := a2) C dX12_table_12 rfl ?_
    obtain ⟨q5, e6, hf⟩ := j_bind hf
    refine x_callS (As := [.int a2]) (rest := []) C dX12_table_13 (m_X12_isOperator (l := l) (E := E) (d := d - 1) (by omega) e6) km_X12_isOperator lk_X12_332 ks_X12_isOperator rfl (by omega) (Nat.le_of_ble_eq_true rfl) (j_le_of (q_X12_isOperator e6)) (Or.inr (q_X12_isOperator e6)) ?_
    refine x_if_eq (tgt := 44) C dX12_table_16 (by decide) (fun c24 => ?_) (fun c24 => ?_)
    · have hf := j_ifp hf c24
      refine x_iconst C dX12_table_44 ki_m1 ?_
      obtain rfl := j_inj hf
      exact x_iret C hret dX12_table_45
    · have hf := j_ifn hf c24
      refine x_iload_n (v := a3) C dX12_table_19 rfl ?_
      refine x_iconst C dX12_table_20 ki_1 ?_
      refine x_iload_n (v := a1) C dX12_table_21 rfl ?_
      obtain ⟨q7, e8, hf⟩ := j_bind hf
      refine x_callS (As := [.int a1]) (rest := [.int (1 : Int32), .int a3]) C dX12_table_22 (m_X12_cuspsOf (l := l) (E := E) (d := d - 1) (by omega) e8) km_X12_cuspsOf lk_X12_275 ks_X12_cuspsOf rfl (by omega) (Nat.le_of_ble_eq_true rfl) (j_le_of (q_X12_cuspsOf e8)) (Or.inr (q_X12_cuspsOf e8)) ?_
      obtain ⟨q9, e10, hf⟩ := j_bind hf
      refine x_callS (As := [.int a3, .int (1 : Int32), .int q7.1]) (rest := []) C dX12_table_25 (m_X12_within (l := l) (E := E) (d := d - 1) (by omega) e10) km_X12_within lk_X12_45 ks_X12_within rfl (by omega) (Nat.le_of_ble_eq_true rfl) (j_le_of (q_X12_within e10)) (Or.inr (q_X12_within e10)) ?_
      refine x_if_eq (tgt := 44) C dX12_table_28 (by decide) (fun c25 => ?_) (fun c25 => ?_)
      · have hf := j_ifp hf c25
        refine x_iconst C dX12_table_44 ki_m1 ?_
        obtain rfl := j_inj hf
        exact x_iret C hret dX12_table_45
      · have hf := j_ifn hf c25
        refine x_iload (v := a4) C dX12_table_31 rfl ?_
        refine x_iconst C dX12_table_33 ki_1 ?_
        refine x_iload_n (v := a1) C dX12_table_34 rfl ?_
        obtain ⟨q11, e12, hf⟩ := j_bind hf
        refine x_callS (As := [.int a1]) (rest := [.int (1 : Int32), .int a4]) C dX12_table_35 (m_X12_cuspsOf (l := l) (E := E) (d := d - 1) (by omega) e12) km_X12_cuspsOf lk_X12_275 ks_X12_cuspsOf rfl (by omega) (Nat.le_of_ble_eq_true rfl) (j_le_of (q_X12_cuspsOf e12)) (Or.inr (q_X12_cuspsOf e12)) ?_
        obtain ⟨q13, e14, hf⟩ := j_bind hf
        refine x_callS (As := [.int a4, .int (1 : Int32), .int q11.1]) (rest := []) C dX12_table_38 (m_X12_within (l := l) (E := E) (d := d - 1) (by omega) e14) km_X12_within lk_X12_45 ks_X12_within rfl (by omega) (Nat.le_of_ble_eq_true rfl) (j_le_of (q_X12_within e14)) (Or.inr (q_X12_within e14)) ?_
        refine x_if_ne (tgt := 46) C dX12_table_41 (by decide) (fun c26 => ?_) (fun c26 => ?_)
        · have hf := j_ifn hf c26
          refine x_aload_n (v := a0) C dX12_table_46 rfl ?_
          refine x_iload_n (v := a1) C dX12_table_47 rfl ?_
          refine x_iload_n (v := a2) C dX12_table_48 rfl ?_
          obtain ⟨u21, e22, hf⟩ := j_bind hf
          obtain ⟨q15, e16, hf⟩ := j_bind hf
          refine x_callV (As := [.int a1, .int a2]) (rest := []) C dX12_table_49 (m_X12_laysTable (l := l) (E := E) (d := d - 1) (by omega) e16) km_X12_laysTable lk_X12_345 kv_X12_laysTable (ci := 9) rfl e22 rfl (by omega) (Nat.le_of_ble_eq_true rfl) (j_le_of (q_X12_laysTable e16)) (Or.inr (q_X12_laysTable e16)) ?_
          refine x_aload_n (v := a0) C dX12_table_52 rfl ?_
          obtain ⟨v17, e18, hf⟩ := j_bind hf
          refine x_get C dX12_table_53 (jgR_some e18) fg_X12_233 ?_
          refine x_bipush C dX12_table_56 kb_6 ?_
          refine x_iload_n (v := a3) C dX12_table_58 rfl ?_
          refine x_imul C dX12_table_59 ?_
          refine x_iload (v := a4) C dX12_table_60 rfl ?_
          refine x_iadd C dX12_table_62 ?_
          refine x_bipush C dX12_table_63 kb_7 ?_
          refine x_isub C dX12_table_65 ?_
          obtain ⟨v19, e20, hf⟩ := j_bind hf
          refine x_iald C dX12_table_66 e20 ?_
          obtain rfl := j_inj hf
          exact x_iret C hret dX12_table_67
        · have hf := j_ifp hf c26
          refine x_iconst C dX12_table_44 ki_m1 ?_
          obtain rfl := j_inj hf
          exact x_iret C hret dX12_table_45
