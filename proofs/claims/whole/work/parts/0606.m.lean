set_option maxHeartbeats 4000000 in
set_option maxRecDepth 100000 in
theorem s_X12_laysBasic_L17 {p : Program} {l : Launch} {e : Env} {R : Room} {s : State} {m : MethodId} {args : Array Value} {below : List Frame} {meth : Method} {c : Code} {E : JE} {h0 hF : JH} {rF : Option Value} {d : Nat} (C : j_C p s m args meth c R E cX12_laysBasic 7 RX12 h0 hF d) (hret : meth.sig.returnType = none) (hdd : 2 ≤ d) (a0 : Nat) (a1 : Int32) (z : (Int64 × Int64 × Int32)) (h : JH) (r : (Int64 × Int64 × Int32) ⊕ (Int64 × Int64 × Int32)) (h1 : JH) (hf : f_X12_laysBasic_L17 a0 a1 z h = some (r, h1)) (hk : Sum.elim (fun z => Xw p l e R s m args below meth c E 7 h0 rF hF 17 [(0, .ref a0), (1, .int a1), (2, .long z.1), (4, .long z.2.1), (6, .int z.2.2)] [] h1) (fun t => Xw p l e R s m args below meth c E 7 h0 rF hF 70 [(0, .ref a0), (1, .int a1), (2, .long t.1), (4, .long t.2.1), (6, .int t.2.2)] [] h1) r) : Xw p l e R s m args below meth c E 7 h0 rF hF 17 [(0, .ref a0), (1, .int a1), (2, .long z.1), (4, .long z.2.1), (6, .int z.2.2)] [] h := by
  unfold f_X12_laysBasic_L17 at hf
  refine x_iload (v := z.2.2) C dX12_laysBasic_17 rfl ?_
  refine x_iload_n (v := a1) C dX12_laysBasic_19 rfl ?_
  refine x_icmp_gt (tgt := 70) C dX12_laysBasic_20 (by decide) (fun c19 => ?_) (fun c19 => ?_)
  · have hf := j_ifp hf c19
    obtain ⟨rfl, rfl⟩ := j_inj2 hf
    exact x_locr hk rfl
  · have hf := j_ifn hf c19
    refine x_iload_n (v := a1) C dX12_laysBasic_23 rfl ?_
    refine x_iload (v := z.2.2) C dX12_laysBasic_24 rfl ?_
    obtain ⟨u1, e2, hf⟩ := j_bind hf
    refine x_irem C dX12_laysBasic_26 (jnz_some e2) ?_
    refine x_if_ne (tgt := 64) C dX12_laysBasic_27 (by decide) (fun c20 => ?_) (fun c20 => ?_)
    · have hf := j_ifn hf c20
      refine x_iinc (v := z.2.2) C dX12_laysBasic_64 rfl ki_1 (by decide) ?_
      refine x_goto (tgt := 17) C dX12_laysBasic_67 (by decide) ?_
      obtain ⟨rfl, rfl⟩ := j_inj2 hf
      exact x_locr hk rfl
    · have hf := j_ifp hf c20
      refine x_lload_n (v := z.1) C dX12_laysBasic_30 rfl ?_
      refine x_aload_n (v := a0) C dX12_laysBasic_31 rfl ?_
      refine x_iload (v := z.2.2) C dX12_laysBasic_32 rfl ?_
      refine x_aload_n (v := a0) C dX12_laysBasic_34 rfl ?_
      obtain ⟨v3, e4, hf⟩ := j_bind hf
      refine x_get C dX12_laysBasic_35 (jgI_some e4) fg_X12_7 ?_
      obtain ⟨u5, e6, hf⟩ := j_bind hf
      refine x_irem C dX12_laysBasic_38 (jnz_some e6) ?_
      refine x_iconst C dX12_laysBasic_39 ki_3 ?_
      obtain ⟨u17, e18, hf⟩ := j_bind hf
      obtain ⟨q7, e8, hf⟩ := j_bind hf
      refine x_callV (As := [.int (jrem z.2.2 v3), .int (3 : Int32)]) (rest := [.long z.1]) C dX12_laysBasic_40 (m_X12_power (l := l) (E := E) (d := d - 1) (by omega) e8) km_X12_power lk_X12_14 kv_X12_power (ci := 9) rfl e18 rfl (by omega) (Nat.le_of_ble_eq_true rfl) (j_le_of (q_X12_power e8)) (Or.inr (q_X12_power e8)) ?_
      refine x_i2l C dX12_laysBasic_43 ?_
      refine x_ladd C dX12_laysBasic_44 ?_
      refine x_lstore_n C dX12_laysBasic_45 (by decide) ?_
      refine x_lload (v := z.2.1) C dX12_laysBasic_46 rfl ?_
      refine x_aload_n (v := a0) C dX12_laysBasic_48 rfl ?_
      refine x_iload (v := z.2.2) C dX12_laysBasic_49 rfl ?_
      refine x_aload_n (v := a0) C dX12_laysBasic_51 rfl ?_
      obtain ⟨v9, e10, hf⟩ := j_bind hf
      refine x_get C dX12_laysBasic_52 (jgI_some e10) fg_X12_7 ?_
      obtain ⟨u11, e12, hf⟩ := j_bind hf
      refine x_irem C dX12_laysBasic_55 (jnz_some e12) ?_
      refine x_iconst C dX12_laysBasic_56 ki_5 ?_
      obtain ⟨u15, e16, hf⟩ := j_bind hf
      obtain ⟨q13, e14, hf⟩ := j_bind hf
      refine x_callV (As := [.int (jrem z.2.2 v9), .int (5 : Int32)]) (rest := [.long z.2.1]) C dX12_laysBasic_57 (m_X12_power (l := l) (E := E) (d := d - 1) (by omega) e14) km_X12_power lk_X12_14 kv_X12_power (ci := 9) rfl e16 rfl (by omega) (Nat.le_of_ble_eq_true rfl) (j_le_of (q_X12_power e14)) (Or.inr (q_X12_power e14)) ?_
      refine x_i2l C dX12_laysBasic_60 ?_
      refine x_ladd C dX12_laysBasic_61 ?_
      refine x_lstore C dX12_laysBasic_62 (by decide) ?_
      refine x_iinc (v := z.2.2) C dX12_laysBasic_64 rfl ki_1 (by decide) ?_
      refine x_goto (tgt := 17) C dX12_laysBasic_67 (by decide) ?_
      obtain ⟨rfl, rfl⟩ := j_inj2 hf
      exact x_locr hk rfl
set_option maxHeartbeats 4000000 in
set_option maxRecDepth 100000 in
theorem s_X12_laysBasic_L2 {p : Program} {l : Launch} {e : Env} {R : Room} {s : State} {m : MethodId} {args : Array Value} {below : List Frame} {meth : Method} {c : Code} {E : JE} {h0 hF : JH} {rF : Option Value} {d : Nat} (C : j_C p s m args meth c R E cX12_laysBasic 7 RX12 h0 hF d) (hret : meth.sig.returnType = none) (hdd : 2 ≤ d) (a0 : Nat) (z : Int32) (h : JH) (r : Int32 ⊕ Int32) (h1 : JH) (hf : f_X12_laysBasic_L2 a0 z h = some (r, h1)) (hk : Sum.elim (fun z => Xw p l e R s m args below meth c E 7 h0 rF hF 2 [(0, .ref a0), (1, .int z)] [] h1) (fun t => Xw p l e R s m args below meth c E 7 h0 rF hF 123 [(0, .ref a0), (1, .int t)] [] h1) r) : Xw p l e R s m args below meth c E 7 h0 rF hF 2 [(0, .ref a0), (1, .int z)] [] h := by
  unfold f_X12_laysBasic_L2 at hf
  refine x_iload_n (v := z) C dX12_laysBasic_2 rfl ?_
  refine x_sipush C dX12_laysBasic_3 ks_181 ?_
  refine x_icmp_ge (tgt := 123) C dX12_laysBasic_6 (by decide) (fun c33 => ?_) (fun c33 => ?_)
  · have hf := j_ifp hf c33
    obtain ⟨rfl, rfl⟩ := j_inj2 hf
    exact x_locr hk rfl
  · have hf := j_ifn hf c33
    refine x_lconst C dX12_laysBasic_9 kl_0 ?_
    refine x_lstore_n C dX12_laysBasic_10 (by decide) ?_
    refine x_lconst C dX12_laysBasic_11 kl_0 ?_
    refine x_lstore C dX12_laysBasic_12 (by decide) ?_
    refine x_iconst C dX12_laysBasic_14 ki_1 ?_
    refine x_istore C dX12_laysBasic_15 (by decide) ?_
    obtain ⟨q1, e2, hf⟩ := j_bind hf
    refine x_loc [(0, .ref a0), (1, .int z), (2, .long (0 : Int64)), (4, .long (0 : Int64)), (6, .int (1 : Int32))] rfl ?_
    refine x_loop (s_X12_laysBasic_L17 C hret hdd a0 z) e2 ?_
    refine x_aload_n (v := a0) C dX12_laysBasic_70 rfl ?_
    obtain ⟨v3, e4, hf⟩ := j_bind hf
    refine x_get C dX12_laysBasic_71 (jgR_some e4) fg_X12_18 ?_
    refine x_iload_n (v := z) C dX12_laysBasic_74 rfl ?_
    refine x_iload_n (v := z) C dX12_laysBasic_75 rfl ?_
    refine x_if_ne (tgt := 83) C dX12_laysBasic_76 (by decide) (fun c34 => ?_) (fun c34 => ?_)
    · have hf := j_ifn hf c34
      refine x_aload_n (v := a0) C dX12_laysBasic_83 rfl ?_
      refine x_ldc2 C dX12_laysBasic_84 cn_X12_22 ?_
      refine x_lload_n (v := q1.1.1) C dX12_laysBasic_87 rfl ?_
      refine x_lmul C dX12_laysBasic_88 ?_
      obtain ⟨u19, e20, hf⟩ := j_bind hf
      obtain ⟨q5, e6, hf⟩ := j_bind hf
      refine x_callV (As := [.long ((240 : Int64) * q1.1.1)]) (rest := [.int z, .ref v3]) C dX12_laysBasic_89 (m_X12_left (l := l) (E := E) (d := d - 1) (by omega) e6) km_X12_left lk_X12_10 kv_X12_left (ci := 9) rfl e20 rfl (by omega) (Nat.le_of_ble_eq_true rfl) (j_le_of (q_X12_left e6)) (Or.inr (q_X12_left e6)) ?_
      obtain ⟨h7, e8, hf⟩ := j_bind hf
      refine x_iast C dX12_laysBasic_92 e8 ?_
      refine x_aload_n (v := a0) C dX12_laysBasic_93 rfl ?_
      obtain ⟨v9, e10, hf⟩ := j_bind hf
      refine x_get C dX12_laysBasic_94 (jgR_some e10) fg_X12_24 ?_
      refine x_iload_n (v := z) C dX12_laysBasic_97 rfl ?_
      refine x_iload_n (v := z) C dX12_laysBasic_98 rfl ?_
      refine x_if_ne (tgt := 106) C dX12_laysBasic_99 (by decide) (fun c35 => ?_) (fun c35 => ?_)
      · have hf := j_ifn hf c35
        refine x_aload_n (v := a0) C dX12_laysBasic_106 rfl ?_
        refine x_ldc2 C dX12_laysBasic_107 cn_X12_27 ?_
        refine x_lload (v := q1.1.2.1) C dX12_laysBasic_110 rfl ?_
        refine x_lmul C dX12_laysBasic_112 ?_
        obtain ⟨u15, e16, hf⟩ := j_bind hf
        obtain ⟨q11, e12, hf⟩ := j_bind hf
        refine x_callV (As := [.long ((-504 : Int64) * q1.1.2.1)]) (rest := [.int z, .ref v9]) C dX12_laysBasic_113 (m_X12_left (l := l) (E := E) (d := d - 1) (by omega) e12) km_X12_left lk_X12_10 kv_X12_left (ci := 9) rfl e16 rfl (by omega) (Nat.le_of_ble_eq_true rfl) (j_le_of (q_X12_left e12)) (Or.inr (q_X12_left e12)) ?_
        obtain ⟨h13, e14, hf⟩ := j_bind hf
        refine x_iast C dX12_laysBasic_116 e14 ?_
        refine x_iinc (v := z) C dX12_laysBasic_117 rfl ki_1 (by decide) ?_
        refine x_goto (tgt := 2) C dX12_laysBasic_120 (by decide) ?_
        obtain ⟨rfl, rfl⟩ := j_inj2 hf
        exact x_locr hk rfl
      · have hf := j_ifp hf c35
        refine x_iconst C dX12_laysBasic_102 ki_1 ?_
        refine x_goto (tgt := 116) C dX12_laysBasic_103 (by decide) ?_
        obtain ⟨h17, e18, hf⟩ := j_bind hf
        refine x_iast C dX12_laysBasic_116 e18 ?_
        refine x_iinc (v := z) C dX12_laysBasic_117 rfl ki_1 (by decide) ?_
        refine x_goto (tgt := 2) C dX12_laysBasic_120 (by decide) ?_
        obtain ⟨rfl, rfl⟩ := j_inj2 hf
        exact x_locr hk rfl
    · have hf := j_ifp hf c34
      refine x_iconst C dX12_laysBasic_79 ki_1 ?_
      refine x_goto (tgt := 92) C dX12_laysBasic_80 (by decide) ?_
      obtain ⟨h21, e22, hf⟩ := j_bind hf
      refine x_iast C dX12_laysBasic_92 e22 ?_
      refine x_aload_n (v := a0) C dX12_laysBasic_93 rfl ?_
      obtain ⟨v23, e24, hf⟩ := j_bind hf
      refine x_get C dX12_laysBasic_94 (jgR_some e24) fg_X12_24 ?_
      refine x_iload_n (v := z) C dX12_laysBasic_97 rfl ?_
      refine x_iload_n (v := z) C dX12_laysBasic_98 rfl ?_
      refine x_if_ne (tgt := 106) C dX12_laysBasic_99 (by decide) (fun c36 => ?_) (fun c36 => ?_)
      · have hf := j_ifn hf c36
        refine x_aload_n (v := a0) C dX12_laysBasic_106 rfl ?_
        refine x_ldc2 C dX12_laysBasic_107 cn_X12_27 ?_
        refine x_lload (v := q1.1.2.1) C dX12_laysBasic_110 rfl ?_
        refine x_lmul C dX12_laysBasic_112 ?_
        obtain ⟨u29, e30, hf⟩ := j_bind hf
        obtain ⟨q25, e26, hf⟩ := j_bind hf
        refine x_callV (As := [.long ((-504 : Int64) * q1.1.2.1)]) (rest := [.int z, .ref v23]) C dX12_laysBasic_113 (m_X12_left (l := l) (E := E) (d := d - 1) (by omega) e26) km_X12_left lk_X12_10 kv_X12_left (ci := 9) rfl e30 rfl (by omega) (Nat.le_of_ble_eq_true rfl) (j_le_of (q_X12_left e26)) (Or.inr (q_X12_left e26)) ?_
        obtain ⟨h27, e28, hf⟩ := j_bind hf
        refine x_iast C dX12_laysBasic_116 e28 ?_
        refine x_iinc (v := z) C dX12_laysBasic_117 rfl ki_1 (by decide) ?_
        refine x_goto (tgt := 2) C dX12_laysBasic_120 (by decide) ?_
        obtain ⟨rfl, rfl⟩ := j_inj2 hf
        exact x_locr hk rfl
      · have hf := j_ifp hf c36
        refine x_iconst C dX12_laysBasic_102 ki_1 ?_
        refine x_goto (tgt := 116) C dX12_laysBasic_103 (by decide) ?_
        obtain ⟨h31, e32, hf⟩ := j_bind hf
        refine x_iast C dX12_laysBasic_116 e32 ?_
        refine x_iinc (v := z) C dX12_laysBasic_117 rfl ki_1 (by decide) ?_
        refine x_goto (tgt := 2) C dX12_laysBasic_120 (by decide) ?_
        obtain ⟨rfl, rfl⟩ := j_inj2 hf
        exact x_locr hk rfl
set_option maxHeartbeats 4000000 in
set_option maxRecDepth 100000 in
theorem s_X12_laysBasic_L191 {p : Program} {l : Launch} {e : Env} {R : Room} {s : State} {m : MethodId} {args : Array Value} {below : List Frame} {meth : Method} {c : Code} {E : JE} {h0 hF : JH} {rF : Option Value} {d : Nat} (C : j_C p s m args meth c R E cX12_laysBasic 7 RX12 h0 hF d) (hret : meth.sig.returnType = none) (hdd : 2 ≤ d) (a0 : Nat) (a1 : Int32) (z : Int32) (h : JH) (r : Int32 ⊕ Int32) (h1 : JH) (hf : f_X12_laysBasic_L191 a0 a1 z h = some (r, h1)) (hk : Sum.elim (fun z => Xw p l e R s m args below meth c E 7 h0 rF hF 191 [(0, .ref a0), (1, .int a1), (2, .int z)] [] h1) (fun t => Xw p l e R s m args below meth c E 7 h0 rF hF 231 [(0, .ref a0), (1, .int a1), (2, .int t)] [] h1) r) : Xw p l e R s m args below meth c E 7 h0 rF hF 191 [(0, .ref a0), (1, .int a1), (2, .int z)] [] h := by
  unfold f_X12_laysBasic_L191 at hf
  refine x_iload_n (v := z) C dX12_laysBasic_191 rfl ?_
  refine x_sipush C dX12_laysBasic_192 ks_181 ?_
  refine x_icmp_ge (tgt := 231) C dX12_laysBasic_195 (by decide) (fun c83 => ?_) (fun c83 => ?_)
  · have hf := j_ifp hf c83
    obtain ⟨rfl, rfl⟩ := j_inj2 hf
    exact x_locr hk rfl
  · have hf := j_ifn hf c83
    refine x_aload_n (v := a0) C dX12_laysBasic_198 rfl ?_
    obtain ⟨v67, e68, hf⟩ := j_bind hf
    refine x_get C dX12_laysBasic_199 (jgR_some e68) fg_X12_36 ?_
    refine x_iload_n (v := z) C dX12_laysBasic_202 rfl ?_
    refine x_aload_n (v := a0) C dX12_laysBasic_203 rfl ?_
    refine x_aload_n (v := a0) C dX12_laysBasic_204 rfl ?_
    obtain ⟨v69, e70, hf⟩ := j_bind hf
    refine x_get C dX12_laysBasic_205 (jgR_some e70) fg_X12_36 ?_
    refine x_iload_n (v := z) C dX12_laysBasic_208 rfl ?_
    obtain ⟨v71, e72, hf⟩ := j_bind hf
    refine x_iald C dX12_laysBasic_209 e72 ?_
    refine x_aload_n (v := a0) C dX12_laysBasic_210 rfl ?_
    obtain ⟨v73, e74, hf⟩ := j_bind hf
    refine x_get C dX12_laysBasic_211 (jgR_some e74) fg_X12_29 ?_
    refine x_iload_n (v := z) C dX12_laysBasic_214 rfl ?_
    obtain ⟨v75, e76, hf⟩ := j_bind hf
    refine x_iald C dX12_laysBasic_215 e76 ?_
    refine x_isub C dX12_laysBasic_216 ?_
    refine x_i2l C dX12_laysBasic_217 ?_
    refine x_iload_n (v := a1) C dX12_laysBasic_218 rfl ?_
    refine x_i2l C dX12_laysBasic_219 ?_
    refine x_lmul C dX12_laysBasic_220 ?_
    obtain ⟨u81, e82, hf⟩ := j_bind hf
    obtain ⟨q77, e78, hf⟩ := j_bind hf
    refine x_callV (As := [.long (((v71 - v75).toInt64) * a1.toInt64)]) (rest := [.int z, .ref v67]) C dX12_laysBasic_221 (m_X12_left (l := l) (E := E) (d := d - 1) (by omega) e78) km_X12_left lk_X12_10 kv_X12_left (ci := 9) rfl e82 rfl (by omega) (Nat.le_of_ble_eq_true rfl) (j_le_of (q_X12_left e78)) (Or.inr (q_X12_left e78)) ?_
    obtain ⟨h79, e80, hf⟩ := j_bind hf
    refine x_iast C dX12_laysBasic_224 e80 ?_
    refine x_iinc (v := z) C dX12_laysBasic_225 rfl ki_1 (by decide) ?_
    refine x_goto (tgt := 191) C dX12_laysBasic_228 (by decide) ?_
    obtain ⟨rfl, rfl⟩ := j_inj2 hf
    exact x_locr hk rfl
set_option maxHeartbeats 4000000 in
set_option maxRecDepth 100000 in
theorem m_X12_laysBasic {l : Launch} {E : JE} {d : Nat} (hdd : 2 ≤ d) {a0 : Nat} {h : JH} {q : Unit × JH} (hf : f_X12_laysBasic a0 h = some q) : Con l E d yX12_laysBasic cX12_laysBasic 7 none [.ref a0] h (none) q.2 := by
  refine j_start rfl (Nat.le_of_ble_eq_true rfl) ?_
  intro p e s m args below meth c C hret hnm
  refine x_loc [(0, .ref a0)] rfl ?_
  unfold f_X12_laysBasic at hf
  refine x_iconst C dX12_laysBasic_0 ki_0 ?_
  refine x_istore_n C dX12_laysBasic_1 (by decide) ?_
  obtain ⟨q37, e38, hf⟩ := j_bind hf
  refine x_loc [(0, .ref a0), (1, .int (0 : Int32))] rfl ?_
  refine x_loop (s_X12_laysBasic_L2 C hret hdd a0) e38 ?_
  refine x_aload_n (v := a0) C dX12_laysBasic_123 rfl ?_
  refine x_aload_n (v := a0) C dX12_laysBasic_124 rfl ?_
  obtain ⟨v39, e40, hf⟩ := j_bind hf
  refine x_get C dX12_laysBasic_125 (jgR_some e40) fg_X12_18 ?_
  refine x_iconst C dX12_laysBasic_128 ki_0 ?_
  refine x_aload_n (v := a0) C dX12_laysBasic_129 rfl ?_
  obtain ⟨v41, e42, hf⟩ := j_bind hf
  refine x_get C dX12_laysBasic_130 (jgR_some e42) fg_X12_18 ?_
  refine x_iconst C dX12_laysBasic_133 ki_0 ?_
  refine x_aload_n (v := a0) C dX12_laysBasic_134 rfl ?_
  obtain ⟨v43, e44, hf⟩ := j_bind hf
  refine x_get C dX12_laysBasic_135 (jgR_some e44) fg_X12_29 ?_
  obtain ⟨u94, e95, hf⟩ := j_bind hf
  obtain ⟨q45, e46, hf⟩ := j_bind hf
  refine x_callV (As := [.ref v39, .int (0 : Int32), .ref v41, .int (0 : Int32), .ref v43]) (rest := []) C dX12_laysBasic_138 (m_X12_multiplies (l := l) (E := E) (d := d - 1) (by omega) e46) km_X12_multiplies lk_X12_32 kv_X12_multiplies (ci := 9) rfl e95 rfl (by omega) (Nat.le_of_ble_eq_true rfl) (j_le_of (q_X12_multiplies e46)) (Or.inr (q_X12_multiplies e46)) ?_
  refine x_aload_n (v := a0) C dX12_laysBasic_141 rfl ?_
  refine x_aload_n (v := a0) C dX12_laysBasic_142 rfl ?_
  obtain ⟨v47, e48, hf⟩ := j_bind hf
  refine x_get C dX12_laysBasic_143 (jgR_some e48) fg_X12_29 ?_
  refine x_iconst C dX12_laysBasic_146 ki_0 ?_
  refine x_aload_n (v := a0) C dX12_laysBasic_147 rfl ?_
  obtain ⟨v49, e50, hf⟩ := j_bind hf
  refine x_get C dX12_laysBasic_148 (jgR_some e50) fg_X12_18 ?_
  refine x_iconst C dX12_laysBasic_151 ki_0 ?_
  refine x_aload_n (v := a0) C dX12_laysBasic_152 rfl ?_
  obtain ⟨v51, e52, hf⟩ := j_bind hf
  refine x_get C dX12_laysBasic_153 (jgR_some e52) fg_X12_36 ?_
  obtain ⟨u92, e93, hf⟩ := j_bind hf
  obtain ⟨q53, e54, hf⟩ := j_bind hf
  refine x_callV (As := [.ref v47, .int (0 : Int32), .ref v49, .int (0 : Int32), .ref v51]) (rest := []) C dX12_laysBasic_156 (m_X12_multiplies (l := l) (E := E) (d := d - 1) (by omega) e54) km_X12_multiplies lk_X12_32 kv_X12_multiplies (ci := 9) rfl e93 rfl (by omega) (Nat.le_of_ble_eq_true rfl) (j_le_of (q_X12_multiplies e54)) (Or.inr (q_X12_multiplies e54)) ?_
  refine x_aload_n (v := a0) C dX12_laysBasic_159 rfl ?_
  refine x_aload_n (v := a0) C dX12_laysBasic_160 rfl ?_
  obtain ⟨v55, e56, hf⟩ := j_bind hf
  refine x_get C dX12_laysBasic_161 (jgR_some e56) fg_X12_24 ?_
  refine x_iconst C dX12_laysBasic_164 ki_0 ?_
  refine x_aload_n (v := a0) C dX12_laysBasic_165 rfl ?_
  obtain ⟨v57, e58, hf⟩ := j_bind hf
  refine x_get C dX12_laysBasic_166 (jgR_some e58) fg_X12_24 ?_
  refine x_iconst C dX12_laysBasic_169 ki_0 ?_
  refine x_aload_n (v := a0) C dX12_laysBasic_170 rfl ?_
  obtain ⟨v59, e60, hf⟩ := j_bind hf
  refine x_get C dX12_laysBasic_171 (jgR_some e60) fg_X12_29 ?_
  obtain ⟨u90, e91, hf⟩ := j_bind hf
  obtain ⟨q61, e62, hf⟩ := j_bind hf
  refine x_callV (As := [.ref v55, .int (0 : Int32), .ref v57, .int (0 : Int32), .ref v59]) (rest := []) C dX12_laysBasic_174 (m_X12_multiplies (l := l) (E := E) (d := d - 1) (by omega) e62) km_X12_multiplies lk_X12_32 kv_X12_multiplies (ci := 9) rfl e91 rfl (by omega) (Nat.le_of_ble_eq_true rfl) (j_le_of (q_X12_multiplies e62)) (Or.inr (q_X12_multiplies e62)) ?_
  refine x_aload_n (v := a0) C dX12_laysBasic_177 rfl ?_
  refine x_aload_n (v := a0) C dX12_laysBasic_178 rfl ?_
  refine x_ldc2 C dX12_laysBasic_179 cn_X12_39 ?_
  obtain ⟨u88, e89, hf⟩ := j_bind hf
  obtain ⟨q63, e64, hf⟩ := j_bind hf
  refine x_callV (As := [.long (1728 : Int64)]) (rest := [.ref a0]) C dX12_laysBasic_182 (m_X12_left (l := l) (E := E) (d := d - 1) (by omega) e64) km_X12_left lk_X12_10 kv_X12_left (ci := 9) rfl e89 rfl (by omega) (Nat.le_of_ble_eq_true rfl) (j_le_of (q_X12_left e64)) (Or.inr (q_X12_left e64)) ?_
  obtain ⟨u86, e87, hf⟩ := j_bind hf
  obtain ⟨q65, e66, hf⟩ := j_bind hf
  refine x_callV (As := [.int q63.1]) (rest := []) C dX12_laysBasic_185 (m_X12_inverse (l := l) (E := E) (d := d - 1) (by omega) e66) km_X12_inverse lk_X12_41 kv_X12_inverse (ci := 9) rfl e87 rfl (by omega) (Nat.le_of_ble_eq_true rfl) (j_le_of (q_X12_inverse e66)) (Or.inr (q_X12_inverse e66)) ?_
  refine x_istore_n C dX12_laysBasic_188 (by decide) ?_
  refine x_iconst C dX12_laysBasic_189 ki_0 ?_
  refine x_istore_n C dX12_laysBasic_190 (by decide) ?_
  obtain ⟨q84, e85, hf⟩ := j_bind hf
  refine x_loc [(0, .ref a0), (1, .int q65.1), (2, .int (0 : Int32))] rfl ?_
  refine x_loop (s_X12_laysBasic_L191 C hret hdd a0 q65.1) e85 ?_
  obtain rfl := j_inj hf
  exact x_vret C hret dX12_laysBasic_231
set_option maxHeartbeats 4000000 in
set_option maxRecDepth 100000 in
theorem m_X12_longOf {l : Launch} {E : JE} {d : Nat} (hdd : 0 ≤ d) {a0 : Int32} {h : JH} {q : Int32 × JH} (hf : f_X12_longOf a0 h = some q) : Con l E d yX12_longOf cX12_longOf 1 (some .int) [.int a0] h (some (.int q.1)) q.2 := by
  refine j_start rfl (Nat.le_of_ble_eq_true rfl) ?_
  intro p e s m args below meth c C hret hnm
  refine x_loc [(0, .int a0)] rfl ?_
  unfold f_X12_longOf at hf
  refine x_iload_n (v := a0) C dX12_longOf_0 rfl ?_
  refine x_bipush C dX12_longOf_1 kb_12 ?_
  refine x_idiv C dX12_longOf_3 (by decide) ?_
  refine x_iload_n (v := a0) C dX12_longOf_4 rfl ?_
  refine x_bipush C dX12_longOf_5 kb_12 ?_
  refine x_irem C dX12_longOf_7 (by decide) ?_
  refine x_iconst C dX12_longOf_8 ki_2 ?_
  refine x_icmp_ne (tgt := 16) C dX12_longOf_9 (by decide) (fun c1 => ?_) (fun c1 => ?_)
  · have hf := j_ifn hf c1
    refine x_iconst C dX12_longOf_16 ki_1 ?_
    refine x_iadd C dX12_longOf_17 ?_
    obtain rfl := j_inj hf
    exact x_iret C hret dX12_longOf_18
  · have hf := j_ifp hf c1
    refine x_iconst C dX12_longOf_12 ki_0 ?_
    refine x_goto (tgt := 17) C dX12_longOf_13 (by decide) ?_
    refine x_iadd C dX12_longOf_17 ?_
    obtain rfl := j_inj hf
    exact x_iret C hret dX12_longOf_18
set_option maxHeartbeats 4000000 in
set_option maxRecDepth 100000 in
theorem m_X12_isWeight {l : Launch} {E : JE} {d : Nat} (hdd : 1 ≤ d) {a0 : Int32} {h : JH} {q : Int32 × JH} (hf : f_X12_isWeight a0 h = some q) : Con l E d yX12_isWeight cX12_isWeight 1 (some .boolean) [.int a0] h (some (.int q.1)) q.2 := by
  refine j_start rfl (Nat.le_of_ble_eq_true rfl) ?_
  intro p e s m args below meth c C hret hnm
  refine x_loc [(0, .int a0)] rfl ?_
  unfold f_X12_isWeight at hf
  refine x_iload_n (v := a0) C dX12_isWeight_0 rfl ?_
  refine x_iconst C dX12_isWeight_1 ki_0 ?_
  refine x_bipush C dX12_isWeight_2 kb_60 ?_
  obtain ⟨q1, e2, hf⟩ := j_bind hf
  refine x_callS (As := [.int a0, .int (0 : Int32), .int (60 : Int32)]) (rest := []) C dX12_isWeight_4 (m_X12_within (l := l) (E := E) (d := d - 1) (by omega) e2) km_X12_within lk_X12_45 ks_X12_within rfl (by omega) (Nat.le_of_ble_eq_true rfl) (j_le_of (q_X12_within e2)) (Or.inr (q_X12_within e2)) ?_
  refine x_if_eq (tgt := 20) C dX12_isWeight_7 (by decide) (fun c3 => ?_) (fun c3 => ?_)
  · have hf := j_ifp hf c3
    refine x_iconst C dX12_isWeight_20 ki_0 ?_
    obtain rfl := j_inj hf
    exact x_zret C hret (Or.inl rfl) dX12_isWeight_21
  · have hf := j_ifn hf c3
    refine x_iload_n (v := a0) C dX12_isWeight_10 rfl ?_
    refine x_iconst C dX12_isWeight_11 ki_2 ?_
    refine x_irem C dX12_isWeight_12 (by decide) ?_
    refine x_if_ne (tgt := 20) C dX12_isWeight_13 (by decide) (fun c4 => ?_) (fun c4 => ?_)
    · have hf := j_ifn hf c4
      refine x_iconst C dX12_isWeight_20 ki_0 ?_
      obtain rfl := j_inj hf
      exact x_zret C hret (Or.inl rfl) dX12_isWeight_21
    · have hf := j_ifp hf c4
      refine x_iconst C dX12_isWeight_16 ki_1 ?_
      refine x_goto (tgt := 21) C dX12_isWeight_17 (by decide) ?_
      obtain rfl := j_inj hf
      exact x_zret C hret (Or.inr rfl) dX12_isWeight_21
set_option maxHeartbeats 4000000 in
set_option maxRecDepth 100000 in
theorem s_X12_laysRows_L52 {p : Program} {l : Launch} {e : Env} {R : Room} {s : State} {m : MethodId} {args : Array Value} {below : List Frame} {meth : Method} {c : Code} {E : JE} {h0 hF : JH} {rF : Option Value} {d : Nat} (C : j_C p s m args meth c R E cX12_laysRows 7 RX12 h0 hF d) (hret : meth.sig.returnType = none) (hdd : 2 ≤ d) (a0 : Nat) (a1 : Int32) (a2 : Int32) (a4 : Int32) (a5 : Int32) (z : Int32) (h : JH) (r : Int32 ⊕ Int32) (h1 : JH) (hf : f_X12_laysRows_L52 a0 a1 a2 a4 a5 z h = some (r, h1)) (hk : Sum.elim (fun z => Xw p l e R s m args below meth c E 7 h0 rF hF 52 [(0, .ref a0), (1, .int a1), (2, .int a2), (4, .int a4), (5, .int a5), (6, .int z)] [] h1) (fun t => Xw p l e R s m args below meth c E 7 h0 rF hF 83 [(0, .ref a0), (1, .int a1), (2, .int a2), (4, .int a4), (5, .int a5), (6, .int t)] [] h1) r) : Xw p l e R s m args below meth c E 7 h0 rF hF 52 [(0, .ref a0), (1, .int a1), (2, .int a2), (4, .int a4), (5, .int a5), (6, .int z)] [] h := by
  unfold f_X12_laysRows_L52 at hf
  refine x_iload (v := z) C dX12_laysRows_52 rfl ?_
  refine x_sipush C dX12_laysRows_54 ks_181 ?_
  refine x_icmp_ge (tgt := 83) C dX12_laysRows_57 (by decide) (fun c13 => ?_) (fun c13 => ?_)
  · have hf := j_ifp hf c13
    obtain ⟨rfl, rfl⟩ := j_inj2 hf
    exact x_locr hk rfl
  · have hf := j_ifn hf c13
    refine x_aload_n (v := a0) C dX12_laysRows_60 rfl ?_
    obtain ⟨v7, e8, hf⟩ := j_bind hf
    refine x_get C dX12_laysRows_61 (jgR_some e8) fg_X12_29 ?_
    refine x_iload (v := z) C dX12_laysRows_64 rfl ?_
    refine x_iload (v := z) C dX12_laysRows_66 rfl ?_
    refine x_if_ne (tgt := 75) C dX12_laysRows_68 (by decide) (fun c14 => ?_) (fun c14 => ?_)
    · have hf := j_ifn hf c14
      refine x_iconst C dX12_laysRows_75 ki_0 ?_
      obtain ⟨h9, e10, hf⟩ := j_bind hf
      refine x_iast C dX12_laysRows_76 e10 ?_
      refine x_iinc (v := z) C dX12_laysRows_77 rfl ki_1 (by decide) ?_
      refine x_goto (tgt := 52) C dX12_laysRows_80 (by decide) ?_
      obtain ⟨rfl, rfl⟩ := j_inj2 hf
      exact x_locr hk rfl
    · have hf := j_ifp hf c14
      refine x_iconst C dX12_laysRows_71 ki_1 ?_
      refine x_goto (tgt := 76) C dX12_laysRows_72 (by decide) ?_
      obtain ⟨h11, e12, hf⟩ := j_bind hf
      refine x_iast C dX12_laysRows_76 e12 ?_
      refine x_iinc (v := z) C dX12_laysRows_77 rfl ki_1 (by decide) ?_
      refine x_goto (tgt := 52) C dX12_laysRows_80 (by decide) ?_
      obtain ⟨rfl, rfl⟩ := j_inj2 hf
      exact x_locr hk rfl
set_option maxHeartbeats 4000000 in
set_option maxRecDepth 100000 in
theorem s_X12_laysRows_L86 {p : Program} {l : Launch} {e : Env} {R : Room} {s : State} {m : MethodId} {args : Array Value} {below : List Frame} {meth : Method} {c : Code} {E : JE} {h0 hF : JH} {rF : Option Value} {d : Nat} (C : j_C p s m args meth c R E cX12_laysRows 7 RX12 h0 hF d) (hret : meth.sig.returnType = none) (hdd : 2 ≤ d) (a0 : Nat) (a1 : Int32) (a2 : Int32) (a4 : Int32) (a5 : Int32) (z : Int32) (h : JH) (r : Int32 ⊕ Int32) (h1 : JH) (hf : f_X12_laysRows_L86 a0 a1 a2 a4 a5 z h = some (r, h1)) (hk : Sum.elim (fun z => Xw p l e R s m args below meth c E 7 h0 rF hF 86 [(0, .ref a0), (1, .int a1), (2, .int a2), (4, .int a4), (5, .int a5), (6, .int z)] [] h1) (fun t => Xw p l e R s m args below meth c E 7 h0 rF hF 166 [(0, .ref a0), (1, .int a1), (2, .int a2), (4, .int a4), (5, .int a5), (6, .int t)] [] h1) r) : Xw p l e R s m args below meth c E 7 h0 rF hF 86 [(0, .ref a0), (1, .int a1), (2, .int a2), (4, .int a4), (5, .int a5), (6, .int z)] [] h := by
  unfold f_X12_laysRows_L86 at hf
  refine x_iload (v := z) C dX12_laysRows_86 rfl ?_
  refine x_iload (v := a5) C dX12_laysRows_88 rfl ?_
  refine x_iload (v := a4) C dX12_laysRows_90 rfl ?_
  refine x_iadd C dX12_laysRows_92 ?_
  refine x_iload_n (v := a2) C dX12_laysRows_93 rfl ?_
  refine x_iadd C dX12_laysRows_94 ?_
  refine x_icmp_ge (tgt := 166) C dX12_laysRows_95 (by decide) (fun c61 => ?_) (fun c61 => ?_)
  · have hf := j_ifp hf c61
    obtain ⟨rfl, rfl⟩ := j_inj2 hf
    exact x_locr hk rfl
  · have hf := j_ifn hf c61
    refine x_aload_n (v := a0) C dX12_laysRows_98 rfl ?_
    refine x_aload_n (v := a0) C dX12_laysRows_99 rfl ?_
    obtain ⟨v17, e18, hf⟩ := j_bind hf
    refine x_get C dX12_laysRows_100 (jgR_some e18) fg_X12_29 ?_
    refine x_iconst C dX12_laysRows_103 ki_0 ?_
    refine x_iload (v := z) C dX12_laysRows_104 rfl ?_
    refine x_iload (v := a5) C dX12_laysRows_106 rfl ?_
    refine x_icmp_ge (tgt := 118) C dX12_laysRows_108 (by decide) (fun c62 => ?_) (fun c62 => ?_)
    · have hf := j_ifp hf c62
      refine x_iload (v := z) C dX12_laysRows_118 rfl ?_
      refine x_iload (v := a5) C dX12_laysRows_120 rfl ?_
      refine x_iload (v := a4) C dX12_laysRows_122 rfl ?_
      refine x_iadd C dX12_laysRows_124 ?_
      refine x_icmp_ge (tgt := 135) C dX12_laysRows_125 (by decide) (fun c63 => ?_) (fun c63 => ?_)
      · have hf := j_ifp hf c63
        refine x_aload_n (v := a0) C dX12_laysRows_135 rfl ?_
        obtain ⟨v19, e20, hf⟩ := j_bind hf
        refine x_get C dX12_laysRows_136 (jgR_some e20) fg_X12_36 ?_
        refine x_iconst C dX12_laysRows_139 ki_0 ?_
        refine x_aload_n (v := a0) C dX12_laysRows_140 rfl ?_
        obtain ⟨v21, e22, hf⟩ := j_bind hf
        refine x_get C dX12_laysRows_141 (jgR_some e22) fg_X12_55 ?_
        obtain ⟨u31, e32, hf⟩ := j_bind hf
        obtain ⟨q23, e24, hf⟩ := j_bind hf
        refine x_callV (As := [.ref v17, .int (0 : Int32), .ref v19, .int (0 : Int32), .ref v21]) (rest := []) C dX12_laysRows_144 (m_X12_multiplies (l := l) (E := E) (d := d - 1) (by omega) e24) km_X12_multiplies lk_X12_32 kv_X12_multiplies (ci := 9) rfl e32 rfl (by omega) (Nat.le_of_ble_eq_true rfl) (j_le_of (q_X12_multiplies e24)) (Or.inr (q_X12_multiplies e24)) ?_
        refine x_aload_n (v := a0) C dX12_laysRows_147 rfl ?_
        obtain ⟨v25, e26, hf⟩ := j_bind hf
        refine x_get C dX12_laysRows_148 (jgR_some e26) fg_X12_55 ?_
        refine x_iconst C dX12_laysRows_151 ki_0 ?_
        refine x_aload_n (v := a0) C dX12_laysRows_152 rfl ?_
        obtain ⟨v27, e28, hf⟩ := j_bind hf
        refine x_get C dX12_laysRows_153 (jgR_some e28) fg_X12_29 ?_
        refine x_iconst C dX12_laysRows_156 ki_0 ?_
        obtain ⟨q29, e30, hf⟩ := j_bind hf
        refine x_callS (As := [.ref v25, .int (0 : Int32), .ref v27, .int (0 : Int32)]) (rest := []) C dX12_laysRows_157 (m_X12_copies (l := l) (E := E) (d := d - 1) (by omega) e30) km_X12_copies lk_X12_58 ks_X12_copies rfl (by omega) (Nat.le_of_ble_eq_true rfl) (j_le_of (q_X12_copies e30)) (Or.inr (q_X12_copies e30)) ?_
        refine x_iinc (v := z) C dX12_laysRows_160 rfl ki_1 (by decide) ?_
        refine x_goto (tgt := 86) C dX12_laysRows_163 (by decide) ?_
        obtain ⟨rfl, rfl⟩ := j_inj2 hf
        exact x_locr hk rfl
      · have hf := j_ifn hf c63
        refine x_aload_n (v := a0) C dX12_laysRows_128 rfl ?_
        obtain ⟨v33, e34, hf⟩ := j_bind hf
        refine x_get C dX12_laysRows_129 (jgR_some e34) fg_X12_24 ?_
        refine x_goto (tgt := 139) C dX12_laysRows_132 (by decide) ?_
        refine x_iconst C dX12_laysRows_139 ki_0 ?_
        refine x_aload_n (v := a0) C dX12_laysRows_140 rfl ?_
        obtain ⟨v35, e36, hf⟩ := j_bind hf
        refine x_get C dX12_laysRows_141 (jgR_some e36) fg_X12_55 ?_
        obtain ⟨u45, e46, hf⟩ := j_bind hf
        obtain ⟨q37, e38, hf⟩ := j_bind hf
        refine x_callV (As := [.ref v17, .int (0 : Int32), .ref v33, .int (0 : Int32), .ref v35]) (rest := []) C dX12_laysRows_144 (m_X12_multiplies (l := l) (E := E) (d := d - 1) (by omega) e38) km_X12_multiplies lk_X12_32 kv_X12_multiplies (ci := 9) rfl e46 rfl (by omega) (Nat.le_of_ble_eq_true rfl) (j_le_of (q_X12_multiplies e38)) (Or.inr (q_X12_multiplies e38)) ?_
        refine x_aload_n (v := a0) C dX12_laysRows_147 rfl ?_
        obtain ⟨v39, e40, hf⟩ := j_bind hf
        refine x_get C dX12_laysRows_148 (jgR_some e40) fg_X12_55 ?_
        refine x_iconst C dX12_laysRows_151 ki_0 ?_
        refine x_aload_n (v := a0) C dX12_laysRows_152 rfl ?_
        obtain ⟨v41, e42, hf⟩ := j_bind hf
        refine x_get C dX12_laysRows_153 (jgR_some e42) fg_X12_29 ?_
        refine x_iconst C dX12_laysRows_156 ki_0 ?_
        obtain ⟨q43, e44, hf⟩ := j_bind hf
        refine x_callS (As := [.ref v39, .int (0 : Int32), .ref v41, .int (0 : Int32)]) (rest := []) C dX12_laysRows_157 (m_X12_copies (l := l) (E := E) (d := d - 1) (by omega) e44) km_X12_copies lk_X12_58 ks_X12_copies rfl (by omega) (Nat.le_of_ble_eq_true rfl) (j_le_of (q_X12_copies e44)) (Or.inr (q_X12_copies e44)) ?_
        refine x_iinc (v := z) C dX12_laysRows_160 rfl ki_1 (by decide) ?_
        refine x_goto (tgt := 86) C dX12_laysRows_163 (by decide) ?_
        obtain ⟨rfl, rfl⟩ := j_inj2 hf
        exact x_locr hk rfl
    · have hf := j_ifn hf c62
      refine x_aload_n (v := a0) C dX12_laysRows_111 rfl ?_
      obtain ⟨v47, e48, hf⟩ := j_bind hf
      refine x_get C dX12_laysRows_112 (jgR_some e48) fg_X12_18 ?_
      refine x_goto (tgt := 139) C dX12_laysRows_115 (by decide) ?_
      refine x_iconst C dX12_laysRows_139 ki_0 ?_
      refine x_aload_n (v := a0) C dX12_laysRows_140 rfl ?_
      obtain ⟨v49, e50, hf⟩ := j_bind hf
      refine x_get C dX12_laysRows_141 (jgR_some e50) fg_X12_55 ?_
      obtain ⟨u59, e60, hf⟩ := j_bind hf
      obtain ⟨q51, e52, hf⟩ := j_bind hf
      refine x_callV (As := [.ref v17, .int (0 : Int32), .ref v47, .int (0 : Int32), .ref v49]) (rest := []) C dX12_laysRows_144 (m_X12_multiplies (l := l) (E := E) (d := d - 1) (by omega) e52) km_X12_multiplies lk_X12_32 kv_X12_multiplies (ci := 9) rfl e60 rfl (by omega) (Nat.le_of_ble_eq_true rfl) (j_le_of (q_X12_multiplies e52)) (Or.inr (q_X12_multiplies e52)) ?_
      refine x_aload_n (v := a0) C dX12_laysRows_147 rfl ?_
      obtain ⟨v53, e54, hf⟩ := j_bind hf
      refine x_get C dX12_laysRows_148 (jgR_some e54) fg_X12_55 ?_
      refine x_iconst C dX12_laysRows_151 ki_0 ?_
      refine x_aload_n (v := a0) C dX12_laysRows_152 rfl ?_
      obtain ⟨v55, e56, hf⟩ := j_bind hf
      refine x_get C dX12_laysRows_153 (jgR_some e56) fg_X12_29 ?_
      refine x_iconst C dX12_laysRows_156 ki_0 ?_
      obtain ⟨q57, e58, hf⟩ := j_bind hf
      refine x_callS (As := [.ref v53, .int (0 : Int32), .ref v55, .int (0 : Int32)]) (rest := []) C dX12_laysRows_157 (m_X12_copies (l := l) (E := E) (d := d - 1) (by omega) e58) km_X12_copies lk_X12_58 ks_X12_copies rfl (by omega) (Nat.le_of_ble_eq_true rfl) (j_le_of (q_X12_copies e58)) (Or.inr (q_X12_copies e58)) ?_
      refine x_iinc (v := z) C dX12_laysRows_160 rfl ki_1 (by decide) ?_
      refine x_goto (tgt := 86) C dX12_laysRows_163 (by decide) ?_
      obtain ⟨rfl, rfl⟩ := j_inj2 hf
      exact x_locr hk rfl
set_option maxHeartbeats 4000000 in
set_option maxRecDepth 100000 in
theorem s_X12_laysRows_L16 {p : Program} {l : Launch} {e : Env} {R : Room} {s : State} {m : MethodId} {args : Array Value} {below : List Frame} {meth : Method} {c : Code} {E : JE} {h0 hF : JH} {rF : Option Value} {d : Nat} (C : j_C p s m args meth c R E cX12_laysRows 7 RX12 h0 hF d) (hret : meth.sig.returnType = none) (hdd : 2 ≤ d) (a0 : Nat) (a1 : Int32) (z : Int32) (h : JH) (r : Int32 ⊕ Int32) (h1 : JH) (hf : f_X12_laysRows_L16 a0 a1 z h = some (r, h1)) (hk : Sum.elim (fun z => Xw p l e R s m args below meth c E 7 h0 rF hF 16 [(0, .ref a0), (1, .int a1), (2, .int z)] [] h1) (fun t => Xw p l e R s m args below meth c E 7 h0 rF hF 189 [(0, .ref a0), (1, .int a1), (2, .int t)] [] h1) r) : Xw p l e R s m args below meth c E 7 h0 rF hF 16 [(0, .ref a0), (1, .int a1), (2, .int z)] [] h := by
  unfold f_X12_laysRows_L16 at hf
  refine x_iload_n (v := z) C dX12_laysRows_16 rfl ?_
  refine x_iload_n (v := a1) C dX12_laysRows_17 rfl ?_
  obtain ⟨q5, e6, hf⟩ := j_bind hf
  refine x_callS (As := [.int a1]) (rest := [.int z]) C dX12_laysRows_18 (m_X12_longOf (l := l) (E := E) (d := d - 1) (by omega) e6) km_X12_longOf lk_X12_52 ks_X12_longOf rfl (by omega) (Nat.le_of_ble_eq_true rfl) (j_le_of (q_X12_longOf e6)) (Or.inr (q_X12_longOf e6)) ?_
  refine x_icmp_ge (tgt := 189) C dX12_laysRows_21 (by decide) (fun c17 => ?_) (fun c17 => ?_)
  · have hf := j_ifp hf c17
    obtain ⟨rfl, rfl⟩ := j_inj2 hf
    exact x_locr hk rfl
  · have hf := j_ifn hf c17
    refine x_iload_n (v := a1) C dX12_laysRows_24 rfl ?_
    refine x_bipush C dX12_laysRows_25 kb_12 ?_
    refine x_iload_n (v := z) C dX12_laysRows_27 rfl ?_
    refine x_imul C dX12_laysRows_28 ?_
    refine x_isub C dX12_laysRows_29 ?_
    refine x_istore_n C dX12_laysRows_30 (by decide) ?_
    refine x_iload_n (v := a1 - ((12 : Int32) * z)) C dX12_laysRows_31 rfl ?_
    refine x_iconst C dX12_laysRows_32 ki_4 ?_
    refine x_irem C dX12_laysRows_33 (by decide) ?_
    refine x_iconst C dX12_laysRows_34 ki_2 ?_
    refine x_idiv C dX12_laysRows_35 (by decide) ?_
    refine x_istore C dX12_laysRows_36 (by decide) ?_
    refine x_iload_n (v := a1 - ((12 : Int32) * z)) C dX12_laysRows_38 rfl ?_
    refine x_bipush C dX12_laysRows_39 kb_6 ?_
    refine x_iload (v := (jrem (a1 - ((12 : Int32) * z)) (4 : Int32)) / (2 : Int32)) C dX12_laysRows_41 rfl ?_
    refine x_imul C dX12_laysRows_43 ?_
    refine x_isub C dX12_laysRows_44 ?_
    refine x_iconst C dX12_laysRows_45 ki_4 ?_
    refine x_idiv C dX12_laysRows_46 (by decide) ?_
    refine x_istore C dX12_laysRows_47 (by decide) ?_
    refine x_iconst C dX12_laysRows_49 ki_0 ?_
    refine x_istore C dX12_laysRows_50 (by decide) ?_
    obtain ⟨q7, e8, hf⟩ := j_bind hf
    refine x_loc [(0, .ref a0), (1, .int a1), (2, .int z), (4, .int ((jrem (a1 - ((12 : Int32) * z)) (4 : Int32)) / (2 : Int32))), (5, .int (((a1 - ((12 : Int32) * z)) - ((6 : Int32) * ((jrem (a1 - ((12 : Int32) * z)) (4 : Int32)) / (2 : Int32)))) / (4 : Int32))), (6, .int (0 : Int32))] rfl ?_
    refine x_loop (s_X12_laysRows_L52 C hret hdd a0 a1 z ((jrem (a1 - ((12 : Int32) * z)) (4 : Int32)) / (2 : Int32)) (((a1 - ((12 : Int32) * z)) - ((6 : Int32) * ((jrem (a1 - ((12 : Int32) * z)) (4 : Int32)) / (2 : Int32)))) / (4 : Int32))) e8 ?_
    refine x_iconst C dX12_laysRows_83 ki_0 ?_
    refine x_istore C dX12_laysRows_84 (by decide) ?_
    obtain ⟨q9, e10, hf⟩ := j_bind hf
    refine x_loc [(0, .ref a0), (1, .int a1), (2, .int z), (4, .int ((jrem (a1 - ((12 : Int32) * z)) (4 : Int32)) / (2 : Int32))), (5, .int (((a1 - ((12 : Int32) * z)) - ((6 : Int32) * ((jrem (a1 - ((12 : Int32) * z)) (4 : Int32)) / (2 : Int32)))) / (4 : Int32))), (6, .int (0 : Int32))] rfl ?_
    refine x_loop (s_X12_laysRows_L86 C hret hdd a0 a1 z ((jrem (a1 - ((12 : Int32) * z)) (4 : Int32)) / (2 : Int32)) (((a1 - ((12 : Int32) * z)) - ((6 : Int32) * ((jrem (a1 - ((12 : Int32) * z)) (4 : Int32)) / (2 : Int32)))) / (4 : Int32))) e10 ?_
    refine x_aload_n (v := a0) C dX12_laysRows_166 rfl ?_
    obtain ⟨v11, e12, hf⟩ := j_bind hf
    refine x_get C dX12_laysRows_167 (jgR_some e12) fg_X12_29 ?_
    refine x_iconst C dX12_laysRows_170 ki_0 ?_
    refine x_aload_n (v := a0) C dX12_laysRows_171 rfl ?_
    obtain ⟨v13, e14, hf⟩ := j_bind hf
    refine x_get C dX12_laysRows_172 (jgR_some e14) fg_X12_62 ?_
    refine x_sipush C dX12_laysRows_175 ks_181 ?_
    refine x_iload_n (v := z) C dX12_laysRows_178 rfl ?_
    refine x_imul C dX12_laysRows_179 ?_
    obtain ⟨q15, e16, hf⟩ := j_bind hf
    refine x_callS (As := [.ref v11, .int (0 : Int32), .ref v13, .int ((181 : Int32) * z)]) (rest := []) C dX12_laysRows_180 (m_X12_copies (l := l) (E := E) (d := d - 1) (by omega) e16) km_X12_copies lk_X12_58 ks_X12_copies rfl (by omega) (Nat.le_of_ble_eq_true rfl) (j_le_of (q_X12_copies e16)) (Or.inr (q_X12_copies e16)) ?_
    refine x_iinc (v := z) C dX12_laysRows_183 rfl ki_1 (by decide) ?_
    refine x_goto (tgt := 16) C dX12_laysRows_186 (by decide) ?_
    obtain ⟨rfl, rfl⟩ := j_inj2 hf
    exact x_locr hk rfl
set_option maxHeartbeats 4000000 in
set_option maxRecDepth 100000 in
theorem m_X12_laysRows {l : Launch} {E : JE} {d : Nat} (hdd : 2 ≤ d) {a0 : Nat} {a1 : Int32} {h : JH} {q : Unit × JH} (hf : f_X12_laysRows a0 a1 h = some q) : Con l E d yX12_laysRows cX12_laysRows 7 none [.ref a0, .int a1] h (none) q.2 := by
  refine j_start rfl (Nat.le_of_ble_eq_true rfl) ?_
  intro p e s m args below meth c C hret hnm
  refine x_loc [(0, .ref a0), (1, .int a1)] rfl ?_
  unfold f_X12_laysRows at hf
  refine x_aload_n (v := a0) C dX12_laysRows_0 rfl ?_
  obtain ⟨v1, e2, hf⟩ := j_bind hf
  refine x_get C dX12_laysRows_1 (jgI_some e2) fg_X12_49 ?_
  refine x_iload_n (v := a1) C dX12_laysRows_4 rfl ?_
  refine x_icmp_ne (tgt := 9) C dX12_laysRows_5 (by decide) (fun c20 => ?_) (fun c20 => ?_)
  · have hf := j_ifn hf c20
    refine x_aload_n (v := a0) C dX12_laysRows_9 rfl ?_
    refine x_iload_n (v := a1) C dX12_laysRows_10 rfl ?_
    obtain ⟨h3, e4, hf⟩ := j_bind hf
    refine x_put C dX12_laysRows_11 e4 fp_X12_49 rfl rfl ?_
    refine x_iconst C dX12_laysRows_14 ki_0 ?_
    refine x_istore_n C dX12_laysRows_15 (by decide) ?_
    obtain ⟨q18, e19, hf⟩ := j_bind hf
    refine x_loc [(0, .ref a0), (1, .int a1), (2, .int (0 : Int32))] rfl ?_
    refine x_loop (s_X12_laysRows_L16 C hret hdd a0 a1) e19 ?_
    obtain rfl := j_inj hf
    exact x_vret C hret dX12_laysRows_189
  · have hf := j_ifp hf c20
    obtain rfl := j_inj hf
    exact x_vret C hret dX12_laysRows_8
set_option maxHeartbeats 4000000 in
set_option maxRecDepth 100000 in
theorem s_X12_builds_L7 {p : Program} {l : Launch} {e : Env} {R : Room} {s : State} {m : MethodId} {args : Array Value} {below : List Frame} {meth : Method} {c : Code} {E : JE} {h0 hF : JH} {rF : Option Value} {d : Nat} (C : j_C p s m args meth c R E cX12_builds 5 RX12 h0 hF d) (hret : meth.sig.returnType = none) (hdd : 3 ≤ d) (a0 : Nat) (a1 : Int32) (z : Int32) (h : JH) (r : Int32 ⊕ Int32) (h1 : JH) (hf : f_X12_builds_L7 a0 a1 z h = some (r, h1)) (hk : Sum.elim (fun z => Xw p l e R s m args below meth c E 5 h0 rF hF 7 [(0, .ref a0), (1, .int a1), (2, .int z)] [] h1) (fun t => Xw p l e R s m args below meth c E 5 h0 rF hF 27 [(0, .ref a0), (1, .int a1), (2, .int t)] [] h1) r) : Xw p l e R s m args below meth c E 5 h0 rF hF 7 [(0, .ref a0), (1, .int a1), (2, .int z)] [] h := by
  unfold f_X12_builds_L7 at hf
  refine x_iload_n (v := z) C dX12_builds_7 rfl ?_
  refine x_sipush C dX12_builds_8 ks_181 ?_
  refine x_icmp_ge (tgt := 27) C dX12_builds_11 (by decide) (fun c7 => ?_) (fun c7 => ?_)
  · have hf := j_ifp hf c7
    obtain ⟨rfl, rfl⟩ := j_inj2 hf
    exact x_locr hk rfl
  · have hf := j_ifn hf c7
    refine x_aload_n (v := a0) C dX12_builds_14 rfl ?_
    obtain ⟨v3, e4, hf⟩ := j_bind hf
    refine x_get C dX12_builds_15 (jgR_some e4) fg_X12_69 ?_
    refine x_iload_n (v := z) C dX12_builds_18 rfl ?_
    refine x_iconst C dX12_builds_19 ki_0 ?_
    obtain ⟨h5, e6, hf⟩ := j_bind hf
    refine x_iast C dX12_builds_20 e6 ?_
    refine x_iinc (v := z) C dX12_builds_21 rfl ki_1 (by decide) ?_
    refine x_goto (tgt := 7) C dX12_builds_24 (by decide) ?_
    obtain ⟨rfl, rfl⟩ := j_inj2 hf
    exact x_locr hk rfl
set_option maxHeartbeats 4000000 in
set_option maxRecDepth 100000 in
theorem s_X12_builds_L59 {p : Program} {l : Launch} {e : Env} {R : Room} {s : State} {m : MethodId} {args : Array Value} {below : List Frame} {meth : Method} {c : Code} {E : JE} {h0 hF : JH} {rF : Option Value} {d : Nat} (C : j_C p s m args meth c R E cX12_builds 5 RX12 h0 hF d) (hret : meth.sig.returnType = none) (hdd : 3 ≤ d) (a0 : Nat) (a1 : Int32) (a2 : Int32) (a3 : Int32) (z : Int32) (h : JH) (r : Int32 ⊕ Int32) (h1 : JH) (hf : f_X12_builds_L59 a0 a1 a2 a3 z h = some (r, h1)) (hk : Sum.elim (fun z => Xw p l e R s m args below meth c E 5 h0 rF hF 59 [(0, .ref a0), (1, .int a1), (2, .int a2), (3, .int a3), (4, .int z)] [] h1) (fun t => Xw p l e R s m args below meth c E 5 h0 rF hF 110 [(0, .ref a0), (1, .int a1), (2, .int a2), (3, .int a3), (4, .int t)] [] h1) r) : Xw p l e R s m args below meth c E 5 h0 rF hF 59 [(0, .ref a0), (1, .int a1), (2, .int a2), (3, .int a3), (4, .int z)] [] h := by
  unfold f_X12_builds_L59 at hf
  refine x_iload (v := z) C dX12_builds_59 rfl ?_
  refine x_sipush C dX12_builds_61 ks_181 ?_
  refine x_icmp_ge (tgt := 110) C dX12_builds_64 (by decide) (fun c38 => ?_) (fun c38 => ?_)
  · have hf := j_ifp hf c38
    obtain ⟨rfl, rfl⟩ := j_inj2 hf
    exact x_locr hk rfl
  · have hf := j_ifn hf c38
    refine x_aload_n (v := a0) C dX12_builds_67 rfl ?_
    obtain ⟨v22, e23, hf⟩ := j_bind hf
    refine x_get C dX12_builds_68 (jgR_some e23) fg_X12_69 ?_
    refine x_iload (v := z) C dX12_builds_71 rfl ?_
    refine x_aload_n (v := a0) C dX12_builds_73 rfl ?_
    refine x_aload_n (v := a0) C dX12_builds_74 rfl ?_
    obtain ⟨v24, e25, hf⟩ := j_bind hf
    refine x_get C dX12_builds_75 (jgR_some e25) fg_X12_69 ?_
    refine x_iload (v := z) C dX12_builds_78 rfl ?_
    obtain ⟨v26, e27, hf⟩ := j_bind hf
    refine x_iald C dX12_builds_80 e27 ?_
    refine x_i2l C dX12_builds_81 ?_
    refine x_iload_n (v := a3) C dX12_builds_82 rfl ?_
    refine x_i2l C dX12_builds_83 ?_
    refine x_aload_n (v := a0) C dX12_builds_84 rfl ?_
    obtain ⟨v28, e29, hf⟩ := j_bind hf
    refine x_get C dX12_builds_85 (jgR_some e29) fg_X12_62 ?_
    refine x_sipush C dX12_builds_88 ks_181 ?_
    refine x_iload_n (v := a2) C dX12_builds_91 rfl ?_
    refine x_imul C dX12_builds_92 ?_
    refine x_iload (v := z) C dX12_builds_93 rfl ?_
    refine x_iadd C dX12_builds_95 ?_
    obtain ⟨v30, e31, hf⟩ := j_bind hf
    refine x_iald C dX12_builds_96 e31 ?_
    refine x_i2l C dX12_builds_97 ?_
    refine x_lmul C dX12_builds_98 ?_
    refine x_ladd C dX12_builds_99 ?_
    obtain ⟨u36, e37, hf⟩ := j_bind hf
    obtain ⟨q32, e33, hf⟩ := j_bind hf
    refine x_callV (As := [.long (v26.toInt64 + (a3.toInt64 * v30.toInt64))]) (rest := [.int z, .ref v22]) C dX12_builds_100 (m_X12_left (l := l) (E := E) (d := d - 1) (by omega) e33) km_X12_left lk_X12_10 kv_X12_left (ci := 9) rfl e37 rfl (by omega) (Nat.le_of_ble_eq_true rfl) (j_le_of (q_X12_left e33)) (Or.inr (q_X12_left e33)) ?_
    obtain ⟨h34, e35, hf⟩ := j_bind hf
    refine x_iast C dX12_builds_103 e35 ?_
    refine x_iinc (v := z) C dX12_builds_104 rfl ki_1 (by decide) ?_
    refine x_goto (tgt := 59) C dX12_builds_107 (by decide) ?_
    obtain ⟨rfl, rfl⟩ := j_inj2 hf
    exact x_locr hk rfl
set_option maxHeartbeats 4000000 in
set_option maxRecDepth 100000 in
theorem s_X12_builds_L29 {p : Program} {l : Launch} {e : Env} {R : Room} {s : State} {m : MethodId} {args : Array Value} {below : List Frame} {meth : Method} {c : Code} {E : JE} {h0 hF : JH} {rF : Option Value} {d : Nat} (C : j_C p s m args meth c R E cX12_builds 5 RX12 h0 hF d) (hret : meth.sig.returnType = none) (hdd : 3 ≤ d) (a0 : Nat) (a1 : Int32) (z : Int32) (h : JH) (r : Int32 ⊕ Int32) (h1 : JH) (hf : f_X12_builds_L29 a0 a1 z h = some (r, h1)) (hk : Sum.elim (fun z => Xw p l e R s m args below meth c E 5 h0 rF hF 29 [(0, .ref a0), (1, .int a1), (2, .int z)] [] h1) (fun t => Xw p l e R s m args below meth c E 5 h0 rF hF 116 [(0, .ref a0), (1, .int a1), (2, .int t)] [] h1) r) : Xw p l e R s m args below meth c E 5 h0 rF hF 29 [(0, .ref a0), (1, .int a1), (2, .int z)] [] h := by
  unfold f_X12_builds_L29 at hf
  refine x_iload_n (v := z) C dX12_builds_29 rfl ?_
  refine x_iload_n (v := a1) C dX12_builds_30 rfl ?_
  obtain ⟨q10, e11, hf⟩ := j_bind hf
  refine x_callS (As := [.int a1]) (rest := [.int z]) C dX12_builds_31 (m_X12_longOf (l := l) (E := E) (d := d - 1) (by omega) e11) km_X12_longOf lk_X12_52 ks_X12_longOf rfl (by omega) (Nat.le_of_ble_eq_true rfl) (j_le_of (q_X12_longOf e11)) (Or.inr (q_X12_longOf e11)) ?_
  refine x_icmp_ge (tgt := 116) C dX12_builds_34 (by decide) (fun c26 => ?_) (fun c26 => ?_)
  · have hf := j_ifp hf c26
    obtain ⟨rfl, rfl⟩ := j_inj2 hf
    exact x_locr hk rfl
  · have hf := j_ifn hf c26
    refine x_aload_n (v := a0) C dX12_builds_37 rfl ?_
    refine x_aload_n (v := a0) C dX12_builds_38 rfl ?_
    obtain ⟨v12, e13, hf⟩ := j_bind hf
    refine x_get C dX12_builds_39 (jgR_some e13) fg_X12_72 ?_
    refine x_iload_n (v := z) C dX12_builds_42 rfl ?_
    obtain ⟨v14, e15, hf⟩ := j_bind hf
    refine x_iald C dX12_builds_43 e15 ?_
    refine x_aload_n (v := a0) C dX12_builds_44 rfl ?_
    obtain ⟨v16, e17, hf⟩ := j_bind hf
    refine x_get C dX12_builds_45 (jgR_some e17) fg_X12_69 ?_
    refine x_iload_n (v := z) C dX12_builds_48 rfl ?_
    obtain ⟨v18, e19, hf⟩ := j_bind hf
    refine x_iald C dX12_builds_49 e19 ?_
    refine x_isub C dX12_builds_50 ?_
    refine x_i2l C dX12_builds_51 ?_
    obtain ⟨u24, e25, hf⟩ := j_bind hf
    obtain ⟨q20, e21, hf⟩ := j_bind hf
    refine x_callV (As := [.long ((v14 - v18).toInt64)]) (rest := []) C dX12_builds_52 (m_X12_left (l := l) (E := E) (d := d - 1) (by omega) e21) km_X12_left lk_X12_10 kv_X12_left (ci := 9) rfl e25 rfl (by omega) (Nat.le_of_ble_eq_true rfl) (j_le_of (q_X12_left e21)) (Or.inr (q_X12_left e21)) ?_
    refine x_istore_n C dX12_builds_55 (by decide) ?_
    refine x_iload_n (v := z) C dX12_builds_56 rfl ?_
    refine x_istore C dX12_builds_57 (by decide) ?_
    obtain ⟨q22, e23, hf⟩ := j_bind hf
    refine x_loc [(0, .ref a0), (1, .int a1), (2, .int z), (3, .int q20.1), (4, .int z)] rfl ?_
    refine x_loop (s_X12_builds_L59 C hret hdd a0 a1 z q20.1) e23 ?_
    refine x_iinc (v := z) C dX12_builds_110 rfl ki_1 (by decide) ?_
    refine x_goto (tgt := 29) C dX12_builds_113 (by decide) ?_
    obtain ⟨rfl, rfl⟩ := j_inj2 hf
    exact x_locr hk rfl
set_option maxHeartbeats 4000000 in
set_option maxRecDepth 100000 in
theorem m_X12_builds {l : Launch} {E : JE} {d : Nat} (hdd : 3 ≤ d) {a0 : Nat} {a1 : Int32} {h : JH} {q : Unit × JH} (hf : f_X12_builds a0 a1 h = some q) : Con l E d yX12_builds cX12_builds 5 none [.ref a0, .int a1] h (none) q.2 := by
  refine j_start rfl (Nat.le_of_ble_eq_true rfl) ?_
  intro p e s m args below meth c C hret hnm
  refine x_loc [(0, .ref a0), (1, .int a1)] rfl ?_
  unfold f_X12_builds at hf
  refine x_aload_n (v := a0) C dX12_builds_0 rfl ?_
  refine x_iload_n (v := a1) C dX12_builds_1 rfl ?_
  obtain ⟨u29, e30, hf⟩ := j_bind hf
  obtain ⟨q1, e2, hf⟩ := j_bind hf
  refine x_callV (As := [.int a1]) (rest := []) C dX12_builds_2 (m_X12_laysRows (l := l) (E := E) (d := d - 1) (by omega) e2) km_X12_laysRows lk_X12_65 kv_X12_laysRows (ci := 9) rfl e30 rfl (by omega) (Nat.le_of_ble_eq_true rfl) (j_le_of (q_X12_laysRows e2)) (Or.inr (q_X12_laysRows e2)) ?_
  refine x_iconst C dX12_builds_5 ki_0 ?_
  refine x_istore_n C dX12_builds_6 (by decide) ?_
  obtain ⟨q8, e9, hf⟩ := j_bind hf
  refine x_loc [(0, .ref a0), (1, .int a1), (2, .int (0 : Int32))] rfl ?_
  refine x_loop (s_X12_builds_L7 C hret hdd a0 a1) e9 ?_
  refine x_iconst C dX12_builds_27 ki_0 ?_
  refine x_istore_n C dX12_builds_28 (by decide) ?_
  obtain ⟨q27, e28, hf⟩ := j_bind hf
  refine x_loc [(0, .ref a0), (1, .int a1), (2, .int (0 : Int32))] rfl ?_
  refine x_loop (s_X12_builds_L29 C hret hdd a0 a1) e28 ?_
  obtain rfl := j_inj hf
  exact x_vret C hret dX12_builds_116
set_option maxHeartbeats 4000000 in
set_option maxRecDepth 100000 in
theorem s_X12_heckeAt_L13 {p : Program} {l : Launch} {e : Env} {R : Room} {s : State} {m : MethodId} {args : Array Value} {below : List Frame} {meth : Method} {c : Code} {E : JE} {h0 hF : JH} {rF : Option Value} {d : Nat} (C : j_C p s m args meth c R E cX12_heckeAt 9 RX12 h0 hF d) (hret : meth.sig.returnType = (some .int)) (hdd : 1 ≤ d) (a0 : Nat) (a1 : Nat) (a2 : Int32) (a3 : Int32) (a4 : Int32) (a5 : Int32) (z : (Int64 × Int32)) (h : JH) (r : (Int64 × Int32) ⊕ (Int64 × Int32)) (h1 : JH) (hf : f_X12_heckeAt_L13 a0 a1 a2 a3 a4 a5 z h = some (r, h1)) (hk : Sum.elim (fun z => Xw p l e R s m args below meth c E 9 h0 rF hF 13 [(0, .ref a0), (1, .ref a1), (2, .int a2), (3, .int a3), (4, .int a4), (5, .int a5), (6, .long z.1), (8, .int z.2)] [] h1) (fun t => Xw p l e R s m args below meth c E 9 h0 rF hF 74 [(0, .ref a0), (1, .ref a1), (2, .int a2), (3, .int a3), (4, .int a4), (5, .int a5), (6, .long t.1), (8, .int t.2)] [] h1) r) : Xw p l e R s m args below meth c E 9 h0 rF hF 13 [(0, .ref a0), (1, .ref a1), (2, .int a2), (3, .int a3), (4, .int a4), (5, .int a5), (6, .long z.1), (8, .int z.2)] [] h := by
  unfold f_X12_heckeAt_L13 at hf
  refine x_iload (v := z.2) C dX12_heckeAt_13 rfl ?_
  refine x_iload (v := a4) C dX12_heckeAt_15 rfl ?_
  refine x_icmp_gt (tgt := 74) C dX12_heckeAt_17 (by decide) (fun c13 => ?_) (fun c13 => ?_)
  · have hf := j_ifp hf c13
    obtain ⟨rfl, rfl⟩ := j_inj2 hf
    exact x_locr hk rfl
  · have hf := j_ifn hf c13
    refine x_iload (v := a4) C dX12_heckeAt_20 rfl ?_
    refine x_iload (v := z.2) C dX12_heckeAt_22 rfl ?_
    obtain ⟨u1, e2, hf⟩ := j_bind hf
    refine x_irem C dX12_heckeAt_24 (jnz_some e2) ?_
    refine x_if_ne (tgt := 68) C dX12_heckeAt_25 (by decide) (fun c14 => ?_) (fun c14 => ?_)
    · have hf := j_ifn hf c14
      refine x_iinc (v := z.2) C dX12_heckeAt_68 rfl ki_1 (by decide) ?_
      refine x_goto (tgt := 13) C dX12_heckeAt_71 (by decide) ?_
      obtain ⟨rfl, rfl⟩ := j_inj2 hf
      exact x_locr hk rfl
    · have hf := j_ifp hf c14
      refine x_iload (v := a5) C dX12_heckeAt_28 rfl ?_
      refine x_iload (v := z.2) C dX12_heckeAt_30 rfl ?_
      obtain ⟨u3, e4, hf⟩ := j_bind hf
      refine x_irem C dX12_heckeAt_32 (jnz_some e4) ?_
      refine x_if_ne (tgt := 68) C dX12_heckeAt_33 (by decide) (fun c15 => ?_) (fun c15 => ?_)
      · have hf := j_ifn hf c15
        refine x_iinc (v := z.2) C dX12_heckeAt_68 rfl ki_1 (by decide) ?_
        refine x_goto (tgt := 13) C dX12_heckeAt_71 (by decide) ?_
        obtain ⟨rfl, rfl⟩ := j_inj2 hf
        exact x_locr hk rfl
      · have hf := j_ifp hf c15
        refine x_lload (v := z.1) C dX12_heckeAt_36 rfl ?_
        refine x_aload_n (v := a0) C dX12_heckeAt_38 rfl ?_
        refine x_iload (v := z.2) C dX12_heckeAt_39 rfl ?_
        refine x_iload_n (v := a3) C dX12_heckeAt_41 rfl ?_
        refine x_iconst C dX12_heckeAt_42 ki_1 ?_
        refine x_isub C dX12_heckeAt_43 ?_
        obtain ⟨u11, e12, hf⟩ := j_bind hf
        obtain ⟨q5, e6, hf⟩ := j_bind hf
        refine x_callV (As := [.int z.2, .int (a3 - (1 : Int32))]) (rest := [.long z.1]) C dX12_heckeAt_44 (m_X12_power (l := l) (E := E) (d := d - 1) (by omega) e6) km_X12_power lk_X12_14 kv_X12_power (ci := 9) rfl e12 rfl (by omega) (Nat.le_of_ble_eq_true rfl) (j_le_of (q_X12_power e6)) (Or.inr (q_X12_power e6)) ?_
        refine x_i2l C dX12_heckeAt_47 ?_
        refine x_aload_n (v := a1) C dX12_heckeAt_48 rfl ?_
        refine x_iload_n (v := a2) C dX12_heckeAt_49 rfl ?_
        refine x_iload (v := a5) C dX12_heckeAt_50 rfl ?_
        refine x_iload (v := a4) C dX12_heckeAt_52 rfl ?_
        refine x_imul C dX12_heckeAt_54 ?_
        refine x_iload (v := z.2) C dX12_heckeAt_55 rfl ?_
        refine x_iload (v := z.2) C dX12_heckeAt_57 rfl ?_
        refine x_imul C dX12_heckeAt_59 ?_
        obtain ⟨u7, e8, hf⟩ := j_bind hf
        refine x_idiv C dX12_heckeAt_60 (jnz_some e8) ?_
        refine x_iadd C dX12_heckeAt_61 ?_
        obtain ⟨v9, e10, hf⟩ := j_bind hf
        refine x_iald C dX12_heckeAt_62 e10 ?_
        refine x_i2l C dX12_heckeAt_63 ?_
        refine x_lmul C dX12_heckeAt_64 ?_
        refine x_ladd C dX12_heckeAt_65 ?_
        refine x_lstore C dX12_heckeAt_66 (by decide) ?_
        refine x_iinc (v := z.2) C dX12_heckeAt_68 rfl ki_1 (by decide) ?_
        refine x_goto (tgt := 13) C dX12_heckeAt_71 (by decide) ?_
        obtain ⟨rfl, rfl⟩ := j_inj2 hf
        exact x_locr hk rfl
set_option maxHeartbeats 4000000 in
set_option maxRecDepth 100000 in
theorem m_X12_heckeAt {l : Launch} {E : JE} {d : Nat} (hdd : 1 ≤ d) {a0 : Nat} {a1 : Nat} {a2 : Int32} {a3 : Int32} {a4 : Int32} {a5 : Int32} {h : JH} {q : Int32 × JH} (hf : f_X12_heckeAt a0 a1 a2 a3 a4 a5 h = some q) : Con l E d yX12_heckeAt cX12_heckeAt 9 (some .int) [.ref a0, .ref a1, .int a2, .int a3, .int a4, .int a5] h (some (.int q.1)) q.2 := by
  refine j_start rfl (Nat.le_of_ble_eq_true rfl) ?_
  intro p e s m args below meth c C hret hnm
  refine x_loc [(0, .ref a0), (1, .ref a1), (2, .int a2), (3, .int a3), (4, .int a4), (5, .int a5)] rfl ?_
  unfold f_X12_heckeAt at hf
  refine x_iload_n (v := a3) C dX12_heckeAt_0 rfl ?_
  refine x_iconst C dX12_heckeAt_1 ki_2 ?_
  refine x_icmp_gt (tgt := 7) C dX12_heckeAt_2 (by decide) (fun c22 => ?_) (fun c22 => ?_)
  · have hf := j_ifp hf c22
    refine x_lconst C dX12_heckeAt_7 kl_0 ?_
    refine x_lstore C dX12_heckeAt_8 (by decide) ?_
    refine x_iconst C dX12_heckeAt_10 ki_1 ?_
    refine x_istore C dX12_heckeAt_11 (by decide) ?_
    obtain ⟨q16, e17, hf⟩ := j_bind hf
    refine x_loc [(0, .ref a0), (1, .ref a1), (2, .int a2), (3, .int a3), (4, .int a4), (5, .int a5), (6, .long (0 : Int64)), (8, .int (1 : Int32))] rfl ?_
    refine x_loop (s_X12_heckeAt_L13 C hret hdd a0 a1 a2 a3 a4 a5) e17 ?_
    refine x_aload_n (v := a0) C dX12_heckeAt_74 rfl ?_
    refine x_lload (v := q16.1.1) C dX12_heckeAt_75 rfl ?_
    obtain ⟨u20, e21, hf⟩ := j_bind hf
    obtain ⟨q18, e19, hf⟩ := j_bind hf
    refine x_callV (As := [.long q16.1.1]) (rest := []) C dX12_heckeAt_77 (m_X12_left (l := l) (E := E) (d := d - 1) (by omega) e19) km_X12_left lk_X12_10 kv_X12_left (ci := 9) rfl e21 rfl (by omega) (Nat.le_of_ble_eq_true rfl) (j_le_of (q_X12_left e19)) (Or.inr (q_X12_left e19)) ?_
    obtain rfl := j_inj hf
    exact x_iret C hret dX12_heckeAt_80
  · have hf := j_ifn hf c22
    refine x_iconst C dX12_heckeAt_5 ki_0 ?_
    obtain rfl := j_inj hf
    exact x_iret C hret dX12_heckeAt_6
set_option maxHeartbeats 4000000 in
set_option maxRecDepth 100000 in
theorem s_X12_puts_L3 {p : Program} {l : Launch} {e : Env} {R : Room} {s : State} {m : MethodId} {args : Array Value} {below : List Frame} {meth : Method} {c : Code} {E : JE} {h0 hF : JH} {rF : Option Value} {d : Nat} (C : j_C p s m args meth c R E cX12_puts 3 RX12 h0 hF d) (hret : meth.sig.returnType = none) (hdd : 0 ≤ d) (a0 : Nat) (a1 : Int32) (z : Int32) (h : JH) (r : Int32 ⊕ Int32) (h1 : JH) (hf : f_X12_puts_L3 a0 a1 z h = some (r, h1)) (hk : Sum.elim (fun z => Xw p l e R s m args below meth c E 3 h0 rF hF 3 [(0, .ref a0), (1, .int a1), (2, .int z)] [] h1) (fun t => Xw p l e R s m args below meth c E 3 h0 rF hF 36 [(0, .ref a0), (1, .int a1), (2, .int t)] [] h1) r) : Xw p l e R s m args below meth c E 3 h0 rF hF 3 [(0, .ref a0), (1, .int a1), (2, .int z)] [] h := by
  unfold f_X12_puts_L3 at hf
  refine x_iload_n (v := z) C dX12_puts_3 rfl ?_
  refine x_if_lt (tgt := 36) C dX12_puts_4 (by decide) (fun c11 => ?_) (fun c11 => ?_)
  · have hf := j_ifp hf c11
    obtain ⟨rfl, rfl⟩ := j_inj2 hf
    exact x_locr hk rfl
  · have hf := j_ifn hf c11
    refine x_aload_n (v := a0) C dX12_puts_7 rfl ?_
    obtain ⟨v1, e2, hf⟩ := j_bind hf
    refine x_get C dX12_puts_8 (jgR_some e2) fg_X12_81 ?_
    refine x_aload_n (v := a0) C dX12_puts_11 rfl ?_
    obtain ⟨v3, e4, hf⟩ := j_bind hf
    refine x_get C dX12_puts_12 (jgI_some e4) fg_X12_75 ?_
    refine x_iload_n (v := a1) C dX12_puts_15 rfl ?_
    refine x_iload_n (v := z) C dX12_puts_16 rfl ?_
    refine x_ishr C dX12_puts_17 ?_
    refine x_i2b C dX12_puts_18 ?_
    obtain ⟨h5, e6, hf⟩ := j_bind hf
    refine x_bast C dX12_puts_19 e6 ?_
    refine x_aload_n (v := a0) C dX12_puts_20 rfl ?_
    refine x_dup C dX12_puts_21 rfl ?_
    obtain ⟨v7, e8, hf⟩ := j_bind hf
    refine x_get C dX12_puts_22 (jgI_some e8) fg_X12_75 ?_
    refine x_iconst C dX12_puts_25 ki_1 ?_
    refine x_iadd C dX12_puts_26 ?_
    obtain ⟨h9, e10, hf⟩ := j_bind hf
    refine x_put C dX12_puts_27 e10 fp_X12_75 rfl rfl ?_
    refine x_iinc (v := z) C dX12_puts_30 rfl ki_m8 (by decide) ?_
    refine x_goto (tgt := 3) C dX12_puts_33 (by decide) ?_
    obtain ⟨rfl, rfl⟩ := j_inj2 hf
    exact x_locr hk rfl
set_option maxHeartbeats 4000000 in
set_option maxRecDepth 100000 in
theorem m_X12_puts {l : Launch} {E : JE} {d : Nat} (hdd : 0 ≤ d) {a0 : Nat} {a1 : Int32} {h : JH} {q : Unit × JH} (hf : f_X12_puts a0 a1 h = some q) : Con l E d yX12_puts cX12_puts 3 none [.ref a0, .int a1] h (none) q.2 := by
  refine j_start rfl (Nat.le_of_ble_eq_true rfl) ?_
  intro p e s m args below meth c C hret hnm
  refine x_loc [(0, .ref a0), (1, .int a1)] rfl ?_
  unfold f_X12_puts at hf
  refine x_bipush C dX12_puts_0 kb_24 ?_
  refine x_istore_n C dX12_puts_2 (by decide) ?_
  obtain ⟨q12, e13, hf⟩ := j_bind hf
  refine x_loc [(0, .ref a0), (1, .int a1), (2, .int (24 : Int32))] rfl ?_
  refine x_loop (s_X12_puts_L3 C hret hdd a0 a1) e13 ?_
  obtain rfl := j_inj hf
  exact x_vret C hret dX12_puts_36
set_option maxHeartbeats 4000000 in
set_option maxRecDepth 100000 in
theorem m_X12_feed {l : Launch} {E : JE} {d : Nat} (hdd : 1 ≤ d) {a0 : Nat} {a1 : Int32} {a2 : Int32} {a3 : Int32} {a4 : Int32} {a5 : Int32} {h : JH} {q : Int32 × JH} (hf : f_X12_feed a0 a1 a2 a3 a4 a5 h = some q) : Con l E d yX12_feed cX12_feed 6 (some .int) [.ref a0, .int a1, .int a2, .int a3, .int a4, .int a5] h (some (.int q.1)) q.2 := by
  refine j_start rfl (Nat.le_of_ble_eq_true rfl) ?_
  intro p e s m args below meth c C hret hnm
  refine x_loc [(0, .ref a0), (1, .int a1), (2, .int a2), (3, .int a3), (4, .int a4), (5, .int a5)] rfl ?_
  unfold f_X12_feed at hf
  refine x_aload_n (v := a0) C dX12_feed_0 rfl ?_
  refine x_iconst C dX12_feed_1 ki_0 ?_
  obtain ⟨h1, e2, hf⟩ := j_bind hf
  refine x_put C dX12_feed_2 e2 fp_X12_1 rfl rfl ?_
  refine x_aload_n (v := a0) C dX12_feed_5 rfl ?_
  obtain ⟨v3, e4, hf⟩ := j_bind hf
  refine x_get C dX12_feed_6 (jgI_some e4) fg_X12_75 ?_
  refine x_bipush C dX12_feed_9 kb_20 ?_
  refine x_iadd C dX12_feed_11 ?_
  refine x_sipush C dX12_feed_12 ks_600 ?_
  refine x_icmp_le (tgt := 20) C dX12_feed_15 (by decide) (fun c27 => ?_) (fun c27 => ?_)
  · have hf := j_ifp hf c27
    refine x_aload_n (v := a0) C dX12_feed_20 rfl ?_
    refine x_iload_n (v := a1) C dX12_feed_21 rfl ?_
    obtain ⟨u25, e26, hf⟩ := j_bind hf
    obtain ⟨q5, e6, hf⟩ := j_bind hf
    refine x_callV (As := [.int a1]) (rest := []) C dX12_feed_22 (m_X12_puts (l := l) (E := E) (d := d - 1) (by omega) e6) km_X12_puts lk_X12_78 kv_X12_puts (ci := 9) rfl e26 rfl (by omega) (Nat.le_of_ble_eq_true rfl) (j_le_of (q_X12_puts e6)) (Or.inr (q_X12_puts e6)) ?_
    refine x_aload_n (v := a0) C dX12_feed_25 rfl ?_
    refine x_iload_n (v := a2) C dX12_feed_26 rfl ?_
    obtain ⟨u23, e24, hf⟩ := j_bind hf
    obtain ⟨q7, e8, hf⟩ := j_bind hf
    refine x_callV (As := [.int a2]) (rest := []) C dX12_feed_27 (m_X12_puts (l := l) (E := E) (d := d - 1) (by omega) e8) km_X12_puts lk_X12_78 kv_X12_puts (ci := 9) rfl e24 rfl (by omega) (Nat.le_of_ble_eq_true rfl) (j_le_of (q_X12_puts e8)) (Or.inr (q_X12_puts e8)) ?_
    refine x_aload_n (v := a0) C dX12_feed_30 rfl ?_
    refine x_iload_n (v := a3) C dX12_feed_31 rfl ?_
    obtain ⟨u21, e22, hf⟩ := j_bind hf
    obtain ⟨q9, e10, hf⟩ := j_bind hf
    refine x_callV (As := [.int a3]) (rest := []) C dX12_feed_32 (m_X12_puts (l := l) (E := E) (d := d - 1) (by omega) e10) km_X12_puts lk_X12_78 kv_X12_puts (ci := 9) rfl e22 rfl (by omega) (Nat.le_of_ble_eq_true rfl) (j_le_of (q_X12_puts e10)) (Or.inr (q_X12_puts e10)) ?_
    refine x_aload_n (v := a0) C dX12_feed_35 rfl ?_
    refine x_iload (v := a4) C dX12_feed_36 rfl ?_
    obtain ⟨u19, e20, hf⟩ := j_bind hf
    obtain ⟨q11, e12, hf⟩ := j_bind hf
    refine x_callV (As := [.int a4]) (rest := []) C dX12_feed_38 (m_X12_puts (l := l) (E := E) (d := d - 1) (by omega) e12) km_X12_puts lk_X12_78 kv_X12_puts (ci := 9) rfl e20 rfl (by omega) (Nat.le_of_ble_eq_true rfl) (j_le_of (q_X12_puts e12)) (Or.inr (q_X12_puts e12)) ?_
    refine x_aload_n (v := a0) C dX12_feed_41 rfl ?_
    refine x_iload (v := a5) C dX12_feed_42 rfl ?_
    obtain ⟨u17, e18, hf⟩ := j_bind hf
    obtain ⟨q13, e14, hf⟩ := j_bind hf
    refine x_callV (As := [.int a5]) (rest := []) C dX12_feed_44 (m_X12_puts (l := l) (E := E) (d := d - 1) (by omega) e14) km_X12_puts lk_X12_78 kv_X12_puts (ci := 9) rfl e18 rfl (by omega) (Nat.le_of_ble_eq_true rfl) (j_le_of (q_X12_puts e14)) (Or.inr (q_X12_puts e14)) ?_
    refine x_aload_n (v := a0) C dX12_feed_47 rfl ?_
    obtain ⟨v15, e16, hf⟩ := j_bind hf
    refine x_get C dX12_feed_48 (jgI_some e16) fg_X12_75 ?_
    obtain rfl := j_inj hf
    exact x_iret C hret dX12_feed_51
  · have hf := j_ifn hf c27
    refine x_iconst C dX12_feed_18 ki_m1 ?_
    obtain rfl := j_inj hf
    exact x_iret C hret dX12_feed_19
set_option maxHeartbeats 4000000 in
set_option maxRecDepth 100000 in
theorem m_X12_byteAt {l : Launch} {E : JE} {d : Nat} (hdd : 0 ≤ d) {a0 : Nat} {a1 : Int32} {h : JH} {q : Int32 × JH} (hf : f_X12_byteAt a0 a1 h = some q) : Con l E d yX12_byteAt cX12_byteAt 2 (some .int) [.ref a0, .int a1] h (some (.int q.1)) q.2 := by
  refine j_start rfl (Nat.le_of_ble_eq_true rfl) ?_
  intro p e s m args below meth c C hret hnm
  refine x_loc [(0, .ref a0), (1, .int a1)] rfl ?_
  unfold f_X12_byteAt at hf
  refine x_iload_n (v := a1) C dX12_byteAt_0 rfl ?_
  refine x_aload_n (v := a0) C dX12_byteAt_1 rfl ?_
  obtain ⟨v1, e2, hf⟩ := j_bind hf
  refine x_get C dX12_byteAt_2 (jgI_some e2) fg_X12_85 ?_
  refine x_icmp_ge (tgt := 21) C dX12_byteAt_5 (by decide) (fun c7 => ?_) (fun c7 => ?_)
  · have hf := j_ifp hf c7
    refine x_iconst C dX12_byteAt_21 ki_m1 ?_
    obtain rfl := j_inj hf
    exact x_iret C hret dX12_byteAt_22
  · have hf := j_ifn hf c7
    refine x_aload_n (v := a0) C dX12_byteAt_8 rfl ?_
    obtain ⟨v3, e4, hf⟩ := j_bind hf
    refine x_get C dX12_byteAt_9 (jgR_some e4) fg_X12_81 ?_
    refine x_iload_n (v := a1) C dX12_byteAt_12 rfl ?_
    obtain ⟨v5, e6, hf⟩ := j_bind hf
    refine x_bald C dX12_byteAt_13 e6 ?_
    refine x_sipush C dX12_byteAt_14 ks_255 ?_
    refine x_iand C dX12_byteAt_17 ?_
    refine x_goto (tgt := 22) C dX12_byteAt_18 (by decide) ?_
    obtain rfl := j_inj hf
    exact x_iret C hret dX12_byteAt_22
set_option maxHeartbeats 4000000 in
set_option maxRecDepth 100000 in
theorem m_X12_isSign {l : Launch} {E : JE} {d : Nat} (hdd : 0 ≤ d) {a0 : Int32} {h : JH} {q : Int32 × JH} (hf : f_X12_isSign a0 h = some q) : Con l E d yX12_isSign cX12_isSign 1 (some .boolean) [.int a0] h (some (.int q.1)) q.2 := by
  refine j_start rfl (Nat.le_of_ble_eq_true rfl) ?_
  intro p e s m args below meth c C hret hnm
  refine x_loc [(0, .int a0)] rfl ?_
  unfold f_X12_isSign at hf
  refine x_iload_n (v := a0) C dX12_isSign_0 rfl ?_
  refine x_bipush C dX12_isSign_1 kb_59 ?_
  refine x_icmp_eq (tgt := 42) C dX12_isSign_3 (by decide) (fun c1 => ?_) (fun c1 => ?_)
  · have hf := j_ifp hf c1
    refine x_iconst C dX12_isSign_42 ki_1 ?_
    refine x_goto (tgt := 47) C dX12_isSign_43 (by decide) ?_
    obtain rfl := j_inj hf
    exact x_zret C hret (Or.inr rfl) dX12_isSign_47
  · have hf := j_ifn hf c1
    refine x_iload_n (v := a0) C dX12_isSign_6 rfl ?_
    refine x_bipush C dX12_isSign_7 kb_43 ?_
    refine x_icmp_eq (tgt := 42) C dX12_isSign_9 (by decide) (fun c2 => ?_) (fun c2 => ?_)
    · have hf := j_ifp hf c2
      refine x_iconst C dX12_isSign_42 ki_1 ?_
      refine x_goto (tgt := 47) C dX12_isSign_43 (by decide) ?_
      obtain rfl := j_inj hf
      exact x_zret C hret (Or.inr rfl) dX12_isSign_47
    · have hf := j_ifn hf c2
      refine x_iload_n (v := a0) C dX12_isSign_12 rfl ?_
      refine x_bipush C dX12_isSign_13 kb_45 ?_
      refine x_icmp_eq (tgt := 42) C dX12_isSign_15 (by decide) (fun c3 => ?_) (fun c3 => ?_)
      · have hf := j_ifp hf c3
        refine x_iconst C dX12_isSign_42 ki_1 ?_
        refine x_goto (tgt := 47) C dX12_isSign_43 (by decide) ?_
        obtain rfl := j_inj hf
        exact x_zret C hret (Or.inr rfl) dX12_isSign_47
      · have hf := j_ifn hf c3
        refine x_iload_n (v := a0) C dX12_isSign_18 rfl ?_
        refine x_bipush C dX12_isSign_19 kb_42 ?_
        refine x_icmp_eq (tgt := 42) C dX12_isSign_21 (by decide) (fun c4 => ?_) (fun c4 => ?_)
        · have hf := j_ifp hf c4
          refine x_iconst C dX12_isSign_42 ki_1 ?_
          refine x_goto (tgt := 47) C dX12_isSign_43 (by decide) ?_
          obtain rfl := j_inj hf
          exact x_zret C hret (Or.inr rfl) dX12_isSign_47
        · have hf := j_ifn hf c4
          refine x_iload_n (v := a0) C dX12_isSign_24 rfl ?_
          refine x_bipush C dX12_isSign_25 kb_94 ?_
          refine x_icmp_eq (tgt := 42) C dX12_isSign_27 (by decide) (fun c5 => ?_) (fun c5 => ?_)
          · have hf := j_ifp hf c5
            refine x_iconst C dX12_isSign_42 ki_1 ?_
            refine x_goto (tgt := 47) C dX12_isSign_43 (by decide) ?_
            obtain rfl := j_inj hf
            exact x_zret C hret (Or.inr rfl) dX12_isSign_47
          · have hf := j_ifn hf c5
            refine x_iload_n (v := a0) C dX12_isSign_30 rfl ?_
            refine x_bipush C dX12_isSign_31 kb_40 ?_
            refine x_icmp_eq (tgt := 42) C dX12_isSign_33 (by decide) (fun c6 => ?_) (fun c6 => ?_)
            · have hf := j_ifp hf c6
              refine x_iconst C dX12_isSign_42 ki_1 ?_
              refine x_goto (tgt := 47) C dX12_isSign_43 (by decide) ?_
              obtain rfl := j_inj hf
              exact x_zret C hret (Or.inr rfl) dX12_isSign_47
            · have hf := j_ifn hf c6
              refine x_iload_n (v := a0) C dX12_isSign_36 rfl ?_
              refine x_bipush C dX12_isSign_37 kb_41 ?_
              refine x_icmp_ne (tgt := 46) C dX12_isSign_39 (by decide) (fun c7 => ?_) (fun c7 => ?_)
              · have hf := j_ifn hf c7
                refine x_iconst C dX12_isSign_46 ki_0 ?_
                obtain rfl := j_inj hf
                exact x_zret C hret (Or.inl rfl) dX12_isSign_47
              · have hf := j_ifp hf c7
                refine x_iconst C dX12_isSign_42 ki_1 ?_
                refine x_goto (tgt := 47) C dX12_isSign_43 (by decide) ?_
                obtain rfl := j_inj hf
                exact x_zret C hret (Or.inr rfl) dX12_isSign_47
set_option maxHeartbeats 4000000 in
set_option maxRecDepth 100000 in
theorem s_X12_go_L0 {p : Program} {l : Launch} {e : Env} {R : Room} {s : State} {m : MethodId} {args : Array Value} {below : List Frame} {meth : Method} {c : Code} {E : JE} {h0 hF : JH} {rF : Option Value} {d : Nat} (C : j_C p s m args meth c R E cX12_go 2 RX12 h0 hF d) (hret : meth.sig.returnType = none) (hdd : 1 ≤ d) (a0 : Nat) (z : Unit) (h : JH) (r : Unit ⊕ Unit) (h1 : JH) (hf : f_X12_go_L0 a0 z h = some (r, h1)) (hk : Sum.elim (fun z => Xw p l e R s m args below meth c E 2 h0 rF hF 0 [(0, .ref a0)] [] h1) (fun t => Xw p l e R s m args below meth c E 2 h0 rF hF 39 [(0, .ref a0)] [] h1) r) : Xw p l e R s m args below meth c E 2 h0 rF hF 0 [(0, .ref a0)] [] h := by
  unfold f_X12_go_L0 at hf
  refine x_aload_n (v := a0) C dX12_go_0 rfl ?_
  refine x_aload_n (v := a0) C dX12_go_1 rfl ?_
  obtain ⟨v1, e2, hf⟩ := j_bind hf
  refine x_get C dX12_go_2 (jgI_some e2) fg_X12_88 ?_
  obtain ⟨u19, e20, hf⟩ := j_bind hf
  obtain ⟨q3, e4, hf⟩ := j_bind hf
  refine x_callV (As := [.int v1]) (rest := []) C dX12_go_5 (m_X12_byteAt (l := l) (E := E) (d := d - 1) (by omega) e4) km_X12_byteAt lk_X12_91 kv_X12_byteAt (ci := 9) rfl e20 rfl (by omega) (Nat.le_of_ble_eq_true rfl) (j_le_of (q_X12_byteAt e4)) (Or.inr (q_X12_byteAt e4)) ?_
  refine x_bipush C dX12_go_8 kb_32 ?_
  refine x_icmp_eq (tgt := 26) C dX12_go_10 (by decide) (fun c21 => ?_) (fun c21 => ?_)
  · have hf := j_ifp hf c21
    refine x_aload_n (v := a0) C dX12_go_26 rfl ?_
    refine x_dup C dX12_go_27 rfl ?_
    obtain ⟨v5, e6, hf⟩ := j_bind hf
    refine x_get C dX12_go_28 (jgI_some e6) fg_X12_88 ?_
    refine x_iconst C dX12_go_31 ki_1 ?_
    refine x_iadd C dX12_go_32 ?_
    obtain ⟨h7, e8, hf⟩ := j_bind hf
    refine x_put C dX12_go_33 e8 fp_X12_88 rfl rfl ?_
    refine x_goto (tgt := 0) C dX12_go_36 (by decide) ?_
    obtain ⟨rfl, rfl⟩ := j_inj2 hf
    exact x_locr hk rfl
  · have hf := j_ifn hf c21
    refine x_aload_n (v := a0) C dX12_go_13 rfl ?_
    refine x_aload_n (v := a0) C dX12_go_14 rfl ?_
    obtain ⟨v9, e10, hf⟩ := j_bind hf
    refine x_get C dX12_go_15 (jgI_some e10) fg_X12_88 ?_
    obtain ⟨u17, e18, hf⟩ := j_bind hf
    obtain ⟨q11, e12, hf⟩ := j_bind hf
    refine x_callV (As := [.int v9]) (rest := []) C dX12_go_18 (m_X12_byteAt (l := l) (E := E) (d := d - 1) (by omega) e12) km_X12_byteAt lk_X12_91 kv_X12_byteAt (ci := 9) rfl e18 rfl (by omega) (Nat.le_of_ble_eq_true rfl) (j_le_of (q_X12_byteAt e12)) (Or.inr (q_X12_byteAt e12)) ?_
    refine x_bipush C dX12_go_21 kb_10 ?_
    refine x_icmp_ne (tgt := 39) C dX12_go_23 (by decide) (fun c22 => ?_) (fun c22 => ?_)
    · have hf := j_ifn hf c22
      obtain ⟨rfl, rfl⟩ := j_inj2 hf
      exact x_locr hk rfl
    · have hf := j_ifp hf c22
      refine x_aload_n (v := a0) C dX12_go_26 rfl ?_
      refine x_dup C dX12_go_27 rfl ?_
      obtain ⟨v13, e14, hf⟩ := j_bind hf
      refine x_get C dX12_go_28 (jgI_some e14) fg_X12_88 ?_
      refine x_iconst C dX12_go_31 ki_1 ?_
      refine x_iadd C dX12_go_32 ?_
      obtain ⟨h15, e16, hf⟩ := j_bind hf
      refine x_put C dX12_go_33 e16 fp_X12_88 rfl rfl ?_
      refine x_goto (tgt := 0) C dX12_go_36 (by decide) ?_
      obtain ⟨rfl, rfl⟩ := j_inj2 hf
      exact x_locr hk rfl
set_option maxHeartbeats 4000000 in
set_option maxRecDepth 100000 in
theorem s_X12_go_L134 {p : Program} {l : Launch} {e : Env} {R : Room} {s : State} {m : MethodId} {args : Array Value} {below : List Frame} {meth : Method} {c : Code} {E : JE} {h0 hF : JH} {rF : Option Value} {d : Nat} (C : j_C p s m args meth c R E cX12_go 2 RX12 h0 hF d) (hret : meth.sig.returnType = none) (hdd : 1 ≤ d) (a0 : Nat) (z : Unit) (h : JH) (r : Unit ⊕ Unit) (h1 : JH) (hf : f_X12_go_L134 a0 z h = some (r, h1)) (hk : Sum.elim (fun z => Xw p l e R s m args below meth c E 2 h0 rF hF 134 [(0, .ref a0)] [] h1) (fun t => Xw p l e R s m args below meth c E 2 h0 rF hF 206 [(0, .ref a0)] [] h1) r) : Xw p l e R s m args below meth c E 2 h0 rF hF 134 [(0, .ref a0)] [] h := by
  unfold f_X12_go_L134 at hf
  refine x_aload_n (v := a0) C dX12_go_134 rfl ?_
  refine x_aload_n (v := a0) C dX12_go_135 rfl ?_
  obtain ⟨v51, e52, hf⟩ := j_bind hf
  refine x_get C dX12_go_136 (jgI_some e52) fg_X12_88 ?_
  obtain ⟨u81, e82, hf⟩ := j_bind hf
  obtain ⟨q53, e54, hf⟩ := j_bind hf
  refine x_callV (As := [.int v51]) (rest := []) C dX12_go_139 (m_X12_byteAt (l := l) (E := E) (d := d - 1) (by omega) e54) km_X12_byteAt lk_X12_91 kv_X12_byteAt (ci := 9) rfl e82 rfl (by omega) (Nat.le_of_ble_eq_true rfl) (j_le_of (q_X12_byteAt e54)) (Or.inr (q_X12_byteAt e54)) ?_
  refine x_bipush C dX12_go_142 kb_48 ?_
  refine x_bipush C dX12_go_144 kb_57 ?_
  obtain ⟨q55, e56, hf⟩ := j_bind hf
  refine x_callS (As := [.int q53.1, .int (48 : Int32), .int (57 : Int32)]) (rest := []) C dX12_go_146 (m_X12_within (l := l) (E := E) (d := d - 1) (by omega) e56) km_X12_within lk_X12_45 ks_X12_within rfl (by omega) (Nat.le_of_ble_eq_true rfl) (j_le_of (q_X12_within e56)) (Or.inr (q_X12_within e56)) ?_
  refine x_if_eq (tgt := 206) C dX12_go_149 (by decide) (fun c83 => ?_) (fun c83 => ?_)
  · have hf := j_ifp hf c83
    obtain ⟨rfl, rfl⟩ := j_inj2 hf
    exact x_locr hk rfl
  · have hf := j_ifn hf c83
    refine x_aload_n (v := a0) C dX12_go_152 rfl ?_
    refine x_aload_n (v := a0) C dX12_go_153 rfl ?_
    obtain ⟨v57, e58, hf⟩ := j_bind hf
    refine x_get C dX12_go_154 (jgI_some e58) fg_X12_88 ?_
    refine x_aload_n (v := a0) C dX12_go_157 rfl ?_
    obtain ⟨v59, e60, hf⟩ := j_bind hf
    refine x_get C dX12_go_158 (jgI_some e60) fg_X12_94 ?_
    refine x_isub C dX12_go_161 ?_
    refine x_iconst C dX12_go_162 ki_4 ?_
    refine x_icmp_ge (tgt := 188) C dX12_go_163 (by decide) (fun c84 => ?_) (fun c84 => ?_)
    · have hf := j_ifp hf c84
      refine x_ldc C dX12_go_188 cn_X12_103 ?_
      obtain ⟨h61, e62, hf⟩ := j_bind hf
      refine x_put C dX12_go_190 e62 fp_X12_100 rfl rfl ?_
      refine x_aload_n (v := a0) C dX12_go_193 rfl ?_
      refine x_dup C dX12_go_194 rfl ?_
      obtain ⟨v63, e64, hf⟩ := j_bind hf
      refine x_get C dX12_go_195 (jgI_some e64) fg_X12_88 ?_
      refine x_iconst C dX12_go_198 ki_1 ?_
      refine x_iadd C dX12_go_199 ?_
      obtain ⟨h65, e66, hf⟩ := j_bind hf
      refine x_put C dX12_go_200 e66 fp_X12_88 rfl rfl ?_
      refine x_goto (tgt := 134) C dX12_go_203 (by decide) ?_
      obtain ⟨rfl, rfl⟩ := j_inj2 hf
      exact x_locr hk rfl
    · have hf := j_ifn hf c84
      refine x_bipush C dX12_go_166 kb_10 ?_
      refine x_aload_n (v := a0) C dX12_go_168 rfl ?_
      obtain ⟨v67, e68, hf⟩ := j_bind hf
      refine x_get C dX12_go_169 (jgI_some e68) fg_X12_100 ?_
      refine x_imul C dX12_go_172 ?_
      refine x_aload_n (v := a0) C dX12_go_173 rfl ?_
      refine x_aload_n (v := a0) C dX12_go_174 rfl ?_
      obtain ⟨v69, e70, hf⟩ := j_bind hf
      refine x_get C dX12_go_175 (jgI_some e70) fg_X12_88 ?_
      obtain ⟨u79, e80, hf⟩ := j_bind hf
      obtain ⟨q71, e72, hf⟩ := j_bind hf
      refine x_callV (As := [.int v69]) (rest := [.int ((10 : Int32) * v67), .ref a0]) C dX12_go_178 (m_X12_byteAt (l := l) (E := E) (d := d - 1) (by omega) e72) km_X12_byteAt lk_X12_91 kv_X12_byteAt (ci := 9) rfl e80 rfl (by omega) (Nat.le_of_ble_eq_true rfl) (j_le_of (q_X12_byteAt e72)) (Or.inr (q_X12_byteAt e72)) ?_
      refine x_iadd C dX12_go_181 ?_
      refine x_bipush C dX12_go_182 kb_48 ?_
      refine x_isub C dX12_go_184 ?_
      refine x_goto (tgt := 190) C dX12_go_185 (by decide) ?_
      obtain ⟨h73, e74, hf⟩ := j_bind hf
      refine x_put C dX12_go_190 e74 fp_X12_100 rfl rfl ?_
      refine x_aload_n (v := a0) C dX12_go_193 rfl ?_
      refine x_dup C dX12_go_194 rfl ?_
      obtain ⟨v75, e76, hf⟩ := j_bind hf
      refine x_get C dX12_go_195 (jgI_some e76) fg_X12_88 ?_
      refine x_iconst C dX12_go_198 ki_1 ?_
      refine x_iadd C dX12_go_199 ?_
      obtain ⟨h77, e78, hf⟩ := j_bind hf
      refine x_put C dX12_go_200 e78 fp_X12_88 rfl rfl ?_
      refine x_goto (tgt := 134) C dX12_go_203 (by decide) ?_
      obtain ⟨rfl, rfl⟩ := j_inj2 hf
      exact x_locr hk rfl
set_option maxHeartbeats 4000000 in
set_option maxRecDepth 100000 in
theorem s_X12_go_L79 {p : Program} {l : Launch} {e : Env} {R : Room} {s : State} {m : MethodId} {args : Array Value} {below : List Frame} {meth : Method} {c : Code} {E : JE} {h0 hF : JH} {rF : Option Value} {d : Nat} (C : j_C p s m args meth c R E cX12_go 2 RX12 h0 hF d) (hret : meth.sig.returnType = none) (hdd : 1 ≤ d) (a0 : Nat) (z : Unit) (h : JH) (r : Unit ⊕ Unit) (h1 : JH) (hf : f_X12_go_L79 a0 z h = some (r, h1)) (hk : Sum.elim (fun z => Xw p l e R s m args below meth c E 2 h0 rF hF 79 [(0, .ref a0)] [] h1) (fun t => Xw p l e R s m args below meth c E 2 h0 rF hF 110 [(0, .ref a0)] [] h1) r) : Xw p l e R s m args below meth c E 2 h0 rF hF 79 [(0, .ref a0)] [] h := by
  unfold f_X12_go_L79 at hf
  refine x_aload_n (v := a0) C dX12_go_79 rfl ?_
  refine x_aload_n (v := a0) C dX12_go_80 rfl ?_
  obtain ⟨v89, e90, hf⟩ := j_bind hf
  refine x_get C dX12_go_81 (jgI_some e90) fg_X12_88 ?_
  obtain ⟨u99, e100, hf⟩ := j_bind hf
  obtain ⟨q91, e92, hf⟩ := j_bind hf
  refine x_callV (As := [.int v89]) (rest := []) C dX12_go_84 (m_X12_byteAt (l := l) (E := E) (d := d - 1) (by omega) e92) km_X12_byteAt lk_X12_91 kv_X12_byteAt (ci := 9) rfl e100 rfl (by omega) (Nat.le_of_ble_eq_true rfl) (j_le_of (q_X12_byteAt e92)) (Or.inr (q_X12_byteAt e92)) ?_
  refine x_bipush C dX12_go_87 kb_97 ?_
  refine x_bipush C dX12_go_89 kb_122 ?_
  obtain ⟨q93, e94, hf⟩ := j_bind hf
  refine x_callS (As := [.int q91.1, .int (97 : Int32), .int (122 : Int32)]) (rest := []) C dX12_go_91 (m_X12_within (l := l) (E := E) (d := d - 1) (by omega) e94) km_X12_within lk_X12_45 ks_X12_within rfl (by omega) (Nat.le_of_ble_eq_true rfl) (j_le_of (q_X12_within e94)) (Or.inr (q_X12_within e94)) ?_
  refine x_if_eq (tgt := 110) C dX12_go_94 (by decide) (fun c101 => ?_) (fun c101 => ?_)
  · have hf := j_ifp hf c101
    obtain ⟨rfl, rfl⟩ := j_inj2 hf
    exact x_locr hk rfl
  · have hf := j_ifn hf c101
    refine x_aload_n (v := a0) C dX12_go_97 rfl ?_
    refine x_dup C dX12_go_98 rfl ?_
    obtain ⟨v95, e96, hf⟩ := j_bind hf
    refine x_get C dX12_go_99 (jgI_some e96) fg_X12_88 ?_
    refine x_iconst C dX12_go_102 ki_1 ?_
    refine x_iadd C dX12_go_103 ?_
    obtain ⟨h97, e98, hf⟩ := j_bind hf
    refine x_put C dX12_go_104 e98 fp_X12_88 rfl rfl ?_
    refine x_goto (tgt := 79) C dX12_go_107 (by decide) ?_
    obtain ⟨rfl, rfl⟩ := j_inj2 hf
    exact x_locr hk rfl
set_option maxHeartbeats 4000000 in
set_option maxRecDepth 100000 in
theorem m_X12_go {l : Launch} {E : JE} {d : Nat} (hdd : 1 ≤ d) {a0 : Nat} {h : JH} {q : Unit × JH} (hf : f_X12_go a0 h = some q) : Con l E d yX12_go cX12_go 2 none [.ref a0] h (none) q.2 := by
  refine j_start rfl (Nat.le_of_ble_eq_true rfl) ?_
  intro p e s m args below meth c C hret hnm
  refine x_loc [(0, .ref a0)] rfl ?_
  unfold f_X12_go at hf
  obtain ⟨q23, e24, hf⟩ := j_bind hf
  refine x_loc [(0, .ref a0)] rfl ?_
  refine x_loop (s_X12_go_L0 C hret hdd a0) e24 ?_
  refine x_aload_n (v := a0) C dX12_go_39 rfl ?_
  refine x_aload_n (v := a0) C dX12_go_40 rfl ?_
  obtain ⟨v25, e26, hf⟩ := j_bind hf
  refine x_get C dX12_go_41 (jgI_some e26) fg_X12_88 ?_
  obtain ⟨h27, e28, hf⟩ := j_bind hf
  refine x_put C dX12_go_44 e28 fp_X12_94 rfl rfl ?_
  refine x_aload_n (v := a0) C dX12_go_47 rfl ?_
  refine x_aload_n (v := a0) C dX12_go_48 rfl ?_
  obtain ⟨v29, e30, hf⟩ := j_bind hf
  refine x_get C dX12_go_49 (jgI_some e30) fg_X12_88 ?_
  obtain ⟨u108, e109, hf⟩ := j_bind hf
  obtain ⟨q31, e32, hf⟩ := j_bind hf
  refine x_callV (As := [.int v29]) (rest := []) C dX12_go_52 (m_X12_byteAt (l := l) (E := E) (d := d - 1) (by omega) e32) km_X12_byteAt lk_X12_91 kv_X12_byteAt (ci := 9) rfl e109 rfl (by omega) (Nat.le_of_ble_eq_true rfl) (j_le_of (q_X12_byteAt e32)) (Or.inr (q_X12_byteAt e32)) ?_
  refine x_istore_n C dX12_go_55 (by decide) ?_
  refine x_iload_n (v := q31.1) C dX12_go_56 rfl ?_
  refine x_if_ge (tgt := 68) C dX12_go_57 (by decide) (fun c110 => ?_) (fun c110 => ?_)
  · have hf := j_ifp hf c110
    refine x_iload_n (v := q31.1) C dX12_go_68 rfl ?_
    refine x_bipush C dX12_go_69 kb_97 ?_
    refine x_bipush C dX12_go_71 kb_122 ?_
    obtain ⟨q33, e34, hf⟩ := j_bind hf
    refine x_callS (As := [.int q31.1, .int (97 : Int32), .int (122 : Int32)]) (rest := []) C dX12_go_73 (m_X12_within (l := l) (E := E) (d := d - 1) (by omega) e34) km_X12_within lk_X12_45 ks_X12_within rfl (by omega) (Nat.le_of_ble_eq_true rfl) (j_le_of (q_X12_within e34)) (Or.inr (q_X12_within e34)) ?_
    refine x_if_eq (tgt := 118) C dX12_go_76 (by decide) (fun c111 => ?_) (fun c111 => ?_)
    · have hf := j_ifp hf c111
      refine x_iload_n (v := q31.1) C dX12_go_118 rfl ?_
      refine x_bipush C dX12_go_119 kb_48 ?_
      refine x_bipush C dX12_go_121 kb_57 ?_
      obtain ⟨q35, e36, hf⟩ := j_bind hf
      refine x_callS (As := [.int q31.1, .int (48 : Int32), .int (57 : Int32)]) (rest := []) C dX12_go_123 (m_X12_within (l := l) (E := E) (d := d - 1) (by omega) e36) km_X12_within lk_X12_45 ks_X12_within rfl (by omega) (Nat.le_of_ble_eq_true rfl) (j_le_of (q_X12_within e36)) (Or.inr (q_X12_within e36)) ?_
      refine x_if_eq (tgt := 214) C dX12_go_126 (by decide) (fun c112 => ?_) (fun c112 => ?_)
      · have hf := j_ifp hf c112
        refine x_aload_n (v := a0) C dX12_go_214 rfl ?_
        refine x_dup C dX12_go_215 rfl ?_
        obtain ⟨v37, e38, hf⟩ := j_bind hf
        refine x_get C dX12_go_216 (jgI_some e38) fg_X12_88 ?_
        refine x_iconst C dX12_go_219 ki_1 ?_
        refine x_iadd C dX12_go_220 ?_
        obtain ⟨h39, e40, hf⟩ := j_bind hf
        refine x_put C dX12_go_221 e40 fp_X12_88 rfl rfl ?_
        refine x_aload_n (v := a0) C dX12_go_224 rfl ?_
        refine x_iload_n (v := q31.1) C dX12_go_225 rfl ?_
        obtain ⟨h41, e42, hf⟩ := j_bind hf
        refine x_put C dX12_go_226 e42 fp_X12_100 rfl rfl ?_
        refine x_aload_n (v := a0) C dX12_go_229 rfl ?_
        refine x_iload_n (v := q31.1) C dX12_go_230 rfl ?_
        obtain ⟨q43, e44, hf⟩ := j_bind hf
        refine x_callS (As := [.int q31.1]) (rest := [.ref a0]) C dX12_go_231 (m_X12_isSign (l := l) (E := E) (d := d - 1) (by omega) e44) km_X12_isSign lk_X12_104 ks_X12_isSign rfl (by omega) (Nat.le_of_ble_eq_true rfl) (j_le_of (q_X12_isSign e44)) (Or.inr (q_X12_isSign e44)) ?_
        refine x_if_eq (tgt := 241) C dX12_go_234 (by decide) (fun c113 => ?_) (fun c113 => ?_)
        · have hf := j_ifp hf c113
          refine x_iconst C dX12_go_241 ki_4 ?_
          obtain ⟨h45, e46, hf⟩ := j_bind hf
          refine x_put C dX12_go_242 e46 fp_X12_97 rfl rfl ?_
          obtain rfl := j_inj hf
          exact x_vret C hret dX12_go_245
        · have hf := j_ifn hf c113
          refine x_iconst C dX12_go_237 ki_3 ?_
          refine x_goto (tgt := 242) C dX12_go_238 (by decide) ?_
          obtain ⟨h47, e48, hf⟩ := j_bind hf
          refine x_put C dX12_go_242 e48 fp_X12_97 rfl rfl ?_
          obtain rfl := j_inj hf
          exact x_vret C hret dX12_go_245
      · have hf := j_ifn hf c112
        refine x_aload_n (v := a0) C dX12_go_129 rfl ?_
        refine x_iconst C dX12_go_130 ki_0 ?_
        obtain ⟨h49, e50, hf⟩ := j_bind hf
        refine x_put C dX12_go_131 e50 fp_X12_100 rfl rfl ?_
        obtain ⟨q85, e86, hf⟩ := j_bind hf
        refine x_loc [(0, .ref a0)] rfl ?_
        refine x_loop (s_X12_go_L134 C hret hdd a0) e86 ?_
        refine x_aload_n (v := a0) C dX12_go_206 rfl ?_
        refine x_iconst C dX12_go_207 ki_2 ?_
        obtain ⟨h87, e88, hf⟩ := j_bind hf
        refine x_put C dX12_go_208 e88 fp_X12_97 rfl rfl ?_
        refine x_goto (tgt := 245) C dX12_go_211 (by decide) ?_
        obtain rfl := j_inj hf
        exact x_vret C hret dX12_go_245
    · have hf := j_ifn hf c111
      obtain ⟨q102, e103, hf⟩ := j_bind hf
      refine x_loc [(0, .ref a0)] rfl ?_
      refine x_loop (s_X12_go_L79 C hret hdd a0) e103 ?_
      refine x_aload_n (v := a0) C dX12_go_110 rfl ?_
      refine x_iconst C dX12_go_111 ki_1 ?_
      obtain ⟨h104, e105, hf⟩ := j_bind hf
      refine x_put C dX12_go_112 e105 fp_X12_97 rfl rfl ?_
      refine x_goto (tgt := 245) C dX12_go_115 (by decide) ?_
      obtain rfl := j_inj hf
      exact x_vret C hret dX12_go_245
  · have hf := j_ifn hf c110
    refine x_aload_n (v := a0) C dX12_go_60 rfl ?_
    refine x_iconst C dX12_go_61 ki_0 ?_
    obtain ⟨h106, e107, hf⟩ := j_bind hf
    refine x_put C dX12_go_62 e107 fp_X12_97 rfl rfl ?_
    refine x_goto (tgt := 245) C dX12_go_65 (by decide) ?_
    obtain rfl := j_inj hf
    exact x_vret C hret dX12_go_245
set_option maxHeartbeats 4000000 in
set_option maxRecDepth 100000 in
theorem m_X12_badAt {l : Launch} {E : JE} {d : Nat} (hdd : 0 ≤ d) {a0 : Nat} {a1 : Int32} {a2 : Int32} {h : JH} {q : Int32 × JH} (hf : f_X12_badAt a0 a1 a2 h = some q) : Con l E d yX12_badAt cX12_badAt 3 (some .boolean) [.ref a0, .int a1, .int a2] h (some (.int q.1)) q.2 := by
  refine j_start rfl (Nat.le_of_ble_eq_true rfl) ?_
  intro p e s m args below meth c C hret hnm
  refine x_loc [(0, .ref a0), (1, .int a1), (2, .int a2)] rfl ?_
  unfold f_X12_badAt at hf
  refine x_aload_n (v := a0) C dX12_badAt_0 rfl ?_
  refine x_aload_n (v := a0) C dX12_badAt_1 rfl ?_
  obtain ⟨v1, e2, hf⟩ := j_bind hf
  refine x_get C dX12_badAt_2 (jgI_some e2) fg_X12_108 ?_
  refine x_if_ne (tgt := 17) C dX12_badAt_5 (by decide) (fun c9 => ?_) (fun c9 => ?_)
  · have hf := j_ifn hf c9
    refine x_aload_n (v := a0) C dX12_badAt_17 rfl ?_
    obtain ⟨v3, e4, hf⟩ := j_bind hf
    refine x_get C dX12_badAt_18 (jgI_some e4) fg_X12_108 ?_
    obtain ⟨h5, e6, hf⟩ := j_bind hf
    refine x_put C dX12_badAt_21 e6 fp_X12_108 rfl rfl ?_
    refine x_iconst C dX12_badAt_24 ki_0 ?_
    obtain rfl := j_inj hf
    exact x_zret C hret (Or.inl rfl) dX12_badAt_25
  · have hf := j_ifp hf c9
    refine x_bipush C dX12_badAt_8 kb_8 ?_
    refine x_iload_n (v := a1) C dX12_badAt_10 rfl ?_
    refine x_imul C dX12_badAt_11 ?_
    refine x_iload_n (v := a2) C dX12_badAt_12 rfl ?_
    refine x_iadd C dX12_badAt_13 ?_
    refine x_goto (tgt := 21) C dX12_badAt_14 (by decide) ?_
    obtain ⟨h7, e8, hf⟩ := j_bind hf
    refine x_put C dX12_badAt_21 e8 fp_X12_108 rfl rfl ?_
    refine x_iconst C dX12_badAt_24 ki_0 ?_
    obtain rfl := j_inj hf
    exact x_zret C hret (Or.inl rfl) dX12_badAt_25
set_option maxHeartbeats 4000000 in
set_option maxRecDepth 100000 in
theorem m_X12_bad {l : Launch} {E : JE} {d : Nat} (hdd : 1 ≤ d) {a0 : Nat} {a1 : Int32} {h : JH} {q : Int32 × JH} (hf : f_X12_bad a0 a1 h = some q) : Con l E d yX12_bad cX12_bad 2 (some .boolean) [.ref a0, .int a1] h (some (.int q.1)) q.2 := by
  refine j_start rfl (Nat.le_of_ble_eq_true rfl) ?_
  intro p e s m args below meth c C hret hnm
  refine x_loc [(0, .ref a0), (1, .int a1)] rfl ?_
  unfold f_X12_bad at hf
  refine x_aload_n (v := a0) C dX12_bad_0 rfl ?_
  refine x_aload_n (v := a0) C dX12_bad_1 rfl ?_
  obtain ⟨v1, e2, hf⟩ := j_bind hf
  refine x_get C dX12_bad_2 (jgI_some e2) fg_X12_94 ?_
  refine x_iload_n (v := a1) C dX12_bad_5 rfl ?_
  obtain ⟨u7, e8, hf⟩ := j_bind hf
  obtain ⟨q3, e4, hf⟩ := j_bind hf
  refine x_callV (As := [.int v1, .int a1]) (rest := []) C dX12_bad_6 (m_X12_badAt (l := l) (E := E) (d := d - 1) (by omega) e4) km_X12_badAt lk_X12_111 kv_X12_badAt (ci := 9) rfl e8 rfl (by omega) (Nat.le_of_ble_eq_true rfl) (j_le_of (q_X12_badAt e4)) (Or.inr (q_X12_badAt e4)) ?_
  obtain ⟨u5, e6, hf⟩ := j_bind hf
  obtain rfl := j_inj hf
  exact x_zret C hret (jzb_some e6) dX12_bad_9
set_option maxHeartbeats 4000000 in
set_option maxRecDepth 100000 in
theorem m_X12_is {l : Launch} {E : JE} {d : Nat} (hdd : 0 ≤ d) {a0 : Nat} {a1 : Int32} {h : JH} {q : Int32 × JH} (hf : f_X12_is a0 a1 h = some q) : Con l E d yX12_is cX12_is 2 (some .boolean) [.ref a0, .int a1] h (some (.int q.1)) q.2 := by
  refine j_start rfl (Nat.le_of_ble_eq_true rfl) ?_
  intro p e s m args below meth c C hret hnm
  refine x_loc [(0, .ref a0), (1, .int a1)] rfl ?_
  unfold f_X12_is at hf
  refine x_aload_n (v := a0) C dX12_is_0 rfl ?_
  obtain ⟨v1, e2, hf⟩ := j_bind hf
  refine x_get C dX12_is_1 (jgI_some e2) fg_X12_97 ?_
  refine x_iconst C dX12_is_4 ki_3 ?_
  refine x_icmp_ne (tgt := 20) C dX12_is_5 (by decide) (fun c5 => ?_) (fun c5 => ?_)
  · have hf := j_ifn hf c5
    refine x_iconst C dX12_is_20 ki_0 ?_
    obtain rfl := j_inj hf
    exact x_zret C hret (Or.inl rfl) dX12_is_21
  · have hf := j_ifp hf c5
    refine x_aload_n (v := a0) C dX12_is_8 rfl ?_
    obtain ⟨v3, e4, hf⟩ := j_bind hf
    refine x_get C dX12_is_9 (jgI_some e4) fg_X12_100 ?_
    refine x_iload_n (v := a1) C dX12_is_12 rfl ?_
    refine x_icmp_ne (tgt := 20) C dX12_is_13 (by decide) (fun c6 => ?_) (fun c6 => ?_)
    · have hf := j_ifn hf c6
      refine x_iconst C dX12_is_20 ki_0 ?_
      obtain rfl := j_inj hf
      exact x_zret C hret (Or.inl rfl) dX12_is_21
    · have hf := j_ifp hf c6
      refine x_iconst C dX12_is_16 ki_1 ?_
      refine x_goto (tgt := 21) C dX12_is_17 (by decide) ?_
      obtain rfl := j_inj hf
      exact x_zret C hret (Or.inr rfl) dX12_is_21
set_option maxHeartbeats 4000000 in
set_option maxRecDepth 100000 in
theorem m_X12_sign {l : Launch} {E : JE} {d : Nat} (hdd : 2 ≤ d) {a0 : Nat} {a1 : Int32} {h : JH} {q : Int32 × JH} (hf : f_X12_sign a0 a1 h = some q) : Con l E d yX12_sign cX12_sign 2 (some .boolean) [.ref a0, .int a1] h (some (.int q.1)) q.2 := by
  refine j_start rfl (Nat.le_of_ble_eq_true rfl) ?_
  intro p e s m args below meth c C hret hnm
  refine x_loc [(0, .ref a0), (1, .int a1)] rfl ?_
  unfold f_X12_sign at hf
  refine x_aload_n (v := a0) C dX12_sign_0 rfl ?_
  refine x_iload_n (v := a1) C dX12_sign_1 rfl ?_
  obtain ⟨u13, e14, hf⟩ := j_bind hf
  obtain ⟨q1, e2, hf⟩ := j_bind hf
  refine x_callV (As := [.int a1]) (rest := []) C dX12_sign_2 (m_X12_is (l := l) (E := E) (d := d - 1) (by omega) e2) km_X12_is lk_X12_115 kv_X12_is (ci := 9) rfl e14 rfl (by omega) (Nat.le_of_ble_eq_true rfl) (j_le_of (q_X12_is e2)) (Or.inr (q_X12_is e2)) ?_
  refine x_if_ne (tgt := 14) C dX12_sign_5 (by decide) (fun c15 => ?_) (fun c15 => ?_)
  · have hf := j_ifn hf c15
    refine x_aload_n (v := a0) C dX12_sign_14 rfl ?_
    obtain ⟨u5, e6, hf⟩ := j_bind hf
    obtain ⟨q3, e4, hf⟩ := j_bind hf
    refine x_callV (As := []) (rest := []) C dX12_sign_15 (m_X12_go (l := l) (E := E) (d := d - 1) (by omega) e4) km_X12_go lk_X12_121 kv_X12_go (ci := 9) rfl e6 rfl (by omega) (Nat.le_of_ble_eq_true rfl) (j_le_of (q_X12_go e4)) (Or.inr (q_X12_go e4)) ?_
    refine x_iconst C dX12_sign_18 ki_1 ?_
    obtain rfl := j_inj hf
    exact x_zret C hret (Or.inr rfl) dX12_sign_19
  · have hf := j_ifp hf c15
    refine x_aload_n (v := a0) C dX12_sign_8 rfl ?_
    refine x_iconst C dX12_sign_9 ki_1 ?_
    obtain ⟨u11, e12, hf⟩ := j_bind hf
    obtain ⟨q7, e8, hf⟩ := j_bind hf
    refine x_callV (As := [.int (1 : Int32)]) (rest := []) C dX12_sign_10 (m_X12_bad (l := l) (E := E) (d := d - 1) (by omega) e8) km_X12_bad lk_X12_118 kv_X12_bad (ci := 9) rfl e12 rfl (by omega) (Nat.le_of_ble_eq_true rfl) (j_le_of (q_X12_bad e8)) (Or.inr (q_X12_bad e8)) ?_
    obtain ⟨u9, e10, hf⟩ := j_bind hf
    obtain rfl := j_inj hf
    exact x_zret C hret (jzb_some e10) dX12_sign_13
set_option maxHeartbeats 4000000 in
set_option maxRecDepth 100000 in
theorem t_X12_isWord_J162 {p : Program} {l : Launch} {e : Env} {R : Room} {s : State} {m : MethodId} {args : Array Value} {below : List Frame} {meth : Method} {c : Code} {E : JE} {h0 : JH} {d : Nat} {b0 : Int32} {h : JH} {q : Int32 × JH} (C : j_C p s m args meth c R E cX12_isWord 8 RX12 h0 q.2 d) (hret : meth.sig.returnType = (some .boolean)) (hdd : 1 ≤ d) (hf : f_X12_isWord_J162 b0 h = some q) : Xw p l e R s m args below meth c E 8 h0 (some (.int q.1)) q.2 162 [] [.int b0] h := by
  unfold f_X12_isWord_J162 at hf
  obtain ⟨u7, e8, hf⟩ := j_bind hf
  obtain rfl := j_inj hf
  exact x_zret C hret (jzb_some e8) dX12_isWord_162
set_option maxHeartbeats 4000000 in
set_option maxRecDepth 100000 in
theorem t_X12_isWord_J161 {p : Program} {l : Launch} {e : Env} {R : Room} {s : State} {m : MethodId} {args : Array Value} {below : List Frame} {meth : Method} {c : Code} {E : JE} {h0 : JH} {d : Nat}  {h : JH} {q : Int32 × JH} (C : j_C p s m args meth c R E cX12_isWord 8 RX12 h0 q.2 d) (hret : meth.sig.returnType = (some .boolean)) (hdd : 1 ≤ d) (hf : f_X12_isWord_J161  h = some q) : Xw p l e R s m args below meth c E 8 h0 (some (.int q.1)) q.2 161 [] [] h := by
  unfold f_X12_isWord_J161 at hf
  refine x_iconst C dX12_isWord_161 ki_0 ?_
  refine x_loc [] rfl ?_
  exact t_X12_isWord_J162 C hret hdd hf
set_option maxHeartbeats 4000000 in
set_option maxRecDepth 100000 in
theorem t_X12_isWord_J145 {p : Program} {l : Launch} {e : Env} {R : Room} {s : State} {m : MethodId} {args : Array Value} {below : List Frame} {meth : Method} {c : Code} {E : JE} {h0 : JH} {d : Nat} {a5 : Int32} {a6 : Int32} {b0 : Int32} {h : JH} {q : Int32 × JH} (C : j_C p s m args meth c R E cX12_isWord 8 RX12 h0 q.2 d) (hret : meth.sig.returnType = (some .boolean)) (hdd : 1 ≤ d) (hf : f_X12_isWord_J145 a5 a6 b0 h = some q) : Xw p l e R s m args below meth c E 8 h0 (some (.int q.1)) q.2 145 [(5, .int a5), (6, .int a6)] [.int b0] h := by
  unfold f_X12_isWord_J145 at hf
  refine x_iload (v := a5) C dX12_isWord_145 rfl ?_
  refine x_icmp_ne (tgt := 161) C dX12_isWord_147 (by decide) (fun c9 => ?_) (fun c9 => ?_)
  · have hf := j_ifn hf c9
    refine x_loc [] rfl ?_
    exact t_X12_isWord_J161 C hret hdd hf
  · have hf := j_ifp hf c9
    refine x_iload (v := a6) C dX12_isWord_150 rfl ?_
    refine x_bipush C dX12_isWord_152 kb_6 ?_
    refine x_icmp_ge (tgt := 161) C dX12_isWord_154 (by decide) (fun c10 => ?_) (fun c10 => ?_)
    · have hf := j_ifp hf c10
      refine x_loc [] rfl ?_
      exact t_X12_isWord_J161 C hret hdd hf
    · have hf := j_ifn hf c10
      refine x_iconst C dX12_isWord_157 ki_1 ?_
      refine x_goto (tgt := 162) C dX12_isWord_158 (by decide) ?_
      refine x_loc [] rfl ?_
      exact t_X12_isWord_J162 C hret hdd hf
set_option maxHeartbeats 4000000 in
set_option maxRecDepth 100000 in
theorem t_X12_isWord_J120 {p : Program} {l : Launch} {e : Env} {R : Room} {s : State} {m : MethodId} {args : Array Value} {below : List Frame} {meth : Method} {c : Code} {E : JE} {h0 : JH} {d : Nat} {a0 : Nat} {a4 : Int32} {a5 : Int32} {a6 : Int32} {b0 : Int32} {h : JH} {q : Int32 × JH} (C : j_C p s m args meth c R E cX12_isWord 8 RX12 h0 q.2 d) (hret : meth.sig.returnType = (some .boolean)) (hdd : 1 ≤ d) (hf : f_X12_isWord_J120 a0 a4 a5 a6 b0 h = some q) : Xw p l e R s m args below meth c E 8 h0 (some (.int q.1)) q.2 120 [(0, .ref a0), (4, .int a4), (5, .int a5), (6, .int a6)] [.int b0] h := by
  unfold f_X12_isWord_J120 at hf
  refine x_iload (v := a4) C dX12_isWord_120 rfl ?_
  refine x_icmp_ne (tgt := 161) C dX12_isWord_122 (by decide) (fun c17 => ?_) (fun c17 => ?_)
  · have hf := j_ifn hf c17
    refine x_loc [] rfl ?_
    exact t_X12_isWord_J161 C hret hdd hf
  · have hf := j_ifp hf c17
    refine x_iload (v := a6) C dX12_isWord_125 rfl ?_
    refine x_iconst C dX12_isWord_127 ki_4 ?_
    refine x_icmp_le (tgt := 144) C dX12_isWord_128 (by decide) (fun c18 => ?_) (fun c18 => ?_)
    · have hf := j_ifp hf c18
      refine x_iconst C dX12_isWord_144 ki_0 ?_
      refine x_loc [(5, .int a5), (6, .int a6)] rfl ?_
      exact t_X12_isWord_J145 C hret hdd hf
    · have hf := j_ifn hf c18
      refine x_aload_n (v := a0) C dX12_isWord_131 rfl ?_
      refine x_aload_n (v := a0) C dX12_isWord_132 rfl ?_
      obtain ⟨v11, e12, hf⟩ := j_bind hf
      refine x_get C dX12_isWord_133 (jgI_some e12) fg_X12_94 ?_
      refine x_iconst C dX12_isWord_136 ki_4 ?_
      refine x_iadd C dX12_isWord_137 ?_
      obtain ⟨u15, e16, hf⟩ := j_bind hf
      obtain ⟨q13, e14, hf⟩ := j_bind hf
      refine x_callV (As := [.int (v11 + (4 : Int32))]) (rest := []) C dX12_isWord_138 (m_X12_byteAt (l := l) (E := E) (d := d - 1) (by omega) e14) km_X12_byteAt lk_X12_91 kv_X12_byteAt (ci := 9) rfl e16 rfl (by omega) (Nat.le_of_ble_eq_true rfl) (j_le_of (q_X12_byteAt e14)) (Or.inr (q_X12_byteAt e14)) ?_
      refine x_goto (tgt := 145) C dX12_isWord_141 (by decide) ?_
      refine x_loc [(5, .int a5), (6, .int a6)] rfl ?_
      exact t_X12_isWord_J145 C hret hdd hf
set_option maxHeartbeats 4000000 in
set_option maxRecDepth 100000 in
theorem t_X12_isWord_J93 {p : Program} {l : Launch} {e : Env} {R : Room} {s : State} {m : MethodId} {args : Array Value} {below : List Frame} {meth : Method} {c : Code} {E : JE} {h0 : JH} {d : Nat} {a0 : Nat} {a4 : Int32} {a5 : Int32} {a6 : Int32} {b0 : Int32} {h : JH} {q : Int32 × JH} (C : j_C p s m args meth c R E cX12_isWord 8 RX12 h0 q.2 d) (hret : meth.sig.returnType = (some .boolean)) (hdd : 1 ≤ d) (hf : f_X12_isWord_J93 a0 a4 a5 a6 b0 h = some q) : Xw p l e R s m args below meth c E 8 h0 (some (.int q.1)) q.2 93 [(0, .ref a0), (4, .int a4), (5, .int a5), (6, .int a6)] [.int b0] h := by
  unfold f_X12_isWord_J93 at hf
  refine x_istore C dX12_isWord_93 (by decide) ?_
  refine x_iload (v := b0) C dX12_isWord_95 rfl ?_
  refine x_if_eq (tgt := 161) C dX12_isWord_97 (by decide) (fun c25 => ?_) (fun c25 => ?_)
  · have hf := j_ifp hf c25
    refine x_loc [] rfl ?_
    exact t_X12_isWord_J161 C hret hdd hf
  · have hf := j_ifn hf c25
    refine x_iload (v := a6) C dX12_isWord_100 rfl ?_
    refine x_iconst C dX12_isWord_102 ki_3 ?_
    refine x_icmp_le (tgt := 119) C dX12_isWord_103 (by decide) (fun c26 => ?_) (fun c26 => ?_)
    · have hf := j_ifp hf c26
      refine x_iconst C dX12_isWord_119 ki_0 ?_
      refine x_loc [(0, .ref a0), (4, .int a4), (5, .int a5), (6, .int a6)] rfl ?_
      exact t_X12_isWord_J120 C hret hdd hf
    · have hf := j_ifn hf c26
      refine x_aload_n (v := a0) C dX12_isWord_106 rfl ?_
      refine x_aload_n (v := a0) C dX12_isWord_107 rfl ?_
      obtain ⟨v19, e20, hf⟩ := j_bind hf
      refine x_get C dX12_isWord_108 (jgI_some e20) fg_X12_94 ?_
      refine x_iconst C dX12_isWord_111 ki_3 ?_
      refine x_iadd C dX12_isWord_112 ?_
      obtain ⟨u23, e24, hf⟩ := j_bind hf
      obtain ⟨q21, e22, hf⟩ := j_bind hf
      refine x_callV (As := [.int (v19 + (3 : Int32))]) (rest := []) C dX12_isWord_113 (m_X12_byteAt (l := l) (E := E) (d := d - 1) (by omega) e22) km_X12_byteAt lk_X12_91 kv_X12_byteAt (ci := 9) rfl e24 rfl (by omega) (Nat.le_of_ble_eq_true rfl) (j_le_of (q_X12_byteAt e22)) (Or.inr (q_X12_byteAt e22)) ?_
      refine x_goto (tgt := 120) C dX12_isWord_116 (by decide) ?_
      refine x_loc [(0, .ref a0), (4, .int a4), (5, .int a5), (6, .int a6)] rfl ?_
      exact t_X12_isWord_J120 C hret hdd hf
set_option maxHeartbeats 4000000 in
set_option maxRecDepth 100000 in
theorem t_X12_isWord_J92 {p : Program} {l : Launch} {e : Env} {R : Room} {s : State} {m : MethodId} {args : Array Value} {below : List Frame} {meth : Method} {c : Code} {E : JE} {h0 : JH} {d : Nat} {a0 : Nat} {a4 : Int32} {a5 : Int32} {a6 : Int32} {h : JH} {q : Int32 × JH} (C : j_C p s m args meth c R E cX12_isWord 8 RX12 h0 q.2 d) (hret : meth.sig.returnType = (some .boolean)) (hdd : 1 ≤ d) (hf : f_X12_isWord_J92 a0 a4 a5 a6 h = some q) : Xw p l e R s m args below meth c E 8 h0 (some (.int q.1)) q.2 92 [(0, .ref a0), (4, .int a4), (5, .int a5), (6, .int a6)] [] h := by
  unfold f_X12_isWord_J92 at hf
  refine x_iconst C dX12_isWord_92 ki_0 ?_
  refine x_loc [(0, .ref a0), (4, .int a4), (5, .int a5), (6, .int a6)] rfl ?_
  exact t_X12_isWord_J93 C hret hdd hf
set_option maxHeartbeats 4000000 in
set_option maxRecDepth 100000 in
theorem t_X12_isWord_J84 {p : Program} {l : Launch} {e : Env} {R : Room} {s : State} {m : MethodId} {args : Array Value} {below : List Frame} {meth : Method} {c : Code} {E : JE} {h0 : JH} {d : Nat} {a0 : Nat} {a3 : Int32} {a4 : Int32} {a5 : Int32} {a6 : Int32} {b0 : Int32} {h : JH} {q : Int32 × JH} (C : j_C p s m args meth c R E cX12_isWord 8 RX12 h0 q.2 d) (hret : meth.sig.returnType = (some .boolean)) (hdd : 1 ≤ d) (hf : f_X12_isWord_J84 a0 a3 a4 a5 a6 b0 h = some q) : Xw p l e R s m args below meth c E 8 h0 (some (.int q.1)) q.2 84 [(0, .ref a0), (3, .int a3), (4, .int a4), (5, .int a5), (6, .int a6)] [.int b0] h := by
  unfold f_X12_isWord_J84 at hf
  refine x_iload_n (v := a3) C dX12_isWord_84 rfl ?_
  refine x_icmp_ne (tgt := 92) C dX12_isWord_85 (by decide) (fun c27 => ?_) (fun c27 => ?_)
  · have hf := j_ifn hf c27
    refine x_loc [(0, .ref a0), (4, .int a4), (5, .int a5), (6, .int a6)] rfl ?_
    exact t_X12_isWord_J92 C hret hdd hf
  · have hf := j_ifp hf c27
    refine x_iconst C dX12_isWord_88 ki_1 ?_
    refine x_goto (tgt := 93) C dX12_isWord_89 (by decide) ?_
    refine x_loc [(0, .ref a0), (4, .int a4), (5, .int a5), (6, .int a6)] rfl ?_
    exact t_X12_isWord_J93 C hret hdd hf
set_option maxHeartbeats 4000000 in
set_option maxRecDepth 100000 in
theorem t_X12_isWord_J60 {p : Program} {l : Launch} {e : Env} {R : Room} {s : State} {m : MethodId} {args : Array Value} {below : List Frame} {meth : Method} {c : Code} {E : JE} {h0 : JH} {d : Nat} {a0 : Nat} {a2 : Int32} {a3 : Int32} {a4 : Int32} {a5 : Int32} {a6 : Int32} {b0 : Int32} {h : JH} {q : Int32 × JH} (C : j_C p s m args meth c R E cX12_isWord 8 RX12 h0 q.2 d) (hret : meth.sig.returnType = (some .boolean)) (hdd : 1 ≤ d) (hf : f_X12_isWord_J60 a0 a2 a3 a4 a5 a6 b0 h = some q) : Xw p l e R s m args below meth c E 8 h0 (some (.int q.1)) q.2 60 [(0, .ref a0), (2, .int a2), (3, .int a3), (4, .int a4), (5, .int a5), (6, .int a6)] [.int b0] h := by
  unfold f_X12_isWord_J60 at hf
  refine x_iload_n (v := a2) C dX12_isWord_60 rfl ?_
  refine x_icmp_ne (tgt := 92) C dX12_isWord_61 (by decide) (fun c34 => ?_) (fun c34 => ?_)
  · have hf := j_ifn hf c34
    refine x_loc [(0, .ref a0), (4, .int a4), (5, .int a5), (6, .int a6)] rfl ?_
    exact t_X12_isWord_J92 C hret hdd hf
  · have hf := j_ifp hf c34
    refine x_iload (v := a6) C dX12_isWord_64 rfl ?_
    refine x_iconst C dX12_isWord_66 ki_2 ?_
    refine x_icmp_le (tgt := 83) C dX12_isWord_67 (by decide) (fun c35 => ?_) (fun c35 => ?_)
    · have hf := j_ifp hf c35
      refine x_iconst C dX12_isWord_83 ki_0 ?_
      refine x_loc [(0, .ref a0), (3, .int a3), (4, .int a4), (5, .int a5), (6, .int a6)] rfl ?_
      exact t_X12_isWord_J84 C hret hdd hf
    · have hf := j_ifn hf c35
      refine x_aload_n (v := a0) C dX12_isWord_70 rfl ?_
      refine x_aload_n (v := a0) C dX12_isWord_71 rfl ?_
      obtain ⟨v28, e29, hf⟩ := j_bind hf
      refine x_get C dX12_isWord_72 (jgI_some e29) fg_X12_94 ?_
      refine x_iconst C dX12_isWord_75 ki_2 ?_
      refine x_iadd C dX12_isWord_76 ?_
      obtain ⟨u32, e33, hf⟩ := j_bind hf
      obtain ⟨q30, e31, hf⟩ := j_bind hf
      refine x_callV (As := [.int (v28 + (2 : Int32))]) (rest := []) C dX12_isWord_77 (m_X12_byteAt (l := l) (E := E) (d := d - 1) (by omega) e31) km_X12_byteAt lk_X12_91 kv_X12_byteAt (ci := 9) rfl e33 rfl (by omega) (Nat.le_of_ble_eq_true rfl) (j_le_of (q_X12_byteAt e31)) (Or.inr (q_X12_byteAt e31)) ?_
      refine x_goto (tgt := 84) C dX12_isWord_80 (by decide) ?_
      refine x_loc [(0, .ref a0), (3, .int a3), (4, .int a4), (5, .int a5), (6, .int a6)] rfl ?_
      exact t_X12_isWord_J84 C hret hdd hf
set_option maxHeartbeats 4000000 in
set_option maxRecDepth 100000 in
theorem t_X12_isWord_J36 {p : Program} {l : Launch} {e : Env} {R : Room} {s : State} {m : MethodId} {args : Array Value} {below : List Frame} {meth : Method} {c : Code} {E : JE} {h0 : JH} {d : Nat} {a0 : Nat} {a1 : Int32} {a2 : Int32} {a3 : Int32} {a4 : Int32} {a5 : Int32} {a6 : Int32} {b0 : Int32} {h : JH} {q : Int32 × JH} (C : j_C p s m args meth c R E cX12_isWord 8 RX12 h0 q.2 d) (hret : meth.sig.returnType = (some .boolean)) (hdd : 1 ≤ d) (hf : f_X12_isWord_J36 a0 a1 a2 a3 a4 a5 a6 b0 h = some q) : Xw p l e R s m args below meth c E 8 h0 (some (.int q.1)) q.2 36 [(0, .ref a0), (1, .int a1), (2, .int a2), (3, .int a3), (4, .int a4), (5, .int a5), (6, .int a6)] [.int b0] h := by
  unfold f_X12_isWord_J36 at hf
  refine x_iload_n (v := a1) C dX12_isWord_36 rfl ?_
  refine x_icmp_ne (tgt := 92) C dX12_isWord_37 (by decide) (fun c42 => ?_) (fun c42 => ?_)
  · have hf := j_ifn hf c42
    refine x_loc [(0, .ref a0), (4, .int a4), (5, .int a5), (6, .int a6)] rfl ?_
    exact t_X12_isWord_J92 C hret hdd hf
  · have hf := j_ifp hf c42
    refine x_iload (v := a6) C dX12_isWord_40 rfl ?_
    refine x_iconst C dX12_isWord_42 ki_1 ?_
    refine x_icmp_le (tgt := 59) C dX12_isWord_43 (by decide) (fun c43 => ?_) (fun c43 => ?_)
    · have hf := j_ifp hf c43
      refine x_iconst C dX12_isWord_59 ki_0 ?_
      refine x_loc [(0, .ref a0), (2, .int a2), (3, .int a3), (4, .int a4), (5, .int a5), (6, .int a6)] rfl ?_
      exact t_X12_isWord_J60 C hret hdd hf
    · have hf := j_ifn hf c43
      refine x_aload_n (v := a0) C dX12_isWord_46 rfl ?_
      refine x_aload_n (v := a0) C dX12_isWord_47 rfl ?_
      obtain ⟨v36, e37, hf⟩ := j_bind hf
      refine x_get C dX12_isWord_48 (jgI_some e37) fg_X12_94 ?_
      refine x_iconst C dX12_isWord_51 ki_1 ?_
      refine x_iadd C dX12_isWord_52 ?_
      obtain ⟨u40, e41, hf⟩ := j_bind hf
      obtain ⟨q38, e39, hf⟩ := j_bind hf
      refine x_callV (As := [.int (v36 + (1 : Int32))]) (rest := []) C dX12_isWord_53 (m_X12_byteAt (l := l) (E := E) (d := d - 1) (by omega) e39) km_X12_byteAt lk_X12_91 kv_X12_byteAt (ci := 9) rfl e41 rfl (by omega) (Nat.le_of_ble_eq_true rfl) (j_le_of (q_X12_byteAt e39)) (Or.inr (q_X12_byteAt e39)) ?_
      refine x_goto (tgt := 60) C dX12_isWord_56 (by decide) ?_
      refine x_loc [(0, .ref a0), (2, .int a2), (3, .int a3), (4, .int a4), (5, .int a5), (6, .int a6)] rfl ?_
      exact t_X12_isWord_J60 C hret hdd hf
set_option maxHeartbeats 4000000 in
set_option maxRecDepth 100000 in
theorem m_X12_isWord {l : Launch} {E : JE} {d : Nat} (hdd : 1 ≤ d) {a0 : Nat} {a1 : Int32} {a2 : Int32} {a3 : Int32} {a4 : Int32} {a5 : Int32} {h : JH} {q : Int32 × JH} (hf : f_X12_isWord a0 a1 a2 a3 a4 a5 h = some q) : Con l E d yX12_isWord cX12_isWord 8 (some .boolean) [.ref a0, .int a1, .int a2, .int a3, .int a4, .int a5] h (some (.int q.1)) q.2 := by
  refine j_start rfl (Nat.le_of_ble_eq_true rfl) ?_
  intro p e s m args below meth c C hret hnm
  refine x_loc [(0, .ref a0), (1, .int a1), (2, .int a2), (3, .int a3), (4, .int a4), (5, .int a5)] rfl ?_
  unfold f_X12_isWord at hf
  refine x_aload_n (v := a0) C dX12_isWord_0 rfl ?_
  obtain ⟨v1, e2, hf⟩ := j_bind hf
  refine x_get C dX12_isWord_1 (jgI_some e2) fg_X12_88 ?_
  refine x_aload_n (v := a0) C dX12_isWord_4 rfl ?_
  obtain ⟨v3, e4, hf⟩ := j_bind hf
  refine x_get C dX12_isWord_5 (jgI_some e4) fg_X12_94 ?_
  refine x_isub C dX12_isWord_8 ?_
  refine x_istore C dX12_isWord_9 (by decide) ?_
  refine x_aload_n (v := a0) C dX12_isWord_11 rfl ?_
  obtain ⟨v5, e6, hf⟩ := j_bind hf
  refine x_get C dX12_isWord_12 (jgI_some e6) fg_X12_97 ?_
  refine x_iconst C dX12_isWord_15 ki_1 ?_
  refine x_icmp_ne (tgt := 92) C dX12_isWord_16 (by decide) (fun c50 => ?_) (fun c50 => ?_)
  · have hf := j_ifn hf c50
    refine x_loc [(0, .ref a0), (4, .int a4), (5, .int a5), (6, .int (v1 - v3))] rfl ?_
    exact t_X12_isWord_J92 C hret hdd hf
  · have hf := j_ifp hf c50
    refine x_iload (v := v1 - v3) C dX12_isWord_19 rfl ?_
    refine x_if_le (tgt := 35) C dX12_isWord_21 (by decide) (fun c51 => ?_) (fun c51 => ?_)
    · have hf := j_ifp hf c51
      refine x_iconst C dX12_isWord_35 ki_0 ?_
      refine x_loc [(0, .ref a0), (1, .int a1), (2, .int a2), (3, .int a3), (4, .int a4), (5, .int a5), (6, .int (v1 - v3))] rfl ?_
      exact t_X12_isWord_J36 C hret hdd hf
    · have hf := j_ifn hf c51
      refine x_aload_n (v := a0) C dX12_isWord_24 rfl ?_
      refine x_aload_n (v := a0) C dX12_isWord_25 rfl ?_
      obtain ⟨v44, e45, hf⟩ := j_bind hf
      refine x_get C dX12_isWord_26 (jgI_some e45) fg_X12_94 ?_
      obtain ⟨u48, e49, hf⟩ := j_bind hf
      obtain ⟨q46, e47, hf⟩ := j_bind hf
      refine x_callV (As := [.int v44]) (rest := []) C dX12_isWord_29 (m_X12_byteAt (l := l) (E := E) (d := d - 1) (by omega) e47) km_X12_byteAt lk_X12_91 kv_X12_byteAt (ci := 9) rfl e49 rfl (by omega) (Nat.le_of_ble_eq_true rfl) (j_le_of (q_X12_byteAt e47)) (Or.inr (q_X12_byteAt e47)) ?_
      refine x_goto (tgt := 36) C dX12_isWord_32 (by decide) ?_
      refine x_loc [(0, .ref a0), (1, .int a1), (2, .int a2), (3, .int a3), (4, .int a4), (5, .int a5), (6, .int (v1 - v3))] rfl ?_
      exact t_X12_isWord_J36 C hret hdd hf
set_option maxHeartbeats 4000000 in
set_option maxRecDepth 100000 in
theorem m_X12_isOwn {l : Launch} {E : JE} {d : Nat} (hdd : 2 ≤ d) {a0 : Nat} {h : JH} {q : Int32 × JH} (hf : f_X12_isOwn a0 h = some q) : Con l E d yX12_isOwn cX12_isOwn 1 (some .boolean) [.ref a0] h (some (.int q.1)) q.2 := by
  refine j_start rfl (Nat.le_of_ble_eq_true rfl) ?_
  intro p e s m args below meth c C hret hnm
  refine x_loc [(0, .ref a0)] rfl ?_
  unfold f_X12_isOwn at hf
  refine x_aload_n (v := a0) C dX12_isOwn_0 rfl ?_
  refine x_bipush C dX12_isOwn_1 kb_112 ?_
  refine x_bipush C dX12_isOwn_3 kb_114 ?_
  refine x_bipush C dX12_isOwn_5 kb_105 ?_
  refine x_bipush C dX12_isOwn_7 kb_109 ?_
  refine x_bipush C dX12_isOwn_9 kb_101 ?_
  obtain ⟨u23, e24, hf⟩ := j_bind hf
  obtain ⟨q1, e2, hf⟩ := j_bind hf
  refine x_callV (As := [.int (112 : Int32), .int (114 : Int32), .int (105 : Int32), .int (109 : Int32), .int (101 : Int32)]) (rest := []) C dX12_isOwn_11 (m_X12_isWord (l := l) (E := E) (d := d - 1) (by omega) e2) km_X12_isWord lk_X12_125 kv_X12_isWord (ci := 9) rfl e24 rfl (by omega) (Nat.le_of_ble_eq_true rfl) (j_le_of (q_X12_isWord e2)) (Or.inr (q_X12_isWord e2)) ?_
  refine x_if_ne (tgt := 94) C dX12_isOwn_14 (by decide) (fun c25 => ?_) (fun c25 => ?_)
  · have hf := j_ifn hf c25
    refine x_iconst C dX12_isOwn_94 ki_1 ?_
    refine x_goto (tgt := 99) C dX12_isOwn_95 (by decide) ?_
    obtain rfl := j_inj hf
    exact x_zret C hret (Or.inr rfl) dX12_isOwn_99
  · have hf := j_ifp hf c25
    refine x_aload_n (v := a0) C dX12_isOwn_17 rfl ?_
    refine x_bipush C dX12_isOwn_18 kb_108 ?_
    refine x_bipush C dX12_isOwn_20 kb_101 ?_
    refine x_bipush C dX12_isOwn_22 kb_116 ?_
    refine x_iconst C dX12_isOwn_24 ki_0 ?_
    refine x_iconst C dX12_isOwn_25 ki_0 ?_
    obtain ⟨u21, e22, hf⟩ := j_bind hf
    obtain ⟨q3, e4, hf⟩ := j_bind hf
    refine x_callV (As := [.int (108 : Int32), .int (101 : Int32), .int (116 : Int32), .int (0 : Int32), .int (0 : Int32)]) (rest := []) C dX12_isOwn_26 (m_X12_isWord (l := l) (E := E) (d := d - 1) (by omega) e4) km_X12_isWord lk_X12_125 kv_X12_isWord (ci := 9) rfl e22 rfl (by omega) (Nat.le_of_ble_eq_true rfl) (j_le_of (q_X12_isWord e4)) (Or.inr (q_X12_isWord e4)) ?_
    refine x_if_ne (tgt := 94) C dX12_isOwn_29 (by decide) (fun c26 => ?_) (fun c26 => ?_)
    · have hf := j_ifn hf c26
      refine x_iconst C dX12_isOwn_94 ki_1 ?_
      refine x_goto (tgt := 99) C dX12_isOwn_95 (by decide) ?_
      obtain rfl := j_inj hf
      exact x_zret C hret (Or.inr rfl) dX12_isOwn_99
    · have hf := j_ifp hf c26
      refine x_aload_n (v := a0) C dX12_isOwn_32 rfl ?_
      refine x_bipush C dX12_isOwn_33 kb_98 ?_
      refine x_bipush C dX12_isOwn_35 kb_101 ?_
      refine x_iconst C dX12_isOwn_37 ki_0 ?_
      refine x_iconst C dX12_isOwn_38 ki_0 ?_
      refine x_iconst C dX12_isOwn_39 ki_0 ?_
      obtain ⟨u19, e20, hf⟩ := j_bind hf
      obtain ⟨q5, e6, hf⟩ := j_bind hf
      refine x_callV (As := [.int (98 : Int32), .int (101 : Int32), .int (0 : Int32), .int (0 : Int32), .int (0 : Int32)]) (rest := []) C dX12_isOwn_40 (m_X12_isWord (l := l) (E := E) (d := d - 1) (by omega) e6) km_X12_isWord lk_X12_125 kv_X12_isWord (ci := 9) rfl e20 rfl (by omega) (Nat.le_of_ble_eq_true rfl) (j_le_of (q_X12_isWord e6)) (Or.inr (q_X12_isWord e6)) ?_
      refine x_if_ne (tgt := 94) C dX12_isOwn_43 (by decide) (fun c27 => ?_) (fun c27 => ?_)
      · have hf := j_ifn hf c27
        refine x_iconst C dX12_isOwn_94 ki_1 ?_
        refine x_goto (tgt := 99) C dX12_isOwn_95 (by decide) ?_
        obtain rfl := j_inj hf
        exact x_zret C hret (Or.inr rfl) dX12_isOwn_99
      · have hf := j_ifp hf c27
        refine x_aload_n (v := a0) C dX12_isOwn_46 rfl ?_
        refine x_bipush C dX12_isOwn_47 kb_102 ?_
        refine x_bipush C dX12_isOwn_49 kb_111 ?_
        refine x_bipush C dX12_isOwn_51 kb_117 ?_
        refine x_bipush C dX12_isOwn_53 kb_114 ?_
        refine x_iconst C dX12_isOwn_55 ki_0 ?_
        obtain ⟨u17, e18, hf⟩ := j_bind hf
        obtain ⟨q7, e8, hf⟩ := j_bind hf
        refine x_callV (As := [.int (102 : Int32), .int (111 : Int32), .int (117 : Int32), .int (114 : Int32), .int (0 : Int32)]) (rest := []) C dX12_isOwn_56 (m_X12_isWord (l := l) (E := E) (d := d - 1) (by omega) e8) km_X12_isWord lk_X12_125 kv_X12_isWord (ci := 9) rfl e18 rfl (by omega) (Nat.le_of_ble_eq_true rfl) (j_le_of (q_X12_isWord e8)) (Or.inr (q_X12_isWord e8)) ?_
        refine x_if_ne (tgt := 94) C dX12_isOwn_59 (by decide) (fun c28 => ?_) (fun c28 => ?_)
        · have hf := j_ifn hf c28
          refine x_iconst C dX12_isOwn_94 ki_1 ?_
          refine x_goto (tgt := 99) C dX12_isOwn_95 (by decide) ?_
          obtain rfl := j_inj hf
          exact x_zret C hret (Or.inr rfl) dX12_isOwn_99
        · have hf := j_ifp hf c28
          refine x_aload_n (v := a0) C dX12_isOwn_62 rfl ?_
          refine x_bipush C dX12_isOwn_63 kb_115 ?_
          refine x_bipush C dX12_isOwn_65 kb_105 ?_
          refine x_bipush C dX12_isOwn_67 kb_120 ?_
          refine x_iconst C dX12_isOwn_69 ki_0 ?_
          refine x_iconst C dX12_isOwn_70 ki_0 ?_
          obtain ⟨u15, e16, hf⟩ := j_bind hf
          obtain ⟨q9, e10, hf⟩ := j_bind hf
          refine x_callV (As := [.int (115 : Int32), .int (105 : Int32), .int (120 : Int32), .int (0 : Int32), .int (0 : Int32)]) (rest := []) C dX12_isOwn_71 (m_X12_isWord (l := l) (E := E) (d := d - 1) (by omega) e10) km_X12_isWord lk_X12_125 kv_X12_isWord (ci := 9) rfl e16 rfl (by omega) (Nat.le_of_ble_eq_true rfl) (j_le_of (q_X12_isWord e10)) (Or.inr (q_X12_isWord e10)) ?_
          refine x_if_ne (tgt := 94) C dX12_isOwn_74 (by decide) (fun c29 => ?_) (fun c29 => ?_)
          · have hf := j_ifn hf c29
            refine x_iconst C dX12_isOwn_94 ki_1 ?_
            refine x_goto (tgt := 99) C dX12_isOwn_95 (by decide) ?_
            obtain rfl := j_inj hf
            exact x_zret C hret (Or.inr rfl) dX12_isOwn_99
          · have hf := j_ifp hf c29
            refine x_aload_n (v := a0) C dX12_isOwn_77 rfl ?_
            refine x_bipush C dX12_isOwn_78 kb_100 ?_
            refine x_bipush C dX12_isOwn_80 kb_101 ?_
            refine x_bipush C dX12_isOwn_82 kb_108 ?_
            refine x_bipush C dX12_isOwn_84 kb_116 ?_
            refine x_bipush C dX12_isOwn_86 kb_97 ?_
            obtain ⟨u13, e14, hf⟩ := j_bind hf
            obtain ⟨q11, e12, hf⟩ := j_bind hf
            refine x_callV (As := [.int (100 : Int32), .int (101 : Int32), .int (108 : Int32), .int (116 : Int32), .int (97 : Int32)]) (rest := []) C dX12_isOwn_88 (m_X12_isWord (l := l) (E := E) (d := d - 1) (by omega) e12) km_X12_isWord lk_X12_125 kv_X12_isWord (ci := 9) rfl e14 rfl (by omega) (Nat.le_of_ble_eq_true rfl) (j_le_of (q_X12_isWord e12)) (Or.inr (q_X12_isWord e12)) ?_
            refine x_if_eq (tgt := 98) C dX12_isOwn_91 (by decide) (fun c30 => ?_) (fun c30 => ?_)
            · have hf := j_ifp hf c30
              refine x_iconst C dX12_isOwn_98 ki_0 ?_
              obtain rfl := j_inj hf
              exact x_zret C hret (Or.inl rfl) dX12_isOwn_99
            · have hf := j_ifn hf c30
              refine x_iconst C dX12_isOwn_94 ki_1 ?_
              refine x_goto (tgt := 99) C dX12_isOwn_95 (by decide) ?_
              obtain rfl := j_inj hf
              exact x_zret C hret (Or.inr rfl) dX12_isOwn_99
set_option maxHeartbeats 4000000 in
set_option maxRecDepth 100000 in
theorem s_X12_named_L36 {p : Program} {l : Launch} {e : Env} {R : Room} {s : State} {m : MethodId} {args : Array Value} {below : List Frame} {meth : Method} {c : Code} {E : JE} {h0 hF : JH} {rF : Option Value} {d : Nat} (C : j_C p s m args meth c R E cX12_named 4 RX12 h0 hF d) (hret : meth.sig.returnType = (some .int)) (hdd : 1 ≤ d) (a0 : Nat) (a1 : Int32) (z : (Int32 × Int32)) (h : JH) (r : (Int32 × Int32) ⊕ (Int32 × Int32)) (h1 : JH) (hf : f_X12_named_L36 a0 a1 z h = some (r, h1)) (hk : Sum.elim (fun z => Xw p l e R s m args below meth c E 4 h0 rF hF 36 [(0, .ref a0), (1, .int a1), (2, .int z.1), (3, .int z.2)] [] h1) (fun t => Xw p l e R s m args below meth c E 4 h0 rF hF 86 [(0, .ref a0), (1, .int a1), (2, .int t.1), (3, .int t.2)] [] h1) r) : Xw p l e R s m args below meth c E 4 h0 rF hF 36 [(0, .ref a0), (1, .int a1), (2, .int z.1), (3, .int z.2)] [] h := by
  unfold f_X12_named_L36 at hf
  refine x_iload_n (v := z.2) C dX12_named_36 rfl ?_
  refine x_aload_n (v := a0) C dX12_named_37 rfl ?_
  obtain ⟨v11, e12, hf⟩ := j_bind hf
  refine x_get C dX12_named_38 (jgR_some e12) fg_X12_132 ?_
  refine x_iload_n (v := a1) C dX12_named_41 rfl ?_
  obtain ⟨v13, e14, hf⟩ := j_bind hf
  refine x_iald C dX12_named_42 e14 ?_
  refine x_icmp_ge (tgt := 86) C dX12_named_43 (by decide) (fun c25 => ?_) (fun c25 => ?_)
  · have hf := j_ifp hf c25
    obtain ⟨rfl, rfl⟩ := j_inj2 hf
    exact x_locr hk rfl
  · have hf := j_ifn hf c25
    refine x_iload_n (v := z.1) C dX12_named_46 rfl ?_
    refine x_if_eq (tgt := 86) C dX12_named_47 (by decide) (fun c26 => ?_) (fun c26 => ?_)
    · have hf := j_ifp hf c26
      obtain ⟨rfl, rfl⟩ := j_inj2 hf
      exact x_locr hk rfl
    · have hf := j_ifn hf c26
      refine x_aload_n (v := a0) C dX12_named_50 rfl ?_
      obtain ⟨v15, e16, hf⟩ := j_bind hf
      refine x_get C dX12_named_51 (jgR_some e16) fg_X12_135 ?_
      refine x_bipush C dX12_named_54 kb_6 ?_
      refine x_iload_n (v := a1) C dX12_named_56 rfl ?_
      refine x_imul C dX12_named_57 ?_
      refine x_iload_n (v := z.2) C dX12_named_58 rfl ?_
      refine x_iadd C dX12_named_59 ?_
      obtain ⟨v17, e18, hf⟩ := j_bind hf
      refine x_iald C dX12_named_60 e18 ?_
      refine x_aload_n (v := a0) C dX12_named_61 rfl ?_
      refine x_aload_n (v := a0) C dX12_named_62 rfl ?_
      obtain ⟨v19, e20, hf⟩ := j_bind hf
      refine x_get C dX12_named_63 (jgI_some e20) fg_X12_94 ?_
      refine x_iload_n (v := z.2) C dX12_named_66 rfl ?_
      refine x_iadd C dX12_named_67 ?_
      obtain ⟨u23, e24, hf⟩ := j_bind hf
      obtain ⟨q21, e22, hf⟩ := j_bind hf
      refine x_callV (As := [.int (v19 + z.2)]) (rest := [.int v17]) C dX12_named_68 (m_X12_byteAt (l := l) (E := E) (d := d - 1) (by omega) e22) km_X12_byteAt lk_X12_91 kv_X12_byteAt (ci := 9) rfl e24 rfl (by omega) (Nat.le_of_ble_eq_true rfl) (j_le_of (q_X12_byteAt e22)) (Or.inr (q_X12_byteAt e22)) ?_
      refine x_icmp_ne (tgt := 78) C dX12_named_71 (by decide) (fun c27 => ?_) (fun c27 => ?_)
      · have hf := j_ifn hf c27
        refine x_iconst C dX12_named_78 ki_0 ?_
        refine x_istore_n C dX12_named_79 (by decide) ?_
        refine x_iinc (v := z.2) C dX12_named_80 rfl ki_1 (by decide) ?_
        refine x_goto (tgt := 36) C dX12_named_83 (by decide) ?_
        obtain ⟨rfl, rfl⟩ := j_inj2 hf
        exact x_locr hk rfl
      · have hf := j_ifp hf c27
        refine x_iconst C dX12_named_74 ki_1 ?_
        refine x_goto (tgt := 79) C dX12_named_75 (by decide) ?_
        refine x_istore_n C dX12_named_79 (by decide) ?_
        refine x_iinc (v := z.2) C dX12_named_80 rfl ki_1 (by decide) ?_
        refine x_goto (tgt := 36) C dX12_named_83 (by decide) ?_
        obtain ⟨rfl, rfl⟩ := j_inj2 hf
        exact x_locr hk rfl
set_option maxHeartbeats 4000000 in
set_option maxRecDepth 100000 in
theorem s_X12_named_L2 {p : Program} {l : Launch} {e : Env} {R : Room} {s : State} {m : MethodId} {args : Array Value} {below : List Frame} {meth : Method} {c : Code} {E : JE} {h0 hF : JH} {rF : Option Value} {d : Nat} (C : j_C p s m args meth c R E cX12_named 4 RX12 h0 hF d) (hret : meth.sig.returnType = (some .int)) (hdd : 1 ≤ d) (a0 : Nat) (z : Int32) (h : JH) (r : Int32 ⊕ (Int32 ⊕ Int32)) (h1 : JH) (hf : f_X12_named_L2 a0 z h = some (r, h1)) (hk : Sum.elim (fun z => Xw p l e R s m args below meth c E 4 h0 rF hF 2 [(0, .ref a0), (1, .int z)] [] h1) (fun t => Sum.elim (fun rr => some (.int rr) = rF ∧ h1 = hF) (fun t => Xw p l e R s m args below meth c E 4 h0 rF hF 98 [(0, .ref a0), (1, .int t)] [] h1) t) r) : Xw p l e R s m args below meth c E 4 h0 rF hF 2 [(0, .ref a0), (1, .int z)] [] h := by
  unfold f_X12_named_L2 at hf
  refine x_iload_n (v := z) C dX12_named_2 rfl ?_
  refine x_aload_n (v := a0) C dX12_named_3 rfl ?_
  obtain ⟨v1, e2, hf⟩ := j_bind hf
  refine x_get C dX12_named_4 (jgI_some e2) fg_X12_129 ?_
  refine x_icmp_ge (tgt := 98) C dX12_named_7 (by decide) (fun c32 => ?_) (fun c32 => ?_)
  · have hf := j_ifp hf c32
    obtain ⟨rfl, rfl⟩ := j_inj2 hf
    exact x_locr hk rfl
  · have hf := j_ifn hf c32
    refine x_aload_n (v := a0) C dX12_named_10 rfl ?_
    obtain ⟨v3, e4, hf⟩ := j_bind hf
    refine x_get C dX12_named_11 (jgR_some e4) fg_X12_132 ?_
    refine x_iload_n (v := z) C dX12_named_14 rfl ?_
    obtain ⟨v5, e6, hf⟩ := j_bind hf
    refine x_iald C dX12_named_15 e6 ?_
    refine x_aload_n (v := a0) C dX12_named_16 rfl ?_
    obtain ⟨v7, e8, hf⟩ := j_bind hf
    refine x_get C dX12_named_17 (jgI_some e8) fg_X12_88 ?_
    refine x_aload_n (v := a0) C dX12_named_20 rfl ?_
    obtain ⟨v9, e10, hf⟩ := j_bind hf
    refine x_get C dX12_named_21 (jgI_some e10) fg_X12_94 ?_
    refine x_isub C dX12_named_24 ?_
    refine x_icmp_ne (tgt := 32) C dX12_named_25 (by decide) (fun c33 => ?_) (fun c33 => ?_)
    · have hf := j_ifn hf c33
      refine x_iconst C dX12_named_32 ki_0 ?_
      refine x_istore_n C dX12_named_33 (by decide) ?_
      refine x_iconst C dX12_named_34 ki_0 ?_
      refine x_istore_n C dX12_named_35 (by decide) ?_
      obtain ⟨q28, e29, hf⟩ := j_bind hf
      refine x_loc [(0, .ref a0), (1, .int z), (2, .int (0 : Int32)), (3, .int (0 : Int32))] rfl ?_
      refine x_loop (s_X12_named_L36 C hret hdd a0 z) e29 ?_
      refine x_iload_n (v := q28.1.1) C dX12_named_86 rfl ?_
      refine x_if_eq (tgt := 92) C dX12_named_87 (by decide) (fun c34 => ?_) (fun c34 => ?_)
      · have hf := j_ifp hf c34
        refine x_iinc (v := z) C dX12_named_92 rfl ki_1 (by decide) ?_
        refine x_goto (tgt := 2) C dX12_named_95 (by decide) ?_
        obtain ⟨rfl, rfl⟩ := j_inj2 hf
        exact x_locr hk rfl
      · have hf := j_ifn hf c34
        refine x_iload_n (v := z) C dX12_named_90 rfl ?_
        obtain ⟨rfl, rfl⟩ := j_inj2 hf
        obtain ⟨rfl, rfl⟩ := hk
        exact x_iret C hret dX12_named_91
    · have hf := j_ifp hf c33
      refine x_iconst C dX12_named_28 ki_1 ?_
      refine x_goto (tgt := 33) C dX12_named_29 (by decide) ?_
      refine x_istore_n C dX12_named_33 (by decide) ?_
      refine x_iconst C dX12_named_34 ki_0 ?_
      refine x_istore_n C dX12_named_35 (by decide) ?_
      obtain ⟨q30, e31, hf⟩ := j_bind hf
      refine x_loc [(0, .ref a0), (1, .int z), (2, .int (1 : Int32)), (3, .int (0 : Int32))] rfl ?_
      refine x_loop (s_X12_named_L36 C hret hdd a0 z) e31 ?_
      refine x_iload_n (v := q30.1.1) C dX12_named_86 rfl ?_
      refine x_if_eq (tgt := 92) C dX12_named_87 (by decide) (fun c35 => ?_) (fun c35 => ?_)
      · have hf := j_ifp hf c35
        refine x_iinc (v := z) C dX12_named_92 rfl ki_1 (by decide) ?_
        refine x_goto (tgt := 2) C dX12_named_95 (by decide) ?_
        obtain ⟨rfl, rfl⟩ := j_inj2 hf
        exact x_locr hk rfl
      · have hf := j_ifn hf c35
        refine x_iload_n (v := z) C dX12_named_90 rfl ?_
        obtain ⟨rfl, rfl⟩ := j_inj2 hf
        obtain ⟨rfl, rfl⟩ := hk
        exact x_iret C hret dX12_named_91
set_option maxHeartbeats 4000000 in
set_option maxRecDepth 100000 in
theorem m_X12_named {l : Launch} {E : JE} {d : Nat} (hdd : 1 ≤ d) {a0 : Nat} {h : JH} {q : Int32 × JH} (hf : f_X12_named a0 h = some q) : Con l E d yX12_named cX12_named 4 (some .int) [.ref a0] h (some (.int q.1)) q.2 := by
  refine j_start rfl (Nat.le_of_ble_eq_true rfl) ?_
  intro p e s m args below meth c C hret hnm
  refine x_loc [(0, .ref a0)] rfl ?_
  unfold f_X12_named at hf
  refine x_iconst C dX12_named_0 ki_0 ?_
  refine x_istore_n C dX12_named_1 (by decide) ?_
  obtain ⟨q36, e37, hf⟩ := j_bind hf
  refine x_loc [(0, .ref a0), (1, .int (0 : Int32))] rfl ?_
  refine x_loop (s_X12_named_L2 C hret hdd a0) e37 ?_
  cases y41 : q36.1 with
  | inl r39 =>
    rw [y41] at hf
    have hf := j_eliml hf
    obtain rfl := j_inj hf
    exact ⟨rfl, rfl⟩
  | inr t38 =>
    rw [y41] at hf
    have hf := j_elimr hf
    refine j_elimG ?_
    refine x_iconst C dX12_named_98 ki_m1 ?_
    obtain rfl := j_inj hf
    exact x_iret C hret dX12_named_99
set_option maxHeartbeats 4000000 in
set_option maxRecDepth 100000 in
theorem m_X12_isName {l : Launch} {E : JE} {d : Nat} (hdd : 3 ≤ d) {a0 : Nat} {h : JH} {q : Int32 × JH} (hf : f_X12_isName a0 h = some q) : Con l E d yX12_isName cX12_isName 1 (some .boolean) [.ref a0] h (some (.int q.1)) q.2 := by
  refine j_start rfl (Nat.le_of_ble_eq_true rfl) ?_
  intro p e s m args below meth c C hret hnm
  refine x_loc [(0, .ref a0)] rfl ?_
  unfold f_X12_isName at hf
  refine x_aload_n (v := a0) C dX12_isName_0 rfl ?_
  obtain ⟨v1, e2, hf⟩ := j_bind hf
  refine x_get C dX12_isName_1 (jgI_some e2) fg_X12_97 ?_
  refine x_iconst C dX12_isName_4 ki_1 ?_
  refine x_icmp_ne (tgt := 33) C dX12_isName_5 (by decide) (fun c11 => ?_) (fun c11 => ?_)
  · have hf := j_ifn hf c11
    refine x_iconst C dX12_isName_33 ki_0 ?_
    obtain rfl := j_inj hf
    exact x_zret C hret (Or.inl rfl) dX12_isName_34
  · have hf := j_ifp hf c11
    refine x_aload_n (v := a0) C dX12_isName_8 rfl ?_
    obtain ⟨v3, e4, hf⟩ := j_bind hf
    refine x_get C dX12_isName_9 (jgI_some e4) fg_X12_88 ?_
    refine x_aload_n (v := a0) C dX12_isName_12 rfl ?_
    obtain ⟨v5, e6, hf⟩ := j_bind hf
    refine x_get C dX12_isName_13 (jgI_some e6) fg_X12_94 ?_
    refine x_isub C dX12_isName_16 ?_
    refine x_bipush C dX12_isName_17 kb_6 ?_
    refine x_icmp_gt (tgt := 33) C dX12_isName_19 (by decide) (fun c12 => ?_) (fun c12 => ?_)
    · have hf := j_ifp hf c12
      refine x_iconst C dX12_isName_33 ki_0 ?_
      obtain rfl := j_inj hf
      exact x_zret C hret (Or.inl rfl) dX12_isName_34
    · have hf := j_ifn hf c12
      refine x_aload_n (v := a0) C dX12_isName_22 rfl ?_
      obtain ⟨u9, e10, hf⟩ := j_bind hf
      obtain ⟨q7, e8, hf⟩ := j_bind hf
      refine x_callV (As := []) (rest := []) C dX12_isName_23 (m_X12_isOwn (l := l) (E := E) (d := d - 1) (by omega) e8) km_X12_isOwn lk_X12_138 kv_X12_isOwn (ci := 9) rfl e10 rfl (by omega) (Nat.le_of_ble_eq_true rfl) (j_le_of (q_X12_isOwn e8)) (Or.inr (q_X12_isOwn e8)) ?_
      refine x_if_ne (tgt := 33) C dX12_isName_26 (by decide) (fun c13 => ?_) (fun c13 => ?_)
      · have hf := j_ifn hf c13
        refine x_iconst C dX12_isName_33 ki_0 ?_
        obtain rfl := j_inj hf
        exact x_zret C hret (Or.inl rfl) dX12_isName_34
      · have hf := j_ifp hf c13
        refine x_iconst C dX12_isName_29 ki_1 ?_
        refine x_goto (tgt := 34) C dX12_isName_30 (by decide) ?_
        obtain rfl := j_inj hf
        exact x_zret C hret (Or.inr rfl) dX12_isName_34
set_option maxHeartbeats 4000000 in
set_option maxRecDepth 100000 in
theorem m_X12_pushes {l : Launch} {E : JE} {d : Nat} (hdd : 1 ≤ d) {a0 : Nat} {a1 : Int32} {a2 : Nat} {a3 : Int32} {h : JH} {q : Unit × JH} (hf : f_X12_pushes a0 a1 a2 a3 h = some q) : Con l E d yX12_pushes cX12_pushes 4 none [.ref a0, .int a1, .ref a2, .int a3] h (none) q.2 := by
  refine j_start rfl (Nat.le_of_ble_eq_true rfl) ?_
  intro p e s m args below meth c C hret hnm
  refine x_loc [(0, .ref a0), (1, .int a1), (2, .ref a2), (3, .int a3)] rfl ?_
  unfold f_X12_pushes at hf
  refine x_aload_n (v := a0) C dX12_pushes_0 rfl ?_
  obtain ⟨v1, e2, hf⟩ := j_bind hf
  refine x_get C dX12_pushes_1 (jgR_some e2) fg_X12_142 ?_
  refine x_aload_n (v := a0) C dX12_pushes_4 rfl ?_
  obtain ⟨v3, e4, hf⟩ := j_bind hf
  refine x_get C dX12_pushes_5 (jgI_some e4) fg_X12_145 ?_
  refine x_iload_n (v := a1) C dX12_pushes_8 rfl ?_
  obtain ⟨h5, e6, hf⟩ := j_bind hf
  refine x_iast C dX12_pushes_9 e6 ?_
  refine x_aload_n (v := a2) C dX12_pushes_10 rfl ?_
  refine x_iload_n (v := a3) C dX12_pushes_11 rfl ?_
  refine x_aload_n (v := a0) C dX12_pushes_12 rfl ?_
  obtain ⟨v7, e8, hf⟩ := j_bind hf
  refine x_get C dX12_pushes_13 (jgR_some e8) fg_X12_148 ?_
  refine x_sipush C dX12_pushes_16 ks_181 ?_
  refine x_aload_n (v := a0) C dX12_pushes_19 rfl ?_
  obtain ⟨v9, e10, hf⟩ := j_bind hf
  refine x_get C dX12_pushes_20 (jgI_some e10) fg_X12_145 ?_
  refine x_imul C dX12_pushes_23 ?_
  obtain ⟨q11, e12, hf⟩ := j_bind hf
  refine x_callS (As := [.ref a2, .int a3, .ref v7, .int ((181 : Int32) * v9)]) (rest := []) C dX12_pushes_24 (m_X12_copies (l := l) (E := E) (d := d - 1) (by omega) e12) km_X12_copies lk_X12_58 ks_X12_copies rfl (by omega) (Nat.le_of_ble_eq_true rfl) (j_le_of (q_X12_copies e12)) (Or.inr (q_X12_copies e12)) ?_
  refine x_aload_n (v := a0) C dX12_pushes_27 rfl ?_
  refine x_dup C dX12_pushes_28 rfl ?_
  obtain ⟨v13, e14, hf⟩ := j_bind hf
  refine x_get C dX12_pushes_29 (jgI_some e14) fg_X12_145 ?_
  refine x_iconst C dX12_pushes_32 ki_1 ?_
  refine x_iadd C dX12_pushes_33 ?_
  obtain ⟨h15, e16, hf⟩ := j_bind hf
  refine x_put C dX12_pushes_34 e16 fp_X12_145 rfl rfl ?_
  obtain rfl := j_inj hf
  exact x_vret C hret dX12_pushes_37
