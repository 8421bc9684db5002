set_option maxHeartbeats 4000000 in
set_option maxRecDepth 100000 in
theorem m_X12_row {l : Launch} {E : JE} {d : Nat} (hdd : 1 ≤ d) {a0 : Nat} {a1 : Int32} {a2 : Int32} {a3 : Int32} {h : JH} {q : Int64 × JH} (hf : f_X12_row a0 a1 a2 a3 h = some q) : Con l E d yX12_row cX12_row 4 (some .long) [.ref a0, .int a1, .int a2, .int a3] h (some (.long q.1)) q.2 := by
  refine j_start rfl (Nat.le_of_ble_eq_true rfl) ?_
  intro p e s m args below meth c C hret hnm
  refine x_loc [(0, .ref a0), (1, .int a1), (2, .int a2), (3, .int a3)] rfl ?_
  unfold f_X12_row at hf
  refine x_aload_n (v := a0) C dX12_row_0 rfl ?_
  refine x_iconst C dX12_row_1 ki_1 ?_
  obtain ⟨h1, e2, hf⟩ := j_bind hf
  refine x_put C dX12_row_2 e2 fp_X12_1 rfl rfl ?_
  refine x_iload_n (v := a1) C dX12_row_5 rfl ?_
  refine x_iconst C dX12_row_6 ki_0 ?_
  refine x_iconst C dX12_row_7 ki_1 ?_
  obtain ⟨q3, e4, hf⟩ := j_bind hf
  refine x_callS (As := [.int a1, .int (0 : Int32), .int (1 : Int32)]) (rest := []) C dX12_row_8 (m_X12_within (l := l) (E := E) (d := d - 1) (by omega) e4) km_X12_within lk_X12_45 ks_X12_within rfl (by omega) (Nat.le_of_ble_eq_true rfl) (j_le_of (q_X12_within e4)) (Or.inr (q_X12_within e4)) ?_
  refine x_if_eq (tgt := 59) C dX12_row_11 (by decide) (fun c31 => ?_) (fun c31 => ?_)
  · have hf := j_ifp hf c31
    refine x_lconst C dX12_row_59 kl_0 ?_
    obtain rfl := j_inj hf
    exact x_lret C hret dX12_row_60
  · have hf := j_ifn hf c31
    refine x_iload_n (v := a2) C dX12_row_14 rfl ?_
    refine x_iconst C dX12_row_15 ki_0 ?_
    refine x_iconst C dX12_row_16 ki_3 ?_
    obtain ⟨q5, e6, hf⟩ := j_bind hf
    refine x_callS (As := [.int a2, .int (0 : Int32), .int (3 : Int32)]) (rest := []) C dX12_row_17 (m_X12_within (l := l) (E := E) (d := d - 1) (by omega) e6) km_X12_within lk_X12_45 ks_X12_within rfl (by omega) (Nat.le_of_ble_eq_true rfl) (j_le_of (q_X12_within e6)) (Or.inr (q_X12_within e6)) ?_
    refine x_if_eq (tgt := 59) C dX12_row_20 (by decide) (fun c32 => ?_) (fun c32 => ?_)
    · have hf := j_ifp hf c32
      refine x_lconst C dX12_row_59 kl_0 ?_
      obtain rfl := j_inj hf
      exact x_lret C hret dX12_row_60
    · have hf := j_ifn hf c32
      refine x_aload_n (v := a0) C dX12_row_23 rfl ?_
      obtain ⟨v7, e8, hf⟩ := j_bind hf
      refine x_get C dX12_row_24 (jgR_some e8) fg_X12_221 ?_
      refine x_iconst C dX12_row_27 ki_4 ?_
      refine x_iload_n (v := a1) C dX12_row_28 rfl ?_
      refine x_imul C dX12_row_29 ?_
      refine x_iload_n (v := a2) C dX12_row_30 rfl ?_
      refine x_iadd C dX12_row_31 ?_
      obtain ⟨v9, e10, hf⟩ := j_bind hf
      refine x_bald C dX12_row_32 e10 ?_
      refine x_if_eq (tgt := 59) C dX12_row_33 (by decide) (fun c33 => ?_) (fun c33 => ?_)
      · have hf := j_ifp hf c33
        refine x_lconst C dX12_row_59 kl_0 ?_
        obtain rfl := j_inj hf
        exact x_lret C hret dX12_row_60
      · have hf := j_ifn hf c33
        refine x_iload_n (v := a3) C dX12_row_36 rfl ?_
        refine x_iconst C dX12_row_37 ki_0 ?_
        refine x_aload_n (v := a0) C dX12_row_38 rfl ?_
        refine x_iload_n (v := a1) C dX12_row_39 rfl ?_
        obtain ⟨u29, e30, hf⟩ := j_bind hf
        obtain ⟨q11, e12, hf⟩ := j_bind hf
        refine x_callV (As := [.int a1]) (rest := [.int (0 : Int32), .int a3]) C dX12_row_40 (m_X12_sortOf (l := l) (E := E) (d := d - 1) (by omega) e12) km_X12_sortOf lk_X12_368 kv_X12_sortOf (ci := 9) rfl e30 rfl (by omega) (Nat.le_of_ble_eq_true rfl) (j_le_of (q_X12_sortOf e12)) (Or.inr (q_X12_sortOf e12)) ?_
        refine x_if_ne (tgt := 51) C dX12_row_43 (by decide) (fun c34 => ?_) (fun c34 => ?_)
        · have hf := j_ifn hf c34
          refine x_bipush C dX12_row_51 kb_11 ?_
          obtain ⟨q13, e14, hf⟩ := j_bind hf
          refine x_callS (As := [.int a3, .int (0 : Int32), .int (11 : Int32)]) (rest := []) C dX12_row_53 (m_X12_within (l := l) (E := E) (d := d - 1) (by omega) e14) km_X12_within lk_X12_45 ks_X12_within rfl (by omega) (Nat.le_of_ble_eq_true rfl) (j_le_of (q_X12_within e14)) (Or.inr (q_X12_within e14)) ?_
          refine x_if_ne (tgt := 61) C dX12_row_56 (by decide) (fun c35 => ?_) (fun c35 => ?_)
          · have hf := j_ifn hf c35
            refine x_aload_n (v := a0) C dX12_row_61 rfl ?_
            refine x_iconst C dX12_row_62 ki_0 ?_
            obtain ⟨h15, e16, hf⟩ := j_bind hf
            refine x_put C dX12_row_63 e16 fp_X12_1 rfl rfl ?_
            refine x_aload_n (v := a0) C dX12_row_66 rfl ?_
            obtain ⟨v17, e18, hf⟩ := j_bind hf
            refine x_get C dX12_row_67 (jgR_some e18) fg_X12_250 ?_
            refine x_bipush C dX12_row_70 kb_13 ?_
            refine x_iconst C dX12_row_72 ki_4 ?_
            refine x_iload_n (v := a1) C dX12_row_73 rfl ?_
            refine x_imul C dX12_row_74 ?_
            refine x_iload_n (v := a2) C dX12_row_75 rfl ?_
            refine x_iadd C dX12_row_76 ?_
            refine x_imul C dX12_row_77 ?_
            refine x_iload_n (v := a3) C dX12_row_78 rfl ?_
            refine x_iadd C dX12_row_79 ?_
            obtain ⟨v19, e20, hf⟩ := j_bind hf
            refine x_lald C dX12_row_80 e20 ?_
            obtain rfl := j_inj hf
            exact x_lret C hret dX12_row_81
          · have hf := j_ifp hf c35
            refine x_lconst C dX12_row_59 kl_0 ?_
            obtain rfl := j_inj hf
            exact x_lret C hret dX12_row_60
        · have hf := j_ifp hf c34
          refine x_bipush C dX12_row_46 kb_12 ?_
          refine x_goto (tgt := 53) C dX12_row_48 (by decide) ?_
          obtain ⟨q21, e22, hf⟩ := j_bind hf
          refine x_callS (As := [.int a3, .int (0 : Int32), .int (12 : Int32)]) (rest := []) C dX12_row_53 (m_X12_within (l := l) (E := E) (d := d - 1) (by omega) e22) km_X12_within lk_X12_45 ks_X12_within rfl (by omega) (Nat.le_of_ble_eq_true rfl) (j_le_of (q_X12_within e22)) (Or.inr (q_X12_within e22)) ?_
          refine x_if_ne (tgt := 61) C dX12_row_56 (by decide) (fun c36 => ?_) (fun c36 => ?_)
          · have hf := j_ifn hf c36
            refine x_aload_n (v := a0) C dX12_row_61 rfl ?_
            refine x_iconst C dX12_row_62 ki_0 ?_
            obtain ⟨h23, e24, hf⟩ := j_bind hf
            refine x_put C dX12_row_63 e24 fp_X12_1 rfl rfl ?_
            refine x_aload_n (v := a0) C dX12_row_66 rfl ?_
            obtain ⟨v25, e26, hf⟩ := j_bind hf
            refine x_get C dX12_row_67 (jgR_some e26) fg_X12_250 ?_
            refine x_bipush C dX12_row_70 kb_13 ?_
            refine x_iconst C dX12_row_72 ki_4 ?_
            refine x_iload_n (v := a1) C dX12_row_73 rfl ?_
            refine x_imul C dX12_row_74 ?_
            refine x_iload_n (v := a2) C dX12_row_75 rfl ?_
            refine x_iadd C dX12_row_76 ?_
            refine x_imul C dX12_row_77 ?_
            refine x_iload_n (v := a3) C dX12_row_78 rfl ?_
            refine x_iadd C dX12_row_79 ?_
            obtain ⟨v27, e28, hf⟩ := j_bind hf
            refine x_lald C dX12_row_80 e28 ?_
            obtain rfl := j_inj hf
            exact x_lret C hret dX12_row_81
          · have hf := j_ifp hf c36
            refine x_lconst C dX12_row_59 kl_0 ?_
            obtain rfl := j_inj hf
            exact x_lret C hret dX12_row_60
set_option maxHeartbeats 4000000 in
set_option maxRecDepth 100000 in
theorem s_X12_swap_L17 {p : Program} {l : Launch} {e : Env} {R : Room} {s : State} {m : MethodId} {args : Array Value} {below : List Frame} {meth : Method} {c : Code} {E : JE} {h0 hF : JH} {rF : Option Value} {d : Nat} (C : j_C p s m args meth c R E cX12_swap 2 RX12 h0 hF d) (hret : meth.sig.returnType = (some .int)) (hdd : 0 ≤ d) (a0 : Nat) (z : Int32) (h : JH) (r : Int32 ⊕ Int32) (h1 : JH) (hf : f_X12_swap_L17 a0 z h = some (r, h1)) (hk : Sum.elim (fun z => Xw p l e R s m args below meth c E 2 h0 rF hF 17 [(0, .ref a0), (1, .int z)] [] h1) (fun t => Xw p l e R s m args below meth c E 2 h0 rF hF 36 [(0, .ref a0), (1, .int t)] [] h1) r) : Xw p l e R s m args below meth c E 2 h0 rF hF 17 [(0, .ref a0), (1, .int z)] [] h := by
  unfold f_X12_swap_L17 at hf
  refine x_iload_n (v := z) C dX12_swap_17 rfl ?_
  refine x_bipush C dX12_swap_18 kb_8 ?_
  refine x_icmp_ge (tgt := 36) C dX12_swap_20 (by decide) (fun c11 => ?_) (fun c11 => ?_)
  · have hf := j_ifp hf c11
    obtain ⟨rfl, rfl⟩ := j_inj2 hf
    exact x_locr hk rfl
  · have hf := j_ifn hf c11
    refine x_aload_n (v := a0) C dX12_swap_23 rfl ?_
    obtain ⟨v7, e8, hf⟩ := j_bind hf
    refine x_get C dX12_swap_24 (jgR_some e8) fg_X12_221 ?_
    refine x_iload_n (v := z) C dX12_swap_27 rfl ?_
    refine x_iconst C dX12_swap_28 ki_0 ?_
    obtain ⟨h9, e10, hf⟩ := j_bind hf
    refine x_bast C dX12_swap_29 e10 ?_
    refine x_iinc (v := z) C dX12_swap_30 rfl ki_1 (by decide) ?_
    refine x_goto (tgt := 17) C dX12_swap_33 (by decide) ?_
    obtain ⟨rfl, rfl⟩ := j_inj2 hf
    exact x_locr hk rfl
set_option maxHeartbeats 4000000 in
set_option maxRecDepth 100000 in
theorem m_X12_swap {l : Launch} {E : JE} {d : Nat} (hdd : 0 ≤ d) {a0 : Nat} {h : JH} {q : Int32 × JH} (hf : f_X12_swap a0 h = some q) : Con l E d yX12_swap cX12_swap 2 (some .int) [.ref a0] h (some (.int q.1)) q.2 := by
  refine j_start rfl (Nat.le_of_ble_eq_true rfl) ?_
  intro p e s m args below meth c C hret hnm
  refine x_loc [(0, .ref a0)] rfl ?_
  unfold f_X12_swap at hf
  refine x_aload_n (v := a0) C dX12_swap_0 rfl ?_
  refine x_iconst C dX12_swap_1 ki_0 ?_
  obtain ⟨h1, e2, hf⟩ := j_bind hf
  refine x_put C dX12_swap_2 e2 fp_X12_1 rfl rfl ?_
  refine x_aload_n (v := a0) C dX12_swap_5 rfl ?_
  refine x_iconst C dX12_swap_6 ki_1 ?_
  refine x_aload_n (v := a0) C dX12_swap_7 rfl ?_
  obtain ⟨v3, e4, hf⟩ := j_bind hf
  refine x_get C dX12_swap_8 (jgI_some e4) fg_X12_365 ?_
  refine x_isub C dX12_swap_11 ?_
  obtain ⟨h5, e6, hf⟩ := j_bind hf
  refine x_put C dX12_swap_12 e6 fp_X12_365 rfl rfl ?_
  refine x_iconst C dX12_swap_15 ki_0 ?_
  refine x_istore_n C dX12_swap_16 (by decide) ?_
  obtain ⟨q12, e13, hf⟩ := j_bind hf
  refine x_loc [(0, .ref a0), (1, .int (0 : Int32))] rfl ?_
  refine x_loop (s_X12_swap_L17 C hret hdd a0) e13 ?_
  refine x_aload_n (v := a0) C dX12_swap_36 rfl ?_
  obtain ⟨v14, e15, hf⟩ := j_bind hf
  refine x_get C dX12_swap_37 (jgI_some e15) fg_X12_365 ?_
  obtain rfl := j_inj hf
  exact x_iret C hret dX12_swap_40
set_option maxHeartbeats 4000000 in
set_option maxRecDepth 100000 in
theorem s_X12_image_L44 {p : Program} {l : Launch} {e : Env} {R : Room} {s : State} {m : MethodId} {args : Array Value} {below : List Frame} {meth : Method} {c : Code} {E : JE} {h0 hF : JH} {rF : Option Value} {d : Nat} (C : j_C p s m args meth c R E cX12_image 4 RX12 h0 hF d) (hret : meth.sig.returnType = (some .boolean)) (hdd : 1 ≤ d) (a0 : Nat) (a1 : Int32) (a2 : Int32) (z : Int32) (h : JH) (r : Int32 ⊕ Int32) (h1 : JH) (hf : f_X12_image_L44 a0 a1 a2 z h = some (r, h1)) (hk : Sum.elim (fun z => Xw p l e R s m args below meth c E 4 h0 rF hF 44 [(0, .ref a0), (1, .int a1), (2, .int a2), (3, .int z)] [] h1) (fun t => Xw p l e R s m args below meth c E 4 h0 rF hF 94 [(0, .ref a0), (1, .int a1), (2, .int a2), (3, .int t)] [] h1) r) : Xw p l e R s m args below meth c E 4 h0 rF hF 44 [(0, .ref a0), (1, .int a1), (2, .int a2), (3, .int z)] [] h := by
  unfold f_X12_image_L44 at hf
  refine x_iload_n (v := z) C dX12_image_44 rfl ?_
  refine x_iconst C dX12_image_45 ki_4 ?_
  refine x_icmp_ge (tgt := 94) C dX12_image_46 (by decide) (fun c21 => ?_) (fun c21 => ?_)
  · have hf := j_ifp hf c21
    obtain ⟨rfl, rfl⟩ := j_inj2 hf
    exact x_locr hk rfl
  · have hf := j_ifn hf c21
    refine x_iload_n (v := a2) C dX12_image_49 rfl ?_
    refine x_if_eq (tgt := 72) C dX12_image_50 (by decide) (fun c22 => ?_) (fun c22 => ?_)
    · have hf := j_ifp hf c22
      refine x_aload_n (v := a0) C dX12_image_72 rfl ?_
      obtain ⟨v5, e6, hf⟩ := j_bind hf
      refine x_get C dX12_image_73 (jgR_some e6) fg_X12_257 ?_
      refine x_iconst C dX12_image_76 ki_4 ?_
      refine x_iload_n (v := a1) C dX12_image_77 rfl ?_
      refine x_imul C dX12_image_78 ?_
      refine x_iload_n (v := z) C dX12_image_79 rfl ?_
      refine x_iadd C dX12_image_80 ?_
      refine x_aload_n (v := a0) C dX12_image_81 rfl ?_
      obtain ⟨v7, e8, hf⟩ := j_bind hf
      refine x_get C dX12_image_82 (jgR_some e8) fg_X12_215 ?_
      refine x_iload_n (v := z) C dX12_image_85 rfl ?_
      obtain ⟨v9, e10, hf⟩ := j_bind hf
      refine x_iald C dX12_image_86 e10 ?_
      obtain ⟨h11, e12, hf⟩ := j_bind hf
      refine x_iast C dX12_image_87 e12 ?_
      refine x_iinc (v := z) C dX12_image_88 rfl ki_1 (by decide) ?_
      refine x_goto (tgt := 44) C dX12_image_91 (by decide) ?_
      obtain ⟨rfl, rfl⟩ := j_inj2 hf
      exact x_locr hk rfl
    · have hf := j_ifn hf c22
      refine x_aload_n (v := a0) C dX12_image_53 rfl ?_
      obtain ⟨v13, e14, hf⟩ := j_bind hf
      refine x_get C dX12_image_54 (jgR_some e14) fg_X12_215 ?_
      refine x_iload_n (v := z) C dX12_image_57 rfl ?_
      refine x_aload_n (v := a0) C dX12_image_58 rfl ?_
      obtain ⟨v15, e16, hf⟩ := j_bind hf
      refine x_get C dX12_image_59 (jgR_some e16) fg_X12_257 ?_
      refine x_iconst C dX12_image_62 ki_4 ?_
      refine x_iload_n (v := a1) C dX12_image_63 rfl ?_
      refine x_imul C dX12_image_64 ?_
      refine x_iload_n (v := z) C dX12_image_65 rfl ?_
      refine x_iadd C dX12_image_66 ?_
      obtain ⟨v17, e18, hf⟩ := j_bind hf
      refine x_iald C dX12_image_67 e18 ?_
      obtain ⟨h19, e20, hf⟩ := j_bind hf
      refine x_iast C dX12_image_68 e20 ?_
      refine x_goto (tgt := 88) C dX12_image_69 (by decide) ?_
      refine x_iinc (v := z) C dX12_image_88 rfl ki_1 (by decide) ?_
      refine x_goto (tgt := 44) C dX12_image_91 (by decide) ?_
      obtain ⟨rfl, rfl⟩ := j_inj2 hf
      exact x_locr hk rfl
set_option maxHeartbeats 4000000 in
set_option maxRecDepth 100000 in
theorem s_X12_image_L96 {p : Program} {l : Launch} {e : Env} {R : Room} {s : State} {m : MethodId} {args : Array Value} {below : List Frame} {meth : Method} {c : Code} {E : JE} {h0 hF : JH} {rF : Option Value} {d : Nat} (C : j_C p s m args meth c R E cX12_image 4 RX12 h0 hF d) (hret : meth.sig.returnType = (some .boolean)) (hdd : 1 ≤ d) (a0 : Nat) (a1 : Int32) (a2 : Int32) (z : Int32) (h : JH) (r : Int32 ⊕ Int32) (h1 : JH) (hf : f_X12_image_L96 a0 a1 a2 z h = some (r, h1)) (hk : Sum.elim (fun z => Xw p l e R s m args below meth c E 4 h0 rF hF 96 [(0, .ref a0), (1, .int a1), (2, .int a2), (3, .int z)] [] h1) (fun t => Xw p l e R s m args below meth c E 4 h0 rF hF 152 [(0, .ref a0), (1, .int a1), (2, .int a2), (3, .int t)] [] h1) r) : Xw p l e R s m args below meth c E 4 h0 rF hF 96 [(0, .ref a0), (1, .int a1), (2, .int a2), (3, .int z)] [] h := by
  unfold f_X12_image_L96 at hf
  refine x_iload_n (v := z) C dX12_image_96 rfl ?_
  refine x_sipush C dX12_image_97 ks_724 ?_
  refine x_icmp_ge (tgt := 152) C dX12_image_100 (by decide) (fun c41 => ?_) (fun c41 => ?_)
  · have hf := j_ifp hf c41
    obtain ⟨rfl, rfl⟩ := j_inj2 hf
    exact x_locr hk rfl
  · have hf := j_ifn hf c41
    refine x_iload_n (v := a2) C dX12_image_103 rfl ?_
    refine x_if_eq (tgt := 128) C dX12_image_104 (by decide) (fun c42 => ?_) (fun c42 => ?_)
    · have hf := j_ifp hf c42
      refine x_aload_n (v := a0) C dX12_image_128 rfl ?_
      obtain ⟨v25, e26, hf⟩ := j_bind hf
      refine x_get C dX12_image_129 (jgR_some e26) fg_X12_260 ?_
      refine x_sipush C dX12_image_132 ks_724 ?_
      refine x_iload_n (v := a1) C dX12_image_135 rfl ?_
      refine x_imul C dX12_image_136 ?_
      refine x_iload_n (v := z) C dX12_image_137 rfl ?_
      refine x_iadd C dX12_image_138 ?_
      refine x_aload_n (v := a0) C dX12_image_139 rfl ?_
      obtain ⟨v27, e28, hf⟩ := j_bind hf
      refine x_get C dX12_image_140 (jgR_some e28) fg_X12_218 ?_
      refine x_iload_n (v := z) C dX12_image_143 rfl ?_
      obtain ⟨v29, e30, hf⟩ := j_bind hf
      refine x_iald C dX12_image_144 e30 ?_
      obtain ⟨h31, e32, hf⟩ := j_bind hf
      refine x_iast C dX12_image_145 e32 ?_
      refine x_iinc (v := z) C dX12_image_146 rfl ki_1 (by decide) ?_
      refine x_goto (tgt := 96) C dX12_image_149 (by decide) ?_
      obtain ⟨rfl, rfl⟩ := j_inj2 hf
      exact x_locr hk rfl
    · have hf := j_ifn hf c42
      refine x_aload_n (v := a0) C dX12_image_107 rfl ?_
      obtain ⟨v33, e34, hf⟩ := j_bind hf
      refine x_get C dX12_image_108 (jgR_some e34) fg_X12_218 ?_
      refine x_iload_n (v := z) C dX12_image_111 rfl ?_
      refine x_aload_n (v := a0) C dX12_image_112 rfl ?_
      obtain ⟨v35, e36, hf⟩ := j_bind hf
      refine x_get C dX12_image_113 (jgR_some e36) fg_X12_260 ?_
      refine x_sipush C dX12_image_116 ks_724 ?_
      refine x_iload_n (v := a1) C dX12_image_119 rfl ?_
      refine x_imul C dX12_image_120 ?_
      refine x_iload_n (v := z) C dX12_image_121 rfl ?_
      refine x_iadd C dX12_image_122 ?_
      obtain ⟨v37, e38, hf⟩ := j_bind hf
      refine x_iald C dX12_image_123 e38 ?_
      obtain ⟨h39, e40, hf⟩ := j_bind hf
      refine x_iast C dX12_image_124 e40 ?_
      refine x_goto (tgt := 146) C dX12_image_125 (by decide) ?_
      refine x_iinc (v := z) C dX12_image_146 rfl ki_1 (by decide) ?_
      refine x_goto (tgt := 96) C dX12_image_149 (by decide) ?_
      obtain ⟨rfl, rfl⟩ := j_inj2 hf
      exact x_locr hk rfl
set_option maxHeartbeats 4000000 in
set_option maxRecDepth 100000 in
theorem s_X12_image_L154 {p : Program} {l : Launch} {e : Env} {R : Room} {s : State} {m : MethodId} {args : Array Value} {below : List Frame} {meth : Method} {c : Code} {E : JE} {h0 hF : JH} {rF : Option Value} {d : Nat} (C : j_C p s m args meth c R E cX12_image 4 RX12 h0 hF d) (hret : meth.sig.returnType = (some .boolean)) (hdd : 1 ≤ d) (a0 : Nat) (a1 : Int32) (a2 : Int32) (z : Int32) (h : JH) (r : Int32 ⊕ Int32) (h1 : JH) (hf : f_X12_image_L154 a0 a1 a2 z h = some (r, h1)) (hk : Sum.elim (fun z => Xw p l e R s m args below meth c E 4 h0 rF hF 154 [(0, .ref a0), (1, .int a1), (2, .int a2), (3, .int z)] [] h1) (fun t => Xw p l e R s m args below meth c E 4 h0 rF hF 207 [(0, .ref a0), (1, .int a1), (2, .int a2), (3, .int t)] [] h1) r) : Xw p l e R s m args below meth c E 4 h0 rF hF 154 [(0, .ref a0), (1, .int a1), (2, .int a2), (3, .int z)] [] h := by
  unfold f_X12_image_L154 at hf
  refine x_iload_n (v := z) C dX12_image_154 rfl ?_
  refine x_bipush C dX12_image_155 kb_8 ?_
  refine x_icmp_ge (tgt := 207) C dX12_image_157 (by decide) (fun c61 => ?_) (fun c61 => ?_)
  · have hf := j_ifp hf c61
    obtain ⟨rfl, rfl⟩ := j_inj2 hf
    exact x_locr hk rfl
  · have hf := j_ifn hf c61
    refine x_iload_n (v := a2) C dX12_image_160 rfl ?_
    refine x_if_eq (tgt := 184) C dX12_image_161 (by decide) (fun c62 => ?_) (fun c62 => ?_)
    · have hf := j_ifp hf c62
      refine x_aload_n (v := a0) C dX12_image_184 rfl ?_
      obtain ⟨v45, e46, hf⟩ := j_bind hf
      refine x_get C dX12_image_185 (jgR_some e46) fg_X12_263 ?_
      refine x_bipush C dX12_image_188 kb_8 ?_
      refine x_iload_n (v := a1) C dX12_image_190 rfl ?_
      refine x_imul C dX12_image_191 ?_
      refine x_iload_n (v := z) C dX12_image_192 rfl ?_
      refine x_iadd C dX12_image_193 ?_
      refine x_aload_n (v := a0) C dX12_image_194 rfl ?_
      obtain ⟨v47, e48, hf⟩ := j_bind hf
      refine x_get C dX12_image_195 (jgR_some e48) fg_X12_221 ?_
      refine x_iload_n (v := z) C dX12_image_198 rfl ?_
      obtain ⟨v49, e50, hf⟩ := j_bind hf
      refine x_bald C dX12_image_199 e50 ?_
      obtain ⟨h51, e52, hf⟩ := j_bind hf
      refine x_bast C dX12_image_200 e52 ?_
      refine x_iinc (v := z) C dX12_image_201 rfl ki_1 (by decide) ?_
      refine x_goto (tgt := 154) C dX12_image_204 (by decide) ?_
      obtain ⟨rfl, rfl⟩ := j_inj2 hf
      exact x_locr hk rfl
    · have hf := j_ifn hf c62
      refine x_aload_n (v := a0) C dX12_image_164 rfl ?_
      obtain ⟨v53, e54, hf⟩ := j_bind hf
      refine x_get C dX12_image_165 (jgR_some e54) fg_X12_221 ?_
      refine x_iload_n (v := z) C dX12_image_168 rfl ?_
      refine x_aload_n (v := a0) C dX12_image_169 rfl ?_
      obtain ⟨v55, e56, hf⟩ := j_bind hf
      refine x_get C dX12_image_170 (jgR_some e56) fg_X12_263 ?_
      refine x_bipush C dX12_image_173 kb_8 ?_
      refine x_iload_n (v := a1) C dX12_image_175 rfl ?_
      refine x_imul C dX12_image_176 ?_
      refine x_iload_n (v := z) C dX12_image_177 rfl ?_
      refine x_iadd C dX12_image_178 ?_
      obtain ⟨v57, e58, hf⟩ := j_bind hf
      refine x_bald C dX12_image_179 e58 ?_
      obtain ⟨h59, e60, hf⟩ := j_bind hf
      refine x_bast C dX12_image_180 e60 ?_
      refine x_goto (tgt := 201) C dX12_image_181 (by decide) ?_
      refine x_iinc (v := z) C dX12_image_201 rfl ki_1 (by decide) ?_
      refine x_goto (tgt := 154) C dX12_image_204 (by decide) ?_
      obtain ⟨rfl, rfl⟩ := j_inj2 hf
      exact x_locr hk rfl
set_option maxHeartbeats 4000000 in
set_option maxRecDepth 100000 in
theorem s_X12_image_L209 {p : Program} {l : Launch} {e : Env} {R : Room} {s : State} {m : MethodId} {args : Array Value} {below : List Frame} {meth : Method} {c : Code} {E : JE} {h0 hF : JH} {rF : Option Value} {d : Nat} (C : j_C p s m args meth c R E cX12_image 4 RX12 h0 hF d) (hret : meth.sig.returnType = (some .boolean)) (hdd : 1 ≤ d) (a0 : Nat) (a1 : Int32) (a2 : Int32) (z : Int32) (h : JH) (r : Int32 ⊕ Int32) (h1 : JH) (hf : f_X12_image_L209 a0 a1 a2 z h = some (r, h1)) (hk : Sum.elim (fun z => Xw p l e R s m args below meth c E 4 h0 rF hF 209 [(0, .ref a0), (1, .int a1), (2, .int a2), (3, .int z)] [] h1) (fun t => Xw p l e R s m args below meth c E 4 h0 rF hF 262 [(0, .ref a0), (1, .int a1), (2, .int a2), (3, .int t)] [] h1) r) : Xw p l e R s m args below meth c E 4 h0 rF hF 209 [(0, .ref a0), (1, .int a1), (2, .int a2), (3, .int z)] [] h := by
  unfold f_X12_image_L209 at hf
  refine x_iload_n (v := z) C dX12_image_209 rfl ?_
  refine x_bipush C dX12_image_210 kb_104 ?_
  refine x_icmp_ge (tgt := 262) C dX12_image_212 (by decide) (fun c81 => ?_) (fun c81 => ?_)
  · have hf := j_ifp hf c81
    obtain ⟨rfl, rfl⟩ := j_inj2 hf
    exact x_locr hk rfl
  · have hf := j_ifn hf c81
    refine x_iload_n (v := a2) C dX12_image_215 rfl ?_
    refine x_if_eq (tgt := 239) C dX12_image_216 (by decide) (fun c82 => ?_) (fun c82 => ?_)
    · have hf := j_ifp hf c82
      refine x_aload_n (v := a0) C dX12_image_239 rfl ?_
      obtain ⟨v65, e66, hf⟩ := j_bind hf
      refine x_get C dX12_image_240 (jgR_some e66) fg_X12_266 ?_
      refine x_bipush C dX12_image_243 kb_104 ?_
      refine x_iload_n (v := a1) C dX12_image_245 rfl ?_
      refine x_imul C dX12_image_246 ?_
      refine x_iload_n (v := z) C dX12_image_247 rfl ?_
      refine x_iadd C dX12_image_248 ?_
      refine x_aload_n (v := a0) C dX12_image_249 rfl ?_
      obtain ⟨v67, e68, hf⟩ := j_bind hf
      refine x_get C dX12_image_250 (jgR_some e68) fg_X12_250 ?_
      refine x_iload_n (v := z) C dX12_image_253 rfl ?_
      obtain ⟨v69, e70, hf⟩ := j_bind hf
      refine x_lald C dX12_image_254 e70 ?_
      obtain ⟨h71, e72, hf⟩ := j_bind hf
      refine x_last C dX12_image_255 e72 ?_
      refine x_iinc (v := z) C dX12_image_256 rfl ki_1 (by decide) ?_
      refine x_goto (tgt := 209) C dX12_image_259 (by decide) ?_
      obtain ⟨rfl, rfl⟩ := j_inj2 hf
      exact x_locr hk rfl
    · have hf := j_ifn hf c82
      refine x_aload_n (v := a0) C dX12_image_219 rfl ?_
      obtain ⟨v73, e74, hf⟩ := j_bind hf
      refine x_get C dX12_image_220 (jgR_some e74) fg_X12_250 ?_
      refine x_iload_n (v := z) C dX12_image_223 rfl ?_
      refine x_aload_n (v := a0) C dX12_image_224 rfl ?_
      obtain ⟨v75, e76, hf⟩ := j_bind hf
      refine x_get C dX12_image_225 (jgR_some e76) fg_X12_266 ?_
      refine x_bipush C dX12_image_228 kb_104 ?_
      refine x_iload_n (v := a1) C dX12_image_230 rfl ?_
      refine x_imul C dX12_image_231 ?_
      refine x_iload_n (v := z) C dX12_image_232 rfl ?_
      refine x_iadd C dX12_image_233 ?_
      obtain ⟨v77, e78, hf⟩ := j_bind hf
      refine x_lald C dX12_image_234 e78 ?_
      obtain ⟨h79, e80, hf⟩ := j_bind hf
      refine x_last C dX12_image_235 e80 ?_
      refine x_goto (tgt := 256) C dX12_image_236 (by decide) ?_
      refine x_iinc (v := z) C dX12_image_256 rfl ki_1 (by decide) ?_
      refine x_goto (tgt := 209) C dX12_image_259 (by decide) ?_
      obtain ⟨rfl, rfl⟩ := j_inj2 hf
      exact x_locr hk rfl
set_option maxHeartbeats 4000000 in
set_option maxRecDepth 100000 in
theorem m_X12_image {l : Launch} {E : JE} {d : Nat} (hdd : 1 ≤ d) {a0 : Nat} {a1 : Int32} {a2 : Int32} {h : JH} {q : Int32 × JH} (hf : f_X12_image a0 a1 a2 h = some q) : Con l E d yX12_image cX12_image 4 (some .boolean) [.ref a0, .int a1, .int a2] h (some (.int q.1)) q.2 := by
  refine j_start rfl (Nat.le_of_ble_eq_true rfl) ?_
  intro p e s m args below meth c C hret hnm
  refine x_loc [(0, .ref a0), (1, .int a1), (2, .int a2)] rfl ?_
  unfold f_X12_image at hf
  refine x_aload_n (v := a0) C dX12_image_0 rfl ?_
  refine x_iconst C dX12_image_1 ki_0 ?_
  obtain ⟨h1, e2, hf⟩ := j_bind hf
  refine x_put C dX12_image_2 e2 fp_X12_1 rfl rfl ?_
  refine x_iload_n (v := a1) C dX12_image_5 rfl ?_
  refine x_iconst C dX12_image_6 ki_0 ?_
  refine x_iconst C dX12_image_7 ki_1 ?_
  obtain ⟨q3, e4, hf⟩ := j_bind hf
  refine x_callS (As := [.int a1, .int (0 : Int32), .int (1 : Int32)]) (rest := []) C dX12_image_8 (m_X12_within (l := l) (E := E) (d := d - 1) (by omega) e4) km_X12_within lk_X12_45 ks_X12_within rfl (by omega) (Nat.le_of_ble_eq_true rfl) (j_le_of (q_X12_within e4)) (Or.inr (q_X12_within e4)) ?_
  refine x_if_eq (tgt := 40) C dX12_image_11 (by decide) (fun c123 => ?_) (fun c123 => ?_)
  · have hf := j_ifp hf c123
    refine x_iconst C dX12_image_40 ki_0 ?_
    obtain rfl := j_inj hf
    exact x_zret C hret (Or.inl rfl) dX12_image_41
  · have hf := j_ifn hf c123
    refine x_iload_n (v := a2) C dX12_image_14 rfl ?_
    refine x_if_eq (tgt := 42) C dX12_image_15 (by decide) (fun c124 => ?_) (fun c124 => ?_)
    · have hf := j_ifp hf c124
      refine x_iconst C dX12_image_42 ki_0 ?_
      refine x_istore_n C dX12_image_43 (by decide) ?_
      obtain ⟨q23, e24, hf⟩ := j_bind hf
      refine x_loc [(0, .ref a0), (1, .int a1), (2, .int a2), (3, .int (0 : Int32))] rfl ?_
      refine x_loop (s_X12_image_L44 C hret hdd a0 a1 a2) e24 ?_
      refine x_iconst C dX12_image_94 ki_0 ?_
      refine x_istore_n C dX12_image_95 (by decide) ?_
      obtain ⟨q43, e44, hf⟩ := j_bind hf
      refine x_loc [(0, .ref a0), (1, .int a1), (2, .int a2), (3, .int (0 : Int32))] rfl ?_
      refine x_loop (s_X12_image_L96 C hret hdd a0 a1 a2) e44 ?_
      refine x_iconst C dX12_image_152 ki_0 ?_
      refine x_istore_n C dX12_image_153 (by decide) ?_
      obtain ⟨q63, e64, hf⟩ := j_bind hf
      refine x_loc [(0, .ref a0), (1, .int a1), (2, .int a2), (3, .int (0 : Int32))] rfl ?_
      refine x_loop (s_X12_image_L154 C hret hdd a0 a1 a2) e64 ?_
      refine x_iconst C dX12_image_207 ki_0 ?_
      refine x_istore_n C dX12_image_208 (by decide) ?_
      obtain ⟨q83, e84, hf⟩ := j_bind hf
      refine x_loc [(0, .ref a0), (1, .int a1), (2, .int a2), (3, .int (0 : Int32))] rfl ?_
      refine x_loop (s_X12_image_L209 C hret hdd a0 a1 a2) e84 ?_
      refine x_iload_n (v := a2) C dX12_image_262 rfl ?_
      refine x_if_ne (tgt := 283) C dX12_image_263 (by decide) (fun c125 => ?_) (fun c125 => ?_)
      · have hf := j_ifn hf c125
        refine x_iconst C dX12_image_283 ki_1 ?_
        obtain rfl := j_inj hf
        exact x_zret C hret (Or.inr rfl) dX12_image_284
      · have hf := j_ifp hf c125
        refine x_aload_n (v := a0) C dX12_image_266 rfl ?_
        obtain ⟨v85, e86, hf⟩ := j_bind hf
        refine x_get C dX12_image_267 (jgR_some e86) fg_X12_225 ?_
        refine x_iload_n (v := a1) C dX12_image_270 rfl ?_
        refine x_iconst C dX12_image_271 ki_1 ?_
        obtain ⟨h87, e88, hf⟩ := j_bind hf
        refine x_bast C dX12_image_272 e88 ?_
        refine x_aload_n (v := a0) C dX12_image_273 rfl ?_
        obtain ⟨v89, e90, hf⟩ := j_bind hf
        refine x_get C dX12_image_274 (jgR_some e90) fg_X12_254 ?_
        refine x_iload_n (v := a1) C dX12_image_277 rfl ?_
        refine x_aload_n (v := a0) C dX12_image_278 rfl ?_
        obtain ⟨v91, e92, hf⟩ := j_bind hf
        refine x_get C dX12_image_279 (jgI_some e92) fg_X12_365 ?_
        obtain ⟨h93, e94, hf⟩ := j_bind hf
        refine x_iast C dX12_image_282 e94 ?_
        refine x_iconst C dX12_image_283 ki_1 ?_
        obtain rfl := j_inj hf
        exact x_zret C hret (Or.inr rfl) dX12_image_284
    · have hf := j_ifn hf c124
      refine x_aload_n (v := a0) C dX12_image_18 rfl ?_
      obtain ⟨v95, e96, hf⟩ := j_bind hf
      refine x_get C dX12_image_19 (jgR_some e96) fg_X12_225 ?_
      refine x_iload_n (v := a1) C dX12_image_22 rfl ?_
      obtain ⟨v97, e98, hf⟩ := j_bind hf
      refine x_bald C dX12_image_23 e98 ?_
      refine x_if_eq (tgt := 40) C dX12_image_24 (by decide) (fun c126 => ?_) (fun c126 => ?_)
      · have hf := j_ifp hf c126
        refine x_iconst C dX12_image_40 ki_0 ?_
        obtain rfl := j_inj hf
        exact x_zret C hret (Or.inl rfl) dX12_image_41
      · have hf := j_ifn hf c126
        refine x_aload_n (v := a0) C dX12_image_27 rfl ?_
        obtain ⟨v99, e100, hf⟩ := j_bind hf
        refine x_get C dX12_image_28 (jgR_some e100) fg_X12_254 ?_
        refine x_iload_n (v := a1) C dX12_image_31 rfl ?_
        obtain ⟨v101, e102, hf⟩ := j_bind hf
        refine x_iald C dX12_image_32 e102 ?_
        refine x_aload_n (v := a0) C dX12_image_33 rfl ?_
        obtain ⟨v103, e104, hf⟩ := j_bind hf
        refine x_get C dX12_image_34 (jgI_some e104) fg_X12_365 ?_
        refine x_icmp_eq (tgt := 42) C dX12_image_37 (by decide) (fun c127 => ?_) (fun c127 => ?_)
        · have hf := j_ifp hf c127
          refine x_iconst C dX12_image_42 ki_0 ?_
          refine x_istore_n C dX12_image_43 (by decide) ?_
          obtain ⟨q105, e106, hf⟩ := j_bind hf
          refine x_loc [(0, .ref a0), (1, .int a1), (2, .int a2), (3, .int (0 : Int32))] rfl ?_
          refine x_loop (s_X12_image_L44 C hret hdd a0 a1 a2) e106 ?_
          refine x_iconst C dX12_image_94 ki_0 ?_
          refine x_istore_n C dX12_image_95 (by decide) ?_
          obtain ⟨q107, e108, hf⟩ := j_bind hf
          refine x_loc [(0, .ref a0), (1, .int a1), (2, .int a2), (3, .int (0 : Int32))] rfl ?_
          refine x_loop (s_X12_image_L96 C hret hdd a0 a1 a2) e108 ?_
          refine x_iconst C dX12_image_152 ki_0 ?_
          refine x_istore_n C dX12_image_153 (by decide) ?_
          obtain ⟨q109, e110, hf⟩ := j_bind hf
          refine x_loc [(0, .ref a0), (1, .int a1), (2, .int a2), (3, .int (0 : Int32))] rfl ?_
          refine x_loop (s_X12_image_L154 C hret hdd a0 a1 a2) e110 ?_
          refine x_iconst C dX12_image_207 ki_0 ?_
          refine x_istore_n C dX12_image_208 (by decide) ?_
          obtain ⟨q111, e112, hf⟩ := j_bind hf
          refine x_loc [(0, .ref a0), (1, .int a1), (2, .int a2), (3, .int (0 : Int32))] rfl ?_
          refine x_loop (s_X12_image_L209 C hret hdd a0 a1 a2) e112 ?_
          refine x_iload_n (v := a2) C dX12_image_262 rfl ?_
          refine x_if_ne (tgt := 283) C dX12_image_263 (by decide) (fun c128 => ?_) (fun c128 => ?_)
          · have hf := j_ifn hf c128
            refine x_iconst C dX12_image_283 ki_1 ?_
            obtain rfl := j_inj hf
            exact x_zret C hret (Or.inr rfl) dX12_image_284
          · have hf := j_ifp hf c128
            refine x_aload_n (v := a0) C dX12_image_266 rfl ?_
            obtain ⟨v113, e114, hf⟩ := j_bind hf
            refine x_get C dX12_image_267 (jgR_some e114) fg_X12_225 ?_
            refine x_iload_n (v := a1) C dX12_image_270 rfl ?_
            refine x_iconst C dX12_image_271 ki_1 ?_
            obtain ⟨h115, e116, hf⟩ := j_bind hf
            refine x_bast C dX12_image_272 e116 ?_
            refine x_aload_n (v := a0) C dX12_image_273 rfl ?_
            obtain ⟨v117, e118, hf⟩ := j_bind hf
            refine x_get C dX12_image_274 (jgR_some e118) fg_X12_254 ?_
            refine x_iload_n (v := a1) C dX12_image_277 rfl ?_
            refine x_aload_n (v := a0) C dX12_image_278 rfl ?_
            obtain ⟨v119, e120, hf⟩ := j_bind hf
            refine x_get C dX12_image_279 (jgI_some e120) fg_X12_365 ?_
            obtain ⟨h121, e122, hf⟩ := j_bind hf
            refine x_iast C dX12_image_282 e122 ?_
            refine x_iconst C dX12_image_283 ki_1 ?_
            obtain rfl := j_inj hf
            exact x_zret C hret (Or.inr rfl) dX12_image_284
        · have hf := j_ifn hf c127
          refine x_iconst C dX12_image_40 ki_0 ?_
          obtain rfl := j_inj hf
          exact x_zret C hret (Or.inl rfl) dX12_image_41
