set_option maxHeartbeats 4000000 in
set_option maxRecDepth 100000 in
theorem m_X0_readPower {l : Launch} {E : JE} {d : Nat} {rec : Nat → Int32 → JH → Option (Int32 × JH)} {DR : Nat} (hDR : 8 ≤ DR) (hrec : ∀ (d1 : Nat), DR ≤ d1 → ∀ {x0 : Nat} {x1 : Int32} {hh : JH} {qq : Int32 × JH}, rec x0 x1 hh = some qq → Con l E d1 yX0_readSum cX0_readSum 7 (some .boolean) [.ref x0, .int x1] hh (some (.int qq.1)) qq.2) (hrecq : ∀ {x0 : Nat} {x1 : Int32} {hh : JH} {qq : Int32 × JH}, rec x0 x1 hh = some qq → qq.2.2.1 = hh.2.1) (hdd : DR + 2 ≤ d) {a0 : Nat} {a1 : Int32} {h : JH} {q : Int32 × JH} (hf : f_X0_readPower rec a0 a1 h = some q) : Con l E d yX0_readPower cX0_readPower 4 (some .boolean) [.ref a0, .int a1] h (some (.int q.1)) q.2 := by
  refine j_start rfl (Nat.le_of_ble_eq_true rfl) ?_
  intro p e s m args below meth c C hret hnm
  refine x_loc [(0, .ref a0), (1, .int a1)] rfl ?_
  unfold f_X0_readPower at hf
  refine x_aload_n (v := a0) C dX0_readPower_0 rfl ?_
  obtain ⟨v1, e2, hf⟩ := j_bind hf
  refine x_get C dX0_readPower_1 (jgI_some e2) fg_X0_50 ?_
  refine x_istore_n C dX0_readPower_4 (by decide) ?_
  refine x_aload_n (v := a0) C dX0_readPower_5 rfl ?_
  refine x_iload_n (v := a1) C dX0_readPower_6 rfl ?_
  obtain ⟨u69, e70, hf⟩ := j_bind hf
  obtain ⟨q3, e4, hf⟩ := j_bind hf
  refine x_callV (As := [.int a1]) (rest := []) C dX0_readPower_7 (m_X0_readAtom hDR hrec hrecq (l := l) (E := E) (d := d - 1) (by omega) e4) km_X0_readAtom lk_X0_124 kv_X0_readAtom (ci := 0) rfl e70 rfl (by omega) (Nat.le_of_ble_eq_true rfl) (j_le_of (q_X0_readAtom hrecq e4)) (Or.inr (q_X0_readAtom hrecq e4)) ?_
  refine x_if_ne (tgt := 15) C dX0_readPower_10 (by decide) (fun c71 => ?_) (fun c71 => ?_)
  · have hf := j_ifn hf c71
    refine x_aload_n (v := a0) C dX0_readPower_15 rfl ?_
    obtain ⟨u67, e68, hf⟩ := j_bind hf
    obtain ⟨q5, e6, hf⟩ := j_bind hf
    refine x_callV (As := []) (rest := []) C dX0_readPower_16 (m_X0_kind (l := l) (E := E) (d := d - 1) (by omega) e6) km_X0_kind lk_X0_75 kv_X0_kind (ci := 0) rfl e68 rfl (by omega) (Nat.le_of_ble_eq_true rfl) (j_le_of (q_X0_kind e6)) (Or.inr (q_X0_kind e6)) ?_
    refine x_bipush C dX0_readPower_19 kb_94 ?_
    refine x_icmp_eq (tgt := 26) C dX0_readPower_21 (by decide) (fun c72 => ?_) (fun c72 => ?_)
    · have hf := j_ifp hf c72
      refine x_aload_n (v := a0) C dX0_readPower_26 rfl ?_
      obtain ⟨u65, e66, hf⟩ := j_bind hf
      obtain ⟨q7, e8, hf⟩ := j_bind hf
      refine x_callV (As := []) (rest := []) C dX0_readPower_27 (m_X0_goOn (l := l) (E := E) (d := d - 1) (by omega) e8) km_X0_goOn lk_X0_83 kv_X0_goOn (ci := 0) rfl e66 rfl (by omega) (Nat.le_of_ble_eq_true rfl) (j_le_of (q_X0_goOn e8)) (Or.inr (q_X0_goOn e8)) ?_
      refine x_aload_n (v := a0) C dX0_readPower_30 rfl ?_
      obtain ⟨u63, e64, hf⟩ := j_bind hf
      obtain ⟨q9, e10, hf⟩ := j_bind hf
      refine x_callV (As := []) (rest := []) C dX0_readPower_31 (m_X0_kind (l := l) (E := E) (d := d - 1) (by omega) e10) km_X0_kind lk_X0_75 kv_X0_kind (ci := 0) rfl e64 rfl (by omega) (Nat.le_of_ble_eq_true rfl) (j_le_of (q_X0_kind e10)) (Or.inr (q_X0_kind e10)) ?_
      refine x_iconst C dX0_readPower_34 ki_3 ?_
      refine x_icmp_eq (tgt := 48) C dX0_readPower_35 (by decide) (fun c73 => ?_) (fun c73 => ?_)
      · have hf := j_ifp hf c73
        refine x_aload_n (v := a0) C dX0_readPower_48 rfl ?_
        obtain ⟨u53, e54, hf⟩ := j_bind hf
        obtain ⟨q11, e12, hf⟩ := j_bind hf
        refine x_callV (As := []) (rest := []) C dX0_readPower_49 (m_X0_value (l := l) (E := E) (d := d - 1) (by omega) e12) km_X0_value lk_X0_86 kv_X0_value (ci := 0) rfl e54 rfl (by omega) (Nat.le_of_ble_eq_true rfl) (j_le_of (q_X0_value e12)) (Or.inr (q_X0_value e12)) ?_
        refine x_istore_n C dX0_readPower_52 (by decide) ?_
        refine x_iload_n (v := q11.1) C dX0_readPower_53 rfl ?_
        refine x_if_lt (tgt := 63) C dX0_readPower_54 (by decide) (fun c74 => ?_) (fun c74 => ?_)
        · have hf := j_ifp hf c74
          refine x_aload_n (v := a0) C dX0_readPower_63 rfl ?_
          refine x_iconst C dX0_readPower_64 ki_4 ?_
          refine x_aload_n (v := a0) C dX0_readPower_65 rfl ?_
          obtain ⟨v13, e14, hf⟩ := j_bind hf
          refine x_get C dX0_readPower_66 (jgI_some e14) fg_X0_50 ?_
          obtain ⟨u19, e20, hf⟩ := j_bind hf
          obtain ⟨q15, e16, hf⟩ := j_bind hf
          refine x_callV (As := [.int (4 : Int32), .int v13]) (rest := []) C dX0_readPower_69 (m_X0_fail (l := l) (E := E) (d := d - 1) (by omega) e16) km_X0_fail lk_X0_79 kv_X0_fail (ci := 0) rfl e20 rfl (by omega) (Nat.le_of_ble_eq_true rfl) (j_le_of (q_X0_fail e16)) (Or.inr (q_X0_fail e16)) ?_
          obtain ⟨u17, e18, hf⟩ := j_bind hf
          obtain rfl := j_inj hf
          exact x_zret C hret (jzb_some e18) dX0_readPower_72
        · have hf := j_ifn hf c74
          refine x_iload_n (v := q11.1) C dX0_readPower_57 rfl ?_
          refine x_bipush C dX0_readPower_58 kb_15 ?_
          refine x_icmp_le (tgt := 73) C dX0_readPower_60 (by decide) (fun c75 => ?_) (fun c75 => ?_)
          · have hf := j_ifp hf c75
            refine x_aload_n (v := a0) C dX0_readPower_73 rfl ?_
            obtain ⟨u43, e44, hf⟩ := j_bind hf
            obtain ⟨q21, e22, hf⟩ := j_bind hf
            refine x_callV (As := []) (rest := []) C dX0_readPower_74 (m_X0_goOn (l := l) (E := E) (d := d - 1) (by omega) e22) km_X0_goOn lk_X0_83 kv_X0_goOn (ci := 0) rfl e44 rfl (by omega) (Nat.le_of_ble_eq_true rfl) (j_le_of (q_X0_goOn e22)) (Or.inr (q_X0_goOn e22)) ?_
            refine x_aload_n (v := a0) C dX0_readPower_77 rfl ?_
            obtain ⟨v23, e24, hf⟩ := j_bind hf
            refine x_get C dX0_readPower_78 (jgR_some e24) fg_X0_36 ?_
            refine x_iload_n (v := a1) C dX0_readPower_81 rfl ?_
            obtain ⟨v25, e26, hf⟩ := j_bind hf
            refine x_aald C dX0_readPower_82 e26 ?_
            obtain ⟨v27, e28, hf⟩ := j_bind hf
            refine x_get C dX0_readPower_83 (jgI_some e28) fg_X0_110 ?_
            refine x_iload_n (v := q11.1) C dX0_readPower_86 rfl ?_
            refine x_imul C dX0_readPower_87 ?_
            refine x_bipush C dX0_readPower_88 kb_60 ?_
            refine x_icmp_le (tgt := 101) C dX0_readPower_90 (by decide) (fun c76 => ?_) (fun c76 => ?_)
            · have hf := j_ifp hf c76
              refine x_aload_n (v := a0) C dX0_readPower_101 rfl ?_
              refine x_aload_n (v := a0) C dX0_readPower_102 rfl ?_
              obtain ⟨v29, e30, hf⟩ := j_bind hf
              refine x_get C dX0_readPower_103 (jgR_some e30) fg_X0_36 ?_
              refine x_iload_n (v := a1) C dX0_readPower_106 rfl ?_
              obtain ⟨v31, e32, hf⟩ := j_bind hf
              refine x_aald C dX0_readPower_107 e32 ?_
              refine x_iload_n (v := q11.1) C dX0_readPower_108 rfl ?_
              obtain ⟨u35, e36, hf⟩ := j_bind hf
              obtain ⟨q33, e34, hf⟩ := j_bind hf
              refine x_callV (As := [.ref v31, .int q11.1]) (rest := []) C dX0_readPower_109 (m_X0_raise (l := l) (E := E) (d := d - 1) (by omega) e34) km_X0_raise lk_X0_127 kv_X0_raise (ci := 0) rfl e36 rfl (by omega) (Nat.le_of_ble_eq_true rfl) (j_le_of (q_X0_raise e34)) (Or.inr (q_X0_raise e34)) ?_
              refine x_iconst C dX0_readPower_112 ki_1 ?_
              obtain rfl := j_inj hf
              exact x_zret C hret (Or.inr rfl) dX0_readPower_113
            · have hf := j_ifn hf c76
              refine x_aload_n (v := a0) C dX0_readPower_93 rfl ?_
              refine x_bipush C dX0_readPower_94 kb_7 ?_
              refine x_iload_n (v := v1) C dX0_readPower_96 rfl ?_
              obtain ⟨u41, e42, hf⟩ := j_bind hf
              obtain ⟨q37, e38, hf⟩ := j_bind hf
              refine x_callV (As := [.int (7 : Int32), .int v1]) (rest := []) C dX0_readPower_97 (m_X0_fail (l := l) (E := E) (d := d - 1) (by omega) e38) km_X0_fail lk_X0_79 kv_X0_fail (ci := 0) rfl e42 rfl (by omega) (Nat.le_of_ble_eq_true rfl) (j_le_of (q_X0_fail e38)) (Or.inr (q_X0_fail e38)) ?_
              obtain ⟨u39, e40, hf⟩ := j_bind hf
              obtain rfl := j_inj hf
              exact x_zret C hret (jzb_some e40) dX0_readPower_100
          · have hf := j_ifn hf c75
            refine x_aload_n (v := a0) C dX0_readPower_63 rfl ?_
            refine x_iconst C dX0_readPower_64 ki_4 ?_
            refine x_aload_n (v := a0) C dX0_readPower_65 rfl ?_
            obtain ⟨v45, e46, hf⟩ := j_bind hf
            refine x_get C dX0_readPower_66 (jgI_some e46) fg_X0_50 ?_
            obtain ⟨u51, e52, hf⟩ := j_bind hf
            obtain ⟨q47, e48, hf⟩ := j_bind hf
            refine x_callV (As := [.int (4 : Int32), .int v45]) (rest := []) C dX0_readPower_69 (m_X0_fail (l := l) (E := E) (d := d - 1) (by omega) e48) km_X0_fail lk_X0_79 kv_X0_fail (ci := 0) rfl e52 rfl (by omega) (Nat.le_of_ble_eq_true rfl) (j_le_of (q_X0_fail e48)) (Or.inr (q_X0_fail e48)) ?_
            obtain ⟨u49, e50, hf⟩ := j_bind hf
            obtain rfl := j_inj hf
            exact x_zret C hret (jzb_some e50) dX0_readPower_72
      · have hf := j_ifn hf c73
        refine x_aload_n (v := a0) C dX0_readPower_38 rfl ?_
        refine x_iconst C dX0_readPower_39 ki_1 ?_
        refine x_aload_n (v := a0) C dX0_readPower_40 rfl ?_
        obtain ⟨v55, e56, hf⟩ := j_bind hf
        refine x_get C dX0_readPower_41 (jgI_some e56) fg_X0_50 ?_
        obtain ⟨u61, e62, hf⟩ := j_bind hf
        obtain ⟨q57, e58, hf⟩ := j_bind hf
        refine x_callV (As := [.int (1 : Int32), .int v55]) (rest := []) C dX0_readPower_44 (m_X0_fail (l := l) (E := E) (d := d - 1) (by omega) e58) km_X0_fail lk_X0_79 kv_X0_fail (ci := 0) rfl e62 rfl (by omega) (Nat.le_of_ble_eq_true rfl) (j_le_of (q_X0_fail e58)) (Or.inr (q_X0_fail e58)) ?_
        obtain ⟨u59, e60, hf⟩ := j_bind hf
        obtain rfl := j_inj hf
        exact x_zret C hret (jzb_some e60) dX0_readPower_47
    · have hf := j_ifn hf c72
      refine x_iconst C dX0_readPower_24 ki_1 ?_
      obtain rfl := j_inj hf
      exact x_zret C hret (Or.inr rfl) dX0_readPower_25
  · have hf := j_ifp hf c71
    refine x_iconst C dX0_readPower_13 ki_0 ?_
    obtain rfl := j_inj hf
    exact x_zret C hret (Or.inl rfl) dX0_readPower_14
set_option maxHeartbeats 4000000 in
set_option maxRecDepth 100000 in
theorem s_X0_readProduct_L32 {p : Program} {l : Launch} {e : Env} {R : Room} {s : State} {m : MethodId} {args : Array Value} {below : List Frame} {meth : Method} {c : Code} {E : JE} {h0 hF : JH} {rF : Option Value} {d : Nat} {rec : Nat → Int32 → JH → Option (Int32 × JH)} {DR : Nat} (hDR : 8 ≤ DR) (hrec : ∀ (d1 : Nat), DR ≤ d1 → ∀ {x0 : Nat} {x1 : Int32} {hh : JH} {qq : Int32 × JH}, rec x0 x1 hh = some qq → Con l E d1 yX0_readSum cX0_readSum 7 (some .boolean) [.ref x0, .int x1] hh (some (.int qq.1)) qq.2) (hrecq : ∀ {x0 : Nat} {x1 : Int32} {hh : JH} {qq : Int32 × JH}, rec x0 x1 hh = some qq → qq.2.2.1 = hh.2.1) (C : j_C p s m args meth c R E cX0_readProduct 6 RX0 h0 hF d) (hret : meth.sig.returnType = (some .boolean)) (hdd : DR + 3 ≤ d) (a0 : Nat) (a1 : Int32) (a2 : Nat) (a3 : Nat) (z : Int32) (h : JH) (r : Int32 ⊕ (Int32 ⊕ Int32)) (h1 : JH) (hf : f_X0_readProduct_L32 rec a0 a1 a2 a3 z h = some (r, h1)) (hk : Sum.elim (fun z => Xw p l e R s m args below meth c E 6 h0 rF hF 32 [(0, .ref a0), (1, .int a1), (2, .ref a2), (3, .ref a3), (4, .int z)] [] h1) (fun t => Sum.elim (fun rr => some (.int rr) = rF ∧ h1 = hF) (fun t => Xw p l e R s m args below meth c E 6 h0 rF hF 111 [(0, .ref a0), (1, .int a1), (2, .ref a2), (3, .ref a3), (4, .int t)] [] h1) t) r) : Xw p l e R s m args below meth c E 6 h0 rF hF 32 [(0, .ref a0), (1, .int a1), (2, .ref a2), (3, .ref a3), (4, .int z)] [] h := by
  unfold f_X0_readProduct_L32 at hf
  refine x_iload (v := z) C dX0_readProduct_32 rfl ?_
  refine x_aload_n (v := a0) C dX0_readProduct_34 rfl ?_
  obtain ⟨v13, e14, hf⟩ := j_bind hf
  refine x_get C dX0_readProduct_35 (jgR_some e14) fg_X0_26 ?_
  obtain ⟨v15, e16, hf⟩ := j_bind hf
  refine x_get C dX0_readProduct_38 (jgI_some e16) fg_X0_66 ?_
  refine x_icmp_ge (tgt := 111) C dX0_readProduct_41 (by decide) (fun c47 => ?_) (fun c47 => ?_)
  · have hf := j_ifp hf c47
    obtain ⟨rfl, rfl⟩ := j_inj2 hf
    exact x_locr hk rfl
  · have hf := j_ifn hf c47
    refine x_aload_n (v := a0) C dX0_readProduct_44 rfl ?_
    obtain ⟨u45, e46, hf⟩ := j_bind hf
    obtain ⟨q17, e18, hf⟩ := j_bind hf
    refine x_callV (As := []) (rest := []) C dX0_readProduct_45 (m_X0_kind (l := l) (E := E) (d := d - 1) (by omega) e18) km_X0_kind lk_X0_75 kv_X0_kind (ci := 0) rfl e46 rfl (by omega) (Nat.le_of_ble_eq_true rfl) (j_le_of (q_X0_kind e18)) (Or.inr (q_X0_kind e18)) ?_
    refine x_bipush C dX0_readProduct_48 kb_42 ?_
    refine x_icmp_ne (tgt := 111) C dX0_readProduct_50 (by decide) (fun c48 => ?_) (fun c48 => ?_)
    · have hf := j_ifn hf c48
      obtain ⟨rfl, rfl⟩ := j_inj2 hf
      exact x_locr hk rfl
    · have hf := j_ifp hf c48
      refine x_aload_n (v := a0) C dX0_readProduct_53 rfl ?_
      obtain ⟨u43, e44, hf⟩ := j_bind hf
      obtain ⟨q19, e20, hf⟩ := j_bind hf
      refine x_callV (As := []) (rest := []) C dX0_readProduct_54 (m_X0_goOn (l := l) (E := E) (d := d - 1) (by omega) e20) km_X0_goOn lk_X0_83 kv_X0_goOn (ci := 0) rfl e44 rfl (by omega) (Nat.le_of_ble_eq_true rfl) (j_le_of (q_X0_goOn e20)) (Or.inr (q_X0_goOn e20)) ?_
      refine x_aload_n (v := a0) C dX0_readProduct_57 rfl ?_
      obtain ⟨v21, e22, hf⟩ := j_bind hf
      refine x_get C dX0_readProduct_58 (jgI_some e22) fg_X0_50 ?_
      refine x_istore C dX0_readProduct_61 (by decide) ?_
      refine x_aload_n (v := a0) C dX0_readProduct_63 rfl ?_
      refine x_iload_n (v := a1) C dX0_readProduct_64 rfl ?_
      obtain ⟨u41, e42, hf⟩ := j_bind hf
      obtain ⟨q23, e24, hf⟩ := j_bind hf
      refine x_callV (As := [.int a1]) (rest := []) C dX0_readProduct_65 (m_X0_readPower hDR hrec hrecq (l := l) (E := E) (d := d - 1) (by omega) e24) km_X0_readPower lk_X0_117 kv_X0_readPower (ci := 0) rfl e42 rfl (by omega) (Nat.le_of_ble_eq_true rfl) (j_le_of (q_X0_readPower hrecq e24)) (Or.inr (q_X0_readPower hrecq e24)) ?_
      refine x_if_ne (tgt := 73) C dX0_readProduct_68 (by decide) (fun c49 => ?_) (fun c49 => ?_)
      · have hf := j_ifn hf c49
        refine x_aload_n (v := a2) C dX0_readProduct_73 rfl ?_
        obtain ⟨v25, e26, hf⟩ := j_bind hf
        refine x_get C dX0_readProduct_74 (jgI_some e26) fg_X0_110 ?_
        refine x_aload_n (v := a3) C dX0_readProduct_77 rfl ?_
        obtain ⟨v27, e28, hf⟩ := j_bind hf
        refine x_get C dX0_readProduct_78 (jgI_some e28) fg_X0_110 ?_
        refine x_iadd C dX0_readProduct_81 ?_
        refine x_bipush C dX0_readProduct_82 kb_60 ?_
        refine x_icmp_le (tgt := 96) C dX0_readProduct_84 (by decide) (fun c50 => ?_) (fun c50 => ?_)
        · have hf := j_ifp hf c50
          refine x_aload_n (v := a2) C dX0_readProduct_96 rfl ?_
          refine x_aload_n (v := a3) C dX0_readProduct_97 rfl ?_
          refine x_aload_n (v := a0) C dX0_readProduct_98 rfl ?_
          obtain ⟨v29, e30, hf⟩ := j_bind hf
          refine x_get C dX0_readProduct_99 (jgI_some e30) fg_X0_54 ?_
          obtain ⟨u33, e34, hf⟩ := j_bind hf
          obtain ⟨q31, e32, hf⟩ := j_bind hf
          refine x_callV (As := [.ref a3, .int v29]) (rest := []) C dX0_readProduct_102 (m_X2_multiplyBy (l := l) (E := E) (d := d - 1) (by omega) e32) km_X2_multiplyBy lk_X0_120 kv_X2_multiplyBy (ci := 1) rfl e34 rfl (by omega) (Nat.le_of_ble_eq_true rfl) (j_le_of (q_X2_multiplyBy e32)) (Or.inr (q_X2_multiplyBy e32)) ?_
          refine x_iinc (v := z) C dX0_readProduct_105 rfl ki_1 (by decide) ?_
          refine x_goto (tgt := 32) C dX0_readProduct_108 (by decide) ?_
          obtain ⟨rfl, rfl⟩ := j_inj2 hf
          exact x_locr hk rfl
        · have hf := j_ifn hf c50
          refine x_aload_n (v := a0) C dX0_readProduct_87 rfl ?_
          refine x_bipush C dX0_readProduct_88 kb_7 ?_
          refine x_iload (v := v21) C dX0_readProduct_90 rfl ?_
          obtain ⟨u39, e40, hf⟩ := j_bind hf
          obtain ⟨q35, e36, hf⟩ := j_bind hf
          refine x_callV (As := [.int (7 : Int32), .int v21]) (rest := []) C dX0_readProduct_92 (m_X0_fail (l := l) (E := E) (d := d - 1) (by omega) e36) km_X0_fail lk_X0_79 kv_X0_fail (ci := 0) rfl e40 rfl (by omega) (Nat.le_of_ble_eq_true rfl) (j_le_of (q_X0_fail e36)) (Or.inr (q_X0_fail e36)) ?_
          obtain ⟨u37, e38, hf⟩ := j_bind hf
          obtain ⟨rfl, rfl⟩ := j_inj2 hf
          obtain ⟨rfl, rfl⟩ := hk
          exact x_zret C hret (jzb_some e38) dX0_readProduct_95
      · have hf := j_ifp hf c49
        refine x_iconst C dX0_readProduct_71 ki_0 ?_
        obtain ⟨rfl, rfl⟩ := j_inj2 hf
        obtain ⟨rfl, rfl⟩ := hk
        exact x_zret C hret (Or.inl rfl) dX0_readProduct_72
set_option maxHeartbeats 4000000 in
set_option maxRecDepth 100000 in
theorem m_X0_readProduct {l : Launch} {E : JE} {d : Nat} {rec : Nat → Int32 → JH → Option (Int32 × JH)} {DR : Nat} (hDR : 8 ≤ DR) (hrec : ∀ (d1 : Nat), DR ≤ d1 → ∀ {x0 : Nat} {x1 : Int32} {hh : JH} {qq : Int32 × JH}, rec x0 x1 hh = some qq → Con l E d1 yX0_readSum cX0_readSum 7 (some .boolean) [.ref x0, .int x1] hh (some (.int qq.1)) qq.2) (hrecq : ∀ {x0 : Nat} {x1 : Int32} {hh : JH} {qq : Int32 × JH}, rec x0 x1 hh = some qq → qq.2.2.1 = hh.2.1) (hdd : DR + 3 ≤ d) {a0 : Nat} {a1 : Int32} {h : JH} {q : Int32 × JH} (hf : f_X0_readProduct rec a0 a1 h = some q) : Con l E d yX0_readProduct cX0_readProduct 6 (some .boolean) [.ref a0, .int a1] h (some (.int q.1)) q.2 := by
  refine j_start rfl (Nat.le_of_ble_eq_true rfl) ?_
  intro p e s m args below meth c C hret hnm
  refine x_loc [(0, .ref a0), (1, .int a1)] rfl ?_
  unfold f_X0_readProduct at hf
  refine x_aload_n (v := a0) C dX0_readProduct_0 rfl ?_
  refine x_iload_n (v := a1) C dX0_readProduct_1 rfl ?_
  obtain ⟨u57, e58, hf⟩ := j_bind hf
  obtain ⟨q1, e2, hf⟩ := j_bind hf
  refine x_callV (As := [.int a1]) (rest := []) C dX0_readProduct_2 (m_X0_readPower hDR hrec hrecq (l := l) (E := E) (d := d - 1) (by omega) e2) km_X0_readPower lk_X0_117 kv_X0_readPower (ci := 0) rfl e58 rfl (by omega) (Nat.le_of_ble_eq_true rfl) (j_le_of (q_X0_readPower hrecq e2)) (Or.inr (q_X0_readPower hrecq e2)) ?_
  refine x_if_ne (tgt := 10) C dX0_readProduct_5 (by decide) (fun c60 => ?_) (fun c60 => ?_)
  · have hf := j_ifn hf c60
    refine x_aload_n (v := a0) C dX0_readProduct_10 rfl ?_
    obtain ⟨v3, e4, hf⟩ := j_bind hf
    refine x_get C dX0_readProduct_11 (jgR_some e4) fg_X0_33 ?_
    refine x_iload_n (v := a1) C dX0_readProduct_14 rfl ?_
    obtain ⟨v5, e6, hf⟩ := j_bind hf
    refine x_aald C dX0_readProduct_15 e6 ?_
    refine x_astore_n C dX0_readProduct_16 (by decide) ?_
    refine x_aload_n (v := a0) C dX0_readProduct_17 rfl ?_
    obtain ⟨v7, e8, hf⟩ := j_bind hf
    refine x_get C dX0_readProduct_18 (jgR_some e8) fg_X0_36 ?_
    refine x_iload_n (v := a1) C dX0_readProduct_21 rfl ?_
    obtain ⟨v9, e10, hf⟩ := j_bind hf
    refine x_aald C dX0_readProduct_22 e10 ?_
    refine x_astore_n C dX0_readProduct_23 (by decide) ?_
    refine x_aload_n (v := v5) C dX0_readProduct_24 rfl ?_
    refine x_aload_n (v := v9) C dX0_readProduct_25 rfl ?_
    obtain ⟨u55, e56, hf⟩ := j_bind hf
    obtain ⟨q11, e12, hf⟩ := j_bind hf
    refine x_callV (As := [.ref v9]) (rest := []) C dX0_readProduct_26 (m_X2_copyFrom (l := l) (E := E) (d := d - 1) (by omega) e12) km_X2_copyFrom lk_X0_103 kv_X2_copyFrom (ci := 1) rfl e56 rfl (by omega) (Nat.le_of_ble_eq_true rfl) (j_le_of (q_X2_copyFrom e12)) (Or.inr (q_X2_copyFrom e12)) ?_
    refine x_iconst C dX0_readProduct_29 ki_0 ?_
    refine x_istore C dX0_readProduct_30 (by decide) ?_
    obtain ⟨q51, e52, hf⟩ := j_bind hf
    refine x_loc [(0, .ref a0), (1, .int a1), (2, .ref v5), (3, .ref v9), (4, .int (0 : Int32))] rfl ?_
    refine x_loop (s_X0_readProduct_L32 hDR hrec hrecq C hret hdd a0 a1 v5 v9) e52 ?_
    cases y61 : q51.1 with
    | inl r54 =>
      rw [y61] at hf
      have hf := j_eliml hf
      obtain rfl := j_inj hf
      exact ⟨rfl, rfl⟩
    | inr t53 =>
      rw [y61] at hf
      have hf := j_elimr hf
      refine j_elimG ?_
      refine x_iconst C dX0_readProduct_111 ki_1 ?_
      obtain rfl := j_inj hf
      exact x_zret C hret (Or.inr rfl) dX0_readProduct_112
  · have hf := j_ifp hf c60
    refine x_iconst C dX0_readProduct_8 ki_0 ?_
    obtain rfl := j_inj hf
    exact x_zret C hret (Or.inl rfl) dX0_readProduct_9
set_option maxHeartbeats 4000000 in
set_option maxRecDepth 100000 in
theorem s_X2_add_L3 {p : Program} {l : Launch} {e : Env} {R : Room} {s : State} {m : MethodId} {args : Array Value} {below : List Frame} {meth : Method} {c : Code} {E : JE} {h0 hF : JH} {rF : Option Value} {d : Nat} (C : j_C p s m args meth c R E cX2_add 5 RX2 h0 hF d) (hret : meth.sig.returnType = none) (hdd : 1 ≤ d) (a0 : Nat) (a1 : Nat) (a2 : Int32) (a3 : Int32) (z : Int32) (h : JH) (r : Int32 ⊕ Int32) (h1 : JH) (hf : f_X2_add_L3 a0 a1 a2 a3 z h = some (r, h1)) (hk : Sum.elim (fun z => Xw p l e R s m args below meth c E 5 h0 rF hF 3 [(0, .ref a0), (1, .ref a1), (2, .int a2), (3, .int a3), (4, .int z)] [] h1) (fun t => Xw p l e R s m args below meth c E 5 h0 rF hF 47 [(0, .ref a0), (1, .ref a1), (2, .int a2), (3, .int a3), (4, .int t)] [] h1) r) : Xw p l e R s m args below meth c E 5 h0 rF hF 3 [(0, .ref a0), (1, .ref a1), (2, .int a2), (3, .int a3), (4, .int z)] [] h := by
  unfold f_X2_add_L3 at hf
  refine x_iload (v := z) C dX2_add_3 rfl ?_
  refine x_bipush C dX2_add_5 kb_6 ?_
  refine x_icmp_ge (tgt := 47) C dX2_add_7 (by decide) (fun c15 => ?_) (fun c15 => ?_)
  · have hf := j_ifp hf c15
    obtain ⟨rfl, rfl⟩ := j_inj2 hf
    exact x_locr hk rfl
  · have hf := j_ifn hf c15
    refine x_aload_n (v := a0) C dX2_add_10 rfl ?_
    obtain ⟨v1, e2, hf⟩ := j_bind hf
    refine x_get C dX2_add_11 (jgR_some e2) fg_X2_9 ?_
    refine x_iload (v := z) C dX2_add_14 rfl ?_
    refine x_aload_n (v := a0) C dX2_add_16 rfl ?_
    obtain ⟨v3, e4, hf⟩ := j_bind hf
    refine x_get C dX2_add_17 (jgR_some e4) fg_X2_9 ?_
    refine x_iload (v := z) C dX2_add_20 rfl ?_
    obtain ⟨v5, e6, hf⟩ := j_bind hf
    refine x_iald C dX2_add_22 e6 ?_
    refine x_i2l C dX2_add_23 ?_
    refine x_iload_n (v := a2) C dX2_add_24 rfl ?_
    refine x_i2l C dX2_add_25 ?_
    refine x_aload_n (v := a1) C dX2_add_26 rfl ?_
    obtain ⟨v7, e8, hf⟩ := j_bind hf
    refine x_get C dX2_add_27 (jgR_some e8) fg_X2_9 ?_
    refine x_iload (v := z) C dX2_add_30 rfl ?_
    obtain ⟨v9, e10, hf⟩ := j_bind hf
    refine x_iald C dX2_add_32 e10 ?_
    refine x_i2l C dX2_add_33 ?_
    refine x_lmul C dX2_add_34 ?_
    refine x_ladd C dX2_add_35 ?_
    refine x_iload_n (v := a3) C dX2_add_36 rfl ?_
    obtain ⟨q11, e12, hf⟩ := j_bind hf
    refine x_callS (As := [.long (v5.toInt64 + (a2.toInt64 * v9.toInt64)), .int a3]) (rest := [.int z, .ref v1]) C dX2_add_37 (m_X4_of (l := l) (E := E) (d := d - 1) (by omega) e12) km_X4_of lk_X2_31 ks_X4_of rfl (by omega) (Nat.le_of_ble_eq_true rfl) (j_le_of (q_X4_of e12)) (Or.inr (q_X4_of e12)) ?_
    obtain ⟨h13, e14, hf⟩ := j_bind hf
    refine x_iast C dX2_add_40 e14 ?_
    refine x_iinc (v := z) C dX2_add_41 rfl ki_1 (by decide) ?_
    refine x_goto (tgt := 3) C dX2_add_44 (by decide) ?_
    obtain ⟨rfl, rfl⟩ := j_inj2 hf
    exact x_locr hk rfl
set_option maxHeartbeats 4000000 in
set_option maxRecDepth 100000 in
theorem m_X2_add {l : Launch} {E : JE} {d : Nat} (hdd : 1 ≤ d) {a0 : Nat} {a1 : Nat} {a2 : Int32} {a3 : Int32} {h : JH} {q : Unit × JH} (hf : f_X2_add a0 a1 a2 a3 h = some q) : Con l E d yX2_add cX2_add 5 none [.ref a0, .ref a1, .int a2, .int a3] h (none) q.2 := by
  refine j_start rfl (Nat.le_of_ble_eq_true rfl) ?_
  intro p e s m args below meth c C hret hnm
  refine x_loc [(0, .ref a0), (1, .ref a1), (2, .int a2), (3, .int a3)] rfl ?_
  unfold f_X2_add at hf
  refine x_iconst C dX2_add_0 ki_0 ?_
  refine x_istore C dX2_add_1 (by decide) ?_
  obtain ⟨q16, e17, hf⟩ := j_bind hf
  refine x_loc [(0, .ref a0), (1, .ref a1), (2, .int a2), (3, .int a3), (4, .int (0 : Int32))] rfl ?_
  refine x_loop (s_X2_add_L3 C hret hdd a0 a1 a2 a3) e17 ?_
  obtain rfl := j_inj hf
  exact x_vret C hret dX2_add_47
set_option maxHeartbeats 4000000 in
set_option maxRecDepth 100000 in
theorem s_X0_readSum_L32 {p : Program} {l : Launch} {e : Env} {R : Room} {s : State} {m : MethodId} {args : Array Value} {below : List Frame} {meth : Method} {c : Code} {E : JE} {h0 hF : JH} {rF : Option Value} {d : Nat} {rec : Nat → Int32 → JH → Option (Int32 × JH)} {DR : Nat} (hDR : 8 ≤ DR) (hrec : ∀ (d1 : Nat), DR ≤ d1 → ∀ {x0 : Nat} {x1 : Int32} {hh : JH} {qq : Int32 × JH}, rec x0 x1 hh = some qq → Con l E d1 yX0_readSum cX0_readSum 7 (some .boolean) [.ref x0, .int x1] hh (some (.int qq.1)) qq.2) (hrecq : ∀ {x0 : Nat} {x1 : Int32} {hh : JH} {qq : Int32 × JH}, rec x0 x1 hh = some qq → qq.2.2.1 = hh.2.1) (C : j_C p s m args meth c R E cX0_readSum 7 RX0 h0 hF d) (hret : meth.sig.returnType = (some .boolean)) (hdd : DR + 4 ≤ d) (a0 : Nat) (a1 : Int32) (a2 : Nat) (a3 : Nat) (z : Int32) (h : JH) (r : Int32 ⊕ (Int32 ⊕ Int32)) (h1 : JH) (hf : f_X0_readSum_L32 rec a0 a1 a2 a3 z h = some (r, h1)) (hk : Sum.elim (fun z => Xw p l e R s m args below meth c E 7 h0 rF hF 32 [(0, .ref a0), (1, .int a1), (2, .ref a2), (3, .ref a3), (4, .int z)] [] h1) (fun t => Sum.elim (fun rr => some (.int rr) = rF ∧ h1 = hF) (fun t => Xw p l e R s m args below meth c E 7 h0 rF hF 140 [(0, .ref a0), (1, .int a1), (2, .ref a2), (3, .ref a3), (4, .int t)] [] h1) t) r) : Xw p l e R s m args below meth c E 7 h0 rF hF 32 [(0, .ref a0), (1, .int a1), (2, .ref a2), (3, .ref a3), (4, .int z)] [] h := by
  unfold f_X0_readSum_L32 at hf
  refine x_iload (v := z) C dX0_readSum_32 rfl ?_
  refine x_aload_n (v := a0) C dX0_readSum_34 rfl ?_
  obtain ⟨v13, e14, hf⟩ := j_bind hf
  refine x_get C dX0_readSum_35 (jgR_some e14) fg_X0_26 ?_
  obtain ⟨v15, e16, hf⟩ := j_bind hf
  refine x_get C dX0_readSum_38 (jgI_some e16) fg_X0_66 ?_
  refine x_icmp_ge (tgt := 140) C dX0_readSum_41 (by decide) (fun c141 => ?_) (fun c141 => ?_)
  · have hf := j_ifp hf c141
    obtain ⟨rfl, rfl⟩ := j_inj2 hf
    exact x_locr hk rfl
  · have hf := j_ifn hf c141
    refine x_aload_n (v := a0) C dX0_readSum_44 rfl ?_
    obtain ⟨u139, e140, hf⟩ := j_bind hf
    obtain ⟨q17, e18, hf⟩ := j_bind hf
    refine x_callV (As := []) (rest := []) C dX0_readSum_45 (m_X0_kind (l := l) (E := E) (d := d - 1) (by omega) e18) km_X0_kind lk_X0_75 kv_X0_kind (ci := 0) rfl e140 rfl (by omega) (Nat.le_of_ble_eq_true rfl) (j_le_of (q_X0_kind e18)) (Or.inr (q_X0_kind e18)) ?_
    refine x_bipush C dX0_readSum_48 kb_43 ?_
    refine x_icmp_eq (tgt := 62) C dX0_readSum_50 (by decide) (fun c142 => ?_) (fun c142 => ?_)
    · have hf := j_ifp hf c142
      refine x_aload_n (v := a0) C dX0_readSum_62 rfl ?_
      obtain ⟨u75, e76, hf⟩ := j_bind hf
      obtain ⟨q19, e20, hf⟩ := j_bind hf
      refine x_callV (As := []) (rest := []) C dX0_readSum_63 (m_X0_kind (l := l) (E := E) (d := d - 1) (by omega) e20) km_X0_kind lk_X0_75 kv_X0_kind (ci := 0) rfl e76 rfl (by omega) (Nat.le_of_ble_eq_true rfl) (j_le_of (q_X0_kind e20)) (Or.inr (q_X0_kind e20)) ?_
      refine x_bipush C dX0_readSum_66 kb_43 ?_
      refine x_icmp_ne (tgt := 75) C dX0_readSum_68 (by decide) (fun c143 => ?_) (fun c143 => ?_)
      · have hf := j_ifn hf c143
        refine x_aload_n (v := a0) C dX0_readSum_75 rfl ?_
        obtain ⟨v21, e22, hf⟩ := j_bind hf
        refine x_get C dX0_readSum_76 (jgI_some e22) fg_X0_54 ?_
        refine x_iconst C dX0_readSum_79 ki_1 ?_
        refine x_isub C dX0_readSum_80 ?_
        refine x_istore C dX0_readSum_81 (by decide) ?_
        refine x_aload_n (v := a0) C dX0_readSum_83 rfl ?_
        obtain ⟨u47, e48, hf⟩ := j_bind hf
        obtain ⟨q23, e24, hf⟩ := j_bind hf
        refine x_callV (As := []) (rest := []) C dX0_readSum_84 (m_X0_goOn (l := l) (E := E) (d := d - 1) (by omega) e24) km_X0_goOn lk_X0_83 kv_X0_goOn (ci := 0) rfl e48 rfl (by omega) (Nat.le_of_ble_eq_true rfl) (j_le_of (q_X0_goOn e24)) (Or.inr (q_X0_goOn e24)) ?_
        refine x_aload_n (v := a0) C dX0_readSum_87 rfl ?_
        obtain ⟨v25, e26, hf⟩ := j_bind hf
        refine x_get C dX0_readSum_88 (jgI_some e26) fg_X0_50 ?_
        refine x_istore C dX0_readSum_91 (by decide) ?_
        refine x_aload_n (v := a0) C dX0_readSum_93 rfl ?_
        refine x_iload_n (v := a1) C dX0_readSum_94 rfl ?_
        obtain ⟨u45, e46, hf⟩ := j_bind hf
        obtain ⟨q27, e28, hf⟩ := j_bind hf
        refine x_callV (As := [.int a1]) (rest := []) C dX0_readSum_95 (m_X0_readProduct hDR hrec hrecq (l := l) (E := E) (d := d - 1) (by omega) e28) km_X0_readProduct lk_X0_107 kv_X0_readProduct (ci := 0) rfl e46 rfl (by omega) (Nat.le_of_ble_eq_true rfl) (j_le_of (q_X0_readProduct hrecq e28)) (Or.inr (q_X0_readProduct hrecq e28)) ?_
        refine x_if_ne (tgt := 103) C dX0_readSum_98 (by decide) (fun c144 => ?_) (fun c144 => ?_)
        · have hf := j_ifn hf c144
          refine x_aload_n (v := a3) C dX0_readSum_103 rfl ?_
          obtain ⟨v29, e30, hf⟩ := j_bind hf
          refine x_get C dX0_readSum_104 (jgI_some e30) fg_X0_110 ?_
          refine x_aload_n (v := a2) C dX0_readSum_107 rfl ?_
          obtain ⟨v31, e32, hf⟩ := j_bind hf
          refine x_get C dX0_readSum_108 (jgI_some e32) fg_X0_110 ?_
          refine x_icmp_eq (tgt := 123) C dX0_readSum_111 (by decide) (fun c145 => ?_) (fun c145 => ?_)
          · have hf := j_ifp hf c145
            refine x_aload_n (v := a2) C dX0_readSum_123 rfl ?_
            refine x_aload_n (v := a3) C dX0_readSum_124 rfl ?_
            refine x_iload (v := v21 - (1 : Int32)) C dX0_readSum_125 rfl ?_
            refine x_aload_n (v := a0) C dX0_readSum_127 rfl ?_
            obtain ⟨v33, e34, hf⟩ := j_bind hf
            refine x_get C dX0_readSum_128 (jgI_some e34) fg_X0_54 ?_
            obtain ⟨u37, e38, hf⟩ := j_bind hf
            obtain ⟨q35, e36, hf⟩ := j_bind hf
            refine x_callV (As := [.ref a3, .int (v21 - (1 : Int32)), .int v33]) (rest := []) C dX0_readSum_131 (m_X2_add (l := l) (E := E) (d := d - 1) (by omega) e36) km_X2_add lk_X0_113 kv_X2_add (ci := 1) rfl e38 rfl (by omega) (Nat.le_of_ble_eq_true rfl) (j_le_of (q_X2_add e36)) (Or.inr (q_X2_add e36)) ?_
            refine x_iinc (v := z) C dX0_readSum_134 rfl ki_1 (by decide) ?_
            refine x_goto (tgt := 32) C dX0_readSum_137 (by decide) ?_
            obtain ⟨rfl, rfl⟩ := j_inj2 hf
            exact x_locr hk rfl
          · have hf := j_ifn hf c145
            refine x_aload_n (v := a0) C dX0_readSum_114 rfl ?_
            refine x_bipush C dX0_readSum_115 kb_6 ?_
            refine x_iload (v := v25) C dX0_readSum_117 rfl ?_
            obtain ⟨u43, e44, hf⟩ := j_bind hf
            obtain ⟨q39, e40, hf⟩ := j_bind hf
            refine x_callV (As := [.int (6 : Int32), .int v25]) (rest := []) C dX0_readSum_119 (m_X0_fail (l := l) (E := E) (d := d - 1) (by omega) e40) km_X0_fail lk_X0_79 kv_X0_fail (ci := 0) rfl e44 rfl (by omega) (Nat.le_of_ble_eq_true rfl) (j_le_of (q_X0_fail e40)) (Or.inr (q_X0_fail e40)) ?_
            obtain ⟨u41, e42, hf⟩ := j_bind hf
            obtain ⟨rfl, rfl⟩ := j_inj2 hf
            obtain ⟨rfl, rfl⟩ := hk
            exact x_zret C hret (jzb_some e42) dX0_readSum_122
        · have hf := j_ifp hf c144
          refine x_iconst C dX0_readSum_101 ki_0 ?_
          obtain ⟨rfl, rfl⟩ := j_inj2 hf
          obtain ⟨rfl, rfl⟩ := hk
          exact x_zret C hret (Or.inl rfl) dX0_readSum_102
      · have hf := j_ifp hf c143
        refine x_iconst C dX0_readSum_71 ki_1 ?_
        refine x_goto (tgt := 81) C dX0_readSum_72 (by decide) ?_
        refine x_istore C dX0_readSum_81 (by decide) ?_
        refine x_aload_n (v := a0) C dX0_readSum_83 rfl ?_
        obtain ⟨u73, e74, hf⟩ := j_bind hf
        obtain ⟨q49, e50, hf⟩ := j_bind hf
        refine x_callV (As := []) (rest := []) C dX0_readSum_84 (m_X0_goOn (l := l) (E := E) (d := d - 1) (by omega) e50) km_X0_goOn lk_X0_83 kv_X0_goOn (ci := 0) rfl e74 rfl (by omega) (Nat.le_of_ble_eq_true rfl) (j_le_of (q_X0_goOn e50)) (Or.inr (q_X0_goOn e50)) ?_
        refine x_aload_n (v := a0) C dX0_readSum_87 rfl ?_
        obtain ⟨v51, e52, hf⟩ := j_bind hf
        refine x_get C dX0_readSum_88 (jgI_some e52) fg_X0_50 ?_
        refine x_istore C dX0_readSum_91 (by decide) ?_
        refine x_aload_n (v := a0) C dX0_readSum_93 rfl ?_
        refine x_iload_n (v := a1) C dX0_readSum_94 rfl ?_
        obtain ⟨u71, e72, hf⟩ := j_bind hf
        obtain ⟨q53, e54, hf⟩ := j_bind hf
        refine x_callV (As := [.int a1]) (rest := []) C dX0_readSum_95 (m_X0_readProduct hDR hrec hrecq (l := l) (E := E) (d := d - 1) (by omega) e54) km_X0_readProduct lk_X0_107 kv_X0_readProduct (ci := 0) rfl e72 rfl (by omega) (Nat.le_of_ble_eq_true rfl) (j_le_of (q_X0_readProduct hrecq e54)) (Or.inr (q_X0_readProduct hrecq e54)) ?_
        refine x_if_ne (tgt := 103) C dX0_readSum_98 (by decide) (fun c146 => ?_) (fun c146 => ?_)
        · have hf := j_ifn hf c146
          refine x_aload_n (v := a3) C dX0_readSum_103 rfl ?_
          obtain ⟨v55, e56, hf⟩ := j_bind hf
          refine x_get C dX0_readSum_104 (jgI_some e56) fg_X0_110 ?_
          refine x_aload_n (v := a2) C dX0_readSum_107 rfl ?_
          obtain ⟨v57, e58, hf⟩ := j_bind hf
          refine x_get C dX0_readSum_108 (jgI_some e58) fg_X0_110 ?_
          refine x_icmp_eq (tgt := 123) C dX0_readSum_111 (by decide) (fun c147 => ?_) (fun c147 => ?_)
          · have hf := j_ifp hf c147
            refine x_aload_n (v := a2) C dX0_readSum_123 rfl ?_
            refine x_aload_n (v := a3) C dX0_readSum_124 rfl ?_
            refine x_iload (v := (1 : Int32)) C dX0_readSum_125 rfl ?_
            refine x_aload_n (v := a0) C dX0_readSum_127 rfl ?_
            obtain ⟨v59, e60, hf⟩ := j_bind hf
            refine x_get C dX0_readSum_128 (jgI_some e60) fg_X0_54 ?_
            obtain ⟨u63, e64, hf⟩ := j_bind hf
            obtain ⟨q61, e62, hf⟩ := j_bind hf
            refine x_callV (As := [.ref a3, .int (1 : Int32), .int v59]) (rest := []) C dX0_readSum_131 (m_X2_add (l := l) (E := E) (d := d - 1) (by omega) e62) km_X2_add lk_X0_113 kv_X2_add (ci := 1) rfl e64 rfl (by omega) (Nat.le_of_ble_eq_true rfl) (j_le_of (q_X2_add e62)) (Or.inr (q_X2_add e62)) ?_
            refine x_iinc (v := z) C dX0_readSum_134 rfl ki_1 (by decide) ?_
            refine x_goto (tgt := 32) C dX0_readSum_137 (by decide) ?_
            obtain ⟨rfl, rfl⟩ := j_inj2 hf
            exact x_locr hk rfl
          · have hf := j_ifn hf c147
            refine x_aload_n (v := a0) C dX0_readSum_114 rfl ?_
            refine x_bipush C dX0_readSum_115 kb_6 ?_
            refine x_iload (v := v51) C dX0_readSum_117 rfl ?_
            obtain ⟨u69, e70, hf⟩ := j_bind hf
            obtain ⟨q65, e66, hf⟩ := j_bind hf
            refine x_callV (As := [.int (6 : Int32), .int v51]) (rest := []) C dX0_readSum_119 (m_X0_fail (l := l) (E := E) (d := d - 1) (by omega) e66) km_X0_fail lk_X0_79 kv_X0_fail (ci := 0) rfl e70 rfl (by omega) (Nat.le_of_ble_eq_true rfl) (j_le_of (q_X0_fail e66)) (Or.inr (q_X0_fail e66)) ?_
            obtain ⟨u67, e68, hf⟩ := j_bind hf
            obtain ⟨rfl, rfl⟩ := j_inj2 hf
            obtain ⟨rfl, rfl⟩ := hk
            exact x_zret C hret (jzb_some e68) dX0_readSum_122
        · have hf := j_ifp hf c146
          refine x_iconst C dX0_readSum_101 ki_0 ?_
          obtain ⟨rfl, rfl⟩ := j_inj2 hf
          obtain ⟨rfl, rfl⟩ := hk
          exact x_zret C hret (Or.inl rfl) dX0_readSum_102
    · have hf := j_ifn hf c142
      refine x_aload_n (v := a0) C dX0_readSum_53 rfl ?_
      obtain ⟨u137, e138, hf⟩ := j_bind hf
      obtain ⟨q77, e78, hf⟩ := j_bind hf
      refine x_callV (As := []) (rest := []) C dX0_readSum_54 (m_X0_kind (l := l) (E := E) (d := d - 1) (by omega) e78) km_X0_kind lk_X0_75 kv_X0_kind (ci := 0) rfl e138 rfl (by omega) (Nat.le_of_ble_eq_true rfl) (j_le_of (q_X0_kind e78)) (Or.inr (q_X0_kind e78)) ?_
      refine x_bipush C dX0_readSum_57 kb_45 ?_
      refine x_icmp_ne (tgt := 140) C dX0_readSum_59 (by decide) (fun c148 => ?_) (fun c148 => ?_)
      · have hf := j_ifn hf c148
        obtain ⟨rfl, rfl⟩ := j_inj2 hf
        exact x_locr hk rfl
      · have hf := j_ifp hf c148
        refine x_aload_n (v := a0) C dX0_readSum_62 rfl ?_
        obtain ⟨u135, e136, hf⟩ := j_bind hf
        obtain ⟨q79, e80, hf⟩ := j_bind hf
        refine x_callV (As := []) (rest := []) C dX0_readSum_63 (m_X0_kind (l := l) (E := E) (d := d - 1) (by omega) e80) km_X0_kind lk_X0_75 kv_X0_kind (ci := 0) rfl e136 rfl (by omega) (Nat.le_of_ble_eq_true rfl) (j_le_of (q_X0_kind e80)) (Or.inr (q_X0_kind e80)) ?_
        refine x_bipush C dX0_readSum_66 kb_43 ?_
        refine x_icmp_ne (tgt := 75) C dX0_readSum_68 (by decide) (fun c149 => ?_) (fun c149 => ?_)
        · have hf := j_ifn hf c149
          refine x_aload_n (v := a0) C dX0_readSum_75 rfl ?_
          obtain ⟨v81, e82, hf⟩ := j_bind hf
          refine x_get C dX0_readSum_76 (jgI_some e82) fg_X0_54 ?_
          refine x_iconst C dX0_readSum_79 ki_1 ?_
          refine x_isub C dX0_readSum_80 ?_
          refine x_istore C dX0_readSum_81 (by decide) ?_
          refine x_aload_n (v := a0) C dX0_readSum_83 rfl ?_
          obtain ⟨u107, e108, hf⟩ := j_bind hf
          obtain ⟨q83, e84, hf⟩ := j_bind hf
          refine x_callV (As := []) (rest := []) C dX0_readSum_84 (m_X0_goOn (l := l) (E := E) (d := d - 1) (by omega) e84) km_X0_goOn lk_X0_83 kv_X0_goOn (ci := 0) rfl e108 rfl (by omega) (Nat.le_of_ble_eq_true rfl) (j_le_of (q_X0_goOn e84)) (Or.inr (q_X0_goOn e84)) ?_
          refine x_aload_n (v := a0) C dX0_readSum_87 rfl ?_
          obtain ⟨v85, e86, hf⟩ := j_bind hf
          refine x_get C dX0_readSum_88 (jgI_some e86) fg_X0_50 ?_
          refine x_istore C dX0_readSum_91 (by decide) ?_
          refine x_aload_n (v := a0) C dX0_readSum_93 rfl ?_
          refine x_iload_n (v := a1) C dX0_readSum_94 rfl ?_
          obtain ⟨u105, e106, hf⟩ := j_bind hf
          obtain ⟨q87, e88, hf⟩ := j_bind hf
          refine x_callV (As := [.int a1]) (rest := []) C dX0_readSum_95 (m_X0_readProduct hDR hrec hrecq (l := l) (E := E) (d := d - 1) (by omega) e88) km_X0_readProduct lk_X0_107 kv_X0_readProduct (ci := 0) rfl e106 rfl (by omega) (Nat.le_of_ble_eq_true rfl) (j_le_of (q_X0_readProduct hrecq e88)) (Or.inr (q_X0_readProduct hrecq e88)) ?_
          refine x_if_ne (tgt := 103) C dX0_readSum_98 (by decide) (fun c150 => ?_) (fun c150 => ?_)
          · have hf := j_ifn hf c150
            refine x_aload_n (v := a3) C dX0_readSum_103 rfl ?_
            obtain ⟨v89, e90, hf⟩ := j_bind hf
            refine x_get C dX0_readSum_104 (jgI_some e90) fg_X0_110 ?_
            refine x_aload_n (v := a2) C dX0_readSum_107 rfl ?_
            obtain ⟨v91, e92, hf⟩ := j_bind hf
            refine x_get C dX0_readSum_108 (jgI_some e92) fg_X0_110 ?_
            refine x_icmp_eq (tgt := 123) C dX0_readSum_111 (by decide) (fun c151 => ?_) (fun c151 => ?_)
            · have hf := j_ifp hf c151
              refine x_aload_n (v := a2) C dX0_readSum_123 rfl ?_
              refine x_aload_n (v := a3) C dX0_readSum_124 rfl ?_
              refine x_iload (v := v81 - (1 : Int32)) C dX0_readSum_125 rfl ?_
              refine x_aload_n (v := a0) C dX0_readSum_127 rfl ?_
              obtain ⟨v93, e94, hf⟩ := j_bind hf
              refine x_get C dX0_readSum_128 (jgI_some e94) fg_X0_54 ?_
              obtain ⟨u97, e98, hf⟩ := j_bind hf
              obtain ⟨q95, e96, hf⟩ := j_bind hf
              refine x_callV (As := [.ref a3, .int (v81 - (1 : Int32)), .int v93]) (rest := []) C dX0_readSum_131 (m_X2_add (l := l) (E := E) (d := d - 1) (by omega) e96) km_X2_add lk_X0_113 kv_X2_add (ci := 1) rfl e98 rfl (by omega) (Nat.le_of_ble_eq_true rfl) (j_le_of (q_X2_add e96)) (Or.inr (q_X2_add e96)) ?_
              refine x_iinc (v := z) C dX0_readSum_134 rfl ki_1 (by decide) ?_
              refine x_goto (tgt := 32) C dX0_readSum_137 (by decide) ?_
              obtain ⟨rfl, rfl⟩ := j_inj2 hf
              exact x_locr hk rfl
            · have hf := j_ifn hf c151
              refine x_aload_n (v := a0) C dX0_readSum_114 rfl ?_
              refine x_bipush C dX0_readSum_115 kb_6 ?_
              refine x_iload (v := v85) C dX0_readSum_117 rfl ?_
              obtain ⟨u103, e104, hf⟩ := j_bind hf
              obtain ⟨q99, e100, hf⟩ := j_bind hf
              refine x_callV (As := [.int (6 : Int32), .int v85]) (rest := []) C dX0_readSum_119 (m_X0_fail (l := l) (E := E) (d := d - 1) (by omega) e100) km_X0_fail lk_X0_79 kv_X0_fail (ci := 0) rfl e104 rfl (by omega) (Nat.le_of_ble_eq_true rfl) (j_le_of (q_X0_fail e100)) (Or.inr (q_X0_fail e100)) ?_
              obtain ⟨u101, e102, hf⟩ := j_bind hf
              obtain ⟨rfl, rfl⟩ := j_inj2 hf
              obtain ⟨rfl, rfl⟩ := hk
              exact x_zret C hret (jzb_some e102) dX0_readSum_122
          · have hf := j_ifp hf c150
            refine x_iconst C dX0_readSum_101 ki_0 ?_
            obtain ⟨rfl, rfl⟩ := j_inj2 hf
            obtain ⟨rfl, rfl⟩ := hk
            exact x_zret C hret (Or.inl rfl) dX0_readSum_102
        · have hf := j_ifp hf c149
          refine x_iconst C dX0_readSum_71 ki_1 ?_
          refine x_goto (tgt := 81) C dX0_readSum_72 (by decide) ?_
          refine x_istore C dX0_readSum_81 (by decide) ?_
          refine x_aload_n (v := a0) C dX0_readSum_83 rfl ?_
          obtain ⟨u133, e134, hf⟩ := j_bind hf
          obtain ⟨q109, e110, hf⟩ := j_bind hf
          refine x_callV (As := []) (rest := []) C dX0_readSum_84 (m_X0_goOn (l := l) (E := E) (d := d - 1) (by omega) e110) km_X0_goOn lk_X0_83 kv_X0_goOn (ci := 0) rfl e134 rfl (by omega) (Nat.le_of_ble_eq_true rfl) (j_le_of (q_X0_goOn e110)) (Or.inr (q_X0_goOn e110)) ?_
          refine x_aload_n (v := a0) C dX0_readSum_87 rfl ?_
          obtain ⟨v111, e112, hf⟩ := j_bind hf
          refine x_get C dX0_readSum_88 (jgI_some e112) fg_X0_50 ?_
          refine x_istore C dX0_readSum_91 (by decide) ?_
          refine x_aload_n (v := a0) C dX0_readSum_93 rfl ?_
          refine x_iload_n (v := a1) C dX0_readSum_94 rfl ?_
          obtain ⟨u131, e132, hf⟩ := j_bind hf
          obtain ⟨q113, e114, hf⟩ := j_bind hf
          refine x_callV (As := [.int a1]) (rest := []) C dX0_readSum_95 (m_X0_readProduct hDR hrec hrecq (l := l) (E := E) (d := d - 1) (by omega) e114) km_X0_readProduct lk_X0_107 kv_X0_readProduct (ci := 0) rfl e132 rfl (by omega) (Nat.le_of_ble_eq_true rfl) (j_le_of (q_X0_readProduct hrecq e114)) (Or.inr (q_X0_readProduct hrecq e114)) ?_
          refine x_if_ne (tgt := 103) C dX0_readSum_98 (by decide) (fun c152 => ?_) (fun c152 => ?_)
          · have hf := j_ifn hf c152
            refine x_aload_n (v := a3) C dX0_readSum_103 rfl ?_
            obtain ⟨v115, e116, hf⟩ := j_bind hf
            refine x_get C dX0_readSum_104 (jgI_some e116) fg_X0_110 ?_
            refine x_aload_n (v := a2) C dX0_readSum_107 rfl ?_
            obtain ⟨v117, e118, hf⟩ := j_bind hf
            refine x_get C dX0_readSum_108 (jgI_some e118) fg_X0_110 ?_
            refine x_icmp_eq (tgt := 123) C dX0_readSum_111 (by decide) (fun c153 => ?_) (fun c153 => ?_)
            · have hf := j_ifp hf c153
              refine x_aload_n (v := a2) C dX0_readSum_123 rfl ?_
              refine x_aload_n (v := a3) C dX0_readSum_124 rfl ?_
              refine x_iload (v := (1 : Int32)) C dX0_readSum_125 rfl ?_
              refine x_aload_n (v := a0) C dX0_readSum_127 rfl ?_
              obtain ⟨v119, e120, hf⟩ := j_bind hf
              refine x_get C dX0_readSum_128 (jgI_some e120) fg_X0_54 ?_
              obtain ⟨u123, e124, hf⟩ := j_bind hf
              obtain ⟨q121, e122, hf⟩ := j_bind hf
              refine x_callV (As := [.ref a3, .int (1 : Int32), .int v119]) (rest := []) C dX0_readSum_131 (m_X2_add (l := l) (E := E) (d := d - 1) (by omega) e122) km_X2_add lk_X0_113 kv_X2_add (ci := 1) rfl e124 rfl (by omega) (Nat.le_of_ble_eq_true rfl) (j_le_of (q_X2_add e122)) (Or.inr (q_X2_add e122)) ?_
              refine x_iinc (v := z) C dX0_readSum_134 rfl ki_1 (by decide) ?_
              refine x_goto (tgt := 32) C dX0_readSum_137 (by decide) ?_
              obtain ⟨rfl, rfl⟩ := j_inj2 hf
              exact x_locr hk rfl
            · have hf := j_ifn hf c153
              refine x_aload_n (v := a0) C dX0_readSum_114 rfl ?_
              refine x_bipush C dX0_readSum_115 kb_6 ?_
              refine x_iload (v := v111) C dX0_readSum_117 rfl ?_
              obtain ⟨u129, e130, hf⟩ := j_bind hf
              obtain ⟨q125, e126, hf⟩ := j_bind hf
              refine x_callV (As := [.int (6 : Int32), .int v111]) (rest := []) C dX0_readSum_119 (m_X0_fail (l := l) (E := E) (d := d - 1) (by omega) e126) km_X0_fail lk_X0_79 kv_X0_fail (ci := 0) rfl e130 rfl (by omega) (Nat.le_of_ble_eq_true rfl) (j_le_of (q_X0_fail e126)) (Or.inr (q_X0_fail e126)) ?_
              obtain ⟨u127, e128, hf⟩ := j_bind hf
              obtain ⟨rfl, rfl⟩ := j_inj2 hf
              obtain ⟨rfl, rfl⟩ := hk
              exact x_zret C hret (jzb_some e128) dX0_readSum_122
          · have hf := j_ifp hf c152
            refine x_iconst C dX0_readSum_101 ki_0 ?_
            obtain ⟨rfl, rfl⟩ := j_inj2 hf
            obtain ⟨rfl, rfl⟩ := hk
            exact x_zret C hret (Or.inl rfl) dX0_readSum_102
set_option maxHeartbeats 4000000 in
set_option maxRecDepth 100000 in
theorem m_X0_readSum {l : Launch} {E : JE} {d : Nat} {rec : Nat → Int32 → JH → Option (Int32 × JH)} {DR : Nat} (hDR : 8 ≤ DR) (hrec : ∀ (d1 : Nat), DR ≤ d1 → ∀ {x0 : Nat} {x1 : Int32} {hh : JH} {qq : Int32 × JH}, rec x0 x1 hh = some qq → Con l E d1 yX0_readSum cX0_readSum 7 (some .boolean) [.ref x0, .int x1] hh (some (.int qq.1)) qq.2) (hrecq : ∀ {x0 : Nat} {x1 : Int32} {hh : JH} {qq : Int32 × JH}, rec x0 x1 hh = some qq → qq.2.2.1 = hh.2.1) (hdd : DR + 4 ≤ d) {a0 : Nat} {a1 : Int32} {h : JH} {q : Int32 × JH} (hf : f_X0_readSum rec a0 a1 h = some q) : Con l E d yX0_readSum cX0_readSum 7 (some .boolean) [.ref a0, .int a1] h (some (.int q.1)) q.2 := by
  refine j_start rfl (Nat.le_of_ble_eq_true rfl) ?_
  intro p e s m args below meth c C hret hnm
  refine x_loc [(0, .ref a0), (1, .int a1)] rfl ?_
  unfold f_X0_readSum at hf
  refine x_aload_n (v := a0) C dX0_readSum_0 rfl ?_
  refine x_iload_n (v := a1) C dX0_readSum_1 rfl ?_
  obtain ⟨u160, e161, hf⟩ := j_bind hf
  obtain ⟨q1, e2, hf⟩ := j_bind hf
  refine x_callV (As := [.int a1]) (rest := []) C dX0_readSum_2 (m_X0_readProduct hDR hrec hrecq (l := l) (E := E) (d := d - 1) (by omega) e2) km_X0_readProduct lk_X0_107 kv_X0_readProduct (ci := 0) rfl e161 rfl (by omega) (Nat.le_of_ble_eq_true rfl) (j_le_of (q_X0_readProduct hrecq e2)) (Or.inr (q_X0_readProduct hrecq e2)) ?_
  refine x_if_ne (tgt := 10) C dX0_readSum_5 (by decide) (fun c163 => ?_) (fun c163 => ?_)
  · have hf := j_ifn hf c163
    refine x_aload_n (v := a0) C dX0_readSum_10 rfl ?_
    obtain ⟨v3, e4, hf⟩ := j_bind hf
    refine x_get C dX0_readSum_11 (jgR_some e4) fg_X0_30 ?_
    refine x_iload_n (v := a1) C dX0_readSum_14 rfl ?_
    obtain ⟨v5, e6, hf⟩ := j_bind hf
    refine x_aald C dX0_readSum_15 e6 ?_
    refine x_astore_n C dX0_readSum_16 (by decide) ?_
    refine x_aload_n (v := a0) C dX0_readSum_17 rfl ?_
    obtain ⟨v7, e8, hf⟩ := j_bind hf
    refine x_get C dX0_readSum_18 (jgR_some e8) fg_X0_33 ?_
    refine x_iload_n (v := a1) C dX0_readSum_21 rfl ?_
    obtain ⟨v9, e10, hf⟩ := j_bind hf
    refine x_aald C dX0_readSum_22 e10 ?_
    refine x_astore_n C dX0_readSum_23 (by decide) ?_
    refine x_aload_n (v := v5) C dX0_readSum_24 rfl ?_
    refine x_aload_n (v := v9) C dX0_readSum_25 rfl ?_
    obtain ⟨u158, e159, hf⟩ := j_bind hf
    obtain ⟨q11, e12, hf⟩ := j_bind hf
    refine x_callV (As := [.ref v9]) (rest := []) C dX0_readSum_26 (m_X2_copyFrom (l := l) (E := E) (d := d - 1) (by omega) e12) km_X2_copyFrom lk_X0_103 kv_X2_copyFrom (ci := 1) rfl e159 rfl (by omega) (Nat.le_of_ble_eq_true rfl) (j_le_of (q_X2_copyFrom e12)) (Or.inr (q_X2_copyFrom e12)) ?_
    refine x_iconst C dX0_readSum_29 ki_0 ?_
    refine x_istore C dX0_readSum_30 (by decide) ?_
    obtain ⟨q154, e155, hf⟩ := j_bind hf
    refine x_loc [(0, .ref a0), (1, .int a1), (2, .ref v5), (3, .ref v9), (4, .int (0 : Int32))] rfl ?_
    refine x_loop (s_X0_readSum_L32 hDR hrec hrecq C hret hdd a0 a1 v5 v9) e155 ?_
    cases y164 : q154.1 with
    | inl r157 =>
      rw [y164] at hf
      have hf := j_eliml hf
      obtain rfl := j_inj hf
      exact ⟨rfl, rfl⟩
    | inr t156 =>
      rw [y164] at hf
      have hf := j_elimr hf
      refine j_elimG ?_
      refine x_iconst C dX0_readSum_140 ki_1 ?_
      obtain rfl := j_inj hf
      exact x_zret C hret (Or.inr rfl) dX0_readSum_141
  · have hf := j_ifp hf c163
    refine x_iconst C dX0_readSum_8 ki_0 ?_
    obtain rfl := j_inj hf
    exact x_zret C hret (Or.inl rfl) dX0_readSum_9
set_option maxHeartbeats 4000000 in
set_option maxRecDepth 100000 in
theorem mr_X0_readSum {l : Launch} {E : JE} (n : Nat) : ∀ (d : Nat), 8 + 4 * n ≤ d → ∀ {x0 : Nat} {x1 : Int32} {h : JH} {q : Int32 × JH}, n_X0_readSum n x0 x1 h = some q → Con l E d yX0_readSum cX0_readSum 7 (some .boolean) [.ref x0, .int x1] h (some (.int q.1)) q.2 := by
  induction n with
  | zero => intro d _ x0 x1 h q hf; cases hf
  | succ n ih => intro d hd x0 x1 h q hf; exact m_X0_readSum (rec := n_X0_readSum n) (DR := 8 + 4 * n) (by omega) ih (fun q => qn_X0_readSum q) (by omega) hf
set_option maxHeartbeats 4000000 in
set_option maxRecDepth 100000 in
theorem mn_X0_readSum {l : Launch} {E : JE} {d : Nat} (hdd : 60 ≤ d) {x0 : Nat} {x1 : Int32} {h : JH} {q : Int32 × JH} (hf : n_X0_readSum 10 x0 x1 h = some q) : Con l E d yX0_readSum cX0_readSum 7 (some .boolean) [.ref x0, .int x1] h (some (.int q.1)) q.2 := mr_X0_readSum 10 d (by omega) hf
set_option maxHeartbeats 4000000 in
set_option maxRecDepth 100000 in
theorem s_X0_readLets_L2 {p : Program} {l : Launch} {e : Env} {R : Room} {s : State} {m : MethodId} {args : Array Value} {below : List Frame} {meth : Method} {c : Code} {E : JE} {h0 hF : JH} {rF : Option Value} {d : Nat} (C : j_C p s m args meth c R E cX0_readLets 3 RX0 h0 hF d) (hret : meth.sig.returnType = (some .boolean)) (hdd : 61 ≤ d) (a0 : Nat) (z : Int32) (h : JH) (r : Int32 ⊕ (Int32 ⊕ Int32)) (h1 : JH) (hf : f_X0_readLets_L2 a0 z h = some (r, h1)) (hk : Sum.elim (fun z => Xw p l e R s m args below meth c E 3 h0 rF hF 2 [(0, .ref a0), (1, .int z)] [] h1) (fun t => Sum.elim (fun rr => some (.int rr) = rF ∧ h1 = hF) (fun t => Xw p l e R s m args below meth c E 3 h0 rF hF 164 [(0, .ref a0), (1, .int t)] [] h1) t) r) : Xw p l e R s m args below meth c E 3 h0 rF hF 2 [(0, .ref a0), (1, .int z)] [] h := by
  unfold f_X0_readLets_L2 at hf
  refine x_iload_n (v := z) C dX0_readLets_2 rfl ?_
  refine x_bipush C dX0_readLets_3 kb_6 ?_
  refine x_icmp_gt (tgt := 164) C dX0_readLets_5 (by decide) (fun c227 => ?_) (fun c227 => ?_)
  · have hf := j_ifp hf c227
    obtain ⟨rfl, rfl⟩ := j_inj2 hf
    exact x_locr hk rfl
  · have hf := j_ifn hf c227
    refine x_aload_n (v := a0) C dX0_readLets_8 rfl ?_
    obtain ⟨u225, e226, hf⟩ := j_bind hf
    obtain ⟨q1, e2, hf⟩ := j_bind hf
    refine x_callV (As := []) (rest := []) C dX0_readLets_9 (m_X0_kind (l := l) (E := E) (d := d - 1) (by omega) e2) km_X0_kind lk_X0_75 kv_X0_kind (ci := 0) rfl e226 rfl (by omega) (Nat.le_of_ble_eq_true rfl) (j_le_of (q_X0_kind e2)) (Or.inr (q_X0_kind e2)) ?_
    refine x_if_eq (tgt := 164) C dX0_readLets_12 (by decide) (fun c228 => ?_) (fun c228 => ?_)
    · have hf := j_ifp hf c228
      obtain ⟨rfl, rfl⟩ := j_inj2 hf
      exact x_locr hk rfl
    · have hf := j_ifn hf c228
      refine x_aload_n (v := a0) C dX0_readLets_15 rfl ?_
      obtain ⟨u223, e224, hf⟩ := j_bind hf
      obtain ⟨q3, e4, hf⟩ := j_bind hf
      refine x_callV (As := []) (rest := []) C dX0_readLets_16 (m_X0_kind (l := l) (E := E) (d := d - 1) (by omega) e4) km_X0_kind lk_X0_75 kv_X0_kind (ci := 0) rfl e224 rfl (by omega) (Nat.le_of_ble_eq_true rfl) (j_le_of (q_X0_kind e4)) (Or.inr (q_X0_kind e4)) ?_
      refine x_iconst C dX0_readLets_19 ki_5 ?_
      refine x_icmp_ne (tgt := 42) C dX0_readLets_20 (by decide) (fun c229 => ?_) (fun c229 => ?_)
      · have hf := j_ifn hf c229
        refine x_aload_n (v := a0) C dX0_readLets_42 rfl ?_
        refine x_iconst C dX0_readLets_43 ki_5 ?_
        obtain ⟨u107, e108, hf⟩ := j_bind hf
        obtain ⟨q5, e6, hf⟩ := j_bind hf
        refine x_callV (As := [.int (5 : Int32)]) (rest := []) C dX0_readLets_44 (m_X0_expect (l := l) (E := E) (d := d - 1) (by omega) e6) km_X0_expect lk_X0_93 kv_X0_expect (ci := 0) rfl e108 rfl (by omega) (Nat.le_of_ble_eq_true rfl) (j_le_of (q_X0_expect e6)) (Or.inr (q_X0_expect e6)) ?_
        refine x_if_ne (tgt := 52) C dX0_readLets_47 (by decide) (fun c230 => ?_) (fun c230 => ?_)
        · have hf := j_ifn hf c230
          refine x_aload_n (v := a0) C dX0_readLets_52 rfl ?_
          obtain ⟨u105, e106, hf⟩ := j_bind hf
          obtain ⟨q7, e8, hf⟩ := j_bind hf
          refine x_callV (As := []) (rest := []) C dX0_readLets_53 (m_X0_value (l := l) (E := E) (d := d - 1) (by omega) e8) km_X0_value lk_X0_86 kv_X0_value (ci := 0) rfl e106 rfl (by omega) (Nat.le_of_ble_eq_true rfl) (j_le_of (q_X0_value e8)) (Or.inr (q_X0_value e8)) ?_
          refine x_istore_n C dX0_readLets_56 (by decide) ?_
          refine x_aload_n (v := a0) C dX0_readLets_57 rfl ?_
          obtain ⟨u103, e104, hf⟩ := j_bind hf
          obtain ⟨q9, e10, hf⟩ := j_bind hf
          refine x_callV (As := []) (rest := []) C dX0_readLets_58 (m_X0_kind (l := l) (E := E) (d := d - 1) (by omega) e10) km_X0_kind lk_X0_75 kv_X0_kind (ci := 0) rfl e104 rfl (by omega) (Nat.le_of_ble_eq_true rfl) (j_le_of (q_X0_kind e10)) (Or.inr (q_X0_kind e10)) ?_
          refine x_iconst C dX0_readLets_61 ki_2 ?_
          refine x_icmp_ne (tgt := 84) C dX0_readLets_62 (by decide) (fun c231 => ?_) (fun c231 => ?_)
          · have hf := j_ifn hf c231
            refine x_aload_n (v := a0) C dX0_readLets_84 rfl ?_
            refine x_iconst C dX0_readLets_85 ki_2 ?_
            obtain ⟨u49, e50, hf⟩ := j_bind hf
            obtain ⟨q11, e12, hf⟩ := j_bind hf
            refine x_callV (As := [.int (2 : Int32)]) (rest := []) C dX0_readLets_86 (m_X0_expect (l := l) (E := E) (d := d - 1) (by omega) e12) km_X0_expect lk_X0_93 kv_X0_expect (ci := 0) rfl e50 rfl (by omega) (Nat.le_of_ble_eq_true rfl) (j_le_of (q_X0_expect e12)) (Or.inr (q_X0_expect e12)) ?_
            refine x_if_eq (tgt := 118) C dX0_readLets_89 (by decide) (fun c232 => ?_) (fun c232 => ?_)
            · have hf := j_ifp hf c232
              refine x_iconst C dX0_readLets_118 ki_0 ?_
              obtain ⟨rfl, rfl⟩ := j_inj2 hf
              obtain ⟨rfl, rfl⟩ := hk
              exact x_zret C hret (Or.inl rfl) dX0_readLets_119
            · have hf := j_ifn hf c232
              refine x_aload_n (v := a0) C dX0_readLets_92 rfl ?_
              refine x_bipush C dX0_readLets_93 kb_6 ?_
              obtain ⟨u47, e48, hf⟩ := j_bind hf
              obtain ⟨q13, e14, hf⟩ := j_bind hf
              refine x_callV (As := [.int (6 : Int32)]) (rest := []) C dX0_readLets_95 (m_X0_expect (l := l) (E := E) (d := d - 1) (by omega) e14) km_X0_expect lk_X0_93 kv_X0_expect (ci := 0) rfl e48 rfl (by omega) (Nat.le_of_ble_eq_true rfl) (j_le_of (q_X0_expect e14)) (Or.inr (q_X0_expect e14)) ?_
              refine x_if_eq (tgt := 118) C dX0_readLets_98 (by decide) (fun c233 => ?_) (fun c233 => ?_)
              · have hf := j_ifp hf c233
                refine x_iconst C dX0_readLets_118 ki_0 ?_
                obtain ⟨rfl, rfl⟩ := j_inj2 hf
                obtain ⟨rfl, rfl⟩ := hk
                exact x_zret C hret (Or.inl rfl) dX0_readLets_119
              · have hf := j_ifn hf c233
                refine x_aload_n (v := a0) C dX0_readLets_101 rfl ?_
                refine x_iconst C dX0_readLets_102 ki_0 ?_
                obtain ⟨u45, e46, hf⟩ := j_bind hf
                obtain ⟨q15, e16, hf⟩ := j_bind hf
                refine x_callV (As := [.int (0 : Int32)]) (rest := []) C dX0_readLets_103 (mn_X0_readSum (l := l) (E := E) (d := d - 1) (by omega) e16) km_X0_readSum lk_X0_100 kv_X0_readSum (ci := 0) rfl e46 rfl (by omega) (Nat.le_of_ble_eq_true rfl) (j_le_of (qn_X0_readSum e16)) (Or.inr (qn_X0_readSum e16)) ?_
                refine x_if_eq (tgt := 118) C dX0_readLets_106 (by decide) (fun c234 => ?_) (fun c234 => ?_)
                · have hf := j_ifp hf c234
                  refine x_iconst C dX0_readLets_118 ki_0 ?_
                  obtain ⟨rfl, rfl⟩ := j_inj2 hf
                  obtain ⟨rfl, rfl⟩ := hk
                  exact x_zret C hret (Or.inl rfl) dX0_readLets_119
                · have hf := j_ifn hf c234
                  refine x_aload_n (v := a0) C dX0_readLets_109 rfl ?_
                  refine x_bipush C dX0_readLets_110 kb_59 ?_
                  obtain ⟨u43, e44, hf⟩ := j_bind hf
                  obtain ⟨q17, e18, hf⟩ := j_bind hf
                  refine x_callV (As := [.int (59 : Int32)]) (rest := []) C dX0_readLets_112 (m_X0_expect (l := l) (E := E) (d := d - 1) (by omega) e18) km_X0_expect lk_X0_93 kv_X0_expect (ci := 0) rfl e44 rfl (by omega) (Nat.le_of_ble_eq_true rfl) (j_le_of (q_X0_expect e18)) (Or.inr (q_X0_expect e18)) ?_
                  refine x_if_ne (tgt := 120) C dX0_readLets_115 (by decide) (fun c235 => ?_) (fun c235 => ?_)
                  · have hf := j_ifn hf c235
                    refine x_aload_n (v := a0) C dX0_readLets_120 rfl ?_
                    obtain ⟨v19, e20, hf⟩ := j_bind hf
                    refine x_get C dX0_readLets_121 (jgR_some e20) fg_X0_19 ?_
                    refine x_aload_n (v := a0) C dX0_readLets_124 rfl ?_
                    obtain ⟨v21, e22, hf⟩ := j_bind hf
                    refine x_get C dX0_readLets_125 (jgI_some e22) fg_X0_57 ?_
                    refine x_iload_n (v := q7.1) C dX0_readLets_128 rfl ?_
                    obtain ⟨h23, e24, hf⟩ := j_bind hf
                    refine x_iast C dX0_readLets_129 e24 ?_
                    refine x_aload_n (v := a0) C dX0_readLets_130 rfl ?_
                    obtain ⟨v25, e26, hf⟩ := j_bind hf
                    refine x_get C dX0_readLets_131 (jgR_some e26) fg_X0_13 ?_
                    refine x_aload_n (v := a0) C dX0_readLets_134 rfl ?_
                    obtain ⟨v27, e28, hf⟩ := j_bind hf
                    refine x_get C dX0_readLets_135 (jgI_some e28) fg_X0_57 ?_
                    obtain ⟨v29, e30, hf⟩ := j_bind hf
                    refine x_aald C dX0_readLets_138 e30 ?_
                    refine x_aload_n (v := a0) C dX0_readLets_139 rfl ?_
                    obtain ⟨v31, e32, hf⟩ := j_bind hf
                    refine x_get C dX0_readLets_140 (jgR_some e32) fg_X0_30 ?_
                    refine x_iconst C dX0_readLets_143 ki_0 ?_
                    obtain ⟨v33, e34, hf⟩ := j_bind hf
                    refine x_aald C dX0_readLets_144 e34 ?_
                    obtain ⟨u41, e42, hf⟩ := j_bind hf
                    obtain ⟨q35, e36, hf⟩ := j_bind hf
                    refine x_callV (As := [.ref v33]) (rest := []) C dX0_readLets_145 (m_X2_copyFrom (l := l) (E := E) (d := d - 1) (by omega) e36) km_X2_copyFrom lk_X0_103 kv_X2_copyFrom (ci := 1) rfl e42 rfl (by omega) (Nat.le_of_ble_eq_true rfl) (j_le_of (q_X2_copyFrom e36)) (Or.inr (q_X2_copyFrom e36)) ?_
                    refine x_aload_n (v := a0) C dX0_readLets_148 rfl ?_
                    refine x_dup C dX0_readLets_149 rfl ?_
                    obtain ⟨v37, e38, hf⟩ := j_bind hf
                    refine x_get C dX0_readLets_150 (jgI_some e38) fg_X0_57 ?_
                    refine x_iconst C dX0_readLets_153 ki_1 ?_
                    refine x_iadd C dX0_readLets_154 ?_
                    obtain ⟨h39, e40, hf⟩ := j_bind hf
                    refine x_put C dX0_readLets_155 e40 fp_X0_57 rfl rfl ?_
                    refine x_iinc (v := z) C dX0_readLets_158 rfl ki_1 (by decide) ?_
                    refine x_goto (tgt := 2) C dX0_readLets_161 (by decide) ?_
                    obtain ⟨rfl, rfl⟩ := j_inj2 hf
                    exact x_locr hk rfl
                  · have hf := j_ifp hf c235
                    refine x_iconst C dX0_readLets_118 ki_0 ?_
                    obtain ⟨rfl, rfl⟩ := j_inj2 hf
                    obtain ⟨rfl, rfl⟩ := hk
                    exact x_zret C hret (Or.inl rfl) dX0_readLets_119
          · have hf := j_ifp hf c231
            refine x_aload_n (v := a0) C dX0_readLets_65 rfl ?_
            refine x_iload_n (v := q7.1) C dX0_readLets_66 rfl ?_
            obtain ⟨u101, e102, hf⟩ := j_bind hf
            obtain ⟨q51, e52, hf⟩ := j_bind hf
            refine x_callV (As := [.int q7.1]) (rest := []) C dX0_readLets_67 (m_X0_findLet (l := l) (E := E) (d := d - 1) (by omega) e52) km_X0_findLet lk_X0_96 kv_X0_findLet (ci := 0) rfl e102 rfl (by omega) (Nat.le_of_ble_eq_true rfl) (j_le_of (q_X0_findLet e52)) (Or.inr (q_X0_findLet e52)) ?_
            refine x_iconst C dX0_readLets_70 ki_m1 ?_
            refine x_icmp_eq (tgt := 84) C dX0_readLets_71 (by decide) (fun c236 => ?_) (fun c236 => ?_)
            · have hf := j_ifp hf c236
              refine x_aload_n (v := a0) C dX0_readLets_84 rfl ?_
              refine x_iconst C dX0_readLets_85 ki_2 ?_
              obtain ⟨u91, e92, hf⟩ := j_bind hf
              obtain ⟨q53, e54, hf⟩ := j_bind hf
              refine x_callV (As := [.int (2 : Int32)]) (rest := []) C dX0_readLets_86 (m_X0_expect (l := l) (E := E) (d := d - 1) (by omega) e54) km_X0_expect lk_X0_93 kv_X0_expect (ci := 0) rfl e92 rfl (by omega) (Nat.le_of_ble_eq_true rfl) (j_le_of (q_X0_expect e54)) (Or.inr (q_X0_expect e54)) ?_
              refine x_if_eq (tgt := 118) C dX0_readLets_89 (by decide) (fun c237 => ?_) (fun c237 => ?_)
              · have hf := j_ifp hf c237
                refine x_iconst C dX0_readLets_118 ki_0 ?_
                obtain ⟨rfl, rfl⟩ := j_inj2 hf
                obtain ⟨rfl, rfl⟩ := hk
                exact x_zret C hret (Or.inl rfl) dX0_readLets_119
              · have hf := j_ifn hf c237
                refine x_aload_n (v := a0) C dX0_readLets_92 rfl ?_
                refine x_bipush C dX0_readLets_93 kb_6 ?_
                obtain ⟨u89, e90, hf⟩ := j_bind hf
                obtain ⟨q55, e56, hf⟩ := j_bind hf
                refine x_callV (As := [.int (6 : Int32)]) (rest := []) C dX0_readLets_95 (m_X0_expect (l := l) (E := E) (d := d - 1) (by omega) e56) km_X0_expect lk_X0_93 kv_X0_expect (ci := 0) rfl e90 rfl (by omega) (Nat.le_of_ble_eq_true rfl) (j_le_of (q_X0_expect e56)) (Or.inr (q_X0_expect e56)) ?_
                refine x_if_eq (tgt := 118) C dX0_readLets_98 (by decide) (fun c238 => ?_) (fun c238 => ?_)
                · have hf := j_ifp hf c238
                  refine x_iconst C dX0_readLets_118 ki_0 ?_
                  obtain ⟨rfl, rfl⟩ := j_inj2 hf
                  obtain ⟨rfl, rfl⟩ := hk
                  exact x_zret C hret (Or.inl rfl) dX0_readLets_119
                · have hf := j_ifn hf c238
                  refine x_aload_n (v := a0) C dX0_readLets_101 rfl ?_
                  refine x_iconst C dX0_readLets_102 ki_0 ?_
                  obtain ⟨u87, e88, hf⟩ := j_bind hf
                  obtain ⟨q57, e58, hf⟩ := j_bind hf
                  refine x_callV (As := [.int (0 : Int32)]) (rest := []) C dX0_readLets_103 (mn_X0_readSum (l := l) (E := E) (d := d - 1) (by omega) e58) km_X0_readSum lk_X0_100 kv_X0_readSum (ci := 0) rfl e88 rfl (by omega) (Nat.le_of_ble_eq_true rfl) (j_le_of (qn_X0_readSum e58)) (Or.inr (qn_X0_readSum e58)) ?_
                  refine x_if_eq (tgt := 118) C dX0_readLets_106 (by decide) (fun c239 => ?_) (fun c239 => ?_)
                  · have hf := j_ifp hf c239
                    refine x_iconst C dX0_readLets_118 ki_0 ?_
                    obtain ⟨rfl, rfl⟩ := j_inj2 hf
                    obtain ⟨rfl, rfl⟩ := hk
                    exact x_zret C hret (Or.inl rfl) dX0_readLets_119
                  · have hf := j_ifn hf c239
                    refine x_aload_n (v := a0) C dX0_readLets_109 rfl ?_
                    refine x_bipush C dX0_readLets_110 kb_59 ?_
                    obtain ⟨u85, e86, hf⟩ := j_bind hf
                    obtain ⟨q59, e60, hf⟩ := j_bind hf
                    refine x_callV (As := [.int (59 : Int32)]) (rest := []) C dX0_readLets_112 (m_X0_expect (l := l) (E := E) (d := d - 1) (by omega) e60) km_X0_expect lk_X0_93 kv_X0_expect (ci := 0) rfl e86 rfl (by omega) (Nat.le_of_ble_eq_true rfl) (j_le_of (q_X0_expect e60)) (Or.inr (q_X0_expect e60)) ?_
                    refine x_if_ne (tgt := 120) C dX0_readLets_115 (by decide) (fun c240 => ?_) (fun c240 => ?_)
                    · have hf := j_ifn hf c240
                      refine x_aload_n (v := a0) C dX0_readLets_120 rfl ?_
                      obtain ⟨v61, e62, hf⟩ := j_bind hf
                      refine x_get C dX0_readLets_121 (jgR_some e62) fg_X0_19 ?_
                      refine x_aload_n (v := a0) C dX0_readLets_124 rfl ?_
                      obtain ⟨v63, e64, hf⟩ := j_bind hf
                      refine x_get C dX0_readLets_125 (jgI_some e64) fg_X0_57 ?_
                      refine x_iload_n (v := q7.1) C dX0_readLets_128 rfl ?_
                      obtain ⟨h65, e66, hf⟩ := j_bind hf
                      refine x_iast C dX0_readLets_129 e66 ?_
                      refine x_aload_n (v := a0) C dX0_readLets_130 rfl ?_
                      obtain ⟨v67, e68, hf⟩ := j_bind hf
                      refine x_get C dX0_readLets_131 (jgR_some e68) fg_X0_13 ?_
                      refine x_aload_n (v := a0) C dX0_readLets_134 rfl ?_
                      obtain ⟨v69, e70, hf⟩ := j_bind hf
                      refine x_get C dX0_readLets_135 (jgI_some e70) fg_X0_57 ?_
                      obtain ⟨v71, e72, hf⟩ := j_bind hf
                      refine x_aald C dX0_readLets_138 e72 ?_
                      refine x_aload_n (v := a0) C dX0_readLets_139 rfl ?_
                      obtain ⟨v73, e74, hf⟩ := j_bind hf
                      refine x_get C dX0_readLets_140 (jgR_some e74) fg_X0_30 ?_
                      refine x_iconst C dX0_readLets_143 ki_0 ?_
                      obtain ⟨v75, e76, hf⟩ := j_bind hf
                      refine x_aald C dX0_readLets_144 e76 ?_
                      obtain ⟨u83, e84, hf⟩ := j_bind hf
                      obtain ⟨q77, e78, hf⟩ := j_bind hf
                      refine x_callV (As := [.ref v75]) (rest := []) C dX0_readLets_145 (m_X2_copyFrom (l := l) (E := E) (d := d - 1) (by omega) e78) km_X2_copyFrom lk_X0_103 kv_X2_copyFrom (ci := 1) rfl e84 rfl (by omega) (Nat.le_of_ble_eq_true rfl) (j_le_of (q_X2_copyFrom e78)) (Or.inr (q_X2_copyFrom e78)) ?_
                      refine x_aload_n (v := a0) C dX0_readLets_148 rfl ?_
                      refine x_dup C dX0_readLets_149 rfl ?_
                      obtain ⟨v79, e80, hf⟩ := j_bind hf
                      refine x_get C dX0_readLets_150 (jgI_some e80) fg_X0_57 ?_
                      refine x_iconst C dX0_readLets_153 ki_1 ?_
                      refine x_iadd C dX0_readLets_154 ?_
                      obtain ⟨h81, e82, hf⟩ := j_bind hf
                      refine x_put C dX0_readLets_155 e82 fp_X0_57 rfl rfl ?_
                      refine x_iinc (v := z) C dX0_readLets_158 rfl ki_1 (by decide) ?_
                      refine x_goto (tgt := 2) C dX0_readLets_161 (by decide) ?_
                      obtain ⟨rfl, rfl⟩ := j_inj2 hf
                      exact x_locr hk rfl
                    · have hf := j_ifp hf c240
                      refine x_iconst C dX0_readLets_118 ki_0 ?_
                      obtain ⟨rfl, rfl⟩ := j_inj2 hf
                      obtain ⟨rfl, rfl⟩ := hk
                      exact x_zret C hret (Or.inl rfl) dX0_readLets_119
            · have hf := j_ifn hf c236
              refine x_aload_n (v := a0) C dX0_readLets_74 rfl ?_
              refine x_iconst C dX0_readLets_75 ki_2 ?_
              refine x_aload_n (v := a0) C dX0_readLets_76 rfl ?_
              obtain ⟨v93, e94, hf⟩ := j_bind hf
              refine x_get C dX0_readLets_77 (jgI_some e94) fg_X0_50 ?_
              obtain ⟨u99, e100, hf⟩ := j_bind hf
              obtain ⟨q95, e96, hf⟩ := j_bind hf
              refine x_callV (As := [.int (2 : Int32), .int v93]) (rest := []) C dX0_readLets_80 (m_X0_fail (l := l) (E := E) (d := d - 1) (by omega) e96) km_X0_fail lk_X0_79 kv_X0_fail (ci := 0) rfl e100 rfl (by omega) (Nat.le_of_ble_eq_true rfl) (j_le_of (q_X0_fail e96)) (Or.inr (q_X0_fail e96)) ?_
              obtain ⟨u97, e98, hf⟩ := j_bind hf
              obtain ⟨rfl, rfl⟩ := j_inj2 hf
              obtain ⟨rfl, rfl⟩ := hk
              exact x_zret C hret (jzb_some e98) dX0_readLets_83
        · have hf := j_ifp hf c230
          refine x_iconst C dX0_readLets_50 ki_0 ?_
          obtain ⟨rfl, rfl⟩ := j_inj2 hf
          obtain ⟨rfl, rfl⟩ := hk
          exact x_zret C hret (Or.inl rfl) dX0_readLets_51
      · have hf := j_ifp hf c229
        refine x_aload_n (v := a0) C dX0_readLets_23 rfl ?_
        obtain ⟨v109, e110, hf⟩ := j_bind hf
        refine x_get C dX0_readLets_24 (jgI_some e110) fg_X0_57 ?_
        refine x_bipush C dX0_readLets_27 kb_6 ?_
        refine x_icmp_lt (tgt := 42) C dX0_readLets_29 (by decide) (fun c241 => ?_) (fun c241 => ?_)
        · have hf := j_ifp hf c241
          refine x_aload_n (v := a0) C dX0_readLets_42 rfl ?_
          refine x_iconst C dX0_readLets_43 ki_5 ?_
          obtain ⟨u213, e214, hf⟩ := j_bind hf
          obtain ⟨q111, e112, hf⟩ := j_bind hf
          refine x_callV (As := [.int (5 : Int32)]) (rest := []) C dX0_readLets_44 (m_X0_expect (l := l) (E := E) (d := d - 1) (by omega) e112) km_X0_expect lk_X0_93 kv_X0_expect (ci := 0) rfl e214 rfl (by omega) (Nat.le_of_ble_eq_true rfl) (j_le_of (q_X0_expect e112)) (Or.inr (q_X0_expect e112)) ?_
          refine x_if_ne (tgt := 52) C dX0_readLets_47 (by decide) (fun c242 => ?_) (fun c242 => ?_)
          · have hf := j_ifn hf c242
            refine x_aload_n (v := a0) C dX0_readLets_52 rfl ?_
            obtain ⟨u211, e212, hf⟩ := j_bind hf
            obtain ⟨q113, e114, hf⟩ := j_bind hf
            refine x_callV (As := []) (rest := []) C dX0_readLets_53 (m_X0_value (l := l) (E := E) (d := d - 1) (by omega) e114) km_X0_value lk_X0_86 kv_X0_value (ci := 0) rfl e212 rfl (by omega) (Nat.le_of_ble_eq_true rfl) (j_le_of (q_X0_value e114)) (Or.inr (q_X0_value e114)) ?_
            refine x_istore_n C dX0_readLets_56 (by decide) ?_
            refine x_aload_n (v := a0) C dX0_readLets_57 rfl ?_
            obtain ⟨u209, e210, hf⟩ := j_bind hf
            obtain ⟨q115, e116, hf⟩ := j_bind hf
            refine x_callV (As := []) (rest := []) C dX0_readLets_58 (m_X0_kind (l := l) (E := E) (d := d - 1) (by omega) e116) km_X0_kind lk_X0_75 kv_X0_kind (ci := 0) rfl e210 rfl (by omega) (Nat.le_of_ble_eq_true rfl) (j_le_of (q_X0_kind e116)) (Or.inr (q_X0_kind e116)) ?_
            refine x_iconst C dX0_readLets_61 ki_2 ?_
            refine x_icmp_ne (tgt := 84) C dX0_readLets_62 (by decide) (fun c243 => ?_) (fun c243 => ?_)
            · have hf := j_ifn hf c243
              refine x_aload_n (v := a0) C dX0_readLets_84 rfl ?_
              refine x_iconst C dX0_readLets_85 ki_2 ?_
              obtain ⟨u155, e156, hf⟩ := j_bind hf
              obtain ⟨q117, e118, hf⟩ := j_bind hf
              refine x_callV (As := [.int (2 : Int32)]) (rest := []) C dX0_readLets_86 (m_X0_expect (l := l) (E := E) (d := d - 1) (by omega) e118) km_X0_expect lk_X0_93 kv_X0_expect (ci := 0) rfl e156 rfl (by omega) (Nat.le_of_ble_eq_true rfl) (j_le_of (q_X0_expect e118)) (Or.inr (q_X0_expect e118)) ?_
              refine x_if_eq (tgt := 118) C dX0_readLets_89 (by decide) (fun c244 => ?_) (fun c244 => ?_)
              · have hf := j_ifp hf c244
                refine x_iconst C dX0_readLets_118 ki_0 ?_
                obtain ⟨rfl, rfl⟩ := j_inj2 hf
                obtain ⟨rfl, rfl⟩ := hk
                exact x_zret C hret (Or.inl rfl) dX0_readLets_119
              · have hf := j_ifn hf c244
                refine x_aload_n (v := a0) C dX0_readLets_92 rfl ?_
                refine x_bipush C dX0_readLets_93 kb_6 ?_
                obtain ⟨u153, e154, hf⟩ := j_bind hf
                obtain ⟨q119, e120, hf⟩ := j_bind hf
                refine x_callV (As := [.int (6 : Int32)]) (rest := []) C dX0_readLets_95 (m_X0_expect (l := l) (E := E) (d := d - 1) (by omega) e120) km_X0_expect lk_X0_93 kv_X0_expect (ci := 0) rfl e154 rfl (by omega) (Nat.le_of_ble_eq_true rfl) (j_le_of (q_X0_expect e120)) (Or.inr (q_X0_expect e120)) ?_
                refine x_if_eq (tgt := 118) C dX0_readLets_98 (by decide) (fun c245 => ?_) (fun c245 => ?_)
                · have hf := j_ifp hf c245
                  refine x_iconst C dX0_readLets_118 ki_0 ?_
                  obtain ⟨rfl, rfl⟩ := j_inj2 hf
                  obtain ⟨rfl, rfl⟩ := hk
                  exact x_zret C hret (Or.inl rfl) dX0_readLets_119
                · have hf := j_ifn hf c245
                  refine x_aload_n (v := a0) C dX0_readLets_101 rfl ?_
                  refine x_iconst C dX0_readLets_102 ki_0 ?_
                  obtain ⟨u151, e152, hf⟩ := j_bind hf
                  obtain ⟨q121, e122, hf⟩ := j_bind hf
                  refine x_callV (As := [.int (0 : Int32)]) (rest := []) C dX0_readLets_103 (mn_X0_readSum (l := l) (E := E) (d := d - 1) (by omega) e122) km_X0_readSum lk_X0_100 kv_X0_readSum (ci := 0) rfl e152 rfl (by omega) (Nat.le_of_ble_eq_true rfl) (j_le_of (qn_X0_readSum e122)) (Or.inr (qn_X0_readSum e122)) ?_
                  refine x_if_eq (tgt := 118) C dX0_readLets_106 (by decide) (fun c246 => ?_) (fun c246 => ?_)
                  · have hf := j_ifp hf c246
                    refine x_iconst C dX0_readLets_118 ki_0 ?_
                    obtain ⟨rfl, rfl⟩ := j_inj2 hf
                    obtain ⟨rfl, rfl⟩ := hk
                    exact x_zret C hret (Or.inl rfl) dX0_readLets_119
                  · have hf := j_ifn hf c246
                    refine x_aload_n (v := a0) C dX0_readLets_109 rfl ?_
                    refine x_bipush C dX0_readLets_110 kb_59 ?_
                    obtain ⟨u149, e150, hf⟩ := j_bind hf
                    obtain ⟨q123, e124, hf⟩ := j_bind hf
                    refine x_callV (As := [.int (59 : Int32)]) (rest := []) C dX0_readLets_112 (m_X0_expect (l := l) (E := E) (d := d - 1) (by omega) e124) km_X0_expect lk_X0_93 kv_X0_expect (ci := 0) rfl e150 rfl (by omega) (Nat.le_of_ble_eq_true rfl) (j_le_of (q_X0_expect e124)) (Or.inr (q_X0_expect e124)) ?_
                    refine x_if_ne (tgt := 120) C dX0_readLets_115 (by decide) (fun c247 => ?_) (fun c247 => ?_)
                    · have hf := j_ifn hf c247
                      refine x_aload_n (v := a0) C dX0_readLets_120 rfl ?_
                      obtain ⟨v125, e126, hf⟩ := j_bind hf
                      refine x_get C dX0_readLets_121 (jgR_some e126) fg_X0_19 ?_
                      refine x_aload_n (v := a0) C dX0_readLets_124 rfl ?_
                      obtain ⟨v127, e128, hf⟩ := j_bind hf
                      refine x_get C dX0_readLets_125 (jgI_some e128) fg_X0_57 ?_
                      refine x_iload_n (v := q113.1) C dX0_readLets_128 rfl ?_
                      obtain ⟨h129, e130, hf⟩ := j_bind hf
                      refine x_iast C dX0_readLets_129 e130 ?_
                      refine x_aload_n (v := a0) C dX0_readLets_130 rfl ?_
                      obtain ⟨v131, e132, hf⟩ := j_bind hf
                      refine x_get C dX0_readLets_131 (jgR_some e132) fg_X0_13 ?_
                      refine x_aload_n (v := a0) C dX0_readLets_134 rfl ?_
                      obtain ⟨v133, e134, hf⟩ := j_bind hf
                      refine x_get C dX0_readLets_135 (jgI_some e134) fg_X0_57 ?_
                      obtain ⟨v135, e136, hf⟩ := j_bind hf
                      refine x_aald C dX0_readLets_138 e136 ?_
                      refine x_aload_n (v := a0) C dX0_readLets_139 rfl ?_
                      obtain ⟨v137, e138, hf⟩ := j_bind hf
                      refine x_get C dX0_readLets_140 (jgR_some e138) fg_X0_30 ?_
                      refine x_iconst C dX0_readLets_143 ki_0 ?_
                      obtain ⟨v139, e140, hf⟩ := j_bind hf
                      refine x_aald C dX0_readLets_144 e140 ?_
                      obtain ⟨u147, e148, hf⟩ := j_bind hf
                      obtain ⟨q141, e142, hf⟩ := j_bind hf
                      refine x_callV (As := [.ref v139]) (rest := []) C dX0_readLets_145 (m_X2_copyFrom (l := l) (E := E) (d := d - 1) (by omega) e142) km_X2_copyFrom lk_X0_103 kv_X2_copyFrom (ci := 1) rfl e148 rfl (by omega) (Nat.le_of_ble_eq_true rfl) (j_le_of (q_X2_copyFrom e142)) (Or.inr (q_X2_copyFrom e142)) ?_
                      refine x_aload_n (v := a0) C dX0_readLets_148 rfl ?_
                      refine x_dup C dX0_readLets_149 rfl ?_
                      obtain ⟨v143, e144, hf⟩ := j_bind hf
                      refine x_get C dX0_readLets_150 (jgI_some e144) fg_X0_57 ?_
                      refine x_iconst C dX0_readLets_153 ki_1 ?_
                      refine x_iadd C dX0_readLets_154 ?_
                      obtain ⟨h145, e146, hf⟩ := j_bind hf
                      refine x_put C dX0_readLets_155 e146 fp_X0_57 rfl rfl ?_
                      refine x_iinc (v := z) C dX0_readLets_158 rfl ki_1 (by decide) ?_
                      refine x_goto (tgt := 2) C dX0_readLets_161 (by decide) ?_
                      obtain ⟨rfl, rfl⟩ := j_inj2 hf
                      exact x_locr hk rfl
                    · have hf := j_ifp hf c247
                      refine x_iconst C dX0_readLets_118 ki_0 ?_
                      obtain ⟨rfl, rfl⟩ := j_inj2 hf
                      obtain ⟨rfl, rfl⟩ := hk
                      exact x_zret C hret (Or.inl rfl) dX0_readLets_119
            · have hf := j_ifp hf c243
              refine x_aload_n (v := a0) C dX0_readLets_65 rfl ?_
              refine x_iload_n (v := q113.1) C dX0_readLets_66 rfl ?_
              obtain ⟨u207, e208, hf⟩ := j_bind hf
              obtain ⟨q157, e158, hf⟩ := j_bind hf
              refine x_callV (As := [.int q113.1]) (rest := []) C dX0_readLets_67 (m_X0_findLet (l := l) (E := E) (d := d - 1) (by omega) e158) km_X0_findLet lk_X0_96 kv_X0_findLet (ci := 0) rfl e208 rfl (by omega) (Nat.le_of_ble_eq_true rfl) (j_le_of (q_X0_findLet e158)) (Or.inr (q_X0_findLet e158)) ?_
              refine x_iconst C dX0_readLets_70 ki_m1 ?_
              refine x_icmp_eq (tgt := 84) C dX0_readLets_71 (by decide) (fun c248 => ?_) (fun c248 => ?_)
              · have hf := j_ifp hf c248
                refine x_aload_n (v := a0) C dX0_readLets_84 rfl ?_
                refine x_iconst C dX0_readLets_85 ki_2 ?_
                obtain ⟨u197, e198, hf⟩ := j_bind hf
                obtain ⟨q159, e160, hf⟩ := j_bind hf
                refine x_callV (As := [.int (2 : Int32)]) (rest := []) C dX0_readLets_86 (m_X0_expect (l := l) (E := E) (d := d - 1) (by omega) e160) km_X0_expect lk_X0_93 kv_X0_expect (ci := 0) rfl e198 rfl (by omega) (Nat.le_of_ble_eq_true rfl) (j_le_of (q_X0_expect e160)) (Or.inr (q_X0_expect e160)) ?_
                refine x_if_eq (tgt := 118) C dX0_readLets_89 (by decide) (fun c249 => ?_) (fun c249 => ?_)
                · have hf := j_ifp hf c249
                  refine x_iconst C dX0_readLets_118 ki_0 ?_
                  obtain ⟨rfl, rfl⟩ := j_inj2 hf
                  obtain ⟨rfl, rfl⟩ := hk
                  exact x_zret C hret (Or.inl rfl) dX0_readLets_119
                · have hf := j_ifn hf c249
                  refine x_aload_n (v := a0) C dX0_readLets_92 rfl ?_
                  refine x_bipush C dX0_readLets_93 kb_6 ?_
                  obtain ⟨u195, e196, hf⟩ := j_bind hf
                  obtain ⟨q161, e162, hf⟩ := j_bind hf
                  refine x_callV (As := [.int (6 : Int32)]) (rest := []) C dX0_readLets_95 (m_X0_expect (l := l) (E := E) (d := d - 1) (by omega) e162) km_X0_expect lk_X0_93 kv_X0_expect (ci := 0) rfl e196 rfl (by omega) (Nat.le_of_ble_eq_true rfl) (j_le_of (q_X0_expect e162)) (Or.inr (q_X0_expect e162)) ?_
                  refine x_if_eq (tgt := 118) C dX0_readLets_98 (by decide) (fun c250 => ?_) (fun c250 => ?_)
                  · have hf := j_ifp hf c250
                    refine x_iconst C dX0_readLets_118 ki_0 ?_
                    obtain ⟨rfl, rfl⟩ := j_inj2 hf
                    obtain ⟨rfl, rfl⟩ := hk
                    exact x_zret C hret (Or.inl rfl) dX0_readLets_119
                  · have hf := j_ifn hf c250
                    refine x_aload_n (v := a0) C dX0_readLets_101 rfl ?_
                    refine x_iconst C dX0_readLets_102 ki_0 ?_
                    obtain ⟨u193, e194, hf⟩ := j_bind hf
                    obtain ⟨q163, e164, hf⟩ := j_bind hf
                    refine x_callV (As := [.int (0 : Int32)]) (rest := []) C dX0_readLets_103 (mn_X0_readSum (l := l) (E := E) (d := d - 1) (by omega) e164) km_X0_readSum lk_X0_100 kv_X0_readSum (ci := 0) rfl e194 rfl (by omega) (Nat.le_of_ble_eq_true rfl) (j_le_of (qn_X0_readSum e164)) (Or.inr (qn_X0_readSum e164)) ?_
                    refine x_if_eq (tgt := 118) C dX0_readLets_106 (by decide) (fun c251 => ?_) (fun c251 => ?_)
                    · have hf := j_ifp hf c251
                      refine x_iconst C dX0_readLets_118 ki_0 ?_
                      obtain ⟨rfl, rfl⟩ := j_inj2 hf
                      obtain ⟨rfl, rfl⟩ := hk
                      exact x_zret C hret (Or.inl rfl) dX0_readLets_119
                    · have hf := j_ifn hf c251
                      refine x_aload_n (v := a0) C dX0_readLets_109 rfl ?_
                      refine x_bipush C dX0_readLets_110 kb_59 ?_
                      obtain ⟨u191, e192, hf⟩ := j_bind hf
                      obtain ⟨q165, e166, hf⟩ := j_bind hf
                      refine x_callV (As := [.int (59 : Int32)]) (rest := []) C dX0_readLets_112 (m_X0_expect (l := l) (E := E) (d := d - 1) (by omega) e166) km_X0_expect lk_X0_93 kv_X0_expect (ci := 0) rfl e192 rfl (by omega) (Nat.le_of_ble_eq_true rfl) (j_le_of (q_X0_expect e166)) (Or.inr (q_X0_expect e166)) ?_
                      refine x_if_ne (tgt := 120) C dX0_readLets_115 (by decide) (fun c252 => ?_) (fun c252 => ?_)
                      · have hf := j_ifn hf c252
                        refine x_aload_n (v := a0) C dX0_readLets_120 rfl ?_
                        obtain ⟨v167, e168, hf⟩ := j_bind hf
                        refine x_get C dX0_readLets_121 (jgR_some e168) fg_X0_19 ?_
                        refine x_aload_n (v := a0) C dX0_readLets_124 rfl ?_
                        obtain ⟨v169, e170, hf⟩ := j_bind hf
                        refine x_get C dX0_readLets_125 (jgI_some e170) fg_X0_57 ?_
                        refine x_iload_n (v := q113.1) C dX0_readLets_128 rfl ?_
                        obtain ⟨h171, e172, hf⟩ := j_bind hf
                        refine x_iast C dX0_readLets_129 e172 ?_
                        refine x_aload_n (v := a0) C dX0_readLets_130 rfl ?_
                        obtain ⟨v173, e174, hf⟩ := j_bind hf
                        refine x_get C dX0_readLets_131 (jgR_some e174) fg_X0_13 ?_
                        refine x_aload_n (v := a0) C dX0_readLets_134 rfl ?_
                        obtain ⟨v175, e176, hf⟩ := j_bind hf
                        refine x_get C dX0_readLets_135 (jgI_some e176) fg_X0_57 ?_
                        obtain ⟨v177, e178, hf⟩ := j_bind hf
                        refine x_aald C dX0_readLets_138 e178 ?_
                        refine x_aload_n (v := a0) C dX0_readLets_139 rfl ?_
                        obtain ⟨v179, e180, hf⟩ := j_bind hf
                        refine x_get C dX0_readLets_140 (jgR_some e180) fg_X0_30 ?_
                        refine x_iconst C dX0_readLets_143 ki_0 ?_
                        obtain ⟨v181, e182, hf⟩ := j_bind hf
                        refine x_aald C dX0_readLets_144 e182 ?_
                        obtain ⟨u189, e190, hf⟩ := j_bind hf
                        obtain ⟨q183, e184, hf⟩ := j_bind hf
                        refine x_callV (As := [.ref v181]) (rest := []) C dX0_readLets_145 (m_X2_copyFrom (l := l) (E := E) (d := d - 1) (by omega) e184) km_X2_copyFrom lk_X0_103 kv_X2_copyFrom (ci := 1) rfl e190 rfl (by omega) (Nat.le_of_ble_eq_true rfl) (j_le_of (q_X2_copyFrom e184)) (Or.inr (q_X2_copyFrom e184)) ?_
                        refine x_aload_n (v := a0) C dX0_readLets_148 rfl ?_
                        refine x_dup C dX0_readLets_149 rfl ?_
                        obtain ⟨v185, e186, hf⟩ := j_bind hf
                        refine x_get C dX0_readLets_150 (jgI_some e186) fg_X0_57 ?_
                        refine x_iconst C dX0_readLets_153 ki_1 ?_
                        refine x_iadd C dX0_readLets_154 ?_
                        obtain ⟨h187, e188, hf⟩ := j_bind hf
                        refine x_put C dX0_readLets_155 e188 fp_X0_57 rfl rfl ?_
                        refine x_iinc (v := z) C dX0_readLets_158 rfl ki_1 (by decide) ?_
                        refine x_goto (tgt := 2) C dX0_readLets_161 (by decide) ?_
                        obtain ⟨rfl, rfl⟩ := j_inj2 hf
                        exact x_locr hk rfl
                      · have hf := j_ifp hf c252
                        refine x_iconst C dX0_readLets_118 ki_0 ?_
                        obtain ⟨rfl, rfl⟩ := j_inj2 hf
                        obtain ⟨rfl, rfl⟩ := hk
                        exact x_zret C hret (Or.inl rfl) dX0_readLets_119
              · have hf := j_ifn hf c248
                refine x_aload_n (v := a0) C dX0_readLets_74 rfl ?_
                refine x_iconst C dX0_readLets_75 ki_2 ?_
                refine x_aload_n (v := a0) C dX0_readLets_76 rfl ?_
                obtain ⟨v199, e200, hf⟩ := j_bind hf
                refine x_get C dX0_readLets_77 (jgI_some e200) fg_X0_50 ?_
                obtain ⟨u205, e206, hf⟩ := j_bind hf
                obtain ⟨q201, e202, hf⟩ := j_bind hf
                refine x_callV (As := [.int (2 : Int32), .int v199]) (rest := []) C dX0_readLets_80 (m_X0_fail (l := l) (E := E) (d := d - 1) (by omega) e202) km_X0_fail lk_X0_79 kv_X0_fail (ci := 0) rfl e206 rfl (by omega) (Nat.le_of_ble_eq_true rfl) (j_le_of (q_X0_fail e202)) (Or.inr (q_X0_fail e202)) ?_
                obtain ⟨u203, e204, hf⟩ := j_bind hf
                obtain ⟨rfl, rfl⟩ := j_inj2 hf
                obtain ⟨rfl, rfl⟩ := hk
                exact x_zret C hret (jzb_some e204) dX0_readLets_83
          · have hf := j_ifp hf c242
            refine x_iconst C dX0_readLets_50 ki_0 ?_
            obtain ⟨rfl, rfl⟩ := j_inj2 hf
            obtain ⟨rfl, rfl⟩ := hk
            exact x_zret C hret (Or.inl rfl) dX0_readLets_51
        · have hf := j_ifn hf c241
          refine x_aload_n (v := a0) C dX0_readLets_32 rfl ?_
          refine x_iconst C dX0_readLets_33 ki_5 ?_
          refine x_aload_n (v := a0) C dX0_readLets_34 rfl ?_
          obtain ⟨v215, e216, hf⟩ := j_bind hf
          refine x_get C dX0_readLets_35 (jgI_some e216) fg_X0_50 ?_
          obtain ⟨u221, e222, hf⟩ := j_bind hf
          obtain ⟨q217, e218, hf⟩ := j_bind hf
          refine x_callV (As := [.int (5 : Int32), .int v215]) (rest := []) C dX0_readLets_38 (m_X0_fail (l := l) (E := E) (d := d - 1) (by omega) e218) km_X0_fail lk_X0_79 kv_X0_fail (ci := 0) rfl e222 rfl (by omega) (Nat.le_of_ble_eq_true rfl) (j_le_of (q_X0_fail e218)) (Or.inr (q_X0_fail e218)) ?_
          obtain ⟨u219, e220, hf⟩ := j_bind hf
          obtain ⟨rfl, rfl⟩ := j_inj2 hf
          obtain ⟨rfl, rfl⟩ := hk
          exact x_zret C hret (jzb_some e220) dX0_readLets_41
set_option maxHeartbeats 4000000 in
set_option maxRecDepth 100000 in
theorem m_X0_readLets {l : Launch} {E : JE} {d : Nat} (hdd : 61 ≤ d) {a0 : Nat} {h : JH} {q : Int32 × JH} (hf : f_X0_readLets a0 h = some q) : Con l E d yX0_readLets cX0_readLets 3 (some .boolean) [.ref a0] h (some (.int q.1)) q.2 := by
  refine j_start rfl (Nat.le_of_ble_eq_true rfl) ?_
  intro p e s m args below meth c C hret hnm
  refine x_loc [(0, .ref a0)] rfl ?_
  unfold f_X0_readLets at hf
  refine x_iconst C dX0_readLets_0 ki_0 ?_
  refine x_istore_n C dX0_readLets_1 (by decide) ?_
  obtain ⟨q253, e254, hf⟩ := j_bind hf
  refine x_loc [(0, .ref a0), (1, .int (0 : Int32))] rfl ?_
  refine x_loop (s_X0_readLets_L2 C hret hdd a0) e254 ?_
  cases y258 : q253.1 with
  | inl r256 =>
    rw [y258] at hf
    have hf := j_eliml hf
    obtain rfl := j_inj hf
    exact ⟨rfl, rfl⟩
  | inr t255 =>
    rw [y258] at hf
    have hf := j_elimr hf
    refine j_elimG ?_
    refine x_iconst C dX0_readLets_164 ki_1 ?_
    obtain rfl := j_inj hf
    exact x_zret C hret (Or.inr rfl) dX0_readLets_165
set_option maxHeartbeats 4000000 in
set_option maxRecDepth 100000 in
theorem s_X1_onlyIfPrimitive_L2 {p : Program} {l : Launch} {e : Env} {R : Room} {s : State} {m : MethodId} {args : Array Value} {below : List Frame} {meth : Method} {c : Code} {E : JE} {h0 hF : JH} {rF : Option Value} {d : Nat} (C : j_C p s m args meth c R E cX1_onlyIfPrimitive 4 RX1 h0 hF d) (hret : meth.sig.returnType = (some .int)) (hdd : 0 ≤ d) (a0 : Int32) (a1 : Int32) (a2 : Int32) (z : Int32) (h : JH) (r : Int32 ⊕ (Int32 ⊕ Int32)) (h1 : JH) (hf : f_X1_onlyIfPrimitive_L2 a0 a1 a2 z h = some (r, h1)) (hk : Sum.elim (fun z => Xw p l e R s m args below meth c E 4 h0 rF hF 2 [(0, .int a0), (1, .int a1), (2, .int a2), (3, .int z)] [] h1) (fun t => Sum.elim (fun rr => some (.int rr) = rF ∧ h1 = hF) (fun t => Xw p l e R s m args below meth c E 4 h0 rF hF 33 [(0, .int a0), (1, .int a1), (2, .int a2), (3, .int t)] [] h1) t) r) : Xw p l e R s m args below meth c E 4 h0 rF hF 2 [(0, .int a0), (1, .int a1), (2, .int a2), (3, .int z)] [] h := by
  unfold f_X1_onlyIfPrimitive_L2 at hf
  refine x_iload_n (v := z) C dX1_onlyIfPrimitive_2 rfl ?_
  refine x_iload_n (v := a0) C dX1_onlyIfPrimitive_3 rfl ?_
  refine x_icmp_gt (tgt := 33) C dX1_onlyIfPrimitive_4 (by decide) (fun c7 => ?_) (fun c7 => ?_)
  · have hf := j_ifp hf c7
    obtain ⟨rfl, rfl⟩ := j_inj2 hf
    exact x_locr hk rfl
  · have hf := j_ifn hf c7
    refine x_iload_n (v := a0) C dX1_onlyIfPrimitive_7 rfl ?_
    refine x_iload_n (v := z) C dX1_onlyIfPrimitive_8 rfl ?_
    obtain ⟨u1, e2, hf⟩ := j_bind hf
    refine x_irem C dX1_onlyIfPrimitive_9 (jnz_some e2) ?_
    refine x_if_ne (tgt := 27) C dX1_onlyIfPrimitive_10 (by decide) (fun c8 => ?_) (fun c8 => ?_)
    · have hf := j_ifn hf c8
      refine x_iinc (v := z) C dX1_onlyIfPrimitive_27 rfl ki_1 (by decide) ?_
      refine x_goto (tgt := 2) C dX1_onlyIfPrimitive_30 (by decide) ?_
      obtain ⟨rfl, rfl⟩ := j_inj2 hf
      exact x_locr hk rfl
    · have hf := j_ifp hf c8
      refine x_iload_n (v := a1) C dX1_onlyIfPrimitive_13 rfl ?_
      refine x_iload_n (v := z) C dX1_onlyIfPrimitive_14 rfl ?_
      obtain ⟨u3, e4, hf⟩ := j_bind hf
      refine x_irem C dX1_onlyIfPrimitive_15 (jnz_some e4) ?_
      refine x_if_ne (tgt := 27) C dX1_onlyIfPrimitive_16 (by decide) (fun c9 => ?_) (fun c9 => ?_)
      · have hf := j_ifn hf c9
        refine x_iinc (v := z) C dX1_onlyIfPrimitive_27 rfl ki_1 (by decide) ?_
        refine x_goto (tgt := 2) C dX1_onlyIfPrimitive_30 (by decide) ?_
        obtain ⟨rfl, rfl⟩ := j_inj2 hf
        exact x_locr hk rfl
      · have hf := j_ifp hf c9
        refine x_iload_n (v := a2) C dX1_onlyIfPrimitive_19 rfl ?_
        refine x_iload_n (v := z) C dX1_onlyIfPrimitive_20 rfl ?_
        obtain ⟨u5, e6, hf⟩ := j_bind hf
        refine x_irem C dX1_onlyIfPrimitive_21 (jnz_some e6) ?_
        refine x_if_ne (tgt := 27) C dX1_onlyIfPrimitive_22 (by decide) (fun c10 => ?_) (fun c10 => ?_)
        · have hf := j_ifn hf c10
          refine x_iinc (v := z) C dX1_onlyIfPrimitive_27 rfl ki_1 (by decide) ?_
          refine x_goto (tgt := 2) C dX1_onlyIfPrimitive_30 (by decide) ?_
          obtain ⟨rfl, rfl⟩ := j_inj2 hf
          exact x_locr hk rfl
        · have hf := j_ifp hf c10
          refine x_iconst C dX1_onlyIfPrimitive_25 ki_0 ?_
          obtain ⟨rfl, rfl⟩ := j_inj2 hf
          obtain ⟨rfl, rfl⟩ := hk
          exact x_iret C hret dX1_onlyIfPrimitive_26
set_option maxHeartbeats 4000000 in
set_option maxRecDepth 100000 in
theorem m_X1_onlyIfPrimitive {l : Launch} {E : JE} {d : Nat} (hdd : 0 ≤ d) {a0 : Int32} {a1 : Int32} {a2 : Int32} {h : JH} {q : Int32 × JH} (hf : f_X1_onlyIfPrimitive a0 a1 a2 h = some q) : Con l E d yX1_onlyIfPrimitive cX1_onlyIfPrimitive 4 (some .int) [.int a0, .int a1, .int a2] h (some (.int q.1)) q.2 := by
  refine j_start rfl (Nat.le_of_ble_eq_true rfl) ?_
  intro p e s m args below meth c C hret hnm
  refine x_loc [(0, .int a0), (1, .int a1), (2, .int a2)] rfl ?_
  unfold f_X1_onlyIfPrimitive at hf
  refine x_iconst C dX1_onlyIfPrimitive_0 ki_2 ?_
  refine x_istore_n C dX1_onlyIfPrimitive_1 (by decide) ?_
  obtain ⟨q11, e12, hf⟩ := j_bind hf
  refine x_loc [(0, .int a0), (1, .int a1), (2, .int a2), (3, .int (2 : Int32))] rfl ?_
  refine x_loop (s_X1_onlyIfPrimitive_L2 C hret hdd a0 a1 a2) e12 ?_
  cases y16 : q11.1 with
  | inl r14 =>
    rw [y16] at hf
    have hf := j_eliml hf
    obtain rfl := j_inj hf
    exact ⟨rfl, rfl⟩
  | inr t13 =>
    rw [y16] at hf
    have hf := j_elimr hf
    refine j_elimG ?_
    refine x_iconst C dX1_onlyIfPrimitive_33 ki_1 ?_
    obtain rfl := j_inj hf
    exact x_iret C hret dX1_onlyIfPrimitive_34
set_option maxHeartbeats 4000000 in
set_option maxRecDepth 100000 in
theorem m_X1_twelfths {l : Launch} {E : JE} {d : Nat} (hdd : 0 ≤ d) {a0 : Int32} {a1 : Int32} {a2 : Int32} {h : JH} {q : Int32 × JH} (hf : f_X1_twelfths a0 a1 a2 h = some q) : Con l E d yX1_twelfths cX1_twelfths 3 (some .int) [.int a0, .int a1, .int a2] h (some (.int q.1)) q.2 := by
  refine j_start rfl (Nat.le_of_ble_eq_true rfl) ?_
  intro p e s m args below meth c C hret hnm
  refine x_loc [(0, .int a0), (1, .int a1), (2, .int a2)] rfl ?_
  unfold f_X1_twelfths at hf
  refine x_iload_n (v := a0) C dX1_twelfths_0 rfl ?_
  refine x_iload_n (v := a2) C dX1_twelfths_1 rfl ?_
  refine x_icmp_eq (tgt := 8) C dX1_twelfths_2 (by decide) (fun c1 => ?_) (fun c1 => ?_)
  · have hf := j_ifp hf c1
    refine x_iload_n (v := a1) C dX1_twelfths_8 rfl ?_
    refine x_if_ne (tgt := 15) C dX1_twelfths_9 (by decide) (fun c2 => ?_) (fun c2 => ?_)
    · have hf := j_ifn hf c2
      refine x_iload_n (v := a0) C dX1_twelfths_15 rfl ?_
      refine x_iload_n (v := a1) C dX1_twelfths_16 rfl ?_
      refine x_icmp_ne (tgt := 24) C dX1_twelfths_17 (by decide) (fun c3 => ?_) (fun c3 => ?_)
      · have hf := j_ifn hf c3
        refine x_bipush C dX1_twelfths_24 kb_12 ?_
        obtain rfl := j_inj hf
        exact x_iret C hret dX1_twelfths_26
      · have hf := j_ifp hf c3
        refine x_iconst C dX1_twelfths_20 ki_4 ?_
        refine x_goto (tgt := 26) C dX1_twelfths_21 (by decide) ?_
        obtain rfl := j_inj hf
        exact x_iret C hret dX1_twelfths_26
    · have hf := j_ifp hf c2
      refine x_bipush C dX1_twelfths_12 kb_6 ?_
      obtain rfl := j_inj hf
      exact x_iret C hret dX1_twelfths_14
  · have hf := j_ifn hf c1
    refine x_bipush C dX1_twelfths_5 kb_12 ?_
    obtain rfl := j_inj hf
    exact x_iret C hret dX1_twelfths_7
set_option maxHeartbeats 4000000 in
set_option maxRecDepth 100000 in
theorem s_X1_addUp_L18 {p : Program} {l : Launch} {e : Env} {R : Room} {s : State} {m : MethodId} {args : Array Value} {below : List Frame} {meth : Method} {c : Code} {E : JE} {h0 hF : JH} {rF : Option Value} {d : Nat} (C : j_C p s m args meth c R E cX1_addUp 7 RX1 h0 hF d) (hret : meth.sig.returnType = (some .int)) (hdd : 1 ≤ d) (a0 : Int32) (a1 : Int32) (a3 : Int32) (z : (Int32 × Int32)) (h : JH) (r : (Int32 × Int32) ⊕ (Int32 × Int32)) (h1 : JH) (hf : f_X1_addUp_L18 a0 a1 a3 z h = some (r, h1)) (hk : Sum.elim (fun z => Xw p l e R s m args below meth c E 7 h0 rF hF 18 [(0, .int a0), (1, .int a1), (2, .int z.1), (3, .int a3), (4, .int z.2)] [] h1) (fun t => Xw p l e R s m args below meth c E 7 h0 rF hF 99 [(0, .int a0), (1, .int a1), (2, .int t.1), (3, .int a3), (4, .int t.2)] [] h1) r) : Xw p l e R s m args below meth c E 7 h0 rF hF 18 [(0, .int a0), (1, .int a1), (2, .int z.1), (3, .int a3), (4, .int z.2)] [] h := by
  unfold f_X1_addUp_L18 at hf
  refine x_iload (v := z.2) C dX1_addUp_18 rfl ?_
  refine x_iload_n (v := a3) C dX1_addUp_20 rfl ?_
  refine x_icmp_gt (tgt := 99) C dX1_addUp_21 (by decide) (fun c13 => ?_) (fun c13 => ?_)
  · have hf := j_ifp hf c13
    obtain ⟨rfl, rfl⟩ := j_inj2 hf
    exact x_locr hk rfl
  · have hf := j_ifn hf c13
    refine x_iload_n (v := a0) C dX1_addUp_24 rfl ?_
    refine x_iload (v := z.2) C dX1_addUp_25 rfl ?_
    refine x_iload (v := z.2) C dX1_addUp_27 rfl ?_
    refine x_imul C dX1_addUp_29 ?_
    refine x_iadd C dX1_addUp_30 ?_
    refine x_istore C dX1_addUp_31 (by decide) ?_
    refine x_iload (v := a0 + (z.2 * z.2)) C dX1_addUp_33 rfl ?_
    refine x_iconst C dX1_addUp_35 ki_4 ?_
    refine x_iload_n (v := a3) C dX1_addUp_36 rfl ?_
    refine x_imul C dX1_addUp_37 ?_
    obtain ⟨u1, e2, hf⟩ := j_bind hf
    refine x_idiv C dX1_addUp_38 (jnz_some e2) ?_
    refine x_istore C dX1_addUp_39 (by decide) ?_
    refine x_iload (v := a0 + (z.2 * z.2)) C dX1_addUp_41 rfl ?_
    refine x_iconst C dX1_addUp_43 ki_4 ?_
    refine x_iload_n (v := a3) C dX1_addUp_44 rfl ?_
    refine x_imul C dX1_addUp_45 ?_
    obtain ⟨u3, e4, hf⟩ := j_bind hf
    refine x_irem C dX1_addUp_46 (jnz_some e4) ?_
    refine x_if_ne (tgt := 93) C dX1_addUp_47 (by decide) (fun c14 => ?_) (fun c14 => ?_)
    · have hf := j_ifn hf c14
      refine x_iinc (v := z.2) C dX1_addUp_93 rfl ki_1 (by decide) ?_
      refine x_goto (tgt := 18) C dX1_addUp_96 (by decide) ?_
      obtain ⟨rfl, rfl⟩ := j_inj2 hf
      exact x_locr hk rfl
    · have hf := j_ifp hf c14
      refine x_iload (v := (a0 + (z.2 * z.2)) / ((4 : Int32) * a3)) C dX1_addUp_50 rfl ?_
      refine x_iload_n (v := a3) C dX1_addUp_52 rfl ?_
      refine x_icmp_gt (tgt := 67) C dX1_addUp_53 (by decide) (fun c15 => ?_) (fun c15 => ?_)
      · have hf := j_ifp hf c15
        refine x_iload_n (v := z.1) C dX1_addUp_67 rfl ?_
        refine x_iload_n (v := a1) C dX1_addUp_68 rfl ?_
        refine x_if_eq (tgt := 83) C dX1_addUp_69 (by decide) (fun c16 => ?_) (fun c16 => ?_)
        · have hf := j_ifp hf c16
          refine x_iload_n (v := a3) C dX1_addUp_83 rfl ?_
          refine x_iload (v := z.2) C dX1_addUp_84 rfl ?_
          refine x_iload (v := (a0 + (z.2 * z.2)) / ((4 : Int32) * a3)) C dX1_addUp_86 rfl ?_
          obtain ⟨q5, e6, hf⟩ := j_bind hf
          refine x_callS (As := [.int a3, .int z.2, .int ((a0 + (z.2 * z.2)) / ((4 : Int32) * a3))]) (rest := [.int z.1]) C dX1_addUp_88 (m_X1_twelfths (l := l) (E := E) (d := d - 1) (by omega) e6) km_X1_twelfths lk_X1_21 ks_X1_twelfths rfl (by omega) (Nat.le_of_ble_eq_true rfl) (j_le_of (q_X1_twelfths e6)) (Or.inr (q_X1_twelfths e6)) ?_
          refine x_iadd C dX1_addUp_91 ?_
          refine x_istore_n C dX1_addUp_92 (by decide) ?_
          refine x_iinc (v := z.2) C dX1_addUp_93 rfl ki_1 (by decide) ?_
          refine x_goto (tgt := 18) C dX1_addUp_96 (by decide) ?_
          obtain ⟨rfl, rfl⟩ := j_inj2 hf
          exact x_locr hk rfl
        · have hf := j_ifn hf c16
          refine x_iload_n (v := a3) C dX1_addUp_72 rfl ?_
          refine x_iload (v := z.2) C dX1_addUp_73 rfl ?_
          refine x_iload (v := (a0 + (z.2 * z.2)) / ((4 : Int32) * a3)) C dX1_addUp_75 rfl ?_
          obtain ⟨q7, e8, hf⟩ := j_bind hf
          refine x_callS (As := [.int a3, .int z.2, .int ((a0 + (z.2 * z.2)) / ((4 : Int32) * a3))]) (rest := [.int z.1]) C dX1_addUp_77 (m_X1_onlyIfPrimitive (l := l) (E := E) (d := d - 1) (by omega) e8) km_X1_onlyIfPrimitive lk_X1_17 ks_X1_onlyIfPrimitive rfl (by omega) (Nat.le_of_ble_eq_true rfl) (j_le_of (q_X1_onlyIfPrimitive e8)) (Or.inr (q_X1_onlyIfPrimitive e8)) ?_
          refine x_goto (tgt := 91) C dX1_addUp_80 (by decide) ?_
          refine x_iadd C dX1_addUp_91 ?_
          refine x_istore_n C dX1_addUp_92 (by decide) ?_
          refine x_iinc (v := z.2) C dX1_addUp_93 rfl ki_1 (by decide) ?_
          refine x_goto (tgt := 18) C dX1_addUp_96 (by decide) ?_
          obtain ⟨rfl, rfl⟩ := j_inj2 hf
          exact x_locr hk rfl
      · have hf := j_ifn hf c15
        refine x_iload (v := (a0 + (z.2 * z.2)) / ((4 : Int32) * a3)) C dX1_addUp_56 rfl ?_
        refine x_iload_n (v := a3) C dX1_addUp_58 rfl ?_
        refine x_icmp_ne (tgt := 93) C dX1_addUp_59 (by decide) (fun c17 => ?_) (fun c17 => ?_)
        · have hf := j_ifn hf c17
          refine x_iinc (v := z.2) C dX1_addUp_93 rfl ki_1 (by decide) ?_
          refine x_goto (tgt := 18) C dX1_addUp_96 (by decide) ?_
          obtain ⟨rfl, rfl⟩ := j_inj2 hf
          exact x_locr hk rfl
        · have hf := j_ifp hf c17
          refine x_iload (v := z.2) C dX1_addUp_62 rfl ?_
          refine x_if_lt (tgt := 93) C dX1_addUp_64 (by decide) (fun c18 => ?_) (fun c18 => ?_)
          · have hf := j_ifp hf c18
            refine x_iinc (v := z.2) C dX1_addUp_93 rfl ki_1 (by decide) ?_
            refine x_goto (tgt := 18) C dX1_addUp_96 (by decide) ?_
            obtain ⟨rfl, rfl⟩ := j_inj2 hf
            exact x_locr hk rfl
          · have hf := j_ifn hf c18
            refine x_iload_n (v := z.1) C dX1_addUp_67 rfl ?_
            refine x_iload_n (v := a1) C dX1_addUp_68 rfl ?_
            refine x_if_eq (tgt := 83) C dX1_addUp_69 (by decide) (fun c19 => ?_) (fun c19 => ?_)
            · have hf := j_ifp hf c19
              refine x_iload_n (v := a3) C dX1_addUp_83 rfl ?_
              refine x_iload (v := z.2) C dX1_addUp_84 rfl ?_
              refine x_iload (v := (a0 + (z.2 * z.2)) / ((4 : Int32) * a3)) C dX1_addUp_86 rfl ?_
              obtain ⟨q9, e10, hf⟩ := j_bind hf
              refine x_callS (As := [.int a3, .int z.2, .int ((a0 + (z.2 * z.2)) / ((4 : Int32) * a3))]) (rest := [.int z.1]) C dX1_addUp_88 (m_X1_twelfths (l := l) (E := E) (d := d - 1) (by omega) e10) km_X1_twelfths lk_X1_21 ks_X1_twelfths rfl (by omega) (Nat.le_of_ble_eq_true rfl) (j_le_of (q_X1_twelfths e10)) (Or.inr (q_X1_twelfths e10)) ?_
              refine x_iadd C dX1_addUp_91 ?_
              refine x_istore_n C dX1_addUp_92 (by decide) ?_
              refine x_iinc (v := z.2) C dX1_addUp_93 rfl ki_1 (by decide) ?_
              refine x_goto (tgt := 18) C dX1_addUp_96 (by decide) ?_
              obtain ⟨rfl, rfl⟩ := j_inj2 hf
              exact x_locr hk rfl
            · have hf := j_ifn hf c19
              refine x_iload_n (v := a3) C dX1_addUp_72 rfl ?_
              refine x_iload (v := z.2) C dX1_addUp_73 rfl ?_
              refine x_iload (v := (a0 + (z.2 * z.2)) / ((4 : Int32) * a3)) C dX1_addUp_75 rfl ?_
              obtain ⟨q11, e12, hf⟩ := j_bind hf
              refine x_callS (As := [.int a3, .int z.2, .int ((a0 + (z.2 * z.2)) / ((4 : Int32) * a3))]) (rest := [.int z.1]) C dX1_addUp_77 (m_X1_onlyIfPrimitive (l := l) (E := E) (d := d - 1) (by omega) e12) km_X1_onlyIfPrimitive lk_X1_17 ks_X1_onlyIfPrimitive rfl (by omega) (Nat.le_of_ble_eq_true rfl) (j_le_of (q_X1_onlyIfPrimitive e12)) (Or.inr (q_X1_onlyIfPrimitive e12)) ?_
              refine x_goto (tgt := 91) C dX1_addUp_80 (by decide) ?_
              refine x_iadd C dX1_addUp_91 ?_
              refine x_istore_n C dX1_addUp_92 (by decide) ?_
              refine x_iinc (v := z.2) C dX1_addUp_93 rfl ki_1 (by decide) ?_
              refine x_goto (tgt := 18) C dX1_addUp_96 (by decide) ?_
              obtain ⟨rfl, rfl⟩ := j_inj2 hf
              exact x_locr hk rfl
set_option maxHeartbeats 4000000 in
set_option maxRecDepth 100000 in
theorem s_X1_addUp_L4 {p : Program} {l : Launch} {e : Env} {R : Room} {s : State} {m : MethodId} {args : Array Value} {below : List Frame} {meth : Method} {c : Code} {E : JE} {h0 hF : JH} {rF : Option Value} {d : Nat} (C : j_C p s m args meth c R E cX1_addUp 7 RX1 h0 hF d) (hret : meth.sig.returnType = (some .int)) (hdd : 1 ≤ d) (a0 : Int32) (a1 : Int32) (z : (Int32 × Int32)) (h : JH) (r : (Int32 × Int32) ⊕ (Int32 × Int32)) (h1 : JH) (hf : f_X1_addUp_L4 a0 a1 z h = some (r, h1)) (hk : Sum.elim (fun z => Xw p l e R s m args below meth c E 7 h0 rF hF 4 [(0, .int a0), (1, .int a1), (2, .int z.1), (3, .int z.2)] [] h1) (fun t => Xw p l e R s m args below meth c E 7 h0 rF hF 105 [(0, .int a0), (1, .int a1), (2, .int t.1), (3, .int t.2)] [] h1) r) : Xw p l e R s m args below meth c E 7 h0 rF hF 4 [(0, .int a0), (1, .int a1), (2, .int z.1), (3, .int z.2)] [] h := by
  unfold f_X1_addUp_L4 at hf
  refine x_iconst C dX1_addUp_4 ki_3 ?_
  refine x_iload_n (v := z.2) C dX1_addUp_5 rfl ?_
  refine x_imul C dX1_addUp_6 ?_
  refine x_iload_n (v := z.2) C dX1_addUp_7 rfl ?_
  refine x_imul C dX1_addUp_8 ?_
  refine x_iload_n (v := a0) C dX1_addUp_9 rfl ?_
  refine x_icmp_gt (tgt := 105) C dX1_addUp_10 (by decide) (fun c3 => ?_) (fun c3 => ?_)
  · have hf := j_ifp hf c3
    obtain ⟨rfl, rfl⟩ := j_inj2 hf
    exact x_locr hk rfl
  · have hf := j_ifn hf c3
    refine x_iconst C dX1_addUp_13 ki_1 ?_
    refine x_iload_n (v := z.2) C dX1_addUp_14 rfl ?_
    refine x_isub C dX1_addUp_15 ?_
    refine x_istore C dX1_addUp_16 (by decide) ?_
    obtain ⟨q1, e2, hf⟩ := j_bind hf
    refine x_loc [(0, .int a0), (1, .int a1), (2, .int z.1), (3, .int z.2), (4, .int ((1 : Int32) - z.2))] rfl ?_
    refine x_loop (s_X1_addUp_L18 C hret hdd a0 a1 z.2) e2 ?_
    refine x_iinc (v := z.2) C dX1_addUp_99 rfl ki_1 (by decide) ?_
    refine x_goto (tgt := 4) C dX1_addUp_102 (by decide) ?_
    obtain ⟨rfl, rfl⟩ := j_inj2 hf
    exact x_locr hk rfl
set_option maxHeartbeats 4000000 in
set_option maxRecDepth 100000 in
theorem m_X1_addUp {l : Launch} {E : JE} {d : Nat} (hdd : 1 ≤ d) {a0 : Int32} {a1 : Int32} {h : JH} {q : Int32 × JH} (hf : f_X1_addUp a0 a1 h = some q) : Con l E d yX1_addUp cX1_addUp 7 (some .int) [.int a0, .int a1] h (some (.int q.1)) q.2 := by
  refine j_start rfl (Nat.le_of_ble_eq_true rfl) ?_
  intro p e s m args below meth c C hret hnm
  refine x_loc [(0, .int a0), (1, .int a1)] rfl ?_
  unfold f_X1_addUp at hf
  refine x_iconst C dX1_addUp_0 ki_0 ?_
  refine x_istore_n C dX1_addUp_1 (by decide) ?_
  refine x_iconst C dX1_addUp_2 ki_1 ?_
  refine x_istore_n C dX1_addUp_3 (by decide) ?_
  obtain ⟨q4, e5, hf⟩ := j_bind hf
  refine x_loc [(0, .int a0), (1, .int a1), (2, .int (0 : Int32)), (3, .int (1 : Int32))] rfl ?_
  refine x_loop (s_X1_addUp_L4 C hret hdd a0 a1) e5 ?_
  refine x_iload_n (v := q4.1.1) C dX1_addUp_105 rfl ?_
  obtain rfl := j_inj hf
  exact x_iret C hret dX1_addUp_106
set_option maxHeartbeats 4000000 in
set_option maxRecDepth 100000 in
theorem m_X1_isDiscriminant {l : Launch} {E : JE} {d : Nat} (hdd : 0 ≤ d) {a0 : Int32} {h : JH} {q : Int32 × JH} (hf : f_X1_isDiscriminant a0 h = some q) : Con l E d yX1_isDiscriminant cX1_isDiscriminant 1 (some .boolean) [.int a0] h (some (.int q.1)) q.2 := by
  refine j_start rfl (Nat.le_of_ble_eq_true rfl) ?_
  intro p e s m args below meth c C hret hnm
  refine x_loc [(0, .int a0)] rfl ?_
  unfold f_X1_isDiscriminant at hf
  refine x_iload_n (v := a0) C dX1_isDiscriminant_0 rfl ?_
  refine x_iconst C dX1_isDiscriminant_1 ki_1 ?_
  refine x_icmp_lt (tgt := 29) C dX1_isDiscriminant_2 (by decide) (fun c1 => ?_) (fun c1 => ?_)
  · have hf := j_ifp hf c1
    refine x_iconst C dX1_isDiscriminant_29 ki_0 ?_
    obtain rfl := j_inj hf
    exact x_zret C hret (Or.inl rfl) dX1_isDiscriminant_30
  · have hf := j_ifn hf c1
    refine x_iload_n (v := a0) C dX1_isDiscriminant_5 rfl ?_
    refine x_sipush C dX1_isDiscriminant_6 ks_2000 ?_
    refine x_icmp_gt (tgt := 29) C dX1_isDiscriminant_9 (by decide) (fun c2 => ?_) (fun c2 => ?_)
    · have hf := j_ifp hf c2
      refine x_iconst C dX1_isDiscriminant_29 ki_0 ?_
      obtain rfl := j_inj hf
      exact x_zret C hret (Or.inl rfl) dX1_isDiscriminant_30
    · have hf := j_ifn hf c2
      refine x_iload_n (v := a0) C dX1_isDiscriminant_12 rfl ?_
      refine x_iconst C dX1_isDiscriminant_13 ki_4 ?_
      refine x_irem C dX1_isDiscriminant_14 (by decide) ?_
      refine x_if_eq (tgt := 25) C dX1_isDiscriminant_15 (by decide) (fun c3 => ?_) (fun c3 => ?_)
      · have hf := j_ifp hf c3
        refine x_iconst C dX1_isDiscriminant_25 ki_1 ?_
        refine x_goto (tgt := 30) C dX1_isDiscriminant_26 (by decide) ?_
        obtain rfl := j_inj hf
        exact x_zret C hret (Or.inr rfl) dX1_isDiscriminant_30
      · have hf := j_ifn hf c3
        refine x_iload_n (v := a0) C dX1_isDiscriminant_18 rfl ?_
        refine x_iconst C dX1_isDiscriminant_19 ki_4 ?_
        refine x_irem C dX1_isDiscriminant_20 (by decide) ?_
        refine x_iconst C dX1_isDiscriminant_21 ki_3 ?_
        refine x_icmp_ne (tgt := 29) C dX1_isDiscriminant_22 (by decide) (fun c4 => ?_) (fun c4 => ?_)
        · have hf := j_ifn hf c4
          refine x_iconst C dX1_isDiscriminant_29 ki_0 ?_
          obtain rfl := j_inj hf
          exact x_zret C hret (Or.inl rfl) dX1_isDiscriminant_30
        · have hf := j_ifp hf c4
          refine x_iconst C dX1_isDiscriminant_25 ki_1 ?_
          refine x_goto (tgt := 30) C dX1_isDiscriminant_26 (by decide) ?_
          obtain rfl := j_inj hf
          exact x_zret C hret (Or.inr rfl) dX1_isDiscriminant_30
set_option maxHeartbeats 4000000 in
set_option maxRecDepth 100000 in
theorem m_X1_inTwelfths {l : Launch} {E : JE} {d : Nat} (hdd : 2 ≤ d) {a0 : Int32} {h : JH} {q : Int32 × JH} (hf : f_X1_inTwelfths a0 h = some q) : Con l E d yX1_inTwelfths cX1_inTwelfths 1 (some .int) [.int a0] h (some (.int q.1)) q.2 := by
  refine j_start rfl (Nat.le_of_ble_eq_true rfl) ?_
  intro p e s m args below meth c C hret hnm
  refine x_loc [(0, .int a0)] rfl ?_
  unfold f_X1_inTwelfths at hf
  refine x_iload_n (v := a0) C dX1_inTwelfths_0 rfl ?_
  refine x_if_ne (tgt := 6) C dX1_inTwelfths_1 (by decide) (fun c5 => ?_) (fun c5 => ?_)
  · have hf := j_ifn hf c5
    refine x_iload_n (v := a0) C dX1_inTwelfths_6 rfl ?_
    obtain ⟨q1, e2, hf⟩ := j_bind hf
    refine x_callS (As := [.int a0]) (rest := []) C dX1_inTwelfths_7 (m_X1_isDiscriminant (l := l) (E := E) (d := d - 1) (by omega) e2) km_X1_isDiscriminant lk_X1_7 ks_X1_isDiscriminant rfl (by omega) (Nat.le_of_ble_eq_true rfl) (j_le_of (q_X1_isDiscriminant e2)) (Or.inr (q_X1_isDiscriminant e2)) ?_
    refine x_if_eq (tgt := 21) C dX1_inTwelfths_10 (by decide) (fun c6 => ?_) (fun c6 => ?_)
    · have hf := j_ifp hf c6
      refine x_iconst C dX1_inTwelfths_21 ki_0 ?_
      obtain rfl := j_inj hf
      exact x_iret C hret dX1_inTwelfths_22
    · have hf := j_ifn hf c6
      refine x_iload_n (v := a0) C dX1_inTwelfths_13 rfl ?_
      refine x_iconst C dX1_inTwelfths_14 ki_0 ?_
      obtain ⟨q3, e4, hf⟩ := j_bind hf
      refine x_callS (As := [.int a0, .int (0 : Int32)]) (rest := []) C dX1_inTwelfths_15 (m_X1_addUp (l := l) (E := E) (d := d - 1) (by omega) e4) km_X1_addUp lk_X1_13 ks_X1_addUp rfl (by omega) (Nat.le_of_ble_eq_true rfl) (j_le_of (q_X1_addUp e4)) (Or.inr (q_X1_addUp e4)) ?_
      refine x_goto (tgt := 22) C dX1_inTwelfths_18 (by decide) ?_
      obtain rfl := j_inj hf
      exact x_iret C hret dX1_inTwelfths_22
  · have hf := j_ifp hf c5
    refine x_iconst C dX1_inTwelfths_4 ki_m1 ?_
    obtain rfl := j_inj hf
    exact x_iret C hret dX1_inTwelfths_5
set_option maxHeartbeats 4000000 in
set_option maxRecDepth 100000 in
theorem m_X1_ofNothingInCommon {l : Launch} {E : JE} {d : Nat} (hdd : 2 ≤ d) {a0 : Int32} {h : JH} {q : Int32 × JH} (hf : f_X1_ofNothingInCommon a0 h = some q) : Con l E d yX1_ofNothingInCommon cX1_ofNothingInCommon 1 (some .int) [.int a0] h (some (.int q.1)) q.2 := by
  refine j_start rfl (Nat.le_of_ble_eq_true rfl) ?_
  intro p e s m args below meth c C hret hnm
  refine x_loc [(0, .int a0)] rfl ?_
  unfold f_X1_ofNothingInCommon at hf
  refine x_iload_n (v := a0) C dX1_ofNothingInCommon_0 rfl ?_
  obtain ⟨q1, e2, hf⟩ := j_bind hf
  refine x_callS (As := [.int a0]) (rest := []) C dX1_ofNothingInCommon_1 (m_X1_isDiscriminant (l := l) (E := E) (d := d - 1) (by omega) e2) km_X1_isDiscriminant lk_X1_7 ks_X1_isDiscriminant rfl (by omega) (Nat.le_of_ble_eq_true rfl) (j_le_of (q_X1_isDiscriminant e2)) (Or.inr (q_X1_isDiscriminant e2)) ?_
  refine x_if_eq (tgt := 15) C dX1_ofNothingInCommon_4 (by decide) (fun c5 => ?_) (fun c5 => ?_)
  · have hf := j_ifp hf c5
    refine x_iconst C dX1_ofNothingInCommon_15 ki_0 ?_
    obtain rfl := j_inj hf
    exact x_iret C hret dX1_ofNothingInCommon_16
  · have hf := j_ifn hf c5
    refine x_iload_n (v := a0) C dX1_ofNothingInCommon_7 rfl ?_
    refine x_iconst C dX1_ofNothingInCommon_8 ki_1 ?_
    obtain ⟨q3, e4, hf⟩ := j_bind hf
    refine x_callS (As := [.int a0, .int (1 : Int32)]) (rest := []) C dX1_ofNothingInCommon_9 (m_X1_addUp (l := l) (E := E) (d := d - 1) (by omega) e4) km_X1_addUp lk_X1_13 ks_X1_addUp rfl (by omega) (Nat.le_of_ble_eq_true rfl) (j_le_of (q_X1_addUp e4)) (Or.inr (q_X1_addUp e4)) ?_
    refine x_goto (tgt := 16) C dX1_ofNothingInCommon_12 (by decide) ?_
    obtain rfl := j_inj hf
    exact x_iret C hret dX1_ofNothingInCommon_16
set_option maxHeartbeats 4000000 in
set_option maxRecDepth 100000 in
theorem s_X2_firstNotZero_L2 {p : Program} {l : Launch} {e : Env} {R : Room} {s : State} {m : MethodId} {args : Array Value} {below : List Frame} {meth : Method} {c : Code} {E : JE} {h0 hF : JH} {rF : Option Value} {d : Nat} (C : j_C p s m args meth c R E cX2_firstNotZero 2 RX2 h0 hF d) (hret : meth.sig.returnType = (some .int)) (hdd : 0 ≤ d) (a0 : Nat) (z : Int32) (h : JH) (r : Int32 ⊕ (Int32 ⊕ Int32)) (h1 : JH) (hf : f_X2_firstNotZero_L2 a0 z h = some (r, h1)) (hk : Sum.elim (fun z => Xw p l e R s m args below meth c E 2 h0 rF hF 2 [(0, .ref a0), (1, .int z)] [] h1) (fun t => Sum.elim (fun rr => some (.int rr) = rF ∧ h1 = hF) (fun t => Xw p l e R s m args below meth c E 2 h0 rF hF 25 [(0, .ref a0), (1, .int t)] [] h1) t) r) : Xw p l e R s m args below meth c E 2 h0 rF hF 2 [(0, .ref a0), (1, .int z)] [] h := by
  unfold f_X2_firstNotZero_L2 at hf
  refine x_iload_n (v := z) C dX2_firstNotZero_2 rfl ?_
  refine x_bipush C dX2_firstNotZero_3 kb_6 ?_
  refine x_icmp_ge (tgt := 25) C dX2_firstNotZero_5 (by decide) (fun c5 => ?_) (fun c5 => ?_)
  · have hf := j_ifp hf c5
    obtain ⟨rfl, rfl⟩ := j_inj2 hf
    exact x_locr hk rfl
  · have hf := j_ifn hf c5
    refine x_aload_n (v := a0) C dX2_firstNotZero_8 rfl ?_
    obtain ⟨v1, e2, hf⟩ := j_bind hf
    refine x_get C dX2_firstNotZero_9 (jgR_some e2) fg_X2_9 ?_
    refine x_iload_n (v := z) C dX2_firstNotZero_12 rfl ?_
    obtain ⟨v3, e4, hf⟩ := j_bind hf
    refine x_iald C dX2_firstNotZero_13 e4 ?_
    refine x_if_eq (tgt := 19) C dX2_firstNotZero_14 (by decide) (fun c6 => ?_) (fun c6 => ?_)
    · have hf := j_ifp hf c6
      refine x_iinc (v := z) C dX2_firstNotZero_19 rfl ki_1 (by decide) ?_
      refine x_goto (tgt := 2) C dX2_firstNotZero_22 (by decide) ?_
      obtain ⟨rfl, rfl⟩ := j_inj2 hf
      exact x_locr hk rfl
    · have hf := j_ifn hf c6
      refine x_iload_n (v := z) C dX2_firstNotZero_17 rfl ?_
      obtain ⟨rfl, rfl⟩ := j_inj2 hf
      obtain ⟨rfl, rfl⟩ := hk
      exact x_iret C hret dX2_firstNotZero_18
set_option maxHeartbeats 4000000 in
set_option maxRecDepth 100000 in
theorem m_X2_firstNotZero {l : Launch} {E : JE} {d : Nat} (hdd : 0 ≤ d) {a0 : Nat} {h : JH} {q : Int32 × JH} (hf : f_X2_firstNotZero a0 h = some q) : Con l E d yX2_firstNotZero cX2_firstNotZero 2 (some .int) [.ref a0] h (some (.int q.1)) q.2 := by
  refine j_start rfl (Nat.le_of_ble_eq_true rfl) ?_
  intro p e s m args below meth c C hret hnm
  refine x_loc [(0, .ref a0)] rfl ?_
  unfold f_X2_firstNotZero at hf
  refine x_iconst C dX2_firstNotZero_0 ki_0 ?_
  refine x_istore_n C dX2_firstNotZero_1 (by decide) ?_
  obtain ⟨q7, e8, hf⟩ := j_bind hf
  refine x_loc [(0, .ref a0), (1, .int (0 : Int32))] rfl ?_
  refine x_loop (s_X2_firstNotZero_L2 C hret hdd a0) e8 ?_
  cases y12 : q7.1 with
  | inl r10 =>
    rw [y12] at hf
    have hf := j_eliml hf
    obtain rfl := j_inj hf
    exact ⟨rfl, rfl⟩
  | inr t9 =>
    rw [y12] at hf
    have hf := j_elimr hf
    refine j_elimG ?_
    refine x_iconst C dX2_firstNotZero_25 ki_m1 ?_
    obtain rfl := j_inj hf
    exact x_iret C hret dX2_firstNotZero_26
set_option maxHeartbeats 4000000 in
set_option maxRecDepth 100000 in
theorem m_X6_init {l : Launch} {E : JE} {d : Nat} (hdd : 1 ≤ d) {a0 : Nat} {h : JH} {q : Unit × JH} (hf : f_X6_init a0 h = some q) : Con l E d yX6_init cX6_init 1 none [.ref a0] h (none) q.2 := by
  refine j_start rfl (Nat.le_of_ble_eq_true rfl) ?_
  intro p e s m args below meth c C hret hnm
  have hin : meth.name = "<init>" := hnm
  refine x_loc [(0, .ref a0)] rfl ?_
  unfold f_X6_init at hf
  refine x_aload_n (v := a0) C dX6_init_0 rfl ?_
  refine x_objInit C dX6_init_1 ⟨lk_X6_3, w_obj⟩ (by omega) (Nat.le_of_ble_eq_true rfl) ?_
  refine x_aload_n (v := a0) C dX6_init_4 rfl ?_
  refine x_iconst C dX6_init_5 ki_4 ?_
  obtain ⟨q1, e2, hf⟩ := j_bind hf
  have hle : j_le q1.2 q.2 := by
    obtain ⟨h3, e4, hf⟩ := j_bind hf
    refine j_le_trans (j_le_of (jput_n e4)) ?_
    obtain ⟨q5, e6, hf⟩ := j_bind hf
    refine j_le_trans (jnM_le e6) ?_
    obtain ⟨h7, e8, hf⟩ := j_bind hf
    refine j_le_trans (j_le_of (jput_n e8)) ?_
    obtain rfl := j_inj hf
    exact j_le_refl _
  refine x_newa (q := q1.1) (h1 := q1.2) C dX6_init_6 rfl (by decide) (by decide) (fun q => q) wi_boolean e2 hle ?_
  obtain ⟨h3, e4, hf⟩ := j_bind hf
  refine x_putF C hin dX6_init_8 e4 fp_X6_9 rfl rfl ?_
  refine x_aload_n (v := a0) C dX6_init_11 rfl ?_
  refine x_iconst C dX6_init_12 ki_4 ?_
  refine x_bipush C dX6_init_13 kb_13 ?_
  obtain ⟨q5, e6, hf⟩ := j_bind hf
  have hle : j_le q5.2 q.2 := by
    obtain ⟨h7, e8, hf⟩ := j_bind hf
    refine j_le_trans (j_le_of (jput_n e8)) ?_
    obtain rfl := j_inj hf
    exact j_le_refl _
  refine x_mna (ty := .long) (q := q5.1) (h1 := q5.2) C dX6_init_15 (by decide) (by decide) (by decide) (fun q => q) (fun q => q) (fun _ => j_inner _ _ (by decide)) rfl rfl wm_X6_15 e6 hle ?_
  obtain ⟨h7, e8, hf⟩ := j_bind hf
  refine x_putF C hin dX6_init_19 e8 fp_X6_17 rfl rfl ?_
  obtain rfl := j_inj hf
  exact x_vret C hret dX6_init_22
set_option maxHeartbeats 4000000 in
set_option maxRecDepth 100000 in
theorem s_X11_newShelves_L7 {p : Program} {l : Launch} {e : Env} {R : Room} {s : State} {m : MethodId} {args : Array Value} {below : List Frame} {meth : Method} {c : Code} {E : JE} {h0 hF : JH} {rF : Option Value} {d : Nat} (C : j_C p s m args meth c R E cX11_newShelves 2 RX11 h0 hF d) (hret : meth.sig.returnType = (some (.array (.object "HeckeSeries$Shelf")))) (hdd : 2 ≤ d) (a0 : Nat) (z : Int32) (h : JH) (r : Int32 ⊕ Int32) (h1 : JH) (hf : f_X11_newShelves_L7 a0 z h = some (r, h1)) (hleF : j_le h1 hF) (hk : Sum.elim (fun z => Xw p l e R s m args below meth c E 2 h0 rF hF 7 [(0, .ref a0), (1, .int z)] [] h1) (fun t => Xw p l e R s m args below meth c E 2 h0 rF hF 28 [(0, .ref a0), (1, .int t)] [] h1) r) : Xw p l e R s m args below meth c E 2 h0 rF hF 7 [(0, .ref a0), (1, .int z)] [] h := by
  unfold f_X11_newShelves_L7 at hf
  refine x_iload_n (v := z) C dX11_newShelves_7 rfl ?_
  refine x_iconst C dX11_newShelves_8 ki_2 ?_
  refine x_icmp_ge (tgt := 28) C dX11_newShelves_9 (by decide) (fun c9 => ?_) (fun c9 => ?_)
  · have hf := j_ifp hf c9
    obtain ⟨rfl, rfl⟩ := j_inj2 hf
    exact x_locr hk rfl
  · have hf := j_ifn hf c9
    refine x_aload_n (v := a0) C dX11_newShelves_12 rfl ?_
    refine x_iload_n (v := z) C dX11_newShelves_13 rfl ?_
    obtain ⟨q3, e4, hf⟩ := j_bind hf
    have hle : j_le q3.2 hF := by
      obtain ⟨q5, e6, hf⟩ := j_bind hf
      refine j_le_trans (n_X6_init e6) ?_
      obtain ⟨h7, e8, hf⟩ := j_bind hf
      refine j_le_trans (j_le_of (jsR_n e8)) ?_
      obtain ⟨rfl, rfl⟩ := j_inj2 hf
      exact hleF
    refine x_new C dX11_newShelves_14 nc_X11_76 e4 hle ?_
    refine x_dup C dX11_newShelves_17 rfl ?_
    obtain ⟨q5, e6, hf⟩ := j_bind hf
    have hle : j_le q5.2 hF := by
      obtain ⟨h7, e8, hf⟩ := j_bind hf
      refine j_le_trans (j_le_of (jsR_n e8)) ?_
      obtain ⟨rfl, rfl⟩ := j_inj2 hf
      exact hleF
    refine x_callIN (As := []) (rest := [.ref q3.1, .int z, .ref a0]) C dX11_newShelves_18 (m_X6_init (l := l) (E := E) (d := d - 1) (by omega) e6) km_X6_init lk_X11_319 ki_X6_init rfl (by omega) (Nat.le_of_ble_eq_true rfl) (n_X6_init e6) (Or.inl hle) ?_
    obtain ⟨h7, e8, hf⟩ := j_bind hf
    refine x_aast C dX11_newShelves_21 e8 ?_
    refine x_iinc (v := z) C dX11_newShelves_22 rfl ki_1 (by decide) ?_
    refine x_goto (tgt := 7) C dX11_newShelves_25 (by decide) ?_
    obtain ⟨rfl, rfl⟩ := j_inj2 hf
    exact x_locr hk rfl
set_option maxHeartbeats 4000000 in
set_option maxRecDepth 100000 in
theorem m_X11_newShelves {l : Launch} {E : JE} {d : Nat} (hdd : 2 ≤ d)  {h : JH} {q : Nat × JH} (hf : f_X11_newShelves  h = some q) : Con l E d yX11_newShelves cX11_newShelves 2 (some (.array (.object "HeckeSeries$Shelf"))) [] h (some (.ref q.1)) q.2 := by
  refine j_start rfl (Nat.le_of_ble_eq_true rfl) ?_
  intro p e s m args below meth c C hret hnm
  refine x_loc [] rfl ?_
  unfold f_X11_newShelves at hf
  refine x_iconst C dX11_newShelves_0 ki_2 ?_
  obtain ⟨q1, e2, hf⟩ := j_bind hf
  have hle : j_le q1.2 q.2 := by
    obtain ⟨q10, e11, hf⟩ := j_bind hf
    refine j_le_trans ((jloop_le (fun _ _ _ _ q => n_X11_newShelves_L7 q) e11)) ?_
    obtain rfl := j_inj hf
    exact j_le_refl _
  refine x_newq (q := q1.1) (h1 := q1.2) C dX11_newShelves_1 (by decide) wc_X11_76 wo_X6 e2 hle ?_
  refine x_astore_n C dX11_newShelves_4 (by decide) ?_
  refine x_iconst C dX11_newShelves_5 ki_0 ?_
  refine x_istore_n C dX11_newShelves_6 (by decide) ?_
  obtain ⟨q10, e11, hf⟩ := j_bind hf
  have hle : j_le q10.2 q.2 := by
    obtain rfl := j_inj hf
    exact j_le_refl _
  refine x_loc [(0, .ref q1.1), (1, .int (0 : Int32))] rfl ?_
  refine x_loopA (s_X11_newShelves_L7 C hret hdd q1.1) (fun _ _ _ _ q => n_X11_newShelves_L7 q) e11 hle ?_
  refine x_aload_n (v := q1.1) C dX11_newShelves_28 rfl ?_
  obtain rfl := j_inj hf
  exact x_aret C hret (Or.inr ⟨_, rfl⟩) dX11_newShelves_29
set_option maxHeartbeats 4000000 in
set_option maxRecDepth 100000 in
theorem m_X3_init {l : Launch} {E : JE} {d : Nat} (hdd : 3 ≤ d) {a0 : Nat} {h : JH} {q : Unit × JH} (hf : f_X3_init a0 h = some q) : Con l E d yX3_init cX3_init 1 none [.ref a0] h (none) q.2 := by
  refine j_start rfl (Nat.le_of_ble_eq_true rfl) ?_
  intro p e s m args below meth c C hret hnm
  have hin : meth.name = "<init>" := hnm
  refine x_loc [(0, .ref a0)] rfl ?_
  unfold f_X3_init at hf
  refine x_aload_n (v := a0) C dX3_init_0 rfl ?_
  refine x_objInit C dX3_init_1 ⟨lk_X3_3, w_obj⟩ (by omega) (Nat.le_of_ble_eq_true rfl) ?_
  refine x_aload_n (v := a0) C dX3_init_4 rfl ?_
  refine x_iconst C dX3_init_5 ki_4 ?_
  obtain ⟨q1, e2, hf⟩ := j_bind hf
  have hle : j_le q1.2 q.2 := by
    obtain ⟨h3, e4, hf⟩ := j_bind hf
    refine j_le_trans (j_le_of (jput_n e4)) ?_
    obtain ⟨q5, e6, hf⟩ := j_bind hf
    refine j_le_trans (n_X11_newShelves e6) ?_
    obtain ⟨h7, e8, hf⟩ := j_bind hf
    refine j_le_trans (j_le_of (jput_n e8)) ?_
    obtain rfl := j_inj hf
    exact j_le_refl _
  refine x_callSN (As := [.int (4 : Int32)]) (rest := [.ref a0]) C dX3_init_6 (m_X11_newForms (l := l) (E := E) (d := d - 1) (by omega) e2) km_X11_newForms lk_X3_9 ks_X11_newForms rfl (by omega) (Nat.le_of_ble_eq_true rfl) (n_X11_newForms e2) (Or.inl hle) ?_
  obtain ⟨h3, e4, hf⟩ := j_bind hf
  refine x_putF C hin dX3_init_9 e4 fp_X3_13 rfl rfl ?_
  refine x_aload_n (v := a0) C dX3_init_12 rfl ?_
  obtain ⟨q5, e6, hf⟩ := j_bind hf
  have hle : j_le q5.2 q.2 := by
    obtain ⟨h7, e8, hf⟩ := j_bind hf
    refine j_le_trans (j_le_of (jput_n e8)) ?_
    obtain rfl := j_inj hf
    exact j_le_refl _
  refine x_callSN (As := []) (rest := [.ref a0]) C dX3_init_13 (m_X11_newShelves (l := l) (E := E) (d := d - 1) (by omega) e6) km_X11_newShelves lk_X3_19 ks_X11_newShelves rfl (by omega) (Nat.le_of_ble_eq_true rfl) (n_X11_newShelves e6) (Or.inl hle) ?_
  obtain ⟨h7, e8, hf⟩ := j_bind hf
  refine x_putF C hin dX3_init_16 e8 fp_X3_23 rfl rfl ?_
  obtain rfl := j_inj hf
  exact x_vret C hret dX3_init_19
set_option maxHeartbeats 4000000 in
set_option maxRecDepth 100000 in
theorem s_X6_copyFrom_L10 {p : Program} {l : Launch} {e : Env} {R : Room} {s : State} {m : MethodId} {args : Array Value} {below : List Frame} {meth : Method} {c : Code} {E : JE} {h0 hF : JH} {rF : Option Value} {d : Nat} (C : j_C p s m args meth c R E cX6_copyFrom 3 RX6 h0 hF d) (hret : meth.sig.returnType = none) (hdd : 1 ≤ d) (a0 : Nat) (a1 : Nat) (z : Int32) (h : JH) (r : Int32 ⊕ Int32) (h1 : JH) (hf : f_X6_copyFrom_L10 a0 a1 z h = some (r, h1)) (hk : Sum.elim (fun z => Xw p l e R s m args below meth c E 3 h0 rF hF 10 [(0, .ref a0), (1, .ref a1), (2, .int z)] [] h1) (fun t => Xw p l e R s m args below meth c E 3 h0 rF hF 52 [(0, .ref a0), (1, .ref a1), (2, .int t)] [] h1) r) : Xw p l e R s m args below meth c E 3 h0 rF hF 10 [(0, .ref a0), (1, .ref a1), (2, .int z)] [] h := by
  unfold f_X6_copyFrom_L10 at hf
  refine x_iload_n (v := z) C dX6_copyFrom_10 rfl ?_
  refine x_iconst C dX6_copyFrom_11 ki_4 ?_
  refine x_icmp_ge (tgt := 52) C dX6_copyFrom_12 (by decide) (fun c25 => ?_) (fun c25 => ?_)
  · have hf := j_ifp hf c25
    obtain ⟨rfl, rfl⟩ := j_inj2 hf
    exact x_locr hk rfl
  · have hf := j_ifn hf c25
    refine x_aload_n (v := a0) C dX6_copyFrom_15 rfl ?_
    obtain ⟨v7, e8, hf⟩ := j_bind hf
    refine x_get C dX6_copyFrom_16 (jgR_some e8) fg_X6_9 ?_
    refine x_iload_n (v := z) C dX6_copyFrom_19 rfl ?_
    refine x_aload_n (v := a1) C dX6_copyFrom_20 rfl ?_
    obtain ⟨v9, e10, hf⟩ := j_bind hf
    refine x_get C dX6_copyFrom_21 (jgR_some e10) fg_X6_9 ?_
    refine x_iload_n (v := z) C dX6_copyFrom_24 rfl ?_
    obtain ⟨v11, e12, hf⟩ := j_bind hf
    refine x_bald C dX6_copyFrom_25 e12 ?_
    obtain ⟨h13, e14, hf⟩ := j_bind hf
    refine x_bast C dX6_copyFrom_26 e14 ?_
    refine x_aload_n (v := a1) C dX6_copyFrom_27 rfl ?_
    obtain ⟨v15, e16, hf⟩ := j_bind hf
    refine x_get C dX6_copyFrom_28 (jgR_some e16) fg_X6_17 ?_
    refine x_iload_n (v := z) C dX6_copyFrom_31 rfl ?_
    obtain ⟨v17, e18, hf⟩ := j_bind hf
    refine x_aald C dX6_copyFrom_32 e18 ?_
    refine x_iconst C dX6_copyFrom_33 ki_0 ?_
    refine x_aload_n (v := a0) C dX6_copyFrom_34 rfl ?_
    obtain ⟨v19, e20, hf⟩ := j_bind hf
    refine x_get C dX6_copyFrom_35 (jgR_some e20) fg_X6_17 ?_
    refine x_iload_n (v := z) C dX6_copyFrom_38 rfl ?_
    obtain ⟨v21, e22, hf⟩ := j_bind hf
    refine x_aald C dX6_copyFrom_39 e22 ?_
    refine x_iconst C dX6_copyFrom_40 ki_0 ?_
    refine x_bipush C dX6_copyFrom_41 kb_13 ?_
    obtain ⟨h23, e24, hf⟩ := j_bind hf
    refine x_copyl C dX6_copyFrom_43 e24 ⟨lk_X6_24, w_acp⟩ (by omega) (Nat.le_of_ble_eq_true rfl) ?_
    refine x_iinc (v := z) C dX6_copyFrom_46 rfl ki_1 (by decide) ?_
    refine x_goto (tgt := 10) C dX6_copyFrom_49 (by decide) ?_
    obtain ⟨rfl, rfl⟩ := j_inj2 hf
    exact x_locr hk rfl
set_option maxHeartbeats 4000000 in
set_option maxRecDepth 100000 in
theorem m_X6_copyFrom {l : Launch} {E : JE} {d : Nat} (hdd : 1 ≤ d) {a0 : Nat} {a1 : Nat} {h : JH} {q : Unit × JH} (hf : f_X6_copyFrom a0 a1 h = some q) : Con l E d yX6_copyFrom cX6_copyFrom 3 none [.ref a0, .ref a1] h (none) q.2 := by
  refine j_start rfl (Nat.le_of_ble_eq_true rfl) ?_
  intro p e s m args below meth c C hret hnm
  refine x_loc [(0, .ref a0), (1, .ref a1)] rfl ?_
  unfold f_X6_copyFrom at hf
  refine x_aload_n (v := a0) C dX6_copyFrom_0 rfl ?_
  refine x_aload_n (v := a1) C dX6_copyFrom_1 rfl ?_
  obtain ⟨v1, e2, hf⟩ := j_bind hf
  refine x_get C dX6_copyFrom_2 (jgI_some e2) fg_X6_20 ?_
  obtain ⟨u5, e6, hf⟩ := j_bind hf
  obtain ⟨h3, e4, hf⟩ := j_bind hf
  refine x_put C dX6_copyFrom_5 e4 fp_X6_20 (jzb_nar e6).1 (jzb_nar e6).2 ?_
  refine x_iconst C dX6_copyFrom_8 ki_0 ?_
  refine x_istore_n C dX6_copyFrom_9 (by decide) ?_
  obtain ⟨q26, e27, hf⟩ := j_bind hf
  refine x_loc [(0, .ref a0), (1, .ref a1), (2, .int (0 : Int32))] rfl ?_
  refine x_loop (s_X6_copyFrom_L10 C hret hdd a0 a1) e27 ?_
  obtain rfl := j_inj hf
  exact x_vret C hret dX6_copyFrom_52
