/-! The texts' methods, walked. -/
section JS
variable {p : Program} {l : Launch} {e : Env} {R : Room} {s : State} {m : MethodId} {args : Array Value} {below : List Frame} {meth : Method} {c : Code} {E : JE} {cc : ByteArray} {nL : Nat} {own : String} {h0 hF h : JH} {rF : Option Value} {Q : State → Prop} {d : Nat} {pc : Nat} {L : List (Nat × Value)} {st : List Value}
theorem x_i2c (C : j_C p s m args meth c R E cc nL own h0 hF d) {x v : Int32} (hd : decode cc pc = .ok (.i2c, 1)) (hv : (x.toUInt32 % 65536).toInt32 = v) (k : Xq p l e R s m args below meth c E nL h0 Q (pc + 1) L (.int v :: st) h) : Xq p l e R s m args below meth c E nL h0 Q pc L (.int x :: st) h :=
  fun H locs ls cells slots hl hR hS hc hs hcl hsl => lv_i2c C.1 C.2.1 hd hv (k H locs ls cells slots hl hR hS hc hs hcl hsl)
theorem x_nret (C : j_C p s m args meth c R E cc nL own h0 h d) {v : Int32} {ty : FieldType} (hr : meth.sig.returnType = some ty) (hn : narrow ty (.int v) = .int v) (hd : decode cc pc = .ok (.ireturn, 1)) : Xw p l e R s m args below meth c E nL h0 (some (.int v)) h pc L [.int v] h := by
  intro H locs ls cells slots hl hR hS hc hs hcl hsl
  obtain rfl : cells = h.2.1.1 - h0.2.1.1 := by omega
  obtain rfl : slots = h.2.1.2 - h0.2.1.2 := by omega
  exact W.zret C.1 C.2.1 hr hn (fun t ht hW => ⟨⟨rfl, by rw [ht]; exact hR⟩, hS.F ht⟩) hS.2.2 hd C.2.2.2.2.2.2.1
theorem x_ldcS (C : j_C p s m args meth c R E cc nL own h0 hF d) {tx : String} {index q : Nat} (hZ : vk_R own index tx q s) (hd : decode cc pc = .ok (.ldc index, 2)) (k : Xq p l e R s m args below meth c E nL h0 Q (pc + 2) L (.ref q :: st) h) : Xq p l e R s m args below meth c E nL h0 Q pc L st h :=
  fun H locs ls cells slots hl hR hS hc hs hcl hsl => va_ldcS C.1 C.2.1 C.2.2.2.1 hZ hd (k H locs ls cells slots hl hR hS hc hs hcl hsl)
theorem x_zget (C : j_C p s m args meth c R E cc nL own h0 hF d) {K n9 d9 : String} {v : Value} {index : Nat} (hZ : va_Z K n9 d9 v (j_A E) s s.heap) (hw : Cond.fieldLink own index K n9 d9 ∈ j_tbl) (hd : decode cc pc = .ok (.getstatic index, 3)) (k : Xq p l e R s m args below meth c E nL h0 Q (pc + 3) L (v :: st) h) : Xq p l e R s m args below meth c E nL h0 Q pc L st h :=
  fun H locs ls cells slots hl hR hS hc hs hcl hsl => va_gets C.1 C.2.1 hZ hS C.2.2.2.1 (C.2.2.2.2.1 _ hw) (fun _ q => q) hd (k H locs ls cells slots hl hR hS hc hs hcl hsl)
theorem x_sget (C : j_C p s m args meth c R E cc nL own h0 hF d) {n9 d9 : String} {v : Value} {index q : Nat} (hZ : va_OF "java/lang/String" n9 d9 v q (j_A E) s s.heap) (hw : Cond.fieldLink own index "java/lang/String" n9 d9 ∈ j_tbl) (hd : decode cc pc = .ok (.getfield index, 3)) (k : Xq p l e R s m args below meth c E nL h0 Q (pc + 3) L (v :: st) h) : Xq p l e R s m args below meth c E nL h0 Q pc L (.ref q :: st) h :=
  fun H locs ls cells slots hl hR hS hc hs hcl hsl => vk_getf C.1 C.2.1 hZ hS C.2.2.2.1 (C.2.2.2.2.1 _ hw) (fun _ q => q) hd (k H locs ls cells slots hl hR hS hc hs hcl hsl)
theorem x_tlen (C : j_C p s m args meth c R E cc nL own h0 hF d) {ty : FieldType} {t N : Nat} {f : Nat → Value} (hT : va_T ty t N f (j_A E) s s.heap) (hd : decode cc pc = .ok (.arraylength, 1)) (k : Xq p l e R s m args below meth c E nL h0 Q (pc + 1) L (.int (nI N) :: st) h) : Xq p l e R s m args below meth c E nL h0 Q pc L (.ref t :: st) h :=
  fun H locs ls cells slots hl hR hS hc hs hcl hsl => va_tlen C.1 C.2.1 hT hS rfl hd (k H locs ls cells slots hl hR hS hc hs hcl hsl)
theorem x_tb (C : j_C p s m args meth c R E cc nL own h0 hF d) {t N : Nat} {f : Nat → Value} {i : Int32} {v : Value} (hT : va_T .byte t N f (j_A E) s s.heap) (hin : vp_in i N) (hv : f i.toNatClampNeg = v) (hd : decode cc pc = .ok (.baload, 1)) (k : Xq p l e R s m args below meth c E nL h0 Q (pc + 1) L (v :: st) h) : Xq p l e R s m args below meth c E nL h0 Q pc L (.int i :: .ref t :: st) h :=
  fun H locs ls cells slots hl hR hS hc hs hcl hsl => va_tb C.1 C.2.1 hT hS hin hv hd (k H locs ls cells slots hl hR hS hc hs hcl hsl)
/-- a call of a text's method -/
theorem x_callT (C : j_C p s m args meth c R E cc nL own h0 hF d) {idx n d1 mL i : Nat} {y : MethodName} {cy : ByteArray} {rt : Option FieldType} {As rest : List Value} {r : Option Value} (hi : i < 6) (hd : decode cc pc = .ok (.invokevirtual idx, 3)) (hcon : Con l E d1 y cy mL rt (.ref (E.2.2.2.1 (3 + i)) :: As) h r h) (hm : j_m y cy mL rt n) (hyc : y.cls = "java/lang/String") (hlk : Cond.methodLink own idx y ∈ j_tbl) (hk9 : Cond.instanceMethod y ∈ j_tbl ∧ Cond.selects y.cls y y ∈ j_tbl) (hn : As.length = n) (hdd : d1 + 1 ≤ d) (hrest : (rest.map fun v => v.category).sum ≤ 8) (k : Xq p l e R s m args below meth c E nL h0 Q (pc + 3) L (r.toList ++ rest) h) : Xq p l e R s m args below meth c E nL h0 Q pc L (As.reverse ++ .ref (E.2.2.2.1 (3 + i)) :: rest) h := by
  intro H locs ls cells slots hl hR hS hc hs hcl hsl
  have hts := C.2.2.2.2.1
  have hRm := C.2.2.2.2.2.2.2
  have hcell : ∃ cell : Cell, H[E.2.2.2.1 (3 + i)]? = some cell ∧ cell.vm.isStatics = false ∧ s.vm.findClass y.cls = some cell.cls := by
    rw [hyc]
    exact vk_recv (i := i) C.2.2.2.2.2.1.2.2.1.2.1.1 hi hS
  have hroom : (j_rm d1 (h.2.1.1 - h.2.1.1) (h.2.1.2 - h.2.1.2)).frames + 1 ≤ R.frames ∧ 8 + (mL + 11) + (j_rm d1 (h.2.1.1 - h.2.1.1) (h.2.1.2 - h.2.1.2)).locals ≤ R.locals := by
    have := hm.2.2.1
    have := hRm.2.1
    exact ⟨Nat.le_trans hdd hRm.1, by show 8 + (mL + 11) + 60 * d1 ≤ R.locals; omega⟩
  have hfit : cells + (h.2.1.1 - h.2.1.1) ≤ R.cells ∧ slots + (h.2.1.2 - h.2.1.2) ≤ R.slots := ⟨by omega, by omega⟩
  refine j_call (va_runV (As := As) (rest := rest) (n := n) ⟨C.1, C.2.1, C.2.2.1, C.2.2.2.1, hts⟩ hcon ⟨callB_of n hts (j_goodIn hm.1 (fun _ q => q)) rfl rfl rfl (hts _ hm.2.1) (hts _ hlk) ⟨hm.2.2.2.1, hm.2.2.2.2.1, hm.2.2.2.2.2⟩ hroom, hts _ hk9.1, hts _ hk9.2⟩ ⟨j_blind E _ h, hcell, fun U hU hW => ⟨rfl, by rw [hU]; exact hR, C.2.2.2.2.2.1.warm hS hU hW⟩⟩ rfl hn hl.1 rfl (lv_room hrest) hd hfit) hS (fun H1 locs1 hR1 hS1 => ?_)
  exact k H1 locs1 ls _ _ hl hR1 hS1 (by omega) (by omega) hfit.1 hfit.2
end JS
theorem km_J0_length_8abf5 : j_m yJ0_length_8abf5 cJ0_length_8abf5 1 (some .int) 0 := ⟨(j_mem (by decide +kernel) rfl), (j_mem (by decide +kernel) rfl), by decide, by decide +kernel, by decide +kernel, by decide +kernel⟩
theorem kv_J0_length_8abf5 : Cond.instanceMethod yJ0_length_8abf5 ∈ j_tbl ∧ Cond.selects yJ0_length_8abf5.cls yJ0_length_8abf5 yJ0_length_8abf5 ∈ j_tbl := ⟨(j_mem (by decide +kernel) rfl), (j_mem (by decide +kernel) rfl)⟩
theorem km_J0_charAt_5068e : j_m yJ0_charAt_5068e cJ0_charAt_5068e 2 (some .char) 1 := ⟨(j_mem (by decide +kernel) rfl), (j_mem (by decide +kernel) rfl), by decide, by decide +kernel, by decide +kernel, by decide +kernel⟩
theorem kv_J0_charAt_5068e : Cond.instanceMethod yJ0_charAt_5068e ∈ j_tbl ∧ Cond.selects yJ0_charAt_5068e.cls yJ0_charAt_5068e yJ0_charAt_5068e ∈ j_tbl := ⟨(j_mem (by decide +kernel) rfl), (j_mem (by decide +kernel) rfl)⟩
theorem km_J0_coder_7d493 : j_m yJ0_coder_7d493 cJ0_coder_7d493 1 (some .byte) 0 := ⟨(j_mem (by decide +kernel) rfl), (j_mem (by decide +kernel) rfl), by decide, by decide +kernel, by decide +kernel, by decide +kernel⟩
theorem kv_J0_coder_7d493 : Cond.instanceMethod yJ0_coder_7d493 ∈ j_tbl ∧ Cond.selects yJ0_coder_7d493.cls yJ0_coder_7d493 yJ0_coder_7d493 ∈ j_tbl := ⟨(j_mem (by decide +kernel) rfl), (j_mem (by decide +kernel) rfl)⟩
theorem km_J0_isLatin1_aae02 : j_m yJ0_isLatin1_aae02 cJ0_isLatin1_aae02 1 (some .boolean) 0 := ⟨(j_mem (by decide +kernel) rfl), (j_mem (by decide +kernel) rfl), by decide, by decide +kernel, by decide +kernel, by decide +kernel⟩
theorem kv_J0_isLatin1_aae02 : Cond.instanceMethod yJ0_isLatin1_aae02 ∈ j_tbl ∧ Cond.selects yJ0_isLatin1_aae02.cls yJ0_isLatin1_aae02 yJ0_isLatin1_aae02 ∈ j_tbl := ⟨(j_mem (by decide +kernel) rfl), (j_mem (by decide +kernel) rfl)⟩
theorem km_J0_checkIndex_df160 : j_m yJ0_checkIndex_df160 cJ0_checkIndex_df160 2 none 2 := ⟨(j_mem (by decide +kernel) rfl), (j_mem (by decide +kernel) rfl), by decide, by decide +kernel, by decide +kernel, by decide +kernel⟩
theorem ks_J0_checkIndex_df160 : Cond.static yJ0_checkIndex_df160 ∈ j_tbl := (j_mem (by decide +kernel) rfl)
theorem km_J1_charAt_3b067 : j_m yJ1_charAt_3b067 cJ1_charAt_3b067 2 (some .char) 2 := ⟨(j_mem (by decide +kernel) rfl), (j_mem (by decide +kernel) rfl), by decide, by decide +kernel, by decide +kernel, by decide +kernel⟩
theorem ks_J1_charAt_3b067 : Cond.static yJ1_charAt_3b067 ∈ j_tbl := (j_mem (by decide +kernel) rfl)
theorem km_J3_checkIndex_8e157 : j_m yJ3_checkIndex_8e157 cJ3_checkIndex_8e157 3 (some .int) 3 := ⟨(j_mem (by decide +kernel) rfl), (j_mem (by decide +kernel) rfl), by decide, by decide +kernel, by decide +kernel, by decide +kernel⟩
theorem ks_J3_checkIndex_8e157 : Cond.static yJ3_checkIndex_8e157 ∈ j_tbl := (j_mem (by decide +kernel) rfl)
theorem km_X9_isWord : j_m yX9_isWord cX9_isWord 5 (some .boolean) 4 := ⟨(j_mem (by decide +kernel) rfl), (j_mem (by decide +kernel) rfl), by decide, by decide +kernel, by decide +kernel, by decide +kernel⟩
theorem ks_X9_isWord : Cond.static yX9_isWord ∈ j_tbl := (j_mem (by decide +kernel) rfl)
theorem lk_J0_335 : Cond.methodLink RJ0 335 yJ0_coder_7d493 ∈ j_tbl := (j_mem (by decide +kernel) rfl)
theorem lk_J0_492 : Cond.methodLink RJ0 492 yJ0_isLatin1_aae02 ∈ j_tbl := (j_mem (by decide +kernel) rfl)
theorem lk_J0_495 : Cond.methodLink RJ0 495 yJ1_charAt_3b067 ∈ j_tbl := (j_mem (by decide +kernel) rfl)
theorem lk_J0_1059 : Cond.methodLink RJ0 1059 yJ3_checkIndex_8e157 ∈ j_tbl := (j_mem (by decide +kernel) rfl)
theorem lk_J1_9 : Cond.methodLink RJ1 9 yJ0_checkIndex_df160 ∈ j_tbl := (j_mem (by decide +kernel) rfl)
theorem lk_X9_58 : Cond.methodLink RX9 58 yX9_isWord ∈ j_tbl := (j_mem (by decide +kernel) rfl)
theorem lk_X9_72 : Cond.methodLink RX9 72 yJ0_length_8abf5 ∈ j_tbl := (j_mem (by decide +kernel) rfl)
theorem lk_X9_78 : Cond.methodLink RX9 78 yJ0_charAt_5068e ∈ j_tbl := (j_mem (by decide +kernel) rfl)
theorem fl_J0_38 : Cond.fieldLink RJ0 38 "java/lang/String" "COMPACT_STRINGS" "Z" ∈ j_tbl := (j_mem (by decide +kernel) rfl)
theorem fl_J0_9 : Cond.fieldLink RJ0 9 "java/lang/String" "value" "[B" ∈ j_tbl := (j_mem (by decide +kernel) rfl)
theorem fl_J0_15 : Cond.fieldLink RJ0 15 "java/lang/String" "coder" "B" ∈ j_tbl := (j_mem (by decide +kernel) rfl)
theorem fl_J0_1053 : Cond.fieldLink RJ0 1053 "jdk/internal/util/Preconditions" "SIOOBE_FORMATTER" "Ljava/util/function/BiFunction;" ∈ j_tbl := (j_mem (by decide +kernel) rfl)
theorem c_coder {l : Launch} {E : JE} {d i : Nat} (hi : i < 6) {h : JH} : Con l E d yJ0_coder_7d493 cJ0_coder_7d493 1 (some .byte) [.ref (E.2.2.2.1 (3 + i))] h (some (.int 0)) h := by
  refine j_start rfl (Nat.le_of_ble_eq_true rfl) ?_
  intro p e s m args below meth c C hret hnm
  have hZ := C.2.2.2.2.2.1.2.2.1.2.1
  refine x_loc [(0, .ref (E.2.2.2.1 (3 + i)))] rfl ?_
  refine x_zget C hZ.2.1 fl_J0_38 dJ0_coder_7d493_0 ?_
  refine x_if_eq (tgt := 13) C dJ0_coder_7d493_3 (by decide) (fun q => absurd q (by decide)) (fun _ => ?_)
  refine x_aload_n (v := E.2.2.2.1 (3 + i)) C dJ0_coder_7d493_6 rfl ?_
  refine x_sget C (hZ.1.1 i hi).2.1 fl_J0_15 dJ0_coder_7d493_7 ?_
  refine x_goto (tgt := 14) C dJ0_coder_7d493_10 (by decide) ?_
  exact x_nret C hret rfl dJ0_coder_7d493_14
theorem c_isLatin1 {l : Launch} {E : JE} {d i : Nat} (hi : i < 6) {h : JH} : Con l E d yJ0_isLatin1_aae02 cJ0_isLatin1_aae02 1 (some .boolean) [.ref (E.2.2.2.1 (3 + i))] h (some (.int 1)) h := by
  refine j_start rfl (Nat.le_of_ble_eq_true rfl) ?_
  intro p e s m args below meth c C hret hnm
  have hZ := C.2.2.2.2.2.1.2.2.1.2.1
  refine x_loc [(0, .ref (E.2.2.2.1 (3 + i)))] rfl ?_
  refine x_zget C hZ.2.1 fl_J0_38 dJ0_isLatin1_aae02_0 ?_
  refine x_if_eq (tgt := 17) C dJ0_isLatin1_aae02_3 (by decide) (fun q => absurd q (by decide)) (fun _ => ?_)
  refine x_aload_n (v := E.2.2.2.1 (3 + i)) C dJ0_isLatin1_aae02_6 rfl ?_
  refine x_sget C (hZ.1.1 i hi).2.1 fl_J0_15 dJ0_isLatin1_aae02_7 ?_
  refine x_if_ne (tgt := 17) C dJ0_isLatin1_aae02_10 (by decide) (fun q => absurd rfl q) (fun _ => ?_)
  refine x_iconst (v := 1) C dJ0_isLatin1_aae02_13 (by decide) ?_
  refine x_goto (tgt := 18) C dJ0_isLatin1_aae02_14 (by decide) ?_
  exact x_nret C hret rfl dJ0_isLatin1_aae02_18
theorem c_length {l : Launch} {E : JE} {d i : Nat} (hi : i < 6) (hdd : 1 ≤ d) {h : JH} : Con l E d yJ0_length_8abf5 cJ0_length_8abf5 1 (some .int) [.ref (E.2.2.2.1 (3 + i))] h (some (.int (nI (j_lens.getD i 0)))) h := by
  refine j_start rfl (Nat.le_of_ble_eq_true rfl) ?_
  intro p e s m args below meth c C hret hnm
  have hZ := C.2.2.2.2.2.1.2.2.1.2.1
  refine x_loc [(0, .ref (E.2.2.2.1 (3 + i)))] rfl ?_
  refine x_aload_n (v := E.2.2.2.1 (3 + i)) C dJ0_length_8abf5_0 rfl ?_
  refine x_sget C (hZ.1.1 i hi).2.2.1 fl_J0_9 dJ0_length_8abf5_1 ?_
  refine x_tlen C (hZ.1.1 i hi).2.2.2 dJ0_length_8abf5_4 ?_
  refine x_aload_n (v := E.2.2.2.1 (3 + i)) C dJ0_length_8abf5_5 rfl ?_
  refine x_callT (As := []) (rest := [.int (nI (j_lens.getD i 0))]) C hi dJ0_length_8abf5_6 (c_coder (d := d - 1) hi) km_J0_coder_7d493 rfl lk_J0_335 kv_J0_coder_7d493 rfl (by omega) (Nat.le_of_ble_eq_true rfl) ?_
  refine x_ishr C dJ0_length_8abf5_9 ?_
  rw [sb_shr0]
  exact x_iret C hret dJ0_length_8abf5_10
theorem c_check3 {l : Launch} {E : JE} {d : Nat} {x n : Int32} {v : Value} (hv : v = .null ∨ ∃ t, v = .ref t) (h1 : ¬ x < 0) (h2 : x < n) {h : JH} : Con l E d yJ3_checkIndex_8e157 cJ3_checkIndex_8e157 3 (some .int) [.int x, .int n, v] h (some (.int x)) h := by
  refine j_start rfl (by rcases hv with rfl | ⟨t, rfl⟩ <;> exact Nat.le_of_ble_eq_true rfl) ?_
  intro p e s m args below meth c C hret hnm
  refine x_loc [(0, .int x), (1, .int n)] (by rcases hv with rfl | ⟨t, rfl⟩ <;> rfl) ?_
  refine x_iload_n (v := x) C dJ3_checkIndex_8e157_0 rfl ?_
  refine x_if_lt (tgt := 9) C dJ3_checkIndex_8e157_1 (by decide) (fun q => absurd q h1) (fun _ => ?_)
  refine x_iload_n (v := x) C dJ3_checkIndex_8e157_4 rfl ?_
  refine x_iload_n (v := n) C dJ3_checkIndex_8e157_5 rfl ?_
  refine x_icmp_lt (tgt := 16) C dJ3_checkIndex_8e157_6 (by decide) (fun _ => ?_) (fun q => absurd h2 q)
  refine x_iload_n (v := x) C dJ3_checkIndex_8e157_16 rfl ?_
  exact x_iret C hret dJ3_checkIndex_8e157_17
theorem c_check0 {l : Launch} {E : JE} {d : Nat} {x n : Int32} (hdd : 1 ≤ d) (h1 : ¬ x < 0) (h2 : x < n) {h : JH} : Con l E d yJ0_checkIndex_df160 cJ0_checkIndex_df160 2 none [.int x, .int n] h none h := by
  refine j_start rfl (Nat.le_of_ble_eq_true rfl) ?_
  intro p e s m args below meth c C hret hnm
  have hZ := C.2.2.2.2.2.1.2.2.1.2.1.2.2
  obtain ⟨v, hv, hz⟩ : ∃ v : Value, (v = .null ∨ ∃ t, v = .ref t) ∧ va_Z "jdk/internal/util/Preconditions" "SIOOBE_FORMATTER" "Ljava/util/function/BiFunction;" v (j_A E) s s.heap := by
    rcases hZ with q | ⟨t, q⟩
    · exact ⟨_, Or.inl rfl, q⟩
    · exact ⟨_, Or.inr ⟨t, rfl⟩, q⟩
  refine x_loc [(0, .int x), (1, .int n)] rfl ?_
  refine x_iload_n (v := x) C dJ0_checkIndex_df160_0 rfl ?_
  refine x_iload_n (v := n) C dJ0_checkIndex_df160_1 rfl ?_
  refine x_zget C hz fl_J0_1053 dJ0_checkIndex_df160_2 ?_
  refine x_callS (As := [.int x, .int n, v]) (rest := []) C dJ0_checkIndex_df160_5 (c_check3 (d := d - 1) hv h1 h2) km_J3_checkIndex_8e157 lk_J0_1059 ks_J3_checkIndex_8e157 rfl (by omega) (Nat.le_of_ble_eq_true rfl) (j_le_refl _) (Or.inr rfl) ?_
  refine x_pop C dJ0_checkIndex_df160_8 rfl ?_
  exact x_vret C hret dJ0_checkIndex_df160_9
theorem j_bytes : ∀ i, i < 6 → ∀ j, j < j_lens.getD i 0 → ((((j_byts.getD i []).getD j 0 &&& 255).toUInt32 % 65536).toInt32) = (j_byts.getD i []).getD j 0 ∧ narrow .char (.int ((j_byts.getD i []).getD j 0)) = .int ((j_byts.getD i []).getD j 0) := by decide +kernel
theorem c_char1 {l : Launch} {E : JE} {d i j : Nat} (hi : i < 6) (hj : j < j_lens.getD i 0) (hdd : 2 ≤ d) {h : JH} : Con l E d yJ1_charAt_3b067 cJ1_charAt_3b067 2 (some .char) [.ref (E.2.2.2.1 (9 + i)), .int (nI j)] h (some (.int ((j_byts.getD i []).getD j 0))) h := by
  have hlen : j_lens.getD i 0 ≤ 5 := (show ∀ i, i < 6 → j_lens.getD i 0 ≤ 5 by decide) i hi
  refine j_start rfl (Nat.le_of_ble_eq_true rfl) ?_
  intro p e s m args below meth c C hret hnm
  have hT := ((C.2.2.2.2.2.1.2.2.1.2.1).1.1 i hi).2.2.2
  refine x_loc [(0, .ref (E.2.2.2.1 (9 + i))), (1, .int (nI j))] rfl ?_
  refine x_iload_n (v := nI j) C dJ1_charAt_3b067_0 rfl ?_
  refine x_aload_n (v := E.2.2.2.1 (9 + i)) C dJ1_charAt_3b067_1 rfl ?_
  refine x_tlen C hT dJ1_charAt_3b067_2 ?_
  refine x_callS (As := [.int (nI j), .int (nI (j_lens.getD i 0))]) (rest := []) C dJ1_charAt_3b067_3 (c_check0 (d := d - 1) (by omega) (nI_pos (by omega)) (nI_lt hj (by omega))) km_J0_checkIndex_df160 lk_J1_9 ks_J0_checkIndex_df160 rfl (by omega) (Nat.le_of_ble_eq_true rfl) (j_le_refl _) (Or.inr rfl) ?_
  refine x_aload_n (v := E.2.2.2.1 (9 + i)) C dJ1_charAt_3b067_6 rfl ?_
  refine x_iload_n (v := nI j) C dJ1_charAt_3b067_7 rfl ?_
  refine x_tb C hT (vp_in_nI hj (by omega)) rfl dJ1_charAt_3b067_8 ?_
  rw [nI_clamp (by omega)]
  refine x_sipush (v := 255) C dJ1_charAt_3b067_9 (by decide) ?_
  refine x_iand C dJ1_charAt_3b067_12 ?_
  refine x_i2c C dJ1_charAt_3b067_13 (j_bytes i hi j hj).1 ?_
  exact x_nret C hret (j_bytes i hi j hj).2 dJ1_charAt_3b067_14
theorem c_charAt {l : Launch} {E : JE} {d i j : Nat} (hi : i < 6) (hj : j < j_lens.getD i 0) (hdd : 3 ≤ d) {h : JH} : Con l E d yJ0_charAt_5068e cJ0_charAt_5068e 2 (some .char) [.ref (E.2.2.2.1 (3 + i)), .int (nI j)] h (some (.int ((j_byts.getD i []).getD j 0))) h := by
  refine j_start rfl (Nat.le_of_ble_eq_true rfl) ?_
  intro p e s m args below meth c C hret hnm
  have hZ := C.2.2.2.2.2.1.2.2.1.2.1
  refine x_loc [(0, .ref (E.2.2.2.1 (3 + i))), (1, .int (nI j))] rfl ?_
  refine x_aload_n (v := E.2.2.2.1 (3 + i)) C dJ0_charAt_5068e_0 rfl ?_
  refine x_callT (As := []) (rest := []) C hi dJ0_charAt_5068e_1 (c_isLatin1 (d := d - 1) hi) km_J0_isLatin1_aae02 rfl lk_J0_492 kv_J0_isLatin1_aae02 rfl (by omega) (Nat.le_of_ble_eq_true rfl) ?_
  refine x_if_eq (tgt := 16) C dJ0_charAt_5068e_4 (by decide) (fun q => absurd q (by decide)) (fun _ => ?_)
  refine x_aload_n (v := E.2.2.2.1 (3 + i)) C dJ0_charAt_5068e_7 rfl ?_
  refine x_sget C (hZ.1.1 i hi).2.2.1 fl_J0_9 dJ0_charAt_5068e_8 ?_
  refine x_iload_n (v := nI j) C dJ0_charAt_5068e_11 rfl ?_
  refine x_callS (As := [.ref (E.2.2.2.1 (9 + i)), .int (nI j)]) (rest := []) C dJ0_charAt_5068e_12 (c_char1 (d := d - 1) hi hj (by omega)) km_J1_charAt_3b067 lk_J0_495 ks_J1_charAt_3b067 rfl (by omega) (Nat.le_of_ble_eq_true rfl) (j_le_refl _) (Or.inr rfl) ?_
  exact x_nret C hret (j_bytes i hi j hj).2 dJ0_charAt_5068e_15
theorem j_lens_ok : ∀ i, i < 6 → j_lens.getD i 0 = (j_byts.getD i []).length := by decide
theorem m_isWord {l : Launch} {E : JE} {d i a0 : Nat} {a1 a2 v : Int32} (hi : i < 6) (hdd : 4 ≤ d) {h : JH} (hf : jword h a0 a1 a2 (j_byts.getD i []) = some v) : Con l E d yX9_isWord cX9_isWord 5 (some .boolean) [.ref a0, .int a1, .int a2, .ref (E.2.2.2.1 (3 + i))] h (some (.int v)) h := by
  have hlen : (j_byts.getD i []).length ≤ 5 := (show ∀ i, i < 6 → (j_byts.getD i []).length ≤ 5 by decide) i hi
  unfold jword at hf
  have hc : 0 ≤ a1 ∧ a1 ≤ a2 ∧ a2 ≤ 1000 := by
    by_cases hc : 0 ≤ a1 ∧ a1 ≤ a2 ∧ a2 ≤ 1000
    · exact hc
    · rw [if_neg hc] at hf; cases hf
  rw [if_pos hc] at hf
  obtain ⟨n2, hn2, e2⟩ := nI_of2 (x := a2) (M := 1000) (n := 1000) (by decide) (Int32.not_lt.mpr (Int32.le_trans hc.1 hc.2.1)) hc.2.2
  obtain ⟨n1, hn1, e1⟩ := nI_of2 (x := a1) (M := 1000) (n := 1000) (by decide) (Int32.not_lt.mpr hc.1) (Int32.le_trans hc.2.1 hc.2.2)
  subst e1
  subst e2
  have hle : n1 ≤ n2 := (nI_leI (by omega) (by omega)).mp hc.2.1
  rw [pk_sub hle] at hf
  refine j_start rfl (Nat.le_of_ble_eq_true rfl) ?_
  intro p e s m args below meth c C hret hnm
  refine x_loc [(0, .ref a0), (1, .int (nI n1)), (2, .int (nI n2)), (3, .ref (E.2.2.2.1 (3 + i)))] rfl ?_
  refine x_iload_n (v := nI n2) C dX9_isWord_0 rfl ?_
  refine x_iload_n (v := nI n1) C dX9_isWord_1 rfl ?_
  refine x_isub C dX9_isWord_2 ?_
  rw [pk_sub hle]
  refine x_aload_n (v := E.2.2.2.1 (3 + i)) C dX9_isWord_3 rfl ?_
  refine x_callT (As := []) (rest := [.int (nI (n2 - n1))]) C hi dX9_isWord_4 (c_length (d := d - 1) hi (by omega)) km_J0_length_8abf5 rfl lk_X9_72 kv_J0_length_8abf5 rfl (by omega) (Nat.le_of_ble_eq_true rfl) ?_
  rw [j_lens_ok i hi]
  refine x_icmp_eq (tgt := 12) C dX9_isWord_7 (by decide) (fun q => ?_) (fun q => by
    rw [if_neg (show ¬ nI (n2 - n1) = Int32.ofNat (j_byts.getD i []).length from q)] at hf
    obtain rfl := j_inj hf
    refine x_iconst (v := 0) C dX9_isWord_10 (by decide) ?_
    exact x_zret C hret (Or.inl rfl) dX9_isWord_11)
  rw [if_pos (show nI (n2 - n1) = Int32.ofNat (j_byts.getD i []).length from q)] at hf
  have hn : n2 = n1 + (j_byts.getD i []).length := by
    have := (nI_eq (by omega) (by omega)).mp (show nI (n2 - n1) = nI (j_byts.getD i []).length from q)
    omega
  refine x_iload_n (v := nI n1) C dX9_isWord_12 rfl ?_
  refine x_istore C dX9_isWord_13 (by decide) ?_
  have key : ∀ (suf : List Int32) (k : Nat), k ≤ (j_byts.getD i []).length → (j_byts.getD i []).drop k = suf → jcmp h a0 (nI (n1 + k)) suf = some v → Xw p l e (j_rm d (h.2.1.1 - h.2.1.1) (h.2.1.2 - h.2.1.2)) s m args below meth c E 5 h (some (.int v)) h 15 [(0, .ref a0), (1, .int (nI n1)), (2, .int (nI n2)), (3, .ref (E.2.2.2.1 (3 + i))), (4, .int (nI (n1 + k)))] [] h := by
    intro suf
    induction suf with
    | nil =>
      intro k hkb hk hv
      have hkl : (j_byts.getD i []).length ≤ k := List.drop_eq_nil_iff.mp hk
      have hv2 : some (1 : Int32) = some v := hv
      obtain rfl := j_inj hv2
      refine x_iload (v := nI (n1 + k)) C dX9_isWord_15 rfl ?_
      refine x_iload_n (v := nI n2) C dX9_isWord_17 rfl ?_
      refine x_icmp_ge (tgt := 44) C dX9_isWord_18 (by decide) (fun _ => ?_) (fun q => absurd (nI_le (by omega) (by omega)) q)
      refine x_iconst (v := 1) C dX9_isWord_44 (by decide) ?_
      exact x_zret C hret (Or.inr rfl) dX9_isWord_45
    | cons w suf ih =>
      intro k hkb hk hv
      have hkl : k < (j_byts.getD i []).length := by
        rcases Nat.lt_or_ge k (j_byts.getD i []).length with q | q
        · exact q
        · rw [List.drop_eq_nil_iff.mpr q] at hk; cases hk
      obtain ⟨b, e3, hv⟩ := j_bind (show (jaB h a0 (nI (n1 + k))).bind (fun v => if v = w then jcmp h a0 (nI (n1 + k) + 1) suf else some 0) = some v from hv)
      have hw : (j_byts.getD i []).getD k 0 = w := by
        rw [List.getD_eq_getElem?_getD]
        have := congrArg List.head? hk
        rw [List.head?_drop] at this
        rw [this]; rfl
      refine x_iload (v := nI (n1 + k)) C dX9_isWord_15 rfl ?_
      refine x_iload_n (v := nI n2) C dX9_isWord_17 rfl ?_
      refine x_icmp_ge (tgt := 44) C dX9_isWord_18 (by decide) (fun q => absurd q (nI_ge (by omega) (by omega))) (fun _ => ?_)
      refine x_aload_n (v := a0) C dX9_isWord_21 rfl ?_
      refine x_iload (v := nI (n1 + k)) C dX9_isWord_22 rfl ?_
      refine x_bald C dX9_isWord_24 e3 ?_
      refine x_aload_n (v := E.2.2.2.1 (3 + i)) C dX9_isWord_25 rfl ?_
      refine x_iload (v := nI (n1 + k)) C dX9_isWord_26 rfl ?_
      refine x_iload_n (v := nI n1) C dX9_isWord_28 rfl ?_
      refine x_isub C dX9_isWord_29 ?_
      rw [pk_sub (show n1 ≤ n1 + k by omega), show n1 + k - n1 = k by omega]
      refine x_callT (As := [.int (nI k)]) (rest := [.int b]) C hi dX9_isWord_30 (c_charAt (d := d - 1) hi (by rw [j_lens_ok i hi]; exact hkl) (by omega)) km_J0_charAt_5068e rfl lk_X9_78 kv_J0_charAt_5068e rfl (by omega) (Nat.le_of_ble_eq_true rfl) ?_
      rw [hw]
      refine x_icmp_eq (tgt := 38) C dX9_isWord_33 (by decide) (fun q => ?_) (fun q => ?_)
      · rw [if_pos q] at hv
        refine x_iinc (v := nI (n1 + k)) (w := 1) C dX9_isWord_38 rfl (by decide) (by decide) ?_
        refine x_goto (tgt := 15) C dX9_isWord_41 (by decide) ?_
        rw [nI_1] at hv ⊢
        exact x_locr (ih (k + 1) hkl (by rw [← List.drop_drop, hk]; rfl) hv) rfl
      · rw [if_neg q] at hv
        obtain rfl := j_inj hv
        refine x_iconst (v := 0) C dX9_isWord_36 (by decide) ?_
        exact x_zret C hret (Or.inl rfl) dX9_isWord_37
  exact x_locr (key (j_byts.getD i []) 0 (Nat.zero_le _) rfl hf) rfl
theorem jcmp_01 {h : JH} {a : Nat} : ∀ (ws : List Int32) (i v : Int32), jcmp h a i ws = some v → v = 0 ∨ v = 1 := by
  intro ws
  induction ws with
  | nil => intro i v hv; exact Or.inr (j_inj (show some (1 : Int32) = some v from hv))
  | cons w ws ih =>
    intro i v hv
    obtain ⟨b, -, hv⟩ := j_bind (show (jaB h a i).bind (fun v => if v = w then jcmp h a (i + 1) ws else some 0) = some v from hv)
    rcases j_ite hv with hv | hv
    · exact ih _ _ hv
    · exact Or.inl (j_inj hv)
theorem jword_01 {h : JH} {a : Nat} {a1 a2 v : Int32} {ws : List Int32} (hv : jword h a a1 a2 ws = some v) : v = 0 ∨ v = 1 := by
  unfold jword at hv
  rcases j_ite hv with hv | hv
  · rcases j_ite hv with hv | hv
    · exact jcmp_01 _ _ _ hv
    · exact Or.inl (j_inj hv)
  · cases hv
theorem m_X9_kindOfWord {l : Launch} {E : JE} {d : Nat} (hdd : 10 ≤ d) {a0 : Nat} {a1 a2 : Int32} {h : JH} {q : Int32 × JH} (hf : f_X9_kindOfWord a0 a1 a2 h = some q) : Con l E d yX9_kindOfWord cX9_kindOfWord 3 (some .int) [.ref a0, .int a1, .int a2] h (some (.int q.1)) q.2 := by
  unfold f_X9_kindOfWord at hf
  refine j_start rfl (Nat.le_of_ble_eq_true rfl) ?_
  intro p e s m args below meth c C hret hnm
  have hZ := C.2.2.2.2.2.1.2.2.1.2.2.1
  refine x_loc [(0, .ref a0), (1, .int a1), (2, .int a2)] rfl ?_
  obtain ⟨v0, e0, hf⟩ := j_bind hf
  refine x_aload_n (v := a0) C dX9_kindOfWord_0 rfl ?_
  refine x_iload_n (v := a1) C dX9_kindOfWord_1 rfl ?_
  refine x_iload_n (v := a2) C dX9_kindOfWord_2 rfl ?_
  refine x_ldcS (q := E.2.2.2.1 (3 + 0)) C hZ.1 dX9_kindOfWord_3 ?_
  refine x_callS (As := [.ref a0, .int a1, .int a2, .ref (E.2.2.2.1 (3 + 0))]) (rest := []) C dX9_kindOfWord_5 (m_isWord (d := d - 1) (i := 0) (by omega) (by omega) e0) km_X9_isWord lk_X9_58 ks_X9_isWord rfl (by omega) (Nat.le_of_ble_eq_true rfl) (j_le_refl _) (Or.inr rfl) ?_
  have z0 := jword_01 e0
  refine x_if_eq (tgt := 13) C dX9_kindOfWord_8 (by decide) (fun c0 => ?_) (fun c0 => by
    have hf := j_ifp hf (show v0 = 1 by rcases z0 with q | q; exact absurd q c0; exact q)
    obtain rfl := j_inj hf
    refine x_iconst (v := 4) C dX9_kindOfWord_11 (by decide) ?_
    exact x_iret C hret dX9_kindOfWord_12)
  have hf := j_ifn hf (show ¬ v0 = 1 by rw [c0]; decide)
  obtain ⟨v1, e1, hf⟩ := j_bind hf
  refine x_aload_n (v := a0) C dX9_kindOfWord_13 rfl ?_
  refine x_iload_n (v := a1) C dX9_kindOfWord_14 rfl ?_
  refine x_iload_n (v := a2) C dX9_kindOfWord_15 rfl ?_
  refine x_ldcS (q := E.2.2.2.1 (3 + 1)) C hZ.2.1 dX9_kindOfWord_16 ?_
  refine x_callS (As := [.ref a0, .int a1, .int a2, .ref (E.2.2.2.1 (3 + 1))]) (rest := []) C dX9_kindOfWord_18 (m_isWord (d := d - 1) (i := 1) (by omega) (by omega) e1) km_X9_isWord lk_X9_58 ks_X9_isWord rfl (by omega) (Nat.le_of_ble_eq_true rfl) (j_le_refl _) (Or.inr rfl) ?_
  have z1 := jword_01 e1
  refine x_if_eq (tgt := 26) C dX9_kindOfWord_21 (by decide) (fun c1 => ?_) (fun c1 => by
    have hf := j_ifp hf (show v1 = 1 by rcases z1 with q | q; exact absurd q c1; exact q)
    obtain rfl := j_inj hf
    refine x_iconst (v := 5) C dX9_kindOfWord_24 (by decide) ?_
    exact x_iret C hret dX9_kindOfWord_25)
  have hf := j_ifn hf (show ¬ v1 = 1 by rw [c1]; decide)
  obtain ⟨v2, e2, hf⟩ := j_bind hf
  refine x_aload_n (v := a0) C dX9_kindOfWord_26 rfl ?_
  refine x_iload_n (v := a1) C dX9_kindOfWord_27 rfl ?_
  refine x_iload_n (v := a2) C dX9_kindOfWord_28 rfl ?_
  refine x_ldcS (q := E.2.2.2.1 (3 + 2)) C hZ.2.2.1 dX9_kindOfWord_29 ?_
  refine x_callS (As := [.ref a0, .int a1, .int a2, .ref (E.2.2.2.1 (3 + 2))]) (rest := []) C dX9_kindOfWord_31 (m_isWord (d := d - 1) (i := 2) (by omega) (by omega) e2) km_X9_isWord lk_X9_58 ks_X9_isWord rfl (by omega) (Nat.le_of_ble_eq_true rfl) (j_le_refl _) (Or.inr rfl) ?_
  have z2 := jword_01 e2
  refine x_if_eq (tgt := 40) C dX9_kindOfWord_34 (by decide) (fun c2 => ?_) (fun c2 => by
    have hf := j_ifp hf (show v2 = 1 by rcases z2 with q | q; exact absurd q c2; exact q)
    obtain rfl := j_inj hf
    refine x_bipush (v := 6) C dX9_kindOfWord_37 (by decide) ?_
    exact x_iret C hret dX9_kindOfWord_39)
  have hf := j_ifn hf (show ¬ v2 = 1 by rw [c2]; decide)
  obtain ⟨v3, e3, hf⟩ := j_bind hf
  refine x_aload_n (v := a0) C dX9_kindOfWord_40 rfl ?_
  refine x_iload_n (v := a1) C dX9_kindOfWord_41 rfl ?_
  refine x_iload_n (v := a2) C dX9_kindOfWord_42 rfl ?_
  refine x_ldcS (q := E.2.2.2.1 (3 + 3)) C hZ.2.2.2.1 dX9_kindOfWord_43 ?_
  refine x_callS (As := [.ref a0, .int a1, .int a2, .ref (E.2.2.2.1 (3 + 3))]) (rest := []) C dX9_kindOfWord_45 (m_isWord (d := d - 1) (i := 3) (by omega) (by omega) e3) km_X9_isWord lk_X9_58 ks_X9_isWord rfl (by omega) (Nat.le_of_ble_eq_true rfl) (j_le_refl _) (Or.inr rfl) ?_
  have z3 := jword_01 e3
  refine x_if_eq (tgt := 54) C dX9_kindOfWord_48 (by decide) (fun c3 => ?_) (fun c3 => by
    have hf := j_ifp hf (show v3 = 1 by rcases z3 with q | q; exact absurd q c3; exact q)
    obtain rfl := j_inj hf
    refine x_bipush (v := 7) C dX9_kindOfWord_51 (by decide) ?_
    exact x_iret C hret dX9_kindOfWord_53)
  have hf := j_ifn hf (show ¬ v3 = 1 by rw [c3]; decide)
  obtain ⟨v4, e4, hf⟩ := j_bind hf
  refine x_aload_n (v := a0) C dX9_kindOfWord_54 rfl ?_
  refine x_iload_n (v := a1) C dX9_kindOfWord_55 rfl ?_
  refine x_iload_n (v := a2) C dX9_kindOfWord_56 rfl ?_
  refine x_ldcS (q := E.2.2.2.1 (3 + 4)) C hZ.2.2.2.2.1 dX9_kindOfWord_57 ?_
  refine x_callS (As := [.ref a0, .int a1, .int a2, .ref (E.2.2.2.1 (3 + 4))]) (rest := []) C dX9_kindOfWord_59 (m_isWord (d := d - 1) (i := 4) (by omega) (by omega) e4) km_X9_isWord lk_X9_58 ks_X9_isWord rfl (by omega) (Nat.le_of_ble_eq_true rfl) (j_le_refl _) (Or.inr rfl) ?_
  have z4 := jword_01 e4
  refine x_if_eq (tgt := 68) C dX9_kindOfWord_62 (by decide) (fun c4 => ?_) (fun c4 => by
    have hf := j_ifp hf (show v4 = 1 by rcases z4 with q | q; exact absurd q c4; exact q)
    obtain rfl := j_inj hf
    refine x_bipush (v := 8) C dX9_kindOfWord_65 (by decide) ?_
    exact x_iret C hret dX9_kindOfWord_67)
  have hf := j_ifn hf (show ¬ v4 = 1 by rw [c4]; decide)
  obtain ⟨v5, e5, hf⟩ := j_bind hf
  refine x_aload_n (v := a0) C dX9_kindOfWord_68 rfl ?_
  refine x_iload_n (v := a1) C dX9_kindOfWord_69 rfl ?_
  refine x_iload_n (v := a2) C dX9_kindOfWord_70 rfl ?_
  refine x_ldcS (q := E.2.2.2.1 (3 + 5)) C hZ.2.2.2.2.2 dX9_kindOfWord_71 ?_
  refine x_callS (As := [.ref a0, .int a1, .int a2, .ref (E.2.2.2.1 (3 + 5))]) (rest := []) C dX9_kindOfWord_73 (m_isWord (d := d - 1) (i := 5) (by omega) (by omega) e5) km_X9_isWord lk_X9_58 ks_X9_isWord rfl (by omega) (Nat.le_of_ble_eq_true rfl) (j_le_refl _) (Or.inr rfl) ?_
  have z5 := jword_01 e5
  refine x_if_eq (tgt := 84) C dX9_kindOfWord_76 (by decide) (fun c5 => ?_) (fun c5 => by
    have hf := j_ifp hf (show v5 = 1 by rcases z5 with q | q; exact absurd q c5; exact q)
    obtain rfl := j_inj hf
    refine x_bipush (v := 9) C dX9_kindOfWord_79 (by decide) ?_
    refine x_goto (tgt := 85) C dX9_kindOfWord_81 (by decide) ?_
    exact x_iret C hret dX9_kindOfWord_85)
  have hf := j_ifn hf (show ¬ v5 = 1 by rw [c5]; decide)
  obtain rfl := j_inj hf
  refine x_iconst (v := 2) C dX9_kindOfWord_84 (by decide) ?_
  exact x_iret C hret dX9_kindOfWord_85
