def jrem (x y : Int32) : Int32 := x - x / y * y
def jremL (x y : Int64) : Int64 := x - x / y * y
def j_lo (L : List (Nat × Value)) (i : Nat) : Option Value := (L.find? (fun q => q.1 == i)).map (fun q => q.2)
def j_st (L : List (Nat × Value)) (i : Nat) (v : Value) : List (Nat × Value) := (i, v) :: L.filter (fun q => !(q.1 == i) && !(q.1 + 1 == i && q.2.category == 2))
def j_s2 (L : List (Nat × Value)) (i : Nat) (v : Value) : List (Nat × Value) := (i, v) :: L.filter (fun q => !(q.1 == i) && (!(q.1 == i + 1) && !(q.1 + 1 == i && q.2.category == 2)))
theorem j_lo_mem {L : List (Nat × Value)} {i : Nat} {v : Value} (h : j_lo L i = some v) : (i, v) ∈ L := by
  unfold j_lo at h
  cases hf : L.find? (fun q => q.1 == i) with
  | none => rw [hf] at h; cases h
  | some q =>
    rw [hf] at h
    have h1 : q.2 = v := by simpa using h
    have h2 := List.find?_some hf
    have h3 : q.1 = i := by simpa using h2
    have h4 := List.mem_of_find?_eq_some hf
    obtain ⟨a, b⟩ := q
    cases h1; cases h3
    exact h4
theorem j_lo_has {ls : Array Slot} {nL : Nat} {L : List (Nat × Value)} {i : Nat} {v : Value} (hl : lv_has ls nL L) (h : j_lo L i = some v) : ls[i]? = some (.val v) := hl.2.2 (i, v) (j_lo_mem h)
theorem j_ext {L : List (Nat × Value)} (L' : List (Nat × Value)) (hm : L'.map (fun q => j_lo L q.1) = L'.map (fun q => some q.2)) : ∀ q ∈ L', q ∈ L := by
  intro q hq
  have h : j_lo L q.1 = some q.2 := List.map_inj_left.mp hm q hq
  exact j_lo_mem h

section JR
variable {p : Program} {l : Launch} {e : Env} {R : Room} {s : State} {m : MethodId} {args : Array Value} {below : List Frame} {meth : Method} {c : Code} {E : JE} {cc : ByteArray} {nL : Nat} {own : String} {h0 hF h : JH} {rF : Option Value} {Q : State → Prop} {d : Nat} {pc : Nat} {L : List (Nat × Value)} {st : List Value}

theorem x_loc (L' : List (Nat × Value)) (hm : L'.map (fun q => j_lo L q.1) = L'.map (fun q => some q.2)) (k : Xq p l e R s m args below meth c E nL h0 Q pc L' st h) : Xq p l e R s m args below meth c E nL h0 Q pc L st h :=
  fun H locs ls cells slots hl hR hS hc hs hcl hsl => k H locs ls cells slots ⟨hl.1, hl.2.1, fun q hq => hl.2.2 q (j_ext L' hm q hq)⟩ hR hS hc hs hcl hsl
theorem x_locr {L' : List (Nat × Value)} (k : Xq p l e R s m args below meth c E nL h0 Q pc L' st h) (hm : L'.map (fun q => j_lo L q.1) = L'.map (fun q => some q.2)) : Xq p l e R s m args below meth c E nL h0 Q pc L st h := x_loc L' hm k
theorem x_eqh {h2 : JH} (eh : h = h2) (k : Xq p l e R s m args below meth c E nL h0 Q pc L st h2) : Xq p l e R s m args below meth c E nL h0 Q pc L st h := eh ▸ k
theorem x_iconst (C : j_C p s m args meth c R E cc nL own h0 hF d) {n : Int} {v : Int32} (hd : decode cc pc = .ok (.iconst n, 1)) (hv : Int32.ofInt n = v) (k : Xq p l e R s m args below meth c E nL h0 Q (pc + 1) L (.int v :: st) h) : Xq p l e R s m args below meth c E nL h0 Q pc L st h :=
  fun H locs ls cells slots hl hR hS hc hs hcl hsl => lv_iconst C.1 C.2.1 hd hv (k H locs ls cells slots hl hR hS hc hs hcl hsl)
theorem x_bipush (C : j_C p s m args meth c R E cc nL own h0 hF d) {n : Int} {v : Int32} (hd : decode cc pc = .ok (.bipush n, 2)) (hv : (Int8.ofInt n).toInt32 = v) (k : Xq p l e R s m args below meth c E nL h0 Q (pc + 2) L (.int v :: st) h) : Xq p l e R s m args below meth c E nL h0 Q pc L st h :=
  fun H locs ls cells slots hl hR hS hc hs hcl hsl => lv_bipush C.1 C.2.1 hd hv (k H locs ls cells slots hl hR hS hc hs hcl hsl)
theorem x_sipush (C : j_C p s m args meth c R E cc nL own h0 hF d) {n : Int} {v : Int32} (hd : decode cc pc = .ok (.sipush n, 3)) (hv : (Int16.ofInt n).toInt32 = v) (k : Xq p l e R s m args below meth c E nL h0 Q (pc + 3) L (.int v :: st) h) : Xq p l e R s m args below meth c E nL h0 Q pc L st h :=
  fun H locs ls cells slots hl hR hS hc hs hcl hsl => lv_sipush C.1 C.2.1 hd hv (k H locs ls cells slots hl hR hS hc hs hcl hsl)
theorem x_lconst (C : j_C p s m args meth c R E cc nL own h0 hF d) {n : Fin 2} {v : Int64} (hd : decode cc pc = .ok (.lconst n, 1)) (hv : Int64.ofNat (n : Nat) = v) (k : Xq p l e R s m args below meth c E nL h0 Q (pc + 1) L (.long v :: st) h) : Xq p l e R s m args below meth c E nL h0 Q pc L st h :=
  fun H locs ls cells slots hl hR hS hc hs hcl hsl => lv_lconst C.1 C.2.1 hd hv (k H locs ls cells slots hl hR hS hc hs hcl hsl)
theorem x_fconst0 (C : j_C p s m args meth c R E cc nL own h0 hF d)  (hd : decode cc pc = .ok (.fconst 0, 1)) (k : Xq p l e R s m args below meth c E nL h0 Q (pc + 1) L (.float FP.fconst0 :: st) h) : Xq p l e R s m args below meth c E nL h0 Q pc L st h :=
  fun H locs ls cells slots hl hR hS hc hs hcl hsl => lv_fconst0 C.1 C.2.1 hd (k H locs ls cells slots hl hR hS hc hs hcl hsl)
theorem x_fconst1 (C : j_C p s m args meth c R E cc nL own h0 hF d)  (hd : decode cc pc = .ok (.fconst 1, 1)) (k : Xq p l e R s m args below meth c E nL h0 Q (pc + 1) L (.float FP.fconst1 :: st) h) : Xq p l e R s m args below meth c E nL h0 Q pc L st h :=
  fun H locs ls cells slots hl hR hS hc hs hcl hsl => lv_fconst1 C.1 C.2.1 hd (k H locs ls cells slots hl hR hS hc hs hcl hsl)
theorem x_fconst2 (C : j_C p s m args meth c R E cc nL own h0 hF d)  (hd : decode cc pc = .ok (.fconst 2, 1)) (k : Xq p l e R s m args below meth c E nL h0 Q (pc + 1) L (.float FP.fconst2 :: st) h) : Xq p l e R s m args below meth c E nL h0 Q pc L st h :=
  fun H locs ls cells slots hl hR hS hc hs hcl hsl => lv_fconst2 C.1 C.2.1 hd (k H locs ls cells slots hl hR hS hc hs hcl hsl)
theorem x_ldc (C : j_C p s m args meth c R E cc nL own h0 hF d) {index : Nat} {v : Int32} (hd : decode cc pc = .ok (.ldc index, 2)) (hw : Cond.constant own index v ∈ j_tbl) (k : Xq p l e R s m args below meth c E nL h0 Q (pc + 2) L (.int v :: st) h) : Xq p l e R s m args below meth c E nL h0 Q pc L st h :=
  fun H locs ls cells slots hl hR hS hc hs hcl hsl => lv_ldc C.1 C.2.1 C.2.2.2.1 (C.2.2.2.2.1 _ hw) hd (k H locs ls cells slots hl hR hS hc hs hcl hsl)
theorem x_ldcw (C : j_C p s m args meth c R E cc nL own h0 hF d) {index : Nat} {v : Int32} (hd : decode cc pc = .ok (.ldc_w index, 3)) (hw : Cond.constant own index v ∈ j_tbl) (k : Xq p l e R s m args below meth c E nL h0 Q (pc + 3) L (.int v :: st) h) : Xq p l e R s m args below meth c E nL h0 Q pc L st h :=
  fun H locs ls cells slots hl hR hS hc hs hcl hsl => lv_ldcw C.1 C.2.1 C.2.2.2.1 (C.2.2.2.2.1 _ hw) hd (k H locs ls cells slots hl hR hS hc hs hcl hsl)
theorem x_ldc2 (C : j_C p s m args meth c R E cc nL own h0 hF d) {index : Nat} {v : Int64} (hd : decode cc pc = .ok (.ldc2_w index, 3)) (hw : Cond.constantLong own index v ∈ j_tbl) (k : Xq p l e R s m args below meth c E nL h0 Q (pc + 3) L (.long v :: st) h) : Xq p l e R s m args below meth c E nL h0 Q pc L st h :=
  fun H locs ls cells slots hl hR hS hc hs hcl hsl => lv_ldc2 C.1 C.2.1 C.2.2.2.1 (C.2.2.2.2.1 _ hw) hd (k H locs ls cells slots hl hR hS hc hs hcl hsl)
theorem x_ldcf (C : j_C p s m args meth c R E cc nL own h0 hF d) {index : Nat} {v : UInt32} (hd : decode cc pc = .ok (.ldc index, 2)) (hw : Cond.constantFloat own index v ∈ j_tbl) (k : Xq p l e R s m args below meth c E nL h0 Q (pc + 2) L (.float v :: st) h) : Xq p l e R s m args below meth c E nL h0 Q pc L st h :=
  fun H locs ls cells slots hl hR hS hc hs hcl hsl => lv_ldcf C.1 C.2.1 C.2.2.2.1 (C.2.2.2.2.1 _ hw) hd (k H locs ls cells slots hl hR hS hc hs hcl hsl)
theorem x_iload_n (C : j_C p s m args meth c R E cc nL own h0 hF d) {k9 : Fin 4} {v : Int32} (hd : decode cc pc = .ok (.iload_n k9, 1)) (hl9 : j_lo L k9.val = some (.int v)) (k : Xq p l e R s m args below meth c E nL h0 Q (pc + 1) L (.int v :: st) h) : Xq p l e R s m args below meth c E nL h0 Q pc L st h :=
  fun H locs ls cells slots hl hR hS hc hs hcl hsl => lv_iload_n C.1 C.2.1 hd rfl (j_lo_has hl hl9) (k H locs ls cells slots hl hR hS hc hs hcl hsl)
theorem x_iload (C : j_C p s m args meth c R E cc nL own h0 hF d) {i : Nat} {v : Int32} (hd : decode cc pc = .ok (.iload i, 2)) (hl9 : j_lo L i = some (.int v)) (k : Xq p l e R s m args below meth c E nL h0 Q (pc + 2) L (.int v :: st) h) : Xq p l e R s m args below meth c E nL h0 Q pc L st h :=
  fun H locs ls cells slots hl hR hS hc hs hcl hsl => lv_iload C.1 C.2.1 hd (j_lo_has hl hl9) (k H locs ls cells slots hl hR hS hc hs hcl hsl)
theorem x_istore_n (C : j_C p s m args meth c R E cc nL own h0 hF d) {k9 : Fin 4} {v : Int32} (hd : decode cc pc = .ok (.istore_n k9, 1)) (hn : k9.val < nL) (k : Xq p l e R s m args below meth c E nL h0 Q (pc + 1) (j_st L k9.val (.int v)) st h) : Xq p l e R s m args below meth c E nL h0 Q pc L (.int v :: st) h :=
  fun H locs ls cells slots hl hR hS hc hs hcl hsl => lv_istore_n C.1 C.2.1 hd rfl hl hn rfl (fun ls' hl' => k H locs ls' cells slots hl' hR hS hc hs hcl hsl)
theorem x_istore (C : j_C p s m args meth c R E cc nL own h0 hF d) {i : Nat} {v : Int32} (hd : decode cc pc = .ok (.istore i, 2)) (hn : i < nL) (k : Xq p l e R s m args below meth c E nL h0 Q (pc + 2) (j_st L i (.int v)) st h) : Xq p l e R s m args below meth c E nL h0 Q pc L (.int v :: st) h :=
  fun H locs ls cells slots hl hR hS hc hs hcl hsl => lv_istore C.1 C.2.1 hd hl hn rfl (fun ls' hl' => k H locs ls' cells slots hl' hR hS hc hs hcl hsl)
theorem x_lload_n (C : j_C p s m args meth c R E cc nL own h0 hF d) {k9 : Fin 4} {v : Int64} (hd : decode cc pc = .ok (.lload_n k9, 1)) (hl9 : j_lo L k9.val = some (.long v)) (k : Xq p l e R s m args below meth c E nL h0 Q (pc + 1) L (.long v :: st) h) : Xq p l e R s m args below meth c E nL h0 Q pc L st h :=
  fun H locs ls cells slots hl hR hS hc hs hcl hsl => lv_lload_n C.1 C.2.1 hd rfl (j_lo_has hl hl9) (k H locs ls cells slots hl hR hS hc hs hcl hsl)
theorem x_lload (C : j_C p s m args meth c R E cc nL own h0 hF d) {i : Nat} {v : Int64} (hd : decode cc pc = .ok (.lload i, 2)) (hl9 : j_lo L i = some (.long v)) (k : Xq p l e R s m args below meth c E nL h0 Q (pc + 2) L (.long v :: st) h) : Xq p l e R s m args below meth c E nL h0 Q pc L st h :=
  fun H locs ls cells slots hl hR hS hc hs hcl hsl => lv_lload C.1 C.2.1 hd (j_lo_has hl hl9) (k H locs ls cells slots hl hR hS hc hs hcl hsl)
theorem x_lstore_n (C : j_C p s m args meth c R E cc nL own h0 hF d) {k9 : Fin 4} {v : Int64} (hd : decode cc pc = .ok (.lstore_n k9, 1)) (hn : k9.val + 1 < nL) (k : Xq p l e R s m args below meth c E nL h0 Q (pc + 1) (j_s2 L k9.val (.long v)) st h) : Xq p l e R s m args below meth c E nL h0 Q pc L (.long v :: st) h :=
  fun H locs ls cells slots hl hR hS hc hs hcl hsl => lv_lstore_n C.1 C.2.1 hd rfl hl hn rfl (fun ls' hl' => k H locs ls' cells slots hl' hR hS hc hs hcl hsl)
theorem x_lstore (C : j_C p s m args meth c R E cc nL own h0 hF d) {i : Nat} {v : Int64} (hd : decode cc pc = .ok (.lstore i, 2)) (hn : i + 1 < nL) (k : Xq p l e R s m args below meth c E nL h0 Q (pc + 2) (j_s2 L i (.long v)) st h) : Xq p l e R s m args below meth c E nL h0 Q pc L (.long v :: st) h :=
  fun H locs ls cells slots hl hR hS hc hs hcl hsl => lv_lstore C.1 C.2.1 hd hl hn rfl (fun ls' hl' => k H locs ls' cells slots hl' hR hS hc hs hcl hsl)
theorem x_fload_n (C : j_C p s m args meth c R E cc nL own h0 hF d) {k9 : Fin 4} {v : UInt32} (hd : decode cc pc = .ok (.fload_n k9, 1)) (hl9 : j_lo L k9.val = some (.float v)) (k : Xq p l e R s m args below meth c E nL h0 Q (pc + 1) L (.float v :: st) h) : Xq p l e R s m args below meth c E nL h0 Q pc L st h :=
  fun H locs ls cells slots hl hR hS hc hs hcl hsl => lv_fload_n C.1 C.2.1 hd rfl (j_lo_has hl hl9) (k H locs ls cells slots hl hR hS hc hs hcl hsl)
theorem x_fload (C : j_C p s m args meth c R E cc nL own h0 hF d) {i : Nat} {v : UInt32} (hd : decode cc pc = .ok (.fload i, 2)) (hl9 : j_lo L i = some (.float v)) (k : Xq p l e R s m args below meth c E nL h0 Q (pc + 2) L (.float v :: st) h) : Xq p l e R s m args below meth c E nL h0 Q pc L st h :=
  fun H locs ls cells slots hl hR hS hc hs hcl hsl => lv_fload C.1 C.2.1 hd (j_lo_has hl hl9) (k H locs ls cells slots hl hR hS hc hs hcl hsl)
theorem x_fstore_n (C : j_C p s m args meth c R E cc nL own h0 hF d) {k9 : Fin 4} {v : UInt32} (hd : decode cc pc = .ok (.fstore_n k9, 1)) (hn : k9.val < nL) (k : Xq p l e R s m args below meth c E nL h0 Q (pc + 1) (j_st L k9.val (.float v)) st h) : Xq p l e R s m args below meth c E nL h0 Q pc L (.float v :: st) h :=
  fun H locs ls cells slots hl hR hS hc hs hcl hsl => lv_fstore_n C.1 C.2.1 hd rfl hl hn rfl (fun ls' hl' => k H locs ls' cells slots hl' hR hS hc hs hcl hsl)
theorem x_fstore (C : j_C p s m args meth c R E cc nL own h0 hF d) {i : Nat} {v : UInt32} (hd : decode cc pc = .ok (.fstore i, 2)) (hn : i < nL) (k : Xq p l e R s m args below meth c E nL h0 Q (pc + 2) (j_st L i (.float v)) st h) : Xq p l e R s m args below meth c E nL h0 Q pc L (.float v :: st) h :=
  fun H locs ls cells slots hl hR hS hc hs hcl hsl => lv_fstore C.1 C.2.1 hd hl hn rfl (fun ls' hl' => k H locs ls' cells slots hl' hR hS hc hs hcl hsl)
theorem x_aload_n (C : j_C p s m args meth c R E cc nL own h0 hF d) {k9 : Fin 4} {v : Nat} (hd : decode cc pc = .ok (.aload_n k9, 1)) (hl9 : j_lo L k9.val = some (.ref v)) (k : Xq p l e R s m args below meth c E nL h0 Q (pc + 1) L (.ref v :: st) h) : Xq p l e R s m args below meth c E nL h0 Q pc L st h :=
  fun H locs ls cells slots hl hR hS hc hs hcl hsl => lv_aload_n C.1 C.2.1 hd rfl (j_lo_has hl hl9) (k H locs ls cells slots hl hR hS hc hs hcl hsl)
theorem x_aload (C : j_C p s m args meth c R E cc nL own h0 hF d) {i : Nat} {v : Nat} (hd : decode cc pc = .ok (.aload i, 2)) (hl9 : j_lo L i = some (.ref v)) (k : Xq p l e R s m args below meth c E nL h0 Q (pc + 2) L (.ref v :: st) h) : Xq p l e R s m args below meth c E nL h0 Q pc L st h :=
  fun H locs ls cells slots hl hR hS hc hs hcl hsl => lv_aload C.1 C.2.1 hd (j_lo_has hl hl9) (k H locs ls cells slots hl hR hS hc hs hcl hsl)
theorem x_astore_n (C : j_C p s m args meth c R E cc nL own h0 hF d) {k9 : Fin 4} {v : Nat} (hd : decode cc pc = .ok (.astore_n k9, 1)) (hn : k9.val < nL) (k : Xq p l e R s m args below meth c E nL h0 Q (pc + 1) (j_st L k9.val (.ref v)) st h) : Xq p l e R s m args below meth c E nL h0 Q pc L (.ref v :: st) h :=
  fun H locs ls cells slots hl hR hS hc hs hcl hsl => lv_astore_n C.1 C.2.1 hd rfl hl hn rfl (fun ls' hl' => k H locs ls' cells slots hl' hR hS hc hs hcl hsl)
theorem x_astore (C : j_C p s m args meth c R E cc nL own h0 hF d) {i : Nat} {v : Nat} (hd : decode cc pc = .ok (.astore i, 2)) (hn : i < nL) (k : Xq p l e R s m args below meth c E nL h0 Q (pc + 2) (j_st L i (.ref v)) st h) : Xq p l e R s m args below meth c E nL h0 Q pc L (.ref v :: st) h :=
  fun H locs ls cells slots hl hR hS hc hs hcl hsl => lv_astore C.1 C.2.1 hd hl hn rfl (fun ls' hl' => k H locs ls' cells slots hl' hR hS hc hs hcl hsl)
theorem x_iinc (C : j_C p s m args meth c R E cc nL own h0 hF d) {i : Nat} {n : Int} {v w : Int32} (hd : decode cc pc = .ok (.iinc i n, 3)) (hl9 : j_lo L i = some (.int v)) (hw : Int32.ofInt n = w) (hn : i < nL) (k : Xq p l e R s m args below meth c E nL h0 Q (pc + 3) (j_st L i (.int (v + w))) st h) : Xq p l e R s m args below meth c E nL h0 Q pc L st h := by
  subst hw
  intro H locs ls cells slots hl hR hS hc hs hcl hsl
  obtain ⟨j, hj⟩ := List.getElem?_of_mem (j_lo_mem hl9)
  exact lv_iinc (k := j) C.1 C.2.1 hd hl hj rfl hn rfl (fun ls' hl' => k H locs ls' cells slots hl' hR hS hc hs hcl hsl)
theorem x_iadd (C : j_C p s m args meth c R E cc nL own h0 hF d) {x y : Int32} (hd : decode cc pc = .ok (.iadd, 1)) (k : Xq p l e R s m args below meth c E nL h0 Q (pc + 1) L (.int (x + y) :: st) h) : Xq p l e R s m args below meth c E nL h0 Q pc L (.int y :: .int x :: st) h :=
  fun H locs ls cells slots hl hR hS hc hs hcl hsl => lv_iadd C.1 C.2.1 hd (k H locs ls cells slots hl hR hS hc hs hcl hsl)
theorem x_isub (C : j_C p s m args meth c R E cc nL own h0 hF d) {x y : Int32} (hd : decode cc pc = .ok (.isub, 1)) (k : Xq p l e R s m args below meth c E nL h0 Q (pc + 1) L (.int (x - y) :: st) h) : Xq p l e R s m args below meth c E nL h0 Q pc L (.int y :: .int x :: st) h :=
  fun H locs ls cells slots hl hR hS hc hs hcl hsl => lv_isub C.1 C.2.1 hd (k H locs ls cells slots hl hR hS hc hs hcl hsl)
theorem x_imul (C : j_C p s m args meth c R E cc nL own h0 hF d) {x y : Int32} (hd : decode cc pc = .ok (.imul, 1)) (k : Xq p l e R s m args below meth c E nL h0 Q (pc + 1) L (.int (x * y) :: st) h) : Xq p l e R s m args below meth c E nL h0 Q pc L (.int y :: .int x :: st) h :=
  fun H locs ls cells slots hl hR hS hc hs hcl hsl => lv_imul C.1 C.2.1 hd (k H locs ls cells slots hl hR hS hc hs hcl hsl)
theorem x_iand (C : j_C p s m args meth c R E cc nL own h0 hF d) {x y : Int32} (hd : decode cc pc = .ok (.iand, 1)) (k : Xq p l e R s m args below meth c E nL h0 Q (pc + 1) L (.int (x &&& y) :: st) h) : Xq p l e R s m args below meth c E nL h0 Q pc L (.int y :: .int x :: st) h :=
  fun H locs ls cells slots hl hR hS hc hs hcl hsl => lv_iand C.1 C.2.1 hd (k H locs ls cells slots hl hR hS hc hs hcl hsl)
theorem x_ior (C : j_C p s m args meth c R E cc nL own h0 hF d) {x y : Int32} (hd : decode cc pc = .ok (.ior, 1)) (k : Xq p l e R s m args below meth c E nL h0 Q (pc + 1) L (.int (x ||| y) :: st) h) : Xq p l e R s m args below meth c E nL h0 Q pc L (.int y :: .int x :: st) h :=
  fun H locs ls cells slots hl hR hS hc hs hcl hsl => lv_ior C.1 C.2.1 hd (k H locs ls cells slots hl hR hS hc hs hcl hsl)
theorem x_ishl (C : j_C p s m args meth c R E cc nL own h0 hF d) {x y : Int32} (hd : decode cc pc = .ok (.ishl, 1)) (k : Xq p l e R s m args below meth c E nL h0 Q (pc + 1) L (.int (x <<< (y &&& 31)) :: st) h) : Xq p l e R s m args below meth c E nL h0 Q pc L (.int y :: .int x :: st) h :=
  fun H locs ls cells slots hl hR hS hc hs hcl hsl => lv_ishl C.1 C.2.1 hd (k H locs ls cells slots hl hR hS hc hs hcl hsl)
theorem x_ishr (C : j_C p s m args meth c R E cc nL own h0 hF d) {x y : Int32} (hd : decode cc pc = .ok (.ishr, 1)) (k : Xq p l e R s m args below meth c E nL h0 Q (pc + 1) L (.int (x >>> (y &&& 31)) :: st) h) : Xq p l e R s m args below meth c E nL h0 Q pc L (.int y :: .int x :: st) h :=
  fun H locs ls cells slots hl hR hS hc hs hcl hsl => lv_ishr C.1 C.2.1 hd (k H locs ls cells slots hl hR hS hc hs hcl hsl)
theorem x_idiv (C : j_C p s m args meth c R E cc nL own h0 hF d) {x y : Int32} (hd : decode cc pc = .ok (.idiv, 1)) (hne : ¬ y = 0) (k : Xq p l e R s m args below meth c E nL h0 Q (pc + 1) L (.int (x / y) :: st) h) : Xq p l e R s m args below meth c E nL h0 Q pc L (.int y :: .int x :: st) h :=
  fun H locs ls cells slots hl hR hS hc hs hcl hsl => lv_idiv C.1 C.2.1 hd hne (k H locs ls cells slots hl hR hS hc hs hcl hsl)
theorem x_irem (C : j_C p s m args meth c R E cc nL own h0 hF d) {x y : Int32} (hd : decode cc pc = .ok (.irem, 1)) (hne : ¬ y = 0) (k : Xq p l e R s m args below meth c E nL h0 Q (pc + 1) L (.int (jrem x y) :: st) h) : Xq p l e R s m args below meth c E nL h0 Q pc L (.int y :: .int x :: st) h :=
  fun H locs ls cells slots hl hR hS hc hs hcl hsl => lv_irem C.1 C.2.1 hd hne (k H locs ls cells slots hl hR hS hc hs hcl hsl)
theorem x_ineg (C : j_C p s m args meth c R E cc nL own h0 hF d) {x : Int32} (hd : decode cc pc = .ok (.ineg, 1)) (k : Xq p l e R s m args below meth c E nL h0 Q (pc + 1) L (.int (-x) :: st) h) : Xq p l e R s m args below meth c E nL h0 Q pc L (.int x :: st) h :=
  fun H locs ls cells slots hl hR hS hc hs hcl hsl => lv_ineg C.1 C.2.1 hd (k H locs ls cells slots hl hR hS hc hs hcl hsl)
theorem x_ladd (C : j_C p s m args meth c R E cc nL own h0 hF d) {x y : Int64} (hd : decode cc pc = .ok (.ladd, 1)) (k : Xq p l e R s m args below meth c E nL h0 Q (pc + 1) L (.long (x + y) :: st) h) : Xq p l e R s m args below meth c E nL h0 Q pc L (.long y :: .long x :: st) h :=
  fun H locs ls cells slots hl hR hS hc hs hcl hsl => lv_ladd C.1 C.2.1 hd (k H locs ls cells slots hl hR hS hc hs hcl hsl)
theorem x_lsub (C : j_C p s m args meth c R E cc nL own h0 hF d) {x y : Int64} (hd : decode cc pc = .ok (.lsub, 1)) (k : Xq p l e R s m args below meth c E nL h0 Q (pc + 1) L (.long (x - y) :: st) h) : Xq p l e R s m args below meth c E nL h0 Q pc L (.long y :: .long x :: st) h :=
  fun H locs ls cells slots hl hR hS hc hs hcl hsl => lv_lsub C.1 C.2.1 hd (k H locs ls cells slots hl hR hS hc hs hcl hsl)
theorem x_lmul (C : j_C p s m args meth c R E cc nL own h0 hF d) {x y : Int64} (hd : decode cc pc = .ok (.lmul, 1)) (k : Xq p l e R s m args below meth c E nL h0 Q (pc + 1) L (.long (x * y) :: st) h) : Xq p l e R s m args below meth c E nL h0 Q pc L (.long y :: .long x :: st) h :=
  fun H locs ls cells slots hl hR hS hc hs hcl hsl => lv_lmul C.1 C.2.1 hd (k H locs ls cells slots hl hR hS hc hs hcl hsl)
theorem x_ldiv (C : j_C p s m args meth c R E cc nL own h0 hF d) {x y : Int64} (hd : decode cc pc = .ok (.ldiv, 1)) (hne : ¬ y = 0) (k : Xq p l e R s m args below meth c E nL h0 Q (pc + 1) L (.long (x / y) :: st) h) : Xq p l e R s m args below meth c E nL h0 Q pc L (.long y :: .long x :: st) h :=
  fun H locs ls cells slots hl hR hS hc hs hcl hsl => lv_ldiv C.1 C.2.1 hd hne (k H locs ls cells slots hl hR hS hc hs hcl hsl)
theorem x_lrem (C : j_C p s m args meth c R E cc nL own h0 hF d) {x y : Int64} (hd : decode cc pc = .ok (.lrem, 1)) (hne : ¬ y = 0) (k : Xq p l e R s m args below meth c E nL h0 Q (pc + 1) L (.long (jremL x y) :: st) h) : Xq p l e R s m args below meth c E nL h0 Q pc L (.long y :: .long x :: st) h :=
  fun H locs ls cells slots hl hR hS hc hs hcl hsl => lv_lrem C.1 C.2.1 hd hne (k H locs ls cells slots hl hR hS hc hs hcl hsl)
theorem x_lneg (C : j_C p s m args meth c R E cc nL own h0 hF d) {x : Int64} (hd : decode cc pc = .ok (.lneg, 1)) (k : Xq p l e R s m args below meth c E nL h0 Q (pc + 1) L (.long (-x) :: st) h) : Xq p l e R s m args below meth c E nL h0 Q pc L (.long x :: st) h :=
  fun H locs ls cells slots hl hR hS hc hs hcl hsl => lv_lneg C.1 C.2.1 hd (k H locs ls cells slots hl hR hS hc hs hcl hsl)
theorem x_fadd (C : j_C p s m args meth c R E cc nL own h0 hF d) {x y : UInt32} (hd : decode cc pc = .ok (.fadd, 1)) (hne : vf_n32 (FP.fadd x y)) (k : Xq p l e R s m args below meth c E nL h0 Q (pc + 1) L (.float (FP.fadd x y) :: st) h) : Xq p l e R s m args below meth c E nL h0 Q pc L (.float y :: .float x :: st) h :=
  fun H locs ls cells slots hl hR hS hc hs hcl hsl => lv_fadd C.1 C.2.1 hd hne (k H locs ls cells slots hl hR hS hc hs hcl hsl)
theorem x_fmul (C : j_C p s m args meth c R E cc nL own h0 hF d) {x y : UInt32} (hd : decode cc pc = .ok (.fmul, 1)) (hne : vf_n32 (FP.fmul x y)) (k : Xq p l e R s m args below meth c E nL h0 Q (pc + 1) L (.float (FP.fmul x y) :: st) h) : Xq p l e R s m args below meth c E nL h0 Q pc L (.float y :: .float x :: st) h :=
  fun H locs ls cells slots hl hR hS hc hs hcl hsl => lv_fmul C.1 C.2.1 hd hne (k H locs ls cells slots hl hR hS hc hs hcl hsl)
theorem x_fdiv (C : j_C p s m args meth c R E cc nL own h0 hF d) {x y : UInt32} (hd : decode cc pc = .ok (.fdiv, 1)) (hne : vf_n32 (FP.fdiv x y)) (k : Xq p l e R s m args below meth c E nL h0 Q (pc + 1) L (.float (FP.fdiv x y) :: st) h) : Xq p l e R s m args below meth c E nL h0 Q pc L (.float y :: .float x :: st) h :=
  fun H locs ls cells slots hl hR hS hc hs hcl hsl => lv_fdiv C.1 C.2.1 hd hne (k H locs ls cells slots hl hR hS hc hs hcl hsl)
theorem x_fneg (C : j_C p s m args meth c R E cc nL own h0 hF d) {x : UInt32} (hd : decode cc pc = .ok (.fneg, 1)) (k : Xq p l e R s m args below meth c E nL h0 Q (pc + 1) L (.float (FP.fneg x) :: st) h) : Xq p l e R s m args below meth c E nL h0 Q pc L (.float x :: st) h :=
  fun H locs ls cells slots hl hR hS hc hs hcl hsl => lv_fneg C.1 C.2.1 hd (k H locs ls cells slots hl hR hS hc hs hcl hsl)
theorem x_fcmp (C : j_C p s m args meth c R E cc nL own h0 hF d) {x y : UInt32} {op : CmpOp} (hd : decode cc pc = .ok (.fcmp op, 1)) (k : Xq p l e R s m args below meth c E nL h0 Q (pc + 1) L (.int (Op.cmpValue (FP.fcmp x y) op) :: st) h) : Xq p l e R s m args below meth c E nL h0 Q pc L (.float y :: .float x :: st) h :=
  fun H locs ls cells slots hl hR hS hc hs hcl hsl => lv_fcmp C.1 C.2.1 hd (k H locs ls cells slots hl hR hS hc hs hcl hsl)
theorem x_i2l (C : j_C p s m args meth c R E cc nL own h0 hF d) {x : Int32} (hd : decode cc pc = .ok (.i2l, 1)) (k : Xq p l e R s m args below meth c E nL h0 Q (pc + 1) L (.long (x.toInt64) :: st) h) : Xq p l e R s m args below meth c E nL h0 Q pc L (.int x :: st) h :=
  fun H locs ls cells slots hl hR hS hc hs hcl hsl => lv_i2l C.1 C.2.1 hd rfl (k H locs ls cells slots hl hR hS hc hs hcl hsl)
theorem x_l2i (C : j_C p s m args meth c R E cc nL own h0 hF d) {x : Int64} (hd : decode cc pc = .ok (.l2i, 1)) (k : Xq p l e R s m args below meth c E nL h0 Q (pc + 1) L (.int (x.toInt32) :: st) h) : Xq p l e R s m args below meth c E nL h0 Q pc L (.long x :: st) h :=
  fun H locs ls cells slots hl hR hS hc hs hcl hsl => lv_l2i C.1 C.2.1 hd rfl (k H locs ls cells slots hl hR hS hc hs hcl hsl)
theorem x_i2b (C : j_C p s m args meth c R E cc nL own h0 hF d) {x : Int32} (hd : decode cc pc = .ok (.i2b, 1)) (k : Xq p l e R s m args below meth c E nL h0 Q (pc + 1) L (.int (x.toInt8.toInt32) :: st) h) : Xq p l e R s m args below meth c E nL h0 Q pc L (.int x :: st) h :=
  fun H locs ls cells slots hl hR hS hc hs hcl hsl => lv_i2b C.1 C.2.1 hd rfl (k H locs ls cells slots hl hR hS hc hs hcl hsl)
theorem x_i2f (C : j_C p s m args meth c R E cc nL own h0 hF d) {x : Int32} (hd : decode cc pc = .ok (.i2f, 1)) (k : Xq p l e R s m args below meth c E nL h0 Q (pc + 1) L (.float (FP.i2f x) :: st) h) : Xq p l e R s m args below meth c E nL h0 Q pc L (.int x :: st) h :=
  fun H locs ls cells slots hl hR hS hc hs hcl hsl => lv_i2f C.1 C.2.1 hd (k H locs ls cells slots hl hR hS hc hs hcl hsl)
theorem x_l2f (C : j_C p s m args meth c R E cc nL own h0 hF d) {x : Int64} (hd : decode cc pc = .ok (.l2f, 1)) (k : Xq p l e R s m args below meth c E nL h0 Q (pc + 1) L (.float (FP.l2f x) :: st) h) : Xq p l e R s m args below meth c E nL h0 Q pc L (.long x :: st) h :=
  fun H locs ls cells slots hl hR hS hc hs hcl hsl => lv_l2f C.1 C.2.1 hd (k H locs ls cells slots hl hR hS hc hs hcl hsl)
theorem x_f2i (C : j_C p s m args meth c R E cc nL own h0 hF d) {x : UInt32} (hd : decode cc pc = .ok (.f2i, 1)) (k : Xq p l e R s m args below meth c E nL h0 Q (pc + 1) L (.int (FP.f2i x) :: st) h) : Xq p l e R s m args below meth c E nL h0 Q pc L (.float x :: st) h :=
  fun H locs ls cells slots hl hR hS hc hs hcl hsl => lv_f2i C.1 C.2.1 hd (k H locs ls cells slots hl hR hS hc hs hcl hsl)
theorem x_dup (C : j_C p s m args meth c R E cc nL own h0 hF d) {v : Value} (hd : decode cc pc = .ok (.dup, 1)) (hv : v.category = 1) (k : Xq p l e R s m args below meth c E nL h0 Q (pc + 1) L (v :: v :: st) h) : Xq p l e R s m args below meth c E nL h0 Q pc L (v :: st) h :=
  fun H locs ls cells slots hl hR hS hc hs hcl hsl => lv_dup C.1 C.2.1 hd hv (k H locs ls cells slots hl hR hS hc hs hcl hsl)
theorem x_pop (C : j_C p s m args meth c R E cc nL own h0 hF d) {v : Value} (hd : decode cc pc = .ok (.pop, 1)) (hv : v.category = 1) (k : Xq p l e R s m args below meth c E nL h0 Q (pc + 1) L st h) : Xq p l e R s m args below meth c E nL h0 Q pc L (v :: st) h :=
  fun H locs ls cells slots hl hR hS hc hs hcl hsl => lv_pop C.1 C.2.1 hd hv (k H locs ls cells slots hl hR hS hc hs hcl hsl)
theorem x_dup2 (C : j_C p s m args meth c R E cc nL own h0 hF d) {v w : Value} (hd : decode cc pc = .ok (.dup2, 1)) (hv : v.category = 1) (hw : w.category = 1) (k : Xq p l e R s m args below meth c E nL h0 Q (pc + 1) L (v :: w :: v :: w :: st) h) : Xq p l e R s m args below meth c E nL h0 Q pc L (v :: w :: st) h :=
  fun H locs ls cells slots hl hR hS hc hs hcl hsl => lv_dup2_11 C.1 C.2.1 hd hv hw (k H locs ls cells slots hl hR hS hc hs hcl hsl)
theorem x_goto (C : j_C p s m args meth c R E cc nL own h0 hF d) {off : Int} {tgt : Nat} (hd : decode cc pc = .ok (.goto off, 3)) (ht : (pc : Int) + off = (tgt : Int)) (k : Xq p l e R s m args below meth c E nL h0 Q tgt L st h) : Xq p l e R s m args below meth c E nL h0 Q pc L st h :=
  fun H locs ls cells slots hl hR hS hc hs hcl hsl => lv_goto C.1 C.2.1 hd ht (k H locs ls cells slots hl hR hS hc hs hcl hsl)
theorem x_icmp_eq (C : j_C p s m args meth c R E cc nL own h0 hF d) {x y : Int32} {off : Int} {tgt : Nat} (hd : decode cc pc = .ok (.if_icmp .eq off, 3)) (ht : (pc : Int) + off = (tgt : Int)) (kt : x = y → Xq p l e R s m args below meth c E nL h0 Q tgt L st h) (kf : ¬ x = y → Xq p l e R s m args below meth c E nL h0 Q (pc + 3) L st h) : Xq p l e R s m args below meth c E nL h0 Q pc L (.int y :: .int x :: st) h :=
  fun H locs ls cells slots hl hR hS hc hs hcl hsl => lv_icmp_eq C.1 C.2.1 hd ht (fun q => kt q H locs ls cells slots hl hR hS hc hs hcl hsl) (fun q => kf q H locs ls cells slots hl hR hS hc hs hcl hsl)
theorem x_if_eq (C : j_C p s m args meth c R E cc nL own h0 hF d) {x : Int32} {off : Int} {tgt : Nat} (hd : decode cc pc = .ok (.ifCond .eq off, 3)) (ht : (pc : Int) + off = (tgt : Int)) (kt : x = 0 → Xq p l e R s m args below meth c E nL h0 Q tgt L st h) (kf : ¬ x = 0 → Xq p l e R s m args below meth c E nL h0 Q (pc + 3) L st h) : Xq p l e R s m args below meth c E nL h0 Q pc L (.int x :: st) h :=
  fun H locs ls cells slots hl hR hS hc hs hcl hsl => lv_if_eq C.1 C.2.1 hd ht (fun q => kt q H locs ls cells slots hl hR hS hc hs hcl hsl) (fun q => kf q H locs ls cells slots hl hR hS hc hs hcl hsl)
theorem x_icmp_ne (C : j_C p s m args meth c R E cc nL own h0 hF d) {x y : Int32} {off : Int} {tgt : Nat} (hd : decode cc pc = .ok (.if_icmp .ne off, 3)) (ht : (pc : Int) + off = (tgt : Int)) (kt : ¬ x = y → Xq p l e R s m args below meth c E nL h0 Q tgt L st h) (kf : x = y → Xq p l e R s m args below meth c E nL h0 Q (pc + 3) L st h) : Xq p l e R s m args below meth c E nL h0 Q pc L (.int y :: .int x :: st) h :=
  fun H locs ls cells slots hl hR hS hc hs hcl hsl => lv_icmp_ne C.1 C.2.1 hd ht (fun q => kt q H locs ls cells slots hl hR hS hc hs hcl hsl) (fun q => kf q H locs ls cells slots hl hR hS hc hs hcl hsl)
theorem x_if_ne (C : j_C p s m args meth c R E cc nL own h0 hF d) {x : Int32} {off : Int} {tgt : Nat} (hd : decode cc pc = .ok (.ifCond .ne off, 3)) (ht : (pc : Int) + off = (tgt : Int)) (kt : ¬ x = 0 → Xq p l e R s m args below meth c E nL h0 Q tgt L st h) (kf : x = 0 → Xq p l e R s m args below meth c E nL h0 Q (pc + 3) L st h) : Xq p l e R s m args below meth c E nL h0 Q pc L (.int x :: st) h :=
  fun H locs ls cells slots hl hR hS hc hs hcl hsl => lv_if_ne C.1 C.2.1 hd ht (fun q => kt q H locs ls cells slots hl hR hS hc hs hcl hsl) (fun q => kf q H locs ls cells slots hl hR hS hc hs hcl hsl)
theorem x_icmp_lt (C : j_C p s m args meth c R E cc nL own h0 hF d) {x y : Int32} {off : Int} {tgt : Nat} (hd : decode cc pc = .ok (.if_icmp .lt off, 3)) (ht : (pc : Int) + off = (tgt : Int)) (kt : x < y → Xq p l e R s m args below meth c E nL h0 Q tgt L st h) (kf : ¬ x < y → Xq p l e R s m args below meth c E nL h0 Q (pc + 3) L st h) : Xq p l e R s m args below meth c E nL h0 Q pc L (.int y :: .int x :: st) h :=
  fun H locs ls cells slots hl hR hS hc hs hcl hsl => lv_icmp_lt C.1 C.2.1 hd ht (fun q => kt q H locs ls cells slots hl hR hS hc hs hcl hsl) (fun q => kf q H locs ls cells slots hl hR hS hc hs hcl hsl)
theorem x_if_lt (C : j_C p s m args meth c R E cc nL own h0 hF d) {x : Int32} {off : Int} {tgt : Nat} (hd : decode cc pc = .ok (.ifCond .lt off, 3)) (ht : (pc : Int) + off = (tgt : Int)) (kt : x < 0 → Xq p l e R s m args below meth c E nL h0 Q tgt L st h) (kf : ¬ x < 0 → Xq p l e R s m args below meth c E nL h0 Q (pc + 3) L st h) : Xq p l e R s m args below meth c E nL h0 Q pc L (.int x :: st) h :=
  fun H locs ls cells slots hl hR hS hc hs hcl hsl => lv_if_lt C.1 C.2.1 hd ht (fun q => kt q H locs ls cells slots hl hR hS hc hs hcl hsl) (fun q => kf q H locs ls cells slots hl hR hS hc hs hcl hsl)
theorem x_icmp_ge (C : j_C p s m args meth c R E cc nL own h0 hF d) {x y : Int32} {off : Int} {tgt : Nat} (hd : decode cc pc = .ok (.if_icmp .ge off, 3)) (ht : (pc : Int) + off = (tgt : Int)) (kt : y ≤ x → Xq p l e R s m args below meth c E nL h0 Q tgt L st h) (kf : ¬ y ≤ x → Xq p l e R s m args below meth c E nL h0 Q (pc + 3) L st h) : Xq p l e R s m args below meth c E nL h0 Q pc L (.int y :: .int x :: st) h :=
  fun H locs ls cells slots hl hR hS hc hs hcl hsl => lv_icmp_ge C.1 C.2.1 hd ht (fun q => kt q H locs ls cells slots hl hR hS hc hs hcl hsl) (fun q => kf q H locs ls cells slots hl hR hS hc hs hcl hsl)
theorem x_if_ge (C : j_C p s m args meth c R E cc nL own h0 hF d) {x : Int32} {off : Int} {tgt : Nat} (hd : decode cc pc = .ok (.ifCond .ge off, 3)) (ht : (pc : Int) + off = (tgt : Int)) (kt : 0 ≤ x → Xq p l e R s m args below meth c E nL h0 Q tgt L st h) (kf : ¬ 0 ≤ x → Xq p l e R s m args below meth c E nL h0 Q (pc + 3) L st h) : Xq p l e R s m args below meth c E nL h0 Q pc L (.int x :: st) h :=
  fun H locs ls cells slots hl hR hS hc hs hcl hsl => lv_if_ge C.1 C.2.1 hd ht (fun q => kt q H locs ls cells slots hl hR hS hc hs hcl hsl) (fun q => kf q H locs ls cells slots hl hR hS hc hs hcl hsl)
theorem x_icmp_gt (C : j_C p s m args meth c R E cc nL own h0 hF d) {x y : Int32} {off : Int} {tgt : Nat} (hd : decode cc pc = .ok (.if_icmp .gt off, 3)) (ht : (pc : Int) + off = (tgt : Int)) (kt : y < x → Xq p l e R s m args below meth c E nL h0 Q tgt L st h) (kf : ¬ y < x → Xq p l e R s m args below meth c E nL h0 Q (pc + 3) L st h) : Xq p l e R s m args below meth c E nL h0 Q pc L (.int y :: .int x :: st) h :=
  fun H locs ls cells slots hl hR hS hc hs hcl hsl => lv_icmp_gt C.1 C.2.1 hd ht (fun q => kt q H locs ls cells slots hl hR hS hc hs hcl hsl) (fun q => kf q H locs ls cells slots hl hR hS hc hs hcl hsl)
theorem x_if_gt (C : j_C p s m args meth c R E cc nL own h0 hF d) {x : Int32} {off : Int} {tgt : Nat} (hd : decode cc pc = .ok (.ifCond .gt off, 3)) (ht : (pc : Int) + off = (tgt : Int)) (kt : 0 < x → Xq p l e R s m args below meth c E nL h0 Q tgt L st h) (kf : ¬ 0 < x → Xq p l e R s m args below meth c E nL h0 Q (pc + 3) L st h) : Xq p l e R s m args below meth c E nL h0 Q pc L (.int x :: st) h :=
  fun H locs ls cells slots hl hR hS hc hs hcl hsl => lv_if_gt C.1 C.2.1 hd ht (fun q => kt q H locs ls cells slots hl hR hS hc hs hcl hsl) (fun q => kf q H locs ls cells slots hl hR hS hc hs hcl hsl)
theorem x_icmp_le (C : j_C p s m args meth c R E cc nL own h0 hF d) {x y : Int32} {off : Int} {tgt : Nat} (hd : decode cc pc = .ok (.if_icmp .le off, 3)) (ht : (pc : Int) + off = (tgt : Int)) (kt : x ≤ y → Xq p l e R s m args below meth c E nL h0 Q tgt L st h) (kf : ¬ x ≤ y → Xq p l e R s m args below meth c E nL h0 Q (pc + 3) L st h) : Xq p l e R s m args below meth c E nL h0 Q pc L (.int y :: .int x :: st) h :=
  fun H locs ls cells slots hl hR hS hc hs hcl hsl => lv_icmp_le C.1 C.2.1 hd ht (fun q => kt q H locs ls cells slots hl hR hS hc hs hcl hsl) (fun q => kf q H locs ls cells slots hl hR hS hc hs hcl hsl)
theorem x_if_le (C : j_C p s m args meth c R E cc nL own h0 hF d) {x : Int32} {off : Int} {tgt : Nat} (hd : decode cc pc = .ok (.ifCond .le off, 3)) (ht : (pc : Int) + off = (tgt : Int)) (kt : x ≤ 0 → Xq p l e R s m args below meth c E nL h0 Q tgt L st h) (kf : ¬ x ≤ 0 → Xq p l e R s m args below meth c E nL h0 Q (pc + 3) L st h) : Xq p l e R s m args below meth c E nL h0 Q pc L (.int x :: st) h :=
  fun H locs ls cells slots hl hR hS hc hs hcl hsl => lv_if_le C.1 C.2.1 hd ht (fun q => kt q H locs ls cells slots hl hR hS hc hs hcl hsl) (fun q => kf q H locs ls cells slots hl hR hS hc hs hcl hsl)
theorem x_lcmp (C : j_C p s m args meth c R E cc nL own h0 hF d) {x y : Int64} (hd : decode cc pc = .ok (.lcmp, 1)) (k : Xq p l e R s m args below meth c E nL h0 Q (pc + 1) L (.int (lg_cmp x y) :: st) h) : Xq p l e R s m args below meth c E nL h0 Q pc L (.long y :: .long x :: st) h :=
  fun H locs ls cells slots hl hR hS hc hs hcl hsl => W.lcmp C.1 C.2.1 hd (k H locs ls cells slots hl hR hS hc hs hcl hsl)
theorem x_table (C : j_C p s m args meth c R E cc nL own h0 hF d) {dflt lo hi : Int} {offs : Array Int} {len : Nat} {x : Int32} (hd : decode cc pc = .ok (.tableswitch dflt lo hi offs, len)) (tgt : Nat) (hin : ¬ x.toInt < lo ∧ ¬ hi < x.toInt) (off : Int) (ho : offs[(x.toInt - lo).toNat]? = some off) (ht : (pc : Int) + off = (tgt : Int)) (k : Xq p l e R s m args below meth c E nL h0 Q tgt L st h) : Xq p l e R s m args below meth c E nL h0 Q pc L (.int x :: st) h :=
  fun H locs ls cells slots hl hR hS hc hs hcl hsl => lv_tableIn C.1 C.2.1 hd hin.1 hin.2 ho ht (k H locs ls cells slots hl hR hS hc hs hcl hsl)
theorem x_tableD (C : j_C p s m args meth c R E cc nL own h0 hF d) {dflt lo hi : Int} {offs : Array Int} {len : Nat} {x : Int32} (hd : decode cc pc = .ok (.tableswitch dflt lo hi offs, len)) (tgt : Nat) (hin : x.toInt < lo ∨ hi < x.toInt) (ht : (pc : Int) + dflt = (tgt : Int)) (k : Xq p l e R s m args below meth c E nL h0 Q tgt L st h) : Xq p l e R s m args below meth c E nL h0 Q pc L (.int x :: st) h :=
  fun H locs ls cells slots hl hR hS hc hs hcl hsl => lv_tableOut C.1 C.2.1 hd hin ht (k H locs ls cells slots hl hR hS hc hs hcl hsl)
theorem x_lookup (C : j_C p s m args meth c R E cc nL own h0 hF d) {dflt : Int} {ps : Array (Int × Int)} {len : Nat} {x : Int32} (hd : decode cc pc = .ok (.lookupswitch dflt ps, len)) (hp : (ps.toList.zip (ps.toList.drop 1)).all (fun (a, next) => a.1 < next.1) = true) (tgt : Nat) (off : Int) (ho : Op.lookupswitch.offset ps.toList dflt x.toInt = off) (ht : (pc : Int) + off = (tgt : Int)) (k : Xq p l e R s m args below meth c E nL h0 Q tgt L st h) : Xq p l e R s m args below meth c E nL h0 Q pc L (.int x :: st) h :=
  fun H locs ls cells slots hl hR hS hc hs hcl hsl => lv_lookup C.1 C.2.1 hd hp ho ht (k H locs ls cells slots hl hR hS hc hs hcl hsl)
theorem x_iret (C : j_C p s m args meth c R E cc nL own h0 h d) {v : Int32} (hr : meth.sig.returnType = some .int)  (hd : decode cc pc = .ok (.ireturn, 1)) : Xw p l e R s m args below meth c E nL h0 (some (.int v)) h pc L [.int v] h := by
  intro H locs ls cells slots hl hR hS hc hs hcl hsl
  obtain rfl : cells = h.2.1.1 - h0.2.1.1 := by omega
  obtain rfl : slots = h.2.1.2 - h0.2.1.2 := by omega
  exact W.iret C.1 C.2.1 hr (fun t ht hW => ⟨⟨rfl, by rw [ht]; exact hR⟩, hS.F ht⟩) hS.2.2 hd C.2.2.2.2.2.2.1
theorem x_zret (C : j_C p s m args meth c R E cc nL own h0 h d) {v : Int32} (hr : meth.sig.returnType = some .boolean) (hv : v = 0 ∨ v = 1) (hd : decode cc pc = .ok (.ireturn, 1)) : Xw p l e R s m args below meth c E nL h0 (some (.int v)) h pc L [.int v] h := by
  intro H locs ls cells slots hl hR hS hc hs hcl hsl
  obtain rfl : cells = h.2.1.1 - h0.2.1.1 := by omega
  obtain rfl : slots = h.2.1.2 - h0.2.1.2 := by omega
  exact W.zret C.1 C.2.1 hr (by rcases hv with rfl | rfl <;> rfl) (fun t ht hW => ⟨⟨rfl, by rw [ht]; exact hR⟩, hS.F ht⟩) hS.2.2 hd C.2.2.2.2.2.2.1
theorem x_lret (C : j_C p s m args meth c R E cc nL own h0 h d) {v : Int64} (hr : meth.sig.returnType = some .long)  (hd : decode cc pc = .ok (.lreturn, 1)) : Xw p l e R s m args below meth c E nL h0 (some (.long v)) h pc L [.long v] h := by
  intro H locs ls cells slots hl hR hS hc hs hcl hsl
  obtain rfl : cells = h.2.1.1 - h0.2.1.1 := by omega
  obtain rfl : slots = h.2.1.2 - h0.2.1.2 := by omega
  exact W.lret C.1 C.2.1 hr (fun t ht hW => ⟨⟨rfl, by rw [ht]; exact hR⟩, hS.F ht⟩) hS.2.2 hd C.2.2.2.2.2.2.1
theorem x_fret (C : j_C p s m args meth c R E cc nL own h0 h d) {v : UInt32} (hr : meth.sig.returnType = some .float)  (hd : decode cc pc = .ok (.freturn, 1)) : Xw p l e R s m args below meth c E nL h0 (some (.float v)) h pc L [.float v] h := by
  intro H locs ls cells slots hl hR hS hc hs hcl hsl
  obtain rfl : cells = h.2.1.1 - h0.2.1.1 := by omega
  obtain rfl : slots = h.2.1.2 - h0.2.1.2 := by omega
  exact W.fret C.1 C.2.1 hr (fun t ht hW => ⟨⟨rfl, by rw [ht]; exact hR⟩, hS.F ht⟩) hS.2.2 hd C.2.2.2.2.2.2.1
theorem x_aret (C : j_C p s m args meth c R E cc nL own h0 h d) {v : Nat} {rt : FieldType} (hr : meth.sig.returnType = some rt) (hrt : (∃ n, rt = .object n) ∨ ∃ t, rt = .array t) (hd : decode cc pc = .ok (.areturn, 1)) : Xw p l e R s m args below meth c E nL h0 (some (.ref v)) h pc L [.ref v] h := by
  intro H locs ls cells slots hl hR hS hc hs hcl hsl
  obtain rfl : cells = h.2.1.1 - h0.2.1.1 := by omega
  obtain rfl : slots = h.2.1.2 - h0.2.1.2 := by omega
  exact W.aret C.1 C.2.1 hr hrt (Or.inr ⟨_, rfl⟩) (fun t ht hW => ⟨⟨rfl, by rw [ht]; exact hR⟩, hS.F ht⟩) hS.2.2 hd C.2.2.2.2.2.2.1
theorem x_vret (C : j_C p s m args meth c R E cc nL own h0 h d) (hr : meth.sig.returnType = none) (hd : decode cc pc = .ok (.return_, 1)) : Xw p l e R s m args below meth c E nL h0 none h pc L [] h := by
  intro H locs ls cells slots hl hR hS hc hs hcl hsl
  obtain rfl : cells = h.2.1.1 - h0.2.1.1 := by omega
  obtain rfl : slots = h.2.1.2 - h0.2.1.2 := by omega
  exact W.vret C.1 C.2.1 hr (fun t ht hW => ⟨⟨rfl, by rw [ht]; exact hR⟩, hS.F ht⟩) hS.2.2 hd C.2.2.2.2.2.2.1
end JR
