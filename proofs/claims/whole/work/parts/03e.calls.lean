theorem jnM_some {h h1 : JH} {ty : FieldType} {n k : Int32} {q : Nat} (e : jnM h ty n k = some (q, h1)) : ¬ n < 0 ∧ ¬ k < 0 ∧ n.toNatClampNeg ≤ 1000 ∧ k.toNatClampNeg ≤ 1000 ∧ q = h.2.1.1 ∧ h1 = (fun q => if q = h.2.1.1 then some (.inl (.array ty, (n.toNatClampNeg, .inr (.inr (.inr (.inr (fun i => if i < n.toNatClampNeg then some (h.2.1.1 + 1 + i) else none))))))) else if h.2.1.1 < q ∧ q < h.2.1.1 + 1 + n.toNatClampNeg then some (.inl (ty, (k.toNatClampNeg, jz0 ty))) else h.1 q,
    ((h.2.1.1 + 1 + n.toNatClampNeg, h.2.1.2 + n.toNatClampNeg + n.toNatClampNeg * k.toNatClampNeg), h.2.2)) := by
  unfold jnM at e
  split at e
  · rename_i hj
    cases e
    exact ⟨hj.1, hj.2.1, hj.2.2.1, hj.2.2.2, rfl, rfl⟩
  · cases e
theorem jnM_le {h : JH} {ty : FieldType} {n k : Int32} {q : Nat × JH} (e : jnM h ty n k = some q) : j_le h q.2 := by
  obtain ⟨a, b⟩ := q
  obtain ⟨-, -, -, -, -, rfl⟩ := jnM_some e
  exact ⟨by show _ ≤ h.2.1.1 + 1 + n.toNatClampNeg; omega, by show _ ≤ h.2.1.2 + n.toNatClampNeg + n.toNatClampNeg * k.toNatClampNeg; omega⟩
theorem j_inner (ty : FieldType) (k : Nat) (ht : ty = .int ∨ ty = .long) {cA : ClassId} : Jvm.Free.Multi.innerC cA k (defaultValue ty) = vp_cell cA (k, jz0 ty) := by
  rcases ht with rfl | rfl
  · show _ = arrV cA k (fun _ => .int 0)
    rw [← arrV_new]; rfl
  · show _ = arrV cA k (fun _ => .long 0)
    rw [← arrV_new]; rfl
theorem j_blind (E : JE) (av : List Value) (h : JH) : FrameBlind (j_P E av h) := by
  intro a U g mk q
  obtain ⟨q0, q1, q2⟩ := q
  exact ⟨q0, q1, ⟨va_K.moved (u := U) (U := U.calling g mk a) (Vm.Alike.refl U.vm) q2.1, q2.2.1, q2.2.2.1.warm (U := U.calling g mk a) (State.WarmedH.refl U) q2.2.1 (fun _ _ _ => rfl), q2.2.2.2.1.warm (U := U.calling g mk a) (State.WarmedH.refl U), fun a9 r9 h9 => ⟨((q2.2.2.2.2 a9 r9 h9).1).moved (u := U) (U := U.calling g mk a) (Vm.Alike.refl U.vm), (q2.2.2.2.2 a9 r9 h9).2⟩⟩⟩
section JR
variable {p : Program} {l : Launch} {e : Env} {R : Room} {s : State} {m : MethodId} {args : Array Value} {below : List Frame} {meth : Method} {c : Code} {E : JE} {cc : ByteArray} {nL : Nat} {own : String} {h0 hF h : JH} {rF : Option Value} {Q : State → Prop} {d : Nat} {pc : Nat} {L : List (Nat × Value)} {st : List Value}
theorem x_copyi (C : j_C p s m args meth c R E cc nL own h0 hF d) {idx : Nat} {a0 a : Nat} {sp dp n : Int32} {h1 : JH} (hd : decode cc pc = .ok (.invokestatic idx, 3)) (hg : jcI h a0 sp a dp n = some h1) (hw : Cond.methodLink own idx arraycopyName ∈ j_tbl ∧ Cond.native arraycopyName ∈ j_tbl ∧ Cond.static arraycopyName ∈ j_tbl ∧ Cond.initialized "java/lang/System" ∈ j_tbl) (hdd : 1 ≤ d) (hrest : (st.map fun v => v.category).sum ≤ 8) (k : Xq p l e R s m args below meth c E nL h0 Q (pc + 3) L st h1) : Xq p l e R s m args below meth c E nL h0 Q pc L (.int n :: .int dp :: .ref a :: .int sp :: .ref a0 :: st) h := by
  intro H locs ls cells slots hl hR hS hc hs hcl hsl
  obtain ⟨n0, n1, f, g, g0, g1, ⟨b1, b2, b3, b4, b5⟩, rfl⟩ := jcI_some hg
  have hts := C.2.2.2.2.1
  have hK := C.2.2.2.2.2.1.1
  have hRm := C.2.2.2.2.2.2.2
  have nn : ∀ z : Int32, ¬ z < 0 → z.toInt = (z.toNatClampNeg : Int) := by
    intro z hz
    have hz0 : (0 : Int) ≤ z.toInt := by
      have := Int32.not_lt.mp hz
      simpa using Int32.le_iff_toInt_le.mp this
    show z.toInt = ((z.toInt.toNat : Nat) : Int)
    omega
  obtain ⟨h990, hw0⟩ := hR.1 a0 _ g0
  obtain ⟨h991, hw1⟩ := hR.1 a _ g1
  have h90 := h990 rfl
  have h91 := h991 rfl
  have hc0 : H[a0]? = some (vp_cell (E.2.1 .int) (n0, .inl f)) := h90
  have hc1 : H[a]? = some (vp_cell (E.2.1 .int) (n1, .inl g)) := h91
  have hnw : nativeFrameWords "java/lang/System" "arraycopy" 5 ≤ 30 := by decide +kernel
  intro T hT X
  obtain ⟨-, k0, hk0, cm0, hkk0⟩ := (hK.2 0 _ rfl).1 n0 (fun j => .int (f j))
  obtain ⟨-, k1, hk1, cm1, hkk1⟩ := (hK.2 0 _ rfl).1 n1 (fun j => .int (g j))
  obtain ⟨vm', X', step⟩ := X.arraycopy C.1 C.2.2.2.1 (hts _ hw.1) (hts _ hw.2.1) (hts _ hw.2.2.1) (hts _ hw.2.2.2) (src := a0) (dst := a) (cs := vp_cell (E.2.1 .int) (n0, .inl f)) (cd := vp_cell (E.2.1 .int) (n1, .inl g)) (srcPos := sp) (destPos := dp) (n := n) (by rw [hT]; exact hc0) (by rw [hT]; exact hc1)
    (fun _ h => by cases h) (fun _ h => by cases h) (fun h => by cases h) (fun h => by cases h) hk0 hk1 hkk0 hkk1 (by simp [refKind]) b1 b2 b3
    (by rw [nn sp b1, nn n b3]; show ¬ _ > ((arrV (E.2.1 .int) n0 (fun j => .int (f j))).slots.size : Int); rw [arrV_size]; omega)
    (by rw [nn dp b2, nn n b3]; show ¬ _ > ((arrV (E.2.1 .int) n1 (fun j => .int (g j))).slots.size : Int); rw [arrV_size]; omega)
    (fun vm₁ _ i hi => by
      have e : (vp_cell (E.2.1 .int) (n0, .inl f)).slots.getD (sp.toNatClampNeg + i) .null = .int (f (sp.toNatClampNeg + i)) := by
        show (arrV (E.2.1 .int) n0 (fun j => .int (f j))).slots.getD _ _ = _
        rw [Array.getD_eq_getD_getElem?, arrV_read _ _ (by omega)]
        rfl
      refine ⟨?_, ?_⟩
      · rw [e]
        rfl
      · rw [e]
        exact trivial)
    (g := F0 m pc ls (.int n :: .int dp :: .ref a :: .int sp :: .ref a0 :: st)) rfl (by rw [C.2.2.1]; exact hl.1) (rest := st) rfl (by rw [C.2.1]; exact hd) (Nat.le_trans hdd hRm.1) (by show 2 * 0 + _ + (nativeFrameWords "java/lang/System" "arraycopy" 5 + 11) ≤ R.locals; have := hRm.2.1; omega)
  have e1 : copied (vp_cell (E.2.1 .int) (n0, .inl f)) (vp_cell (E.2.1 .int) (n1, .inl g)) sp dp n = vp_cell (E.2.1 .int) (n1, .inl (va_cpy f g sp.toNatClampNeg dp.toNatClampNeg n.toNatClampNeg)) := va_copied (fun z => .int z) _ _ f g b4
  rw [e1] at X' step
  have hlt : a < H.size := (Array.getElem?_eq_some_iff.mp hc1).1
  have hheap : ((T.setVm vm').setCell a (vp_cell (E.2.1 .int) (n1, .inl (va_cpy f g sp.toNatClampNeg dp.toNatClampNeg n.toNatClampNeg)))).heap = H.setIfInBounds a (vp_cell (E.2.1 .int) (n1, .inl (va_cpy f g sp.toNatClampNeg dp.toNatClampNeg n.toNatClampNeg))) := by rw [← hT]; rfl
  have oq : ∀ q : Nat, q ≠ a → (H.setIfInBounds a (vp_cell (E.2.1 .int) (n1, .inl (va_cpy f g sp.toNatClampNeg dp.toNatClampNeg n.toNatClampNeg))))[q]? = H[q]? := fun q hq => by simp [Array.getElem?_setIfInBounds, Ne.symm hq]
  obtain ⟨t, a1, b1⟩ := k _ _ ls cells slots hl (hR.set (show j_w E a (.inl (.int, (n1, .inl (va_cpy f g sp.toNatClampNeg dp.toNatClampNeg n.toNatClampNeg)))) from hw1) (show (H.setIfInBounds a _)[a]? = some _ by simp [Array.getElem?_setIfInBounds, hlt]) (by simp) oq) ⟨by simp; exact hS.1, fun q g1 g2 => by
      rw [oq q (fun e => g2 (by rw [e]; exact hw1.1))]
      exact hS.2.1 q g1 g2, fun q hq => by
      rcases List.mem_append.mp hq with h | h
      · exact hS.2.2 q h
      · obtain ⟨z, -, hz⟩ := List.mem_map.mp h
        rw [← hz]
        exact hw1.1⟩ hc hs hcl hsl _ hheap X'
  exact ⟨t, step t a1, b1⟩
theorem x_copyl (C : j_C p s m args meth c R E cc nL own h0 hF d) {idx : Nat} {a0 a : Nat} {sp dp n : Int32} {h1 : JH} (hd : decode cc pc = .ok (.invokestatic idx, 3)) (hg : jcJ h a0 sp a dp n = some h1) (hw : Cond.methodLink own idx arraycopyName ∈ j_tbl ∧ Cond.native arraycopyName ∈ j_tbl ∧ Cond.static arraycopyName ∈ j_tbl ∧ Cond.initialized "java/lang/System" ∈ j_tbl) (hdd : 1 ≤ d) (hrest : (st.map fun v => v.category).sum ≤ 8) (k : Xq p l e R s m args below meth c E nL h0 Q (pc + 3) L st h1) : Xq p l e R s m args below meth c E nL h0 Q pc L (.int n :: .int dp :: .ref a :: .int sp :: .ref a0 :: st) h := by
  intro H locs ls cells slots hl hR hS hc hs hcl hsl
  obtain ⟨n0, n1, f, g, g0, g1, ⟨b1, b2, b3, b4, b5⟩, rfl⟩ := jcJ_some hg
  have hts := C.2.2.2.2.1
  have hK := C.2.2.2.2.2.1.1
  have hRm := C.2.2.2.2.2.2.2
  have nn : ∀ z : Int32, ¬ z < 0 → z.toInt = (z.toNatClampNeg : Int) := by
    intro z hz
    have hz0 : (0 : Int) ≤ z.toInt := by
      have := Int32.not_lt.mp hz
      simpa using Int32.le_iff_toInt_le.mp this
    show z.toInt = ((z.toInt.toNat : Nat) : Int)
    omega
  obtain ⟨h990, hw0⟩ := hR.1 a0 _ g0
  obtain ⟨h991, hw1⟩ := hR.1 a _ g1
  have h90 := h990 rfl
  have h91 := h991 rfl
  have hc0 : H[a0]? = some (vp_cell (E.2.1 .long) (n0, .inr (.inl f))) := h90
  have hc1 : H[a]? = some (vp_cell (E.2.1 .long) (n1, .inr (.inl g))) := h91
  have hnw : nativeFrameWords "java/lang/System" "arraycopy" 5 ≤ 30 := by decide +kernel
  intro T hT X
  obtain ⟨-, k0, hk0, cm0, hkk0⟩ := (hK.2 1 _ rfl).1 n0 (fun j => .long (f j))
  obtain ⟨-, k1, hk1, cm1, hkk1⟩ := (hK.2 1 _ rfl).1 n1 (fun j => .long (g j))
  obtain ⟨vm', X', step⟩ := X.arraycopy C.1 C.2.2.2.1 (hts _ hw.1) (hts _ hw.2.1) (hts _ hw.2.2.1) (hts _ hw.2.2.2) (src := a0) (dst := a) (cs := vp_cell (E.2.1 .long) (n0, .inr (.inl f))) (cd := vp_cell (E.2.1 .long) (n1, .inr (.inl g))) (srcPos := sp) (destPos := dp) (n := n) (by rw [hT]; exact hc0) (by rw [hT]; exact hc1)
    (fun _ h => by cases h) (fun _ h => by cases h) (fun h => by cases h) (fun h => by cases h) hk0 hk1 hkk0 hkk1 (by simp [refKind]) b1 b2 b3
    (by rw [nn sp b1, nn n b3]; show ¬ _ > ((arrV (E.2.1 .long) n0 (fun j => .long (f j))).slots.size : Int); rw [arrV_size]; omega)
    (by rw [nn dp b2, nn n b3]; show ¬ _ > ((arrV (E.2.1 .long) n1 (fun j => .long (g j))).slots.size : Int); rw [arrV_size]; omega)
    (fun vm₁ _ i hi => by
      have e : (vp_cell (E.2.1 .long) (n0, .inr (.inl f))).slots.getD (sp.toNatClampNeg + i) .null = .long (f (sp.toNatClampNeg + i)) := by
        show (arrV (E.2.1 .long) n0 (fun j => .long (f j))).slots.getD _ _ = _
        rw [Array.getD_eq_getD_getElem?, arrV_read _ _ (by omega)]
        rfl
      refine ⟨?_, ?_⟩
      · rw [e]
        rfl
      · rw [e]
        exact trivial)
    (g := F0 m pc ls (.int n :: .int dp :: .ref a :: .int sp :: .ref a0 :: st)) rfl (by rw [C.2.2.1]; exact hl.1) (rest := st) rfl (by rw [C.2.1]; exact hd) (Nat.le_trans hdd hRm.1) (by show 2 * 0 + _ + (nativeFrameWords "java/lang/System" "arraycopy" 5 + 11) ≤ R.locals; have := hRm.2.1; omega)
  have e1 : copied (vp_cell (E.2.1 .long) (n0, .inr (.inl f))) (vp_cell (E.2.1 .long) (n1, .inr (.inl g))) sp dp n = vp_cell (E.2.1 .long) (n1, .inr (.inl (va_cpy f g sp.toNatClampNeg dp.toNatClampNeg n.toNatClampNeg))) := va_copied (fun z => .long z) _ _ f g b4
  rw [e1] at X' step
  have hlt : a < H.size := (Array.getElem?_eq_some_iff.mp hc1).1
  have hheap : ((T.setVm vm').setCell a (vp_cell (E.2.1 .long) (n1, .inr (.inl (va_cpy f g sp.toNatClampNeg dp.toNatClampNeg n.toNatClampNeg))))).heap = H.setIfInBounds a (vp_cell (E.2.1 .long) (n1, .inr (.inl (va_cpy f g sp.toNatClampNeg dp.toNatClampNeg n.toNatClampNeg)))) := by rw [← hT]; rfl
  have oq : ∀ q : Nat, q ≠ a → (H.setIfInBounds a (vp_cell (E.2.1 .long) (n1, .inr (.inl (va_cpy f g sp.toNatClampNeg dp.toNatClampNeg n.toNatClampNeg)))))[q]? = H[q]? := fun q hq => by simp [Array.getElem?_setIfInBounds, Ne.symm hq]
  obtain ⟨t, a1, b1⟩ := k _ _ ls cells slots hl (hR.set (show j_w E a (.inl (.long, (n1, .inr (.inl (va_cpy f g sp.toNatClampNeg dp.toNatClampNeg n.toNatClampNeg))))) from hw1) (show (H.setIfInBounds a _)[a]? = some _ by simp [Array.getElem?_setIfInBounds, hlt]) (by simp) oq) ⟨by simp; exact hS.1, fun q g1 g2 => by
      rw [oq q (fun e => g2 (by rw [e]; exact hw1.1))]
      exact hS.2.1 q g1 g2, fun q hq => by
      rcases List.mem_append.mp hq with h | h
      · exact hS.2.2 q h
      · obtain ⟨z, -, hz⟩ := List.mem_map.mp h
        rw [← hz]
        exact hw1.1⟩ hc hs hcl hsl _ hheap X'
  exact ⟨t, step t a1, b1⟩
theorem x_mna (C : j_C p s m args meth c R E cc nL own h0 hF d) {idx : Nat} {ty : FieldType} {n k9 : Int32} {q : Nat} {h1 : JH} (hd : decode cc pc = .ok (.multianewarray idx 2, 4)) (ht : FieldType.array ty ∈ j_tys) (ht2 : ty ∈ j_tys) (hcb : componentBytes ty ≤ 8) (hnm : va_RA s (E.2.1 (.array ty)) (.array ty) → s.vm.findClass ("[" ++ (FieldType.array ty).toString) = some (E.2.1 (.array ty))) (hnm2 : va_RA s (E.2.1 ty) ty → s.vm.findClass (FieldType.array ty).toString = some (E.2.1 ty)) (hin : ∀ cA, Jvm.Free.Multi.innerC cA k9.toNatClampNeg (defaultValue ty) = vp_cell cA (k9.toNatClampNeg, jz0 ty)) (hdf : fits ty (defaultValue ty) = true) (hdd : (defaultValue ty).isDefault = true)
    (hw : Cond.classLink own idx ("[" ++ (FieldType.array ty).toString) ∈ j_tbl ∧ Cond.arrayOver (.array ty) ∈ lw_tbl ∧ Cond.arrayClass ty ∈ j_tbl) (hg : jnM h ty n k9 = some (q, h1)) (hle : h1.2.1.1 ≤ hF.2.1.1 ∧ h1.2.1.2 ≤ hF.2.1.2) (k : Xq p l e R s m args below meth c E nL h0 Q (pc + 4) L (.ref q :: st) h1) : Xq p l e R s m args below meth c E nL h0 Q pc L (.int k9 :: .int n :: st) h := by
  intro H locs ls cells slots hl hR hS hc hs hcl hsl
  obtain ⟨g1, g2, g3, g4, rfl, rfl⟩ := jnM_some hg
  have hts := C.2.2.2.2.1
  have hK := C.2.2.2.2.2.1.1
  have hRm := C.2.2.2.2.2.2.2
  have hle1 : h.2.1.1 + 1 + n.toNatClampNeg ≤ hF.2.1.1 := hle.1
  have hle2 : h.2.1.2 + n.toNatClampNeg + n.toNatClampNeg * k9.toNatClampNeg ≤ hF.2.1.2 := hle.2
  have r1 : cells + (1 + n.toNatClampNeg) ≤ R.cells := by have := hRm.2.2.1; omega
  have r2 : slots + (n.toNatClampNeg + n.toNatClampNeg * k9.toNatClampNeg) ≤ R.slots := by have := hRm.2.2.2; omega
  obtain ⟨t0, ht0⟩ := j_Tget E ht
  obtain ⟨t2, ht20⟩ := j_Tget E ht2
  have hsz := hR.2.1
  intro T hT Xs
  obtain ⟨vm₁, cA, comp, -, fA, fC, hO, -, X', step⟩ := Xs.multianewarray2F C.1 C.2.2.2.1 (hts _ hw.1) (show (Cond.arrayOver (.array ty)).before args s = true from C.2.2.2.2.2.1.2.2.2.1.2.2.1 _ hw.2.1) (hts _ hw.2.2) (g := F0 m pc ls (.int k9 :: .int n :: st)) rfl (by rw [C.2.1]; exact hd) rfl g1 g2 (by omega) (by have := Nat.mul_le_mul g4 hcb; omega) (by omega) hdf hdd r1 r2
  have ec : E.2.1 ty = comp := Option.some.inj ((hnm2 (hK.2 t2 _ ht20).2).symm.trans fC)
  have eA : E.2.1 (.array ty) = cA := Option.some.inj ((hnm (hK.2 t0 _ ht0).2).symm.trans fA)
  subst ec
  subst eA
  generalize hF9 : Jvm.Free.Multi.fill (T.setVm vm₁) (E.2.1 (.array ty)) (E.2.1 ty) n.toNatClampNeg k9.toNatClampNeg (defaultValue ty) n.toNatClampNeg = F at X' step
  have hTh : (T.setVm vm₁).heap = H := hT
  obtain ⟨f1, f2, -, -⟩ := Jvm.Free.Multi.fill_facts (T.setVm vm₁) (E.2.1 (.array ty)) (E.2.1 ty) n.toNatClampNeg k9.toNatClampNeg (defaultValue ty) n.toNatClampNeg
  rw [hF9, hTh] at f1 f2
  have hold : ∀ x : Nat, x < H.size → F.heap[x]? = H[x]? := fun x hx => by
    have := Jvm.Free.Multi.fill_old (T.setVm vm₁) (E.2.1 (.array ty)) (E.2.1 ty) n.toNatClampNeg k9.toNatClampNeg (defaultValue ty) (a := x) (by rw [hTh]; exact hx) n.toNatClampNeg
    rw [hF9, hTh] at this
    exact this
  have hrow : ∀ j : Nat, j < n.toNatClampNeg → F.heap[H.size + 1 + j]? = some (vp_cell (E.2.1 ty) (k9.toNatClampNeg, jz0 ty)) := fun j hj => by
    have := Jvm.Free.Multi.fill_inner (T.setVm vm₁) (E.2.1 (.array ty)) (E.2.1 ty) n.toNatClampNeg k9.toNatClampNeg (defaultValue ty) n.toNatClampNeg j hj
    rw [hF9, hTh, hin] at this
    exact this
  have hout : Jvm.Free.Multi.outerC (E.2.1 (.array ty)) n.toNatClampNeg H.size n.toNatClampNeg = vp_cell (E.2.1 (.array ty)) (n.toNatClampNeg, .inr (.inr (.inr (.inr (fun i => if i < n.toNatClampNeg then some (H.size + 1 + i) else none))))) := by
    rw [vp_cell_q]
    exact vr_outer (E.2.1 (.array ty)) n.toNatClampNeg H.size n.toNatClampNeg
  rw [hout] at f2
  have hb : E.2.2.1 ≤ H.size := Nat.le_trans C.2.2.2.2.2.1.2.1 hS.1
  have hrep : j_R E (fun q => if q = h.2.1.1 then some (.inl (.array ty, (n.toNatClampNeg, .inr (.inr (.inr (.inr (fun i => if i < n.toNatClampNeg then some (h.2.1.1 + 1 + i) else none))))))) else if h.2.1.1 < q ∧ q < h.2.1.1 + 1 + n.toNatClampNeg then some (.inl (ty, (k9.toNatClampNeg, jz0 ty))) else h.1 q,
    ((h.2.1.1 + 1 + n.toNatClampNeg, h.2.1.2 + n.toNatClampNeg + n.toNatClampNeg * k9.toNatClampNeg), h.2.2)) F.heap := by
    rw [hsz] at f2 hrow f1 hb
    refine ⟨fun x y hx => ?_, by rw [f1], hR.2.2⟩
    have hx' : (if x = h.2.1.1 then some (.inl (.array ty, (n.toNatClampNeg, .inr (.inr (.inr (.inr (fun i => if i < n.toNatClampNeg then some (h.2.1.1 + 1 + i) else none))))))) else if h.2.1.1 < x ∧ x < h.2.1.1 + 1 + n.toNatClampNeg then some (.inl (ty, (k9.toNatClampNeg, jz0 ty))) else h.1 x) = some y := hx
    by_cases e1 : x = h.2.1.1
    · rw [if_pos e1] at hx'
      cases hx'
      subst e1
      exact ⟨fun _ => f2, hb, ht⟩
    · rw [if_neg e1] at hx'
      by_cases e2 : h.2.1.1 < x ∧ x < h.2.1.1 + 1 + n.toNatClampNeg
      · rw [if_pos e2] at hx'
        cases hx'
        have hj := hrow (x - (h.2.1.1 + 1)) (by omega)
        rw [show h.2.1.1 + 1 + (x - (h.2.1.1 + 1)) = x by omega] at hj
        exact ⟨fun _ => hj, Nat.le_trans hb (Nat.le_of_lt e2.1), ht2⟩
      · rw [if_neg e2] at hx'
        exact ⟨fun r => ((hR.1 x y hx').1 r).kept (hold x (((hR.1 x y hx').1 r).lt)), (hR.1 x y hx').2⟩
  obtain ⟨t, a1, b1⟩ := k F.heap locs ls (cells + 1 + n.toNatClampNeg) (slots + n.toNatClampNeg + n.toNatClampNeg * k9.toNatClampNeg) hl hrep ⟨by rw [f1]; have := hS.1; omega, fun x h1 h2 => (hold x (Nat.lt_of_lt_of_le h1 hS.1)).trans (hS.2.1 x h1 h2), hS.2.2⟩ (by show _ = h.2.1.1 + 1 + n.toNatClampNeg; omega) (by show _ = h.2.1.2 + n.toNatClampNeg + n.toNatClampNeg * k9.toNatClampNeg; omega) (by omega) (by omega) F rfl X'
  refine ⟨t, step t ?_, b1⟩
  have e : T.heap.size = h.2.1.1 := by rw [hT]; exact hsz
  rw [e]
  exact a1
theorem x_gets (C : j_C p s m args meth c R E cc nL own h0 hF d) {idx i : Nat} {nm : String} (hd : decode cc pc = .ok (.getstatic idx, 3)) (hw : Cond.fieldLink own idx "HeckeSeries$BookReader" nm "[I" ∈ j_tbl) (hn : (i = 0 ∧ nm = "FOUR_HEAD") ∨ (i = 1 ∧ nm = "SIX_HEAD") ∨ (i = 2 ∧ nm = "DELTA_HEAD")) (k : Xq p l e R s m args below meth c E nL h0 Q (pc + 3) L (.ref (h.2.2 i) :: st) h) : Xq p l e R s m args below meth c E nL h0 Q pc L st h := by
  intro H locs ls cells slots hl hR hS hc hs hcl hsl
  have hz := hR.2.2
  have hZ := C.2.2.2.2.2.1.2.2.1.1
  have kk := k H locs ls cells slots hl hR hS hc hs hcl hsl
  rw [hz] at kk
  rcases hn with ⟨rfl, rfl⟩ | ⟨rfl, rfl⟩ | ⟨rfl, rfl⟩
  · exact va_gets C.1 C.2.1 hZ.1 hS C.2.2.2.1 (C.2.2.2.2.1 _ hw) (fun _ q => q) hd kk
  · exact va_gets C.1 C.2.1 hZ.2.1 hS C.2.2.2.1 (C.2.2.2.2.1 _ hw) (fun _ q => q) hd kk
  · exact va_gets C.1 C.2.1 hZ.2.2 hS C.2.2.2.1 (C.2.2.2.2.1 _ hw) (fun _ q => q) hd kk
theorem x_mmax (C : j_C p s m args meth c R E cc nL own h0 hF d) {idx : Nat} {x y : Int32} (hd : decode cc pc = .ok (.invokestatic idx, 3)) (hw : Cond.methodLink own idx Lib.Math.max.name ∈ j_tbl ∧ Cond.static Lib.Math.max.name ∈ j_tbl ∧ Cond.initialized "java/lang/Math" ∈ j_tbl ∧ Cond.code Lib.Math.max.name Lib.Math.max.code 2 (some .int) ∈ j_tbl) (hdd : 1 ≤ d) (hrest : (st.map fun v => v.category).sum ≤ 8) (k : Xq p l e R s m args below meth c E nL h0 Q (pc + 3) L (.int (if x < y then y else x) :: st) h) : Xq p l e R s m args below meth c E nL h0 Q pc L (.int y :: .int x :: st) h := by
  intro H locs ls cells slots hl hR hS hc hs hcl hsl
  have hts := C.2.2.2.2.1
  have hRm := C.2.2.2.2.2.2.2
  refine va_mmax C.1 C.2.1 (by rw [C.2.2.1]; exact hl.1.symm) C.2.2.2.1 (hts _ hw.1) (hts _ hw.2.1) (hts _ hw.2.2.1) (hts _ hw.2.2.2) (Nat.le_trans hdd hRm.1) (by have := hRm.2.1; omega) hcl hsl hd (k H locs ls cells slots hl hR hS hc hs hcl hsl)
theorem x_mmin (C : j_C p s m args meth c R E cc nL own h0 hF d) {idx : Nat} {x y : Int32} (hd : decode cc pc = .ok (.invokestatic idx, 3)) (hw : Cond.methodLink own idx Lib.Math.min.name ∈ j_tbl ∧ Cond.static Lib.Math.min.name ∈ j_tbl ∧ Cond.initialized "java/lang/Math" ∈ j_tbl ∧ Cond.code Lib.Math.min.name Lib.Math.min.code 2 (some .int) ∈ j_tbl) (hdd : 1 ≤ d) (hrest : (st.map fun v => v.category).sum ≤ 8) (k : Xq p l e R s m args below meth c E nL h0 Q (pc + 3) L (.int (if y < x then y else x) :: st) h) : Xq p l e R s m args below meth c E nL h0 Q pc L (.int y :: .int x :: st) h := by
  intro H locs ls cells slots hl hR hS hc hs hcl hsl
  have hts := C.2.2.2.2.1
  have hRm := C.2.2.2.2.2.2.2
  refine va_mmin C.1 C.2.1 (by rw [C.2.2.1]; exact hl.1.symm) C.2.2.2.1 (hts _ hw.1) (hts _ hw.2.1) (hts _ hw.2.2.1) (hts _ hw.2.2.2) (Nat.le_trans hdd hRm.1) (by have := hRm.2.1; omega) hcl hsl hd (k H locs ls cells slots hl hR hS hc hs hcl hsl)
theorem x_mabs (C : j_C p s m args meth c R E cc nL own h0 hF d) {idx : Nat} {x : Int64} (hd : decode cc pc = .ok (.invokestatic idx, 3)) (hw : Cond.methodLink own idx Lib.MathLoose.abs_long.x ∈ j_tbl ∧ Cond.static Lib.MathLoose.abs_long.x ∈ j_tbl ∧ Cond.initialized "java/lang/Math" ∈ j_tbl ∧ Cond.code Lib.MathLoose.abs_long.x Lib.MathLoose.abs_long.code 2 (some .long) ∈ j_tbl) (hdd : 1 ≤ d) (hrest : (st.map fun v => v.category).sum ≤ 8) (k : Xq p l e R s m args below meth c E nL h0 Q (pc + 3) L (.long (if 0 < x then x else -x) :: st) h) : Xq p l e R s m args below meth c E nL h0 Q pc L (.long x :: st) h := by
  intro H locs ls cells slots hl hR hS hc hs hcl hsl
  have hts := C.2.2.2.2.1
  have hRm := C.2.2.2.2.2.2.2
  refine va_mabs_long C.1 C.2.1 (by rw [C.2.2.1]; exact hl.1.symm) C.2.2.2.1 (hts _ hw.1) (hts _ hw.2.1) (hts _ hw.2.2.1) (hts _ hw.2.2.2) (Nat.le_trans hdd hRm.1) (by have := hRm.2.1; omega) hcl hsl hd (k H locs ls cells slots hl hR hS hc hs hcl hsl)
theorem x_f2raw (C : j_C p s m args meth c R E cc nL own h0 hF d) {idx : Nat} {x : UInt32} (hd : decode cc pc = .ok (.invokestatic idx, 3)) (hw : Cond.methodLink own idx ⟨"java/lang/Float", "floatToRawIntBits", "(F)I"⟩ ∈ j_tbl ∧ Cond.native ⟨"java/lang/Float", "floatToRawIntBits", "(F)I"⟩ ∈ j_tbl ∧ Cond.static ⟨"java/lang/Float", "floatToRawIntBits", "(F)I"⟩ ∈ j_tbl ∧ Cond.initialized "java/lang/Float" ∈ j_tbl) (hdd : 1 ≤ d) (hrest : (st.map fun v => v.category).sum ≤ 8) (k : Xq p l e R s m args below meth c E nL h0 Q (pc + 3) L (.int x.toInt32 :: st) h) : Xq p l e R s m args below meth c E nL h0 Q pc L (.float x :: st) h := by
  intro H locs ls cells slots hl hR hS hc hs hcl hsl
  have hts := C.2.2.2.2.1
  have hRm := C.2.2.2.2.2.2.2
  exact vn_f2i C.1 C.2.1 (by rw [C.2.2.1]; exact hl.1.symm) C.2.2.2.1 (hts _ hw.1) (hts _ hw.2.1) (hts _ hw.2.2.1) (hts _ hw.2.2.2) (Nat.le_trans hdd hRm.1) (by have := hRm.2.1; omega) hd (k H locs ls cells slots hl hR hS hc hs hcl hsl)
theorem x_objInit (C : j_C p s m args meth c R E cc nL own h0 hF d) {idx : Nat} {a : Nat} (hd : decode cc pc = .ok (.invokespecial idx, 3)) (hw : Cond.methodLink own idx Lib.objectInit ∈ j_tbl ∧ Cond.instanceMethod Lib.objectInit ∈ j_tbl ∧ Cond.code Lib.objectInit ⟨#[0xb1]⟩ 1 none ∈ j_tbl) (hdd : 1 ≤ d) (hrest : (st.map fun v => v.category).sum ≤ 8) (k : Xq p l e R s m args below meth c E nL h0 Q (pc + 3) L st h) : Xq p l e R s m args below meth c E nL h0 Q pc L (.ref a :: st) h := by
  intro H locs ls cells slots hl hR hS hc hs hcl hsl
  have hts := C.2.2.2.2.1
  have hRm := C.2.2.2.2.2.2.2
  exact W.objInit C.1 C.2.1 C.2.2.2.1 (hts _ hw.1) (hts _ hw.2.1) (hts _ hw.2.2) rfl (by rw [C.2.2.1]; exact hl.1) rfl hd (Nat.le_trans hdd hRm.1) (by show 2 * 0 + _ + 12 ≤ R.locals; have := hRm.2.1; omega) (k H locs ls cells slots hl hR hS hc hs hcl hsl)
theorem j_call {H : Heap} {locs : List Loc} {ls : Array Slot} {cells slots mc ms : Nat} {r : Option Value} {h1 : JH} {rest : List Value} {a : Array Value} (hr : va_Run p l e R s m args below meth c H locs cells slots mc ms (F0 m pc ls st) rest (j_Q E r h1 a) (j_A E)) (hS : va_S (j_A E) s.heap H locs)
    (kk : ∀ (H1 : Heap) (locs1 : List Loc), j_R E h1 H1 → va_S (j_A E) s.heap H1 locs1 → W p l e R s m args below meth c H1 locs1 (cells + mc) (slots + ms) Q (F0 m (pc + 3) ls (r.toList ++ rest))) : W p l e R s m args below meth c H locs cells slots Q (F0 m pc ls st) := by
  intro T hT X
  obtain ⟨v, st₀, t, T', L9, e0, X', hL, e1, e2, ⟨⟨hv, hB⟩, hz, hk⟩, step⟩ := hr T hT X
  cases hv
  rw [e0] at hz hk
  obtain ⟨t2, a1, b1⟩ := kk T'.heap (locs ++ L9) (by rw [e1]; exact hB)
    ⟨Nat.le_trans hS.1 (by rw [e1]; exact hz), fun q g1 g2 => by rw [e1, hk q (Nat.lt_of_lt_of_le g1 hS.1) g2]; exact hS.2.1 q g1 g2, fun q hq => by
      rcases List.mem_append.mp hq with h | h
      · exact hS.2.2 q h
      · exact hL q h⟩ T' rfl X'
  exact ⟨t2, step t2 a1, b1⟩
/-- a method that is called: its words -/
def j_m (y : MethodName) (cy : ByteArray) (mL : Nat) (rt : Option FieldType) (n : Nat) : Prop := Cond.code y cy mL rt ∈ j_tbl ∧ Cond.initialized y.cls ∈ j_tbl ∧ mL ≤ 41 ∧ y.cls ≠ "java/lang/invoke/MethodHandle" ∧ y.cls ≠ "java/lang/invoke/VarHandle" ∧ (parseMethodDescriptor y.desc).map (fun d => d.parameters.length) = some n
theorem x_callS (C : j_C p s m args meth c R E cc nL own h0 hF d) {idx n d1 mL : Nat} {y : MethodName} {cy : ByteArray} {rt : Option FieldType} {As rest : List Value}  {r : Option Value} {h1 : JH}  (hd : decode cc pc = .ok (.invokestatic idx, 3)) (hcon : Con l E d1 y cy mL rt As h r h1) (hm : j_m y cy mL rt n) (hlk : Cond.methodLink own idx y ∈ j_tbl) (hk9 : Cond.static y ∈ j_tbl) (hn : As.length = n) (hdd : d1 + 1 ≤ d) (hrest : (rest.map fun v => v.category).sum ≤ 8) (hle : h.2.1.1 ≤ h1.2.1.1 ∧ h.2.1.2 ≤ h1.2.1.2) (hle2 : (h1.2.1.1 ≤ hF.2.1.1 ∧ h1.2.1.2 ≤ hF.2.1.2) ∨ h1.2.1 = h.2.1) (k : Xq p l e R s m args below meth c E nL h0 Q (pc + 3) L (r.toList ++ rest) h1) : Xq p l e R s m args below meth c E nL h0 Q pc L (As.reverse ++ rest) h := by
  intro H locs ls cells slots hl hR hS hc hs hcl hsl
  have hts := C.2.2.2.2.1
  have hRm := C.2.2.2.2.2.2.2
  have hroom : (j_rm d1 (h1.2.1.1 - h.2.1.1) (h1.2.1.2 - h.2.1.2)).frames + 1 ≤ R.frames ∧ 8 + (mL + 11) + (j_rm d1 (h1.2.1.1 - h.2.1.1) (h1.2.1.2 - h.2.1.2)).locals ≤ R.locals := by
    have := hm.2.2.1
    have := hRm.2.1
    exact ⟨Nat.le_trans hdd hRm.1, by show 8 + (mL + 11) + 60 * d1 ≤ R.locals; omega⟩
  have hfit : cells + (h1.2.1.1 - h.2.1.1) ≤ R.cells ∧ slots + (h1.2.1.2 - h.2.1.2) ≤ R.slots := by
    rcases hle2 with q | q
    · have := hRm.2.2.1
      have := hRm.2.2.2
      exact ⟨by omega, by omega⟩
    · rw [q]
      exact ⟨by omega, by omega⟩
  refine j_call (va_runS (As := As) (rest := rest) (n := n) ⟨C.1, C.2.1, C.2.2.1, C.2.2.2.1, hts⟩ hcon ⟨callB_of n hts (j_goodIn hm.1 (fun _ q => q)) rfl rfl rfl (hts _ hm.2.1) (hts _ hlk) ⟨hm.2.2.2.1, hm.2.2.2.2.1, hm.2.2.2.2.2⟩ hroom, hts _ hk9⟩ ⟨j_blind E _ h, fun U hU hW => ⟨rfl, by rw [hU]; exact hR, C.2.2.2.2.2.1.warm hS hU hW⟩⟩ rfl hn hl.1 rfl (lv_room hrest) hd hfit) hS (fun H1 locs1 hR1 hS1 => ?_)
  exact k H1 locs1 ls _ _ hl hR1 hS1 (by omega) (by omega) hfit.1 hfit.2
theorem x_callV (C : j_C p s m args meth c R E cc nL own h0 hF d) {idx n d1 mL : Nat} {y : MethodName} {cy : ByteArray} {rt : Option FieldType} {As rest : List Value} {b : Nat} {r : Option Value} {h1 : JH}  (hd : decode cc pc = .ok (.invokevirtual idx, 3)) (hcon : Con l E d1 y cy mL rt (.ref b :: As) h r h1) (hm : j_m y cy mL rt n) (hlk : Cond.methodLink own idx y ∈ j_tbl) (hk9 : Cond.instanceMethod y ∈ j_tbl ∧ Cond.selects y.cls y y ∈ j_tbl) {ci : Nat} (hcn : jcn ci = y.cls) (hrecv : jrecv h b ci = some ()) (hn : As.length = n) (hdd : d1 + 1 ≤ d) (hrest : (rest.map fun v => v.category).sum ≤ 8) (hle : h.2.1.1 ≤ h1.2.1.1 ∧ h.2.1.2 ≤ h1.2.1.2) (hle2 : (h1.2.1.1 ≤ hF.2.1.1 ∧ h1.2.1.2 ≤ hF.2.1.2) ∨ h1.2.1 = h.2.1) (k : Xq p l e R s m args below meth c E nL h0 Q (pc + 3) L (r.toList ++ rest) h1) : Xq p l e R s m args below meth c E nL h0 Q pc L (As.reverse ++ .ref b :: rest) h := by
  intro H locs ls cells slots hl hR hS hc hs hcl hsl
  have hts := C.2.2.2.2.1
  have hRm := C.2.2.2.2.2.2.2
  obtain ⟨fs9, g9⟩ := jrecv_some hrecv
  have hcell : ∃ cell : Cell, H[b]? = some cell ∧ cell.vm.isStatics = false ∧ s.vm.findClass y.cls = some cell.cls := by
    obtain ⟨hat9, -⟩ := hR.1 b _ g9
    obtain ⟨r9, hr9, -⟩ := hat9 rfl
    have hr9' : vwCl[ci]? = some r9 := hr9
    have e9 : jcn ci = r9.1 := by unfold jcn; rw [hr9']
    rw [← hcn, e9]
    exact va_recv C.2.2.2.2.2.1.1 (hR.at g9) hr9' (q0 := 0) rfl
  have hroom : (j_rm d1 (h1.2.1.1 - h.2.1.1) (h1.2.1.2 - h.2.1.2)).frames + 1 ≤ R.frames ∧ 8 + (mL + 11) + (j_rm d1 (h1.2.1.1 - h.2.1.1) (h1.2.1.2 - h.2.1.2)).locals ≤ R.locals := by
    have := hm.2.2.1
    have := hRm.2.1
    exact ⟨Nat.le_trans hdd hRm.1, by show 8 + (mL + 11) + 60 * d1 ≤ R.locals; omega⟩
  have hfit : cells + (h1.2.1.1 - h.2.1.1) ≤ R.cells ∧ slots + (h1.2.1.2 - h.2.1.2) ≤ R.slots := by
    rcases hle2 with q | q
    · have := hRm.2.2.1
      have := hRm.2.2.2
      exact ⟨by omega, by omega⟩
    · rw [q]
      exact ⟨by omega, by omega⟩
  refine j_call (va_runV (As := As) (rest := rest) (n := n) ⟨C.1, C.2.1, C.2.2.1, C.2.2.2.1, hts⟩ hcon ⟨callB_of n hts (j_goodIn hm.1 (fun _ q => q)) rfl rfl rfl (hts _ hm.2.1) (hts _ hlk) ⟨hm.2.2.2.1, hm.2.2.2.2.1, hm.2.2.2.2.2⟩ hroom, hts _ hk9.1, hts _ hk9.2⟩ ⟨j_blind E _ h, hcell, fun U hU hW => ⟨rfl, by rw [hU]; exact hR, C.2.2.2.2.2.1.warm hS hU hW⟩⟩ rfl hn hl.1 rfl (lv_room hrest) hd hfit) hS (fun H1 locs1 hR1 hS1 => ?_)
  exact k H1 locs1 ls _ _ hl hR1 hS1 (by omega) (by omega) hfit.1 hfit.2
theorem x_callI (C : j_C p s m args meth c R E cc nL own h0 hF d) {idx n d1 mL : Nat} {y : MethodName} {cy : ByteArray}  {As rest : List Value} {b : Nat} {r : Option Value} {h1 : JH}  (hd : decode cc pc = .ok (.invokespecial idx, 3)) (hcon : Con l E d1 y cy mL none (.ref b :: As) h r h1) (hm : j_m y cy mL none n) (hlk : Cond.methodLink own idx y ∈ j_tbl) (hk9 : Cond.instanceMethod y ∈ j_tbl ∧ y.name = "<init>") (hn : As.length = n) (hdd : d1 + 1 ≤ d) (hrest : (rest.map fun v => v.category).sum ≤ 8) (hle : h.2.1.1 ≤ h1.2.1.1 ∧ h.2.1.2 ≤ h1.2.1.2) (hle2 : (h1.2.1.1 ≤ hF.2.1.1 ∧ h1.2.1.2 ≤ hF.2.1.2) ∨ h1.2.1 = h.2.1) (k : Xq p l e R s m args below meth c E nL h0 Q (pc + 3) L (r.toList ++ rest) h1) : Xq p l e R s m args below meth c E nL h0 Q pc L (As.reverse ++ .ref b :: rest) h := by
  intro H locs ls cells slots hl hR hS hc hs hcl hsl
  have hts := C.2.2.2.2.1
  have hRm := C.2.2.2.2.2.2.2
  have hroom : (j_rm d1 (h1.2.1.1 - h.2.1.1) (h1.2.1.2 - h.2.1.2)).frames + 1 ≤ R.frames ∧ 8 + (mL + 11) + (j_rm d1 (h1.2.1.1 - h.2.1.1) (h1.2.1.2 - h.2.1.2)).locals ≤ R.locals := by
    have := hm.2.2.1
    have := hRm.2.1
    exact ⟨Nat.le_trans hdd hRm.1, by show 8 + (mL + 11) + 60 * d1 ≤ R.locals; omega⟩
  have hfit : cells + (h1.2.1.1 - h.2.1.1) ≤ R.cells ∧ slots + (h1.2.1.2 - h.2.1.2) ≤ R.slots := by
    rcases hle2 with q | q
    · have := hRm.2.2.1
      have := hRm.2.2.2
      exact ⟨by omega, by omega⟩
    · rw [q]
      exact ⟨by omega, by omega⟩
  refine j_call (va_runI (As := As) (rest := rest) (n := n) ⟨C.1, C.2.1, C.2.2.1, C.2.2.2.1, hts⟩ hcon ⟨callB_of n hts (j_goodIn hm.1 (fun _ q => q)) rfl rfl rfl (hts _ hm.2.1) (hts _ hlk) ⟨hm.2.2.2.1, hm.2.2.2.2.1, hm.2.2.2.2.2⟩ hroom, hk9.2, hts _ hk9.1⟩ ⟨j_blind E _ h, fun U hU hW => ⟨rfl, by rw [hU]; exact hR, C.2.2.2.2.2.1.warm hS hU hW⟩⟩ rfl hn hl.1 rfl (lv_room hrest) hd hfit) hS (fun H1 locs1 hR1 hS1 => ?_)
  exact k H1 locs1 ls _ _ hl hR1 hS1 (by omega) (by omega) hfit.1 hfit.2
theorem x_callSN (C : j_C p s m args meth c R E cc nL own h0 hF d) {idx n d1 mL : Nat} {y : MethodName} {cy : ByteArray} {rt : Option FieldType} {As rest : List Value}  {r : Option Value} {h1 : JH} {host : String} (hd : decode cc pc = .ok (.invokestatic idx, 3)) (hcon : Con l E d1 y cy mL rt As h r h1) (hm : j_m y cy mL rt n) (hlk : Cond.methodLinkNest own idx y host ∈ lw_tbl) (hk9 : Cond.static y ∈ j_tbl) (hn : As.length = n) (hdd : d1 + 1 ≤ d) (hrest : (rest.map fun v => v.category).sum ≤ 8) (hle : h.2.1.1 ≤ h1.2.1.1 ∧ h.2.1.2 ≤ h1.2.1.2) (hle2 : (h1.2.1.1 ≤ hF.2.1.1 ∧ h1.2.1.2 ≤ hF.2.1.2) ∨ h1.2.1 = h.2.1) (k : Xq p l e R s m args below meth c E nL h0 Q (pc + 3) L (r.toList ++ rest) h1) : Xq p l e R s m args below meth c E nL h0 Q pc L (As.reverse ++ rest) h := by
  intro H locs ls cells slots hl hR hS hc hs hcl hsl
  have hts := C.2.2.2.2.1
  have hRm := C.2.2.2.2.2.2.2
  have hroom : (j_rm d1 (h1.2.1.1 - h.2.1.1) (h1.2.1.2 - h.2.1.2)).frames + 1 ≤ R.frames ∧ 8 + (mL + 11) + (j_rm d1 (h1.2.1.1 - h.2.1.1) (h1.2.1.2 - h.2.1.2)).locals ≤ R.locals := by
    have := hm.2.2.1
    have := hRm.2.1
    exact ⟨Nat.le_trans hdd hRm.1, by show 8 + (mL + 11) + 60 * d1 ≤ R.locals; omega⟩
  have hfit : cells + (h1.2.1.1 - h.2.1.1) ≤ R.cells ∧ slots + (h1.2.1.2 - h.2.1.2) ≤ R.slots := by
    rcases hle2 with q | q
    · have := hRm.2.2.1
      have := hRm.2.2.2
      exact ⟨by omega, by omega⟩
    · rw [q]
      exact ⟨by omega, by omega⟩
  refine j_call (va_runSN (As := As) (rest := rest) (n := n) ⟨C.1, C.2.1, C.2.2.1, C.2.2.2.1, hts⟩ hcon ⟨va_cnB n hts (j_goodIn hm.1 (fun _ q => q)) rfl rfl rfl (C.2.2.2.2.2.1.2.2.2.1.1 _ _ _ _ hlk) (hts _ hm.2.1) ⟨hm.2.2.2.1, hm.2.2.2.2.1, hm.2.2.2.2.2⟩ hroom, hts _ hk9, trivial⟩ ⟨j_blind E _ h, fun U hU hW => ⟨rfl, by rw [hU]; exact hR, C.2.2.2.2.2.1.warm hS hU hW⟩⟩ rfl hn hl.1 rfl (lv_room hrest) hd hfit) hS (fun H1 locs1 hR1 hS1 => ?_)
  exact k H1 locs1 ls _ _ hl hR1 hS1 (by omega) (by omega) hfit.1 hfit.2
theorem x_callIN (C : j_C p s m args meth c R E cc nL own h0 hF d) {idx n d1 mL : Nat} {y : MethodName} {cy : ByteArray}  {As rest : List Value} {b : Nat} {r : Option Value} {h1 : JH} {host : String} (hd : decode cc pc = .ok (.invokespecial idx, 3)) (hcon : Con l E d1 y cy mL none (.ref b :: As) h r h1) (hm : j_m y cy mL none n) (hlk : Cond.methodLinkNest own idx y host ∈ lw_tbl) (hk9 : Cond.instanceMethod y ∈ j_tbl ∧ y.name = "<init>") (hn : As.length = n) (hdd : d1 + 1 ≤ d) (hrest : (rest.map fun v => v.category).sum ≤ 8) (hle : h.2.1.1 ≤ h1.2.1.1 ∧ h.2.1.2 ≤ h1.2.1.2) (hle2 : (h1.2.1.1 ≤ hF.2.1.1 ∧ h1.2.1.2 ≤ hF.2.1.2) ∨ h1.2.1 = h.2.1) (k : Xq p l e R s m args below meth c E nL h0 Q (pc + 3) L (r.toList ++ rest) h1) : Xq p l e R s m args below meth c E nL h0 Q pc L (As.reverse ++ .ref b :: rest) h := by
  intro H locs ls cells slots hl hR hS hc hs hcl hsl
  have hts := C.2.2.2.2.1
  have hRm := C.2.2.2.2.2.2.2
  have hroom : (j_rm d1 (h1.2.1.1 - h.2.1.1) (h1.2.1.2 - h.2.1.2)).frames + 1 ≤ R.frames ∧ 8 + (mL + 11) + (j_rm d1 (h1.2.1.1 - h.2.1.1) (h1.2.1.2 - h.2.1.2)).locals ≤ R.locals := by
    have := hm.2.2.1
    have := hRm.2.1
    exact ⟨Nat.le_trans hdd hRm.1, by show 8 + (mL + 11) + 60 * d1 ≤ R.locals; omega⟩
  have hfit : cells + (h1.2.1.1 - h.2.1.1) ≤ R.cells ∧ slots + (h1.2.1.2 - h.2.1.2) ≤ R.slots := by
    rcases hle2 with q | q
    · have := hRm.2.2.1
      have := hRm.2.2.2
      exact ⟨by omega, by omega⟩
    · rw [q]
      exact ⟨by omega, by omega⟩
  refine j_call (va_runIN (As := As) (rest := rest) (n := n) ⟨C.1, C.2.1, C.2.2.1, C.2.2.2.1, hts⟩ hcon ⟨va_cnB n hts (j_goodIn hm.1 (fun _ q => q)) rfl rfl rfl (C.2.2.2.2.2.1.2.2.2.1.1 _ _ _ _ hlk) (hts _ hm.2.1) ⟨hm.2.2.2.1, hm.2.2.2.2.1, hm.2.2.2.2.2⟩ hroom, hk9.2, hts _ hk9.1⟩ ⟨j_blind E _ h, fun U hU hW => ⟨rfl, by rw [hU]; exact hR, C.2.2.2.2.2.1.warm hS hU hW⟩⟩ rfl hn hl.1 rfl (lv_room hrest) hd hfit) hS (fun H1 locs1 hR1 hS1 => ?_)
  exact k H1 locs1 ls _ _ hl hR1 hS1 (by omega) (by omega) hfit.1 hfit.2
def ConW (l : Launch) (E : JE) (d : Nat) (y : MethodName) (cc : ByteArray) (mL : Nat) (ret : Option FieldType) (hh : List (Nat × Nat × Nat × Nat)) (av : List Value) (h : JH) (r : Option Value) (h1 : JH) : Prop :=
  Met l y (.codeWith y cc mL ret hh :: j_tbl) (j_rm d (h1.2.1.1 - h.2.1.1) (h1.2.1.2 - h.2.1.2)) (j_P E av h) (j_Q E r h1) (h1.2.1.1 - h.2.1.1) (h1.2.1.2 - h.2.1.2) (j_A E)
def j_mW (y : MethodName) (cy : ByteArray) (mL : Nat) (rt : Option FieldType) (hh : List (Nat × Nat × Nat × Nat)) (n : Nat) : Prop := Cond.codeWith y cy mL rt hh ∈ j_tbl ∧ Cond.initialized y.cls ∈ j_tbl ∧ mL ≤ 41 ∧ y.cls ≠ "java/lang/invoke/MethodHandle" ∧ y.cls ≠ "java/lang/invoke/VarHandle" ∧ (parseMethodDescriptor y.desc).map (fun d => d.parameters.length) = some n
theorem x_callSW (C : j_C p s m args meth c R E cc nL own h0 hF d) {idx n d1 mL : Nat} {y : MethodName} {cy : ByteArray} {rt : Option FieldType} {hh : List (Nat × Nat × Nat × Nat)} {As rest : List Value} {r : Option Value} {h1 : JH} (hd : decode cc pc = .ok (.invokestatic idx, 3)) (hcon : ConW l E d1 y cy mL rt hh As h r h1) (hm : j_mW y cy mL rt hh n) (hlk : Cond.methodLink own idx y ∈ j_tbl) (hk9 : Cond.static y ∈ j_tbl) (hn : As.length = n) (hdd : d1 + 1 ≤ d) (hrest : (rest.map fun v => v.category).sum ≤ 8) (hle : h.2.1.1 ≤ h1.2.1.1 ∧ h.2.1.2 ≤ h1.2.1.2) (hle2 : (h1.2.1.1 ≤ hF.2.1.1 ∧ h1.2.1.2 ≤ hF.2.1.2) ∨ h1.2.1 = h.2.1) (k : Xq p l e R s m args below meth c E nL h0 Q (pc + 3) L (r.toList ++ rest) h1) : Xq p l e R s m args below meth c E nL h0 Q pc L (As.reverse ++ rest) h := by
  intro H locs ls cells slots hl hR hS hc hs hcl hsl
  have hts := C.2.2.2.2.1
  have hRm := C.2.2.2.2.2.2.2
  have hroom : (j_rm d1 (h1.2.1.1 - h.2.1.1) (h1.2.1.2 - h.2.1.2)).frames + 1 ≤ R.frames ∧ 8 + (mL + 11) + (j_rm d1 (h1.2.1.1 - h.2.1.1) (h1.2.1.2 - h.2.1.2)).locals ≤ R.locals := by
    have := hm.2.2.1
    have := hRm.2.1
    exact ⟨Nat.le_trans hdd hRm.1, by show 8 + (mL + 11) + 60 * d1 ≤ R.locals; omega⟩
  have hfit : cells + (h1.2.1.1 - h.2.1.1) ≤ R.cells ∧ slots + (h1.2.1.2 - h.2.1.2) ≤ R.slots := by
    rcases hle2 with q | q
    · have := hRm.2.2.1
      have := hRm.2.2.2
      exact ⟨by omega, by omega⟩
    · rw [q]
      exact ⟨by omega, by omega⟩
  have hg : ∀ w ∈ j_tbl, goodWord w = true := fun w h => (List.mem_filter.mp h).2
  have hG : GoodIn j_tbl (va_wsS own idx y (.codeWith y cy mL rt hh :: j_tbl)) := by
    intro w hw
    unfold va_wsS at hw
    have hw2 : w ∈ j_tbl := by
      rcases List.mem_append.mp hw with q | q
      · simp only [List.mem_cons, List.not_mem_nil, or_false] at q
        rcases q with rfl | rfl | rfl
        · exact hlk
        · exact hk9
        · exact hm.2.1
      · rcases List.mem_cons.mp q with rfl | q
        · exact hm.1
        · exact q
    exact ⟨hw2, good_of_word (hg _ hw2)⟩
  refine j_call (vx_runSW (As := As) (rest := rest) (n := n) ⟨C.1, C.2.1, C.2.2.1, C.2.2.2.1, hts⟩ hcon (vx_cwSW n hts hG rfl rfl rfl ⟨hm.2.2.2.1, hm.2.2.2.2.1, hm.2.2.2.2.2⟩ hroom) ⟨j_blind E _ h, fun U hU hW => ⟨rfl, by rw [hU]; exact hR, C.2.2.2.2.2.1.warm hS hU hW⟩⟩ rfl hn hl.1 rfl (lv_room hrest) hd hfit) hS (fun H1 locs1 hR1 hS1 => ?_)
  exact k H1 locs1 ls _ _ hl hR1 hS1 (by omega) (by omega) hfit.1 hfit.2
theorem j_start {y : MethodName} {ret : Option FieldType} {av : List Value} (hy : plainName y.cls = true) (hav : (lg_sl av).length ≤ nL)
    (body : ∀ (p : Program) (e : Env) (s : State) (m : MethodId) (args : Array Value) (below : List Frame) (meth : Method) (c : Code), j_C p s m args meth c (j_rm d (hF.2.1.1 - h0.2.1.1) (hF.2.1.2 - h0.2.1.2)) E cc nL y.cls h0 hF d → meth.sig.returnType = ret → meth.name = y.name →
      Xw p l e (j_rm d (hF.2.1.1 - h0.2.1.1) (hF.2.1.2 - h0.2.1.2)) s m args below meth c E nL h0 rF hF 0 (lv_args 0 av) [] h0) : Con l E d y cc nL ret av h0 rF hF := by
  refine Met.ofW (cc := cc) (maxL := nL) (ret := ret) hy rfl ?_
  intro p e s m args below meth c s₁ B hml hv
  obtain ⟨rfl, hR, hK⟩ := hv
  have hts := atoms_spec (ws := j_ws y cc nL ret) B.pre
  have hl := lv_entry av (n := nL) hav
  rw [lg_entry_eq]
  refine body p e s m av.toArray below meth c ⟨B.exec, B.bytes, hml, findClass_of_methodNamed B.named, fun w hw => hts w (List.mem_cons_of_mem _ hw), hK, B.notSynchronized, Nat.le_refl _, Nat.le_refl _, Nat.le_refl _, Nat.le_refl _⟩ B.returns (name_of_methodNamed B.named B.method).1 s.heap [] _ 0 0 hl hR va_S.rf (by omega) (by omega) (Nat.zero_le _) (Nat.zero_le _)
theorem j_ofWF {y : MethodName} {ws ws' : List Cond} {rm : Room} {Pc : Array Value → State → Prop} {Qc : Array Value → State → Outcome → State → Prop} {mc ms : Nat} {free : Addr → Prop} {cc : ByteArray} {maxL : Nat} {ret : Option FieldType}
    (hy : plainFor y = true) (hw : ws = Cond.code y cc maxL ret :: ws')
    (body : ∀ p e s m args below meth c s₁, BodyLoose p l y (headSpec ws rm) cc maxL ret e s m args below meth c s₁ → c.maxLocals = maxL → Pc args s →
      W p l e (headSpec ws rm).room s m args below meth c s.heap [] 0 0 (MQ below Qc args s mc ms free) (entryFrame m args maxL)) : Met l y ws rm Pc Qc mc ms free := by
  refine MetFree.of_bodySF (code := cc) (maxLocals := maxL) (ret := ret) hy ?_ ?_
  · intro args s m h hn
    obtain ⟨meth, c, h1, h2, h3, h4, h5, h6, -, -⟩ := Cond.code_spec hn (atoms_spec (ws := ws) h _ (by rw [hw]; exact List.mem_cons_self))
    exact ⟨meth, c, h1, h2, h3, h4, h5, h6⟩
  · intro p e s m args below meth c s₁ B hml hP _
    have hh0 : s₁.heap = s.heap := by rw [B.state]; rfl
    obtain ⟨t, a1, o, b1, b2, b3⟩ := body p e s m args below meth c s₁ B hml hP s₁ hh0 (Stand.of_body B)
    exact ⟨t, o, a1, b1, b2, ⟨b3.1, b3.2⟩⟩
theorem j_startF {y : MethodName} {ret : Option FieldType} {av : List Value} (hy : plainFor y = true) (hav : (lg_sl av).length ≤ nL)
    (body : ∀ (p : Program) (e : Env) (s : State) (m : MethodId) (args : Array Value) (below : List Frame) (meth : Method) (c : Code), j_C p s m args meth c (j_rm d (hF.2.1.1 - h0.2.1.1) (hF.2.1.2 - h0.2.1.2)) E cc nL y.cls h0 hF d → meth.sig.returnType = ret → meth.name = y.name →
      Xw p l e (j_rm d (hF.2.1.1 - h0.2.1.1) (hF.2.1.2 - h0.2.1.2)) s m args below meth c E nL h0 rF hF 0 (lv_args 0 av) [] h0) : Con l E d y cc nL ret av h0 rF hF := by
  refine j_ofWF (cc := cc) (maxL := nL) (ret := ret) hy rfl ?_
  intro p e s m args below meth c s₁ B hml hv
  obtain ⟨rfl, hR, hK⟩ := hv
  have hts := atoms_spec (ws := j_ws y cc nL ret) B.pre
  have hl := lv_entry av (n := nL) hav
  rw [lg_entry_eq]
  refine body p e s m av.toArray below meth c ⟨B.exec, B.bytes, hml, findClass_of_methodNamed B.named, fun w hw => hts w (List.mem_cons_of_mem _ hw), hK, B.notSynchronized, Nat.le_refl _, Nat.le_refl _, Nat.le_refl _, Nat.le_refl _⟩ B.returns (name_of_methodNamed B.named B.method).1 s.heap [] _ 0 0 hl hR va_S.rf (by omega) (by omega) (Nat.zero_le _) (Nat.zero_le _)
end JR
