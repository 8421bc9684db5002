theorem j_R.at {E : JE} {h : JH} {H : Heap} (hR : j_R E h H) {a : Nat} {c : JC} (hc : h.1 a = some c) (hro : j_ro c = false := by rfl) : va_P E.1 vwCl [(a, j_E E.2.1 c)] H := by
  intro k q hq
  have hk : k < 1 := (List.getElem?_eq_some_iff.mp hq).1
  rw [show k = 0 by omega] at hq
  cases hq
  exact (hR.1 a c hc).1 hro
theorem j_R.set {E : JE} {h : JH} {H H1 : Heap} (hR : j_R E h H) {a : Nat} {c : JC} (hw : j_w E a c) (hat : va_at E.1 vwCl (a, j_E E.2.1 c) H1) (z : H1.size = H.size) (oq : ∀ q : Nat, q ≠ a → H1[q]? = H[q]?) : j_R E (j_set h a c) H1 := by
  refine ⟨fun q x hq => ?_, by rw [z]; exact hR.2.1, hR.2.2⟩
  by_cases e : q = a
  · subst e
    have hx : (if q = q then some c else h.1 q) = some x := hq
    rw [if_pos rfl] at hx
    cases hx
    exact ⟨fun _ => hat, hw⟩
  · have hx : (if q = a then some c else h.1 q) = some x := hq
    rw [if_neg e] at hx
    exact ⟨fun r => ((hR.1 q x hx).1 r).kept (oq q e), (hR.1 q x hx).2⟩
theorem j_R.push {E : JE} {h : JH} {H H1 : Heap} (hR : j_R E h H) {c : JC} {k : Nat} (hw : j_w E H.size c) (hat : va_at E.1 vwCl (H.size, j_E E.2.1 c) H1) (z : H1.size = H.size + 1) (oq : ∀ q : Nat, q < H.size → H1[q]? = H[q]?) : j_R E (j_new h c k) H1 := by
  refine ⟨fun q x hq => ?_, by rw [z, hR.2.1]; rfl, hR.2.2⟩
  have hx : (if q = h.2.1.1 then some c else h.1 q) = some x := hq
  by_cases e : q = h.2.1.1
  · rw [if_pos e] at hx
    cases hx
    rw [e, ← hR.2.1]
    exact ⟨fun _ => hat, hw⟩
  · rw [if_neg e] at hx
    exact ⟨fun r => ((hR.1 q x hx).1 r).kept (oq q (((hR.1 q x hx).1 r).lt)), (hR.1 q x hx).2⟩
theorem j_Tget (E : JE) {t : FieldType} (h : t ∈ j_tys) : ∃ k : Nat, (j_T E)[k]? = some (E.2.1 t, t) := by
  obtain ⟨k, hk⟩ := List.getElem?_of_mem h
  exact ⟨k, by rw [List.getElem?_map, hk]; rfl⟩
/-- a field: its class among the worlds' classes, its place, its link -/
def j_f (own : String) (idx ci k : Nat) : Prop := ∃ (C : String) (T : u_T) (N : Nat), vwCl[ci]? = some (C, T, N) ∧ k < N ∧ (∀ w ∈ u_ws C T N, w ∈ j_tbl) ∧ Cond.fieldLink own idx (T k).1 (T k).2.1 (T k).2.2.1 ∈ j_tbl
/-- a field that may be written -/
def j_fp (own : String) (idx ci k : Nat) (ty : FieldType) (fin : Bool) : Prop := ∃ (C : String) (T : u_T) (N : Nat) (ty0 : Nat → FieldType), vwCl[ci]? = some (C, T, N) ∧ k < N ∧ (∀ w ∈ u_ws C T N, w ∈ j_tbl) ∧ Cond.fieldLink own idx (T k).1 (T k).2.1 (T k).2.2.1 ∈ j_tbl ∧ (∀ k, k < N → parseFieldDescriptor (T k).2.2.1 = some (ty0 k)) ∧ (∀ a, a < N → ∀ b, b < N → a ≠ b → (T a).2.1 ≠ (T b).2.1) ∧ (T k).2.2.2 = fin ∧ ty0 k = ty ∧ (fin = true → (T k).1 = own)
/-- a class whose objects may be made -/
def j_cl (own : String) (idx ci : Nat) (fs : List Value) : Prop := ∃ (C : String) (T : u_T) (ty0 : Nat → FieldType), vwCl[ci]? = some (C, T, fs.length) ∧ (∀ w ∈ u_ws C T fs.length, w ∈ j_tbl) ∧ (∀ k, k < fs.length → parseFieldDescriptor (T k).2.2.1 = some (ty0 k)) ∧ (∀ j, j < fs.length → defaultValue (ty0 j) = vp_V fs j) ∧ Cond.classLink own idx C ∈ j_tbl ∧ Cond.instantiable C fs.length ∈ j_tbl ∧ Cond.initialized C ∈ j_tbl
section JR
variable {p : Program} {l : Launch} {e : Env} {R : Room} {s : State} {m : MethodId} {args : Array Value} {below : List Frame} {meth : Method} {c : Code} {E : JE} {cc : ByteArray} {nL : Nat} {own : String} {h0 hF h : JH} {rF : Option Value} {Q : State → Prop} {d : Nat} {pc : Nat} {L : List (Nat × Value)} {st : List Value}
theorem x_get (C : j_C p s m args meth c R E cc nL own h0 hF d) {idx a ci k9 : Nat} {v : Value} (hd : decode cc pc = .ok (.getfield idx, 3)) (hg : jget h a ci k9 = some v) (hf : j_f own idx ci k9) (k : Xq p l e R s m args below meth c E nL h0 Q (pc + 3) L (v :: st) h) : Xq p l e R s m args below meth c E nL h0 Q pc L (.ref a :: st) h := by
  intro H locs ls cells slots hl hR hS hc hs hcl hsl
  obtain ⟨fs, g1, g2⟩ := jget_some hg
  obtain ⟨K, T, N, f1, f2, f3, f4⟩ := hf
  exact va_get C.1 C.2.1 C.2.2.2.2.1 f3 C.2.2.2.1 C.2.2.2.2.2.1.1 (hR.at g1) 0 rfl f1 k9 f2 (C.2.2.2.2.1 _ f4) (fun _ q => q) g2 hd (k H locs ls cells slots hl hR hS hc hs hcl hsl)
theorem x_put (C : j_C p s m args meth c R E cc nL own h0 hF d) {idx a ci k9 : Nat} {v : Value} {ty : FieldType} {h1 : JH} (hd : decode cc pc = .ok (.putfield idx, 3)) (hg : jput h a ci k9 v = some h1) (hf : j_fp own idx ci k9 ty false) (hn : narrow ty v = v) (hfit : fits ty v = true) (k : Xq p l e R s m args below meth c E nL h0 Q (pc + 3) L st h1) : Xq p l e R s m args below meth c E nL h0 Q pc L (v :: .ref a :: st) h := by
  intro H locs ls cells slots hl hR hS hc hs hcl hsl
  obtain ⟨fs, g1, g2, rfl⟩ := jput_some hg
  obtain ⟨K, T, N, ty0, f1, f2, f3, f4, f5, f6, f7, f8, -⟩ := hf
  have hts := C.2.2.2.2.1
  have hK := C.2.2.2.2.2.1.1
  have hap := va_apart (own := own) hts f3 ty0 f5 f6 hK f1
  obtain ⟨hat9, hw⟩ := hR.1 a _ g1
  obtain ⟨r, h1, cell, q1, q2, q3, q4⟩ := hat9 rfl
  have hr : r = (K, T, N) := Option.some.inj (h1.symm.trans f1)
  subst hr
  obtain ⟨hSl, hfc, kC, hkC, hkind⟩ := hK.1 ci _ f1
  obtain ⟨cf, kf, fi, f, hi, hsl9⟩ := hSl k9 f2
  have hlay := hts _ (f3 _ (u_in_lay f2))
  unfold u_lay at hlay
  rw [if_neg (by rw [f7]; decide)] at hlay
  have hst := (u_facts hfc hkC (u_lays hts f3 f2) hi).1
  have h6 := u_store hfc hkC hkind hlay hi (by rw [f5 k9 f2, f8]) hn hfit
  refine W.putK C.1 C.2.1 (f := f) ⟨C.2.2.2.1, hts _ f4, ⟨_, _, _, hi⟩, hst⟩ (by rw [q2]; exact h6) q1 q3 (by rw [hsl9]; exact k2_hasslot (q4 k9 f2)) rfl rfl hd fun H' e1 e2 e3 => ?_
  rw [hsl9] at e1 ⊢
  exact k H' _ ls cells slots hl (hR.set (show j_w E a (.inr (.inl (ci, fs.set k9 v))) from hw) ⟨_, f1, t_OB.to (V := updV (vp_V fs) k9 v) ⟨_, e1, q2, q3, t_set q4 hap f2 v⟩ (fun j _ => vp_updV_set g2 v j)⟩ e2 e3) (hS.put e2 e3 hw) hc hs hcl hsl
theorem x_putF (C : j_C p s m args meth c R E cc nL own h0 hF d) {idx a ci k9 : Nat} {v : Value} {ty : FieldType} {h1 : JH} (hin : meth.name = "<init>") (hd : decode cc pc = .ok (.putfield idx, 3)) (hg : jput h a ci k9 v = some h1) (hf : j_fp own idx ci k9 ty true) (hn : narrow ty v = v) (hfit : fits ty v = true) (k : Xq p l e R s m args below meth c E nL h0 Q (pc + 3) L st h1) : Xq p l e R s m args below meth c E nL h0 Q pc L (v :: .ref a :: st) h := by
  intro H locs ls cells slots hl hR hS hc hs hcl hsl
  obtain ⟨fs, g1, g2, rfl⟩ := jput_some hg
  obtain ⟨K, T, N, ty0, f1, f2, f3, f4, f5, f6, f7, f8, f9⟩ := hf
  have hts := C.2.2.2.2.1
  have hK := C.2.2.2.2.2.1.1
  have hap := va_apart (own := own) hts f3 ty0 f5 f6 hK f1
  obtain ⟨hat9, hw⟩ := hR.1 a _ g1
  obtain ⟨r, h1, cell, q1, q2, q3, q4⟩ := hat9 rfl
  have hr : r = (K, T, N) := Option.some.inj (h1.symm.trans f1)
  subst hr
  obtain ⟨hSl, hfc, kC, hkC, hkind⟩ := hK.1 ci _ f1
  obtain ⟨cf, kf, fi, f, hi, hsl9⟩ := hSl k9 f2
  have hlay := hts _ (f3 _ (u_in_lay f2))
  unfold u_lay at hlay
  rw [if_pos f7] at hlay
  have hst := (u_facts hfc hkC (u_lays hts f3 f2) hi).1
  have hcf : m.cls = cf := by
    obtain ⟨_, _, c', _, _, _, -, -, hf', -, -, -, hown2, -⟩ := Cond.laysFinal_spec hlay
    have e1 : c' = cf := by have := hi.symm.trans hf'; simp at this; exact this.1.symm
    rw [f9 rfl] at hown2
    rw [← e1]; exact Option.some.inj (C.2.2.2.1.symm.trans hown2)
  have h6 := u_fits hfc hkC hkind (Or.inr hlay) hi (by rw [f5 k9 f2, f8]) hn hfit
  refine W.putFinK C.1 C.2.1 C.2.2.2.1 (hts _ f4) hi hst hcf hin (by rw [q2]; exact h6) q1 q3 (by rw [hsl9]; exact k2_hasslot (q4 k9 f2)) rfl rfl hd fun H' e1 e2 e3 => ?_
  rw [hsl9] at e1 ⊢
  exact k H' _ ls cells slots hl (hR.set (show j_w E a (.inr (.inl (ci, fs.set k9 v))) from hw) ⟨_, f1, t_OB.to (V := updV (vp_V fs) k9 v) ⟨_, e1, q2, q3, t_set q4 hap f2 v⟩ (fun j _ => vp_updV_set g2 v j)⟩ e2 e3) (hS.put e2 e3 hw) hc hs hcl hsl
theorem x_iald (C : j_C p s m args meth c R E cc nL own h0 hF d) {a : Nat} {i v : Int32} (hd : decode cc pc = .ok (.iaload, 1)) (hg : jaI h a i = some v) (k : Xq p l e R s m args below meth c E nL h0 Q (pc + 1) L (.int v :: st) h) : Xq p l e R s m args below meth c E nL h0 Q pc L (.int i :: .ref a :: st) h := by
  intro H locs ls cells slots hl hR hS hc hs hcl hsl
  obtain ⟨n, f, g1, g2, rfl⟩ := jaI_some hg
  rcases g1 with g1 | g1
  · exact va_iald C.1 C.2.1 C.2.2.2.2.2.1.1 (hR.at g1) 0 0 rfl rfl g2 hd (k H locs ls cells slots hl hR hS hc hs hcl hsl)
  · obtain ⟨hX, hlt⟩ := C.2.2.2.2.2.1.2.2.2.2 a _ (hR.1 a _ g1).2
    exact va_sld C.1 C.2.1 hX (Nat.lt_of_lt_of_le hlt C.2.2.2.2.2.1.2.1) (Nat.not_le.mpr hlt) hS g2 hd (k H locs ls cells slots hl hR hS hc hs hcl hsl)
theorem x_bald (C : j_C p s m args meth c R E cc nL own h0 hF d) {a : Nat} {i v : Int32} (hd : decode cc pc = .ok (.baload, 1)) (hg : jaB h a i = some v) (k : Xq p l e R s m args below meth c E nL h0 Q (pc + 1) L (.int v :: st) h) : Xq p l e R s m args below meth c E nL h0 Q pc L (.int i :: .ref a :: st) h := by
  intro H locs ls cells slots hl hR hS hc hs hcl hsl
  obtain ⟨n, f, g1, g2, rfl⟩ := jaB_some hg
  rcases g1 with g1 | g1
  · exact va_bald C.1 C.2.1 C.2.2.2.2.2.1.1 (hR.at g1) 0 2 rfl rfl g2 hd (k H locs ls cells slots hl hR hS hc hs hcl hsl)
  · exact va_zald C.1 C.2.1 C.2.2.2.2.2.1.1 (hR.at g1) 0 3 rfl rfl g2 hd (k H locs ls cells slots hl hR hS hc hs hcl hsl)
theorem x_lald (C : j_C p s m args meth c R E cc nL own h0 hF d) {a : Nat} {i : Int32} {v : Int64} (hd : decode cc pc = .ok (.laload, 1)) (hg : jaJ h a i = some v) (k : Xq p l e R s m args below meth c E nL h0 Q (pc + 1) L (.long v :: st) h) : Xq p l e R s m args below meth c E nL h0 Q pc L (.int i :: .ref a :: st) h := by
  intro H locs ls cells slots hl hR hS hc hs hcl hsl
  obtain ⟨n, f, g1, g2, rfl⟩ := jaJ_some hg
  exact va_lald C.1 C.2.1 C.2.2.2.2.2.1.1 (hR.at g1) 0 1 rfl rfl g2 hd (k H locs ls cells slots hl hR hS hc hs hcl hsl)
theorem x_aald (C : j_C p s m args meth c R E cc nL own h0 hF d) {a v : Nat} {i : Int32} (hd : decode cc pc = .ok (.aaload, 1)) (hg : jaR h a i = some v) (k : Xq p l e R s m args below meth c E nL h0 Q (pc + 1) L (.ref v :: st) h) : Xq p l e R s m args below meth c E nL h0 Q pc L (.int i :: .ref a :: st) h := by
  intro H locs ls cells slots hl hR hS hc hs hcl hsl
  obtain ⟨ty, n, f, g1, g2, g3, g4⟩ := jaR_some hg
  obtain ⟨h99, hw⟩ := hR.1 a _ g1
  have h9 := h99 rfl
  obtain ⟨t0, ht⟩ := j_Tget E hw.2
  have hlt : i.toNatClampNeg < n := Nat.not_le.mp fun q => g3 (Or.inr q)
  exact W.aald (v := .ref v) (ty := ty) C.1 C.2.1 h9 ((C.2.2.2.2.2.1.1.2 t0 _ ht).1 n (fun j => va_rf (f j))) g2 (fun q => by cases q) (by show ¬ (i < 0 ∨ (arrV _ _ _).slots.size ≤ _); rw [arrV_size]; exact g3) (by show (arrV _ _ _).slots[_]? = _; rw [arrV_read _ _ hlt, g4]; rfl) rfl rfl hd (k H locs ls cells slots hl hR hS hc hs hcl hsl)
theorem x_alen (C : j_C p s m args meth c R E cc nL own h0 hF d) {a : Nat} {v : Int32} (hd : decode cc pc = .ok (.arraylength, 1)) (hg : jal h a = some v) (k : Xq p l e R s m args below meth c E nL h0 Q (pc + 1) L (.int v :: st) h) : Xq p l e R s m args below meth c E nL h0 Q pc L (.ref a :: st) h := by
  intro H locs ls cells slots hl hR hS hc hs hcl hsl
  obtain ⟨n, rfl, ⟨ty, g, g1⟩ | ⟨f, g1⟩⟩ := jal_some hg
  · obtain ⟨h99, hw⟩ := hR.1 a _ g1
    have h9 := h99 rfl
    obtain ⟨t0, ht⟩ := j_Tget E hw.2
    exact va_alen C.1 C.2.1 C.2.2.2.2.2.1.1 (hR.at g1) 0 t0 rfl ht rfl hd (k H locs ls cells slots hl hR hS hc hs hcl hsl)
  · obtain ⟨hX, hlt⟩ := C.2.2.2.2.2.1.2.2.2.2 a _ (hR.1 a _ g1).2
    exact va_slen C.1 C.2.1 hX (Nat.lt_of_lt_of_le hlt C.2.2.2.2.2.1.2.1) (Nat.not_le.mpr hlt) hS hd (k H locs ls cells slots hl hR hS hc hs hcl hsl)
theorem x_iast (C : j_C p s m args meth c R E cc nL own h0 hF d) {a : Nat} {i v : Int32} {h1 : JH} (hd : decode cc pc = .ok (.iastore, 1)) (hg : jsI h a i v = some h1) (k : Xq p l e R s m args below meth c E nL h0 Q (pc + 1) L st h1) : Xq p l e R s m args below meth c E nL h0 Q pc L (.int v :: .int i :: .ref a :: st) h := by
  intro H locs ls cells slots hl hR hS hc hs hcl hsl
  obtain ⟨n, f, g1, g2, rfl⟩ := jsI_some hg
  obtain ⟨h99, hw⟩ := hR.1 a _ g1
  have h9 := h99 rfl
  refine W.iast C.1 C.2.1 h9 ((C.2.2.2.2.2.1.1.2 0 _ rfl).1 n (fun j => .int (f j))) (fun q => by cases q) (by show ¬ (i < 0 ∨ (arrV _ _ _).slots.size ≤ _); rw [arrV_size]; exact g2) rfl rfl hd fun H1 e z oq => ?_
  refine k H1 _ ls cells slots hl (hR.set (show j_w E a (.inl (.int, (n, .inl (upd f i.toNatClampNeg v)))) from hw) ?_ z oq) (hS.put z oq hw.1) hc hs hcl hsl
  show H1[a]? = some (vp_cell _ _)
  rw [e]
  show some ((vp_cell (E.2.1 .int) (n, .inl f)).setSlot _ _) = _
  rw [vp_cell_i, vp_cell_i, arrV_store]
  congr 2
  funext q
  by_cases hq : q = i.toNatClampNeg
  · subst hq; simp [updV, upd]
  · simp [updV, upd, hq]
theorem x_bast (C : j_C p s m args meth c R E cc nL own h0 hF d) {a : Nat} {i v : Int32} {h1 : JH} (hd : decode cc pc = .ok (.bastore, 1)) (hg : jsB h a i v = some h1) (k : Xq p l e R s m args below meth c E nL h0 Q (pc + 1) L st h1) : Xq p l e R s m args below meth c E nL h0 Q pc L (.int v :: .int i :: .ref a :: st) h := by
  intro H locs ls cells slots hl hR hS hc hs hcl hsl
  obtain ⟨n, f, ⟨g1, g2, rfl⟩ | ⟨g1, g2, rfl⟩⟩ := jsB_some hg
  · obtain ⟨h99, hw⟩ := hR.1 a _ g1
    have h9 := h99 rfl
    refine W.bast C.1 C.2.1 h9 ((C.2.2.2.2.2.1.1.2 2 _ rfl).1 n (fun j => .int (f j))) (fun q => by cases q) (by show ¬ (i < 0 ∨ (arrV _ _ _).slots.size ≤ _); rw [arrV_size]; exact g2) rfl rfl hd fun H1 e z oq => ?_
    refine k H1 _ ls cells slots hl (hR.set (show j_w E a (.inl (.byte, (n, .inl (upd f i.toNatClampNeg (vp_nar .byte v))))) from hw) ?_ z oq) (hS.put z oq hw.1) hc hs hcl hsl
    show H1[a]? = some (vp_cell _ _)
    rw [e]
    show some ((vp_cell (E.2.1 .byte) (n, .inl f)).setSlot _ _) = _
    rw [vp_cell_i, vp_cell_i, arrV_store]
    congr 2
    funext q
    by_cases hq : q = i.toNatClampNeg
    · subst hq; simp [updV, upd, vp_nar, narrow]
    · simp [updV, upd, hq]
  · obtain ⟨h99, hw⟩ := hR.1 a _ g1
    have h9 := h99 rfl
    refine W.zast C.1 C.2.1 h9 ((C.2.2.2.2.2.1.1.2 3 _ rfl).1 n (fun j => .int (f j))) (fun q => by cases q) (by show ¬ (i < 0 ∨ (arrV _ _ _).slots.size ≤ _); rw [arrV_size]; exact g2) rfl rfl hd fun H1 e z oq => ?_
    refine k H1 _ ls cells slots hl (hR.set (show j_w E a (.inl (.boolean, (n, .inl (upd f i.toNatClampNeg (vp_nar .boolean v))))) from hw) ?_ z oq) (hS.put z oq hw.1) hc hs hcl hsl
    show H1[a]? = some (vp_cell _ _)
    rw [e]
    show some ((vp_cell (E.2.1 .boolean) (n, .inl f)).setSlot _ _) = _
    rw [vp_cell_i, vp_cell_i, arrV_store]
    congr 2
    funext q
    by_cases hq : q = i.toNatClampNeg
    · subst hq; simp [updV, upd, vp_nar, narrow]
    · simp [updV, upd, hq]
theorem x_last (C : j_C p s m args meth c R E cc nL own h0 hF d) {a : Nat} {i : Int32} {v : Int64} {h1 : JH} (hd : decode cc pc = .ok (.lastore, 1)) (hg : jsJ h a i v = some h1) (k : Xq p l e R s m args below meth c E nL h0 Q (pc + 1) L st h1) : Xq p l e R s m args below meth c E nL h0 Q pc L (.long v :: .int i :: .ref a :: st) h := by
  intro H locs ls cells slots hl hR hS hc hs hcl hsl
  obtain ⟨n, f, g1, g2, rfl⟩ := jsJ_some hg
  obtain ⟨h99, hw⟩ := hR.1 a _ g1
  have h9 := h99 rfl
  refine W.last C.1 C.2.1 h9 ((C.2.2.2.2.2.1.1.2 1 _ rfl).1 n (fun j => .long (f j))) (fun q => by cases q) (by show ¬ (i < 0 ∨ (arrV _ _ _).slots.size ≤ _); rw [arrV_size]; exact g2) rfl rfl hd fun H1 e z oq => ?_
  refine k H1 _ ls cells slots hl (hR.set (show j_w E a (.inl (.long, (n, .inr (.inl (vp_updL f i.toNatClampNeg v))))) from hw) ?_ z oq) (hS.put z oq hw.1) hc hs hcl hsl
  show H1[a]? = some (vp_cell _ _)
  rw [e]
  show some ((vp_cell (E.2.1 .long) (n, .inr (.inl f))).setSlot _ _) = _
  rw [vp_cell_l, vp_cell_l, arrV_store]
  congr 2
  funext q
  by_cases hq : q = i.toNatClampNeg
  · subst hq; simp [updV, vp_updL]
  · simp [updV, vp_updL, hq]
theorem x_aast (C : j_C p s m args meth c R E cc nL own h0 hF d) {a v ci : Nat} {i : Int32} {h1 : JH} (hd : decode cc pc = .ok (.aastore, 1)) (hg : jsR h a i v ci = some h1) (k : Xq p l e R s m args below meth c E nL h0 Q (pc + 1) L st h1) : Xq p l e R s m args below meth c E nL h0 Q pc L (.ref v :: .int i :: .ref a :: st) h := by
  intro H locs ls cells slots hl hR hS hc hs hcl hsl
  obtain ⟨n, f, fs, g1, g3, g2, rfl⟩ := jsR_some hg
  obtain ⟨h99, hw⟩ := hR.1 a _ g1
  have h9 := h99 rfl
  obtain ⟨hat9, hw2⟩ := hR.1 v _ g3
  obtain ⟨r, h1, cellV, q1, q2, q3, q4⟩ := hat9 rfl
  have hcn : jcn ci = r.1 := by
    unfold jcn
    have h1' : vwCl[ci]? = some r := h1
    rw [h1']
  have hK := C.2.2.2.2.2.1.1
  obtain ⟨t0, ht⟩ := j_Tget E hw.2
  have hlt : i.toNatClampNeg < n := Nat.not_le.mp fun q => g2 (Or.inr q)
  have h00 : ¬ i < 0 := fun q => g2 (Or.inl q)
  have hcls := (hK.1 ci r h1).2
  obtain ⟨kA, comp, k1, k2, k3, -⟩ := (hK.2 t0 _ ht).2
  have k3' : s.vm.findClass r.1 = some comp := by rw [← hcn]; exact k3
  have hcomp : comp = E.1.1 ci := Option.some.inj (k3'.symm.trans hcls.1)
  subst hcomp
  obtain ⟨kC, hkC, -⟩ := hcls.2
  refine W.aast C.1 C.2.1 h9 (fun q h => by cases h) (fun h => by cases h) k1 k2 rfl hkC ⟨h00, by show _ < (arrV _ _ _).slots.size; rw [arrV_size]; exact hlt⟩ q1 (fun q h => by rw [q3] at h; cases h) (by rw [q2]; exact hkC) (by rw [q2]; exact va_assign hcls) rfl rfl hd fun H1 e z oq => ?_
  refine k H1 _ ls cells slots hl (hR.set (show j_w E a (.inl (.object (jcn ci), (n, .inr (.inr (.inr (.inr (va_up f i.toNatClampNeg (some v)))))))) from hw) ?_ z oq) (hS.put z oq hw.1) hc hs hcl hsl
  show H1[a]? = some (vp_cell _ _)
  rw [e]
  show some ((vp_cell (E.2.1 (.object (jcn ci))) (n, .inr (.inr (.inr (.inr f))))).setSlot _ _) = _
  rw [vp_cell_q, vp_cell_q, arrV_store]
  congr 2
  funext q
  by_cases hq : q = i.toNatClampNeg
  · subst hq; simp [updV, va_up, va_rf]
  · simp [updV, va_up, hq]
theorem x_new (C : j_C p s m args meth c R E cc nL own h0 hF d) {idx ci : Nat} {fs : List Value} {q9 : Nat × JH} (hd : decode cc pc = .ok (.new idx, 3)) (hf : j_cl own idx ci fs) (hg : jnO h ci fs = some q9) (hle : j_le q9.2 hF) (k : Xq p l e R s m args below meth c E nL h0 Q (pc + 3) L (.ref q9.1 :: st) q9.2) : Xq p l e R s m args below meth c E nL h0 Q pc L st h := by
  intro H locs ls cells slots hl hR hS hc hs hcl hsl
  have hq := jnO_some hg
  subst hq
  obtain ⟨K, T, ty0, f1, f2, f3, f4, f5, f6, f7⟩ := hf
  have hts := C.2.2.2.2.1
  have hK := C.2.2.2.2.2.1.1
  have hKn := hK.1 ci _ f1
  have hRm := C.2.2.2.2.2.2.2
  have hle1 : h.2.1.1 + 1 ≤ hF.2.1.1 := hle.1
  have hle2 : h.2.1.2 + fs.length ≤ hF.2.1.2 := hle.2
  have r1 : cells + 1 ≤ R.cells := by have := hRm.2.2.1; omega
  have r2 : slots + fs.length ≤ R.slots := by have := hRm.2.2.2; omega
  refine W.newcK C.1 C.2.1 C.2.2.2.1 (hts _ f5) (hts _ f6) (hts _ f7) rfl hd r1 r2 hKn.2.1 hR.2.1 fun H1 kC hkC e1 z1 o1 => ?_
  have hsz := hR.2.1
  have hb : E.2.2.1 ≤ H.size := Nat.le_trans C.2.2.2.2.2.1.2.1 hS.1
  refine k H1 locs ls (cells + 1) (slots + fs.length) hl (hR.push (k := fs.length) hb ?_ (by rw [z1, hsz]) (fun q hq => o1 q (by rw [← hsz]; exact hq))) ⟨Nat.le_trans hS.1 (by omega), fun x h1 h2 => (o1 x (by rw [← hsz]; exact Nat.lt_of_lt_of_le h1 hS.1)).trans (hS.2.1 x h1 h2), hS.2.2⟩ (by show _ = h.2.1.1 + 1; omega) (by show _ = h.2.1.2 + fs.length; omega) r1 r2
  rw [hsz]
  exact ⟨_, f1, (u_born ty0 hts f2 hKn hkC e1 f3).to f4⟩
theorem j_vc (cA : ClassId) (ty : FieldType) (n : Nat) (ht : ty ∈ j_tys) : vp_cell cA (n, jz0 ty) = arrV cA n (fun _ => defaultValue ty) := by
  simp only [j_tys, List.mem_cons, List.not_mem_nil, or_false] at ht
  rcases ht with rfl | rfl | rfl | rfl | rfl | rfl | rfl | rfl | rfl | rfl <;> rfl
theorem x_newa (C : j_C p s m args meth c R E cc nL own h0 hF d) {atype : ArrayType} {n : Int32} {q : Nat} {h1 : JH} {ty : FieldType} (hd : decode cc pc = .ok (.newarray atype, 2)) (hty : newarray.typeOf atype = ty) (ht : ty ∈ j_tys) (hcb : componentBytes ty ≤ 8) (hnm : va_RA s (E.2.1 ty) ty → s.vm.findClass ("[" ++ ty.toString) = some (E.2.1 ty)) (hw : Cond.arrayClass ty ∈ j_tbl) (hg : jnA h ty n = some (q, h1)) (hle : h1.2.1.1 ≤ hF.2.1.1 ∧ h1.2.1.2 ≤ hF.2.1.2) (k : Xq p l e R s m args below meth c E nL h0 Q (pc + 2) L (.ref q :: st) h1) : Xq p l e R s m args below meth c E nL h0 Q pc L (.int n :: st) h := by
  intro H locs ls cells slots hl hR hS hc hs hcl hsl
  subst hty
  obtain ⟨g1, g2, rfl, rfl⟩ := jnA_some hg
  have hts := C.2.2.2.2.1
  have hK := C.2.2.2.2.2.1.1
  have hRm := C.2.2.2.2.2.2.2
  have hle1 : h.2.1.1 + 1 ≤ hF.2.1.1 := hle.1
  have hle2 : h.2.1.2 + n.toNatClampNeg ≤ hF.2.1.2 := hle.2
  have r1 : cells + 1 ≤ R.cells := by have := hRm.2.2.1; omega
  have r2 : slots + n.toNatClampNeg ≤ R.slots := by have := hRm.2.2.2; omega
  obtain ⟨t0, ht0⟩ := j_Tget E ht
  refine va_newaK C.1 C.2.1 (hts _ hw) rfl hd rfl g1 rfl (by have := Nat.mul_le_mul g2 hcb; omega) r1 r2 hR.2.1 fun H1 cA e1 z1 o1 hAr hNm => ?_
  have hcA : cA = E.2.1 (newarray.typeOf atype) := Option.some.inj (hNm.symm.trans (hnm (hK.2 t0 _ ht0).2))
  subst hcA
  have hsz := hR.2.1
  have hb : E.2.2.1 ≤ H.size := Nat.le_trans C.2.2.2.2.2.1.2.1 hS.1
  refine k H1 locs ls (cells + 1) (slots + n.toNatClampNeg) hl (hR.push (k := n.toNatClampNeg) ⟨hb, ht⟩ ?_ (by rw [z1, hsz]) (fun q hq => o1 q (by rw [← hsz]; exact hq))) ⟨Nat.le_trans hS.1 (by omega), fun x h1 h2 => (o1 x (by rw [← hsz]; exact Nat.lt_of_lt_of_le h1 hS.1)).trans (hS.2.1 x h1 h2), hS.2.2⟩ (by show _ = h.2.1.1 + 1; omega) (by show _ = h.2.1.2 + n.toNatClampNeg; omega) r1 r2
  rw [hsz]
  show H1[h.2.1.1]? = some (vp_cell _ _)
  rw [j_vc _ _ _ ht]
  exact e1
theorem x_newq (C : j_C p s m args meth c R E cc nL own h0 hF d) {idx : Nat} {K : String} {n : Int32} {q : Nat} {h1 : JH} (hd : decode cc pc = .ok (.anewarray idx, 3)) (ht : FieldType.object K ∈ j_tys) (hw : Cond.classLink own idx K ∈ j_tbl) (hw2 : Cond.arrayOver (.object K) ∈ lw_tbl) (hg : jnA h (.object K) n = some (q, h1)) (hle : h1.2.1.1 ≤ hF.2.1.1 ∧ h1.2.1.2 ≤ hF.2.1.2) (k : Xq p l e R s m args below meth c E nL h0 Q (pc + 3) L (.ref q :: st) h1) : Xq p l e R s m args below meth c E nL h0 Q pc L (.int n :: st) h := by
  intro H locs ls cells slots hl hR hS hc hs hcl hsl
  obtain ⟨g1, g2, rfl, rfl⟩ := jnA_some hg
  have hts := C.2.2.2.2.1
  have hK := C.2.2.2.2.2.1.1
  have hRm := C.2.2.2.2.2.2.2
  have hle1 : h.2.1.1 + 1 ≤ hF.2.1.1 := hle.1
  have hle2 : h.2.1.2 + n.toNatClampNeg ≤ hF.2.1.2 := hle.2
  have r1 : cells + 1 ≤ R.cells := by have := hRm.2.2.1; omega
  have r2 : slots + n.toNatClampNeg ≤ R.slots := by have := hRm.2.2.2; omega
  obtain ⟨t0, ht0⟩ := j_Tget E ht
  obtain ⟨kA9, comp9, -, -, -, hnm⟩ := (hK.2 t0 _ ht0).2
  have hsz := hR.2.1
  refine W.anew C.1 C.2.1 C.2.2.2.1 (hts _ hw) (va_AO.use (C.2.2.2.2.2.1.2.2.2.1.2.1 _ hw2)) rfl hd rfl g1 (by omega) r1 r2 fun cA kA comp f1 f2 f3 f4 => ?_
  have hcA : cA = E.2.1 (.object K) := Option.some.inj (f1.symm.trans hnm)
  subst hcA
  generalize hH1 : H.push ({ cls := E.2.1 (.object K), slots := Array.replicate n.toNatClampNeg .null, vm := .none } : Cell) = H1
  have z1 : H1.size = H.size + 1 := by rw [← hH1, Array.size_push]
  have e1 : H1[H.size]? = some (arrV (E.2.1 (.object K)) n.toNatClampNeg (fun _ => .null)) := by rw [← hH1, Array.getElem?_push_size, ← arrV_new]
  have o1 : ∀ q : Nat, q < H.size → H1[q]? = H[q]? := fun q hq => by rw [← hH1, Array.getElem?_push, if_neg (Nat.ne_of_lt hq)]
  have hb : E.2.2.1 ≤ H.size := Nat.le_trans C.2.2.2.2.2.1.2.1 hS.1
  have kk := k H1 locs ls (cells + 1) (slots + n.toNatClampNeg) hl (hR.push (k := n.toNatClampNeg) ⟨hb, ht⟩ e1 z1 o1) ⟨Nat.le_trans hS.1 (by omega), fun x h1 h2 => (o1 x (Nat.lt_of_lt_of_le h1 hS.1)).trans (hS.2.1 x h1 h2), hS.2.2⟩ (by show _ = h.2.1.1 + 1; omega) (by show _ = h.2.1.2 + n.toNatClampNeg; omega) r1 r2
  rw [← hsz] at kk
  exact kk
end JR
