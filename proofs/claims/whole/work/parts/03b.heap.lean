/-! Base: what a step reads and writes of the heap. -/
def jobj (h : JH) (a ci : Nat) : Option (List Value) := match h.1 a with
  | some (.inr (.inl o)) => if o.1 = ci then some o.2 else none
  | _ => none
def jget (h : JH) (a ci k : Nat) : Option Value := match jobj h a ci with
  | some fs => fs[k]?
  | none => none
def jgI (h : JH) (a ci k : Nat) : Option Int32 := match jget h a ci k with
  | some (.int v) => some v
  | _ => none
def jgR (h : JH) (a ci k : Nat) : Option Nat := match jget h a ci k with
  | some (.ref v) => some v
  | _ => none
def jput (h : JH) (a ci k : Nat) (v : Value) : Option JH := match jobj h a ci with
  | some fs => if k < fs.length then some (j_set h a (.inr (.inl (ci, fs.set k v)))) else none
  | none => none
def jrecv (h : JH) (a ci : Nat) : Option Unit := match jobj h a ci with
  | some _ => some ()
  | none => none
def jin (i : Int32) (n : Nat) : Bool := decide (¬ (i < 0 ∨ n ≤ i.toNatClampNeg))
def jaI (h : JH) (a : Nat) (i : Int32) : Option Int32 := match h.1 a with
  | some (.inl (.int, (n, .inl f))) => if jin i n then some (f i.toNatClampNeg) else none
  | some (.inr (.inr (n, f))) => if jin i n then some (f i.toNatClampNeg) else none
  | _ => none
def jaB (h : JH) (a : Nat) (i : Int32) : Option Int32 := match h.1 a with
  | some (.inl (.byte, (n, .inl f))) => if jin i n then some (f i.toNatClampNeg) else none
  | some (.inl (.boolean, (n, .inl f))) => if jin i n then some (f i.toNatClampNeg) else none
  | _ => none
def jaJ (h : JH) (a : Nat) (i : Int32) : Option Int64 := match h.1 a with
  | some (.inl (.long, (n, .inr (.inl f)))) => if jin i n then some (f i.toNatClampNeg) else none
  | _ => none
def jaR (h : JH) (a : Nat) (i : Int32) : Option Nat := match h.1 a with
  | some (.inl (ty, (n, .inr (.inr (.inr (.inr f)))))) => if jin i n && ty.isReference then f i.toNatClampNeg else none
  | _ => none
def jal (h : JH) (a : Nat) : Option Int32 := match h.1 a with
  | some (.inl (_, (n, _))) => some (Int32.ofNat n)
  | some (.inr (.inr (n, _))) => some (Int32.ofNat n)
  | _ => none
def jsI (h : JH) (a : Nat) (i v : Int32) : Option JH := match h.1 a with
  | some (.inl (.int, (n, .inl f))) => if jin i n then some (j_set h a (.inl (.int, (n, .inl (upd f i.toNatClampNeg v))))) else none
  | _ => none
def jsB (h : JH) (a : Nat) (i v : Int32) : Option JH := match h.1 a with
  | some (.inl (.byte, (n, .inl f))) => if jin i n then some (j_set h a (.inl (.byte, (n, .inl (upd f i.toNatClampNeg (vp_nar .byte v)))))) else none
  | some (.inl (.boolean, (n, .inl f))) => if jin i n then some (j_set h a (.inl (.boolean, (n, .inl (upd f i.toNatClampNeg (vp_nar .boolean v)))))) else none
  | _ => none
def jsJ (h : JH) (a : Nat) (i : Int32) (v : Int64) : Option JH := match h.1 a with
  | some (.inl (.long, (n, .inr (.inl f)))) => if jin i n then some (j_set h a (.inl (.long, (n, .inr (.inl (vp_updL f i.toNatClampNeg v)))))) else none
  | _ => none
def jcn (ci : Nat) : String := match vwCl[ci]? with
  | some q => q.1
  | none => ""
def jsR (h : JH) (a : Nat) (i : Int32) (v ci : Nat) : Option JH := match h.1 a, jobj h v ci with
  | some (.inl (.object C, (n, .inr (.inr (.inr (.inr f)))))), some _ => if jin i n && decide (C = jcn ci) then some (j_set h a (.inl (.object C, (n, .inr (.inr (.inr (.inr (va_up f i.toNatClampNeg (some v))))))))) else none
  | _, _ => none
def jcI (h : JH) (a0 : Nat) (sp : Int32) (a1 : Nat) (dp n : Int32) : Option JH := match h.1 a0, h.1 a1 with
  | some (.inl (.int, (n0, .inl f))), some (.inl (.int, (n1, .inl g))) => if ¬ sp < 0 ∧ ¬ dp < 0 ∧ ¬ n < 0 ∧ sp.toNatClampNeg + n.toNatClampNeg ≤ n0 ∧ dp.toNatClampNeg + n.toNatClampNeg ≤ n1 then some (j_set h a1 (.inl (.int, (n1, .inl (va_cpy f g sp.toNatClampNeg dp.toNatClampNeg n.toNatClampNeg))))) else none
  | _, _ => none
def jcJ (h : JH) (a0 : Nat) (sp : Int32) (a1 : Nat) (dp n : Int32) : Option JH := match h.1 a0, h.1 a1 with
  | some (.inl (.long, (n0, .inr (.inl f)))), some (.inl (.long, (n1, .inr (.inl g)))) => if ¬ sp < 0 ∧ ¬ dp < 0 ∧ ¬ n < 0 ∧ sp.toNatClampNeg + n.toNatClampNeg ≤ n0 ∧ dp.toNatClampNeg + n.toNatClampNeg ≤ n1 then some (j_set h a1 (.inl (.long, (n1, .inr (.inl (va_cpy f g sp.toNatClampNeg dp.toNatClampNeg n.toNatClampNeg)))))) else none
  | _, _ => none
/-- contents of a new array -/
def jz0 (ty : FieldType) : ((Nat → Int32) ⊕ (Nat → Int64) ⊕ (Nat → UInt32) ⊕ (Nat → UInt64) ⊕ (Nat → Option Nat)) := match ty with
  | .long => .inr (.inl (fun _ => 0))
  | .object _ => .inr (.inr (.inr (.inr (fun _ => none))))
  | .array _ => .inr (.inr (.inr (.inr (fun _ => none))))
  | _ => .inl (fun _ => 0)
def jnA (h : JH) (ty : FieldType) (n : Int32) : Option (Nat × JH) := if ¬ n < 0 ∧ n.toNatClampNeg ≤ 100000 then some (h.2.1.1, j_new h (.inl (ty, (n.toNatClampNeg, jz0 ty))) n.toNatClampNeg) else none
def jnO (h : JH) (ci : Nat) (fs : List Value) : Option (Nat × JH) := some (h.2.1.1, j_new h (.inr (.inl (ci, fs))) fs.length)
def jnM (h : JH) (ty : FieldType) (n k : Int32) : Option (Nat × JH) := if ¬ n < 0 ∧ ¬ k < 0 ∧ n.toNatClampNeg ≤ 1000 ∧ k.toNatClampNeg ≤ 1000 then
  some (h.2.1.1, (fun q => if q = h.2.1.1 then some (.inl (.array ty, (n.toNatClampNeg, .inr (.inr (.inr (.inr (fun i => if i < n.toNatClampNeg then some (h.2.1.1 + 1 + i) else none))))))) else if h.2.1.1 < q ∧ q < h.2.1.1 + 1 + n.toNatClampNeg then some (.inl (ty, (k.toNatClampNeg, jz0 ty))) else h.1 q,
    ((h.2.1.1 + 1 + n.toNatClampNeg, h.2.1.2 + n.toNatClampNeg + n.toNatClampNeg * k.toNatClampNeg), h.2.2))) else none
theorem jin_iff {i : Int32} {n : Nat} (h : jin i n = true) : vp_in i n := by
  unfold jin at h
  exact (of_decide_eq_true h : ¬ (i < 0 ∨ n ≤ i.toNatClampNeg))
theorem jobj_some {h : JH} {a ci : Nat} {fs : List Value} (e : jobj h a ci = some fs) : h.1 a = some (.inr (.inl (ci, fs))) := by
  unfold jobj at e
  split at e
  · rename_i o ho
    split at e
    · rename_i hc
      cases e
      rw [ho, ← hc]
    · cases e
  · cases e
theorem jget_some {h : JH} {a ci k : Nat} {v : Value} (e : jget h a ci k = some v) : ∃ fs, h.1 a = some (.inr (.inl (ci, fs))) ∧ fs[k]? = some v := by
  unfold jget at e
  split at e
  · rename_i fs hf
    exact ⟨fs, jobj_some hf, e⟩
  · cases e
theorem jgI_some {h : JH} {a ci k : Nat} {v : Int32} (e : jgI h a ci k = some v) : jget h a ci k = some (.int v) := by
  unfold jgI at e
  split at e
  · rename_i w hw
    cases e
    exact hw
  · cases e
theorem jgR_some {h : JH} {a ci k v : Nat} (e : jgR h a ci k = some v) : jget h a ci k = some (.ref v) := by
  unfold jgR at e
  split at e
  · rename_i w hw
    cases e
    exact hw
  · cases e
theorem jput_some {h h1 : JH} {a ci k : Nat} {v : Value} (e : jput h a ci k v = some h1) : ∃ fs, h.1 a = some (.inr (.inl (ci, fs))) ∧ k < fs.length ∧ h1 = j_set h a (.inr (.inl (ci, fs.set k v))) := by
  unfold jput at e
  split at e
  · rename_i fs hf
    split at e
    · rename_i hk
      cases e
      exact ⟨fs, jobj_some hf, hk, rfl⟩
    · cases e
  · cases e
theorem jrecv_some {h : JH} {a ci : Nat} {u : Unit} (e : jrecv h a ci = some u) : ∃ fs, h.1 a = some (.inr (.inl (ci, fs))) := by
  unfold jrecv at e
  split at e
  · rename_i fs hf
    exact ⟨fs, jobj_some hf⟩
  · cases e
theorem jaI_some {h : JH} {a : Nat} {i v : Int32} (e : jaI h a i = some v) : ∃ n f, (h.1 a = some (.inl (.int, (n, .inl f))) ∨ h.1 a = some (.inr (.inr (n, f)))) ∧ vp_in i n ∧ v = f i.toNatClampNeg := by
  unfold jaI at e
  split at e
  · rename_i n f hf
    split at e
    · rename_i hj
      cases e
      exact ⟨n, f, Or.inl hf, jin_iff hj, rfl⟩
    · cases e
  · rename_i n f hf
    split at e
    · rename_i hj
      cases e
      exact ⟨n, f, Or.inr hf, jin_iff hj, rfl⟩
    · cases e
  · cases e
theorem jaB_some {h : JH} {a : Nat} {i v : Int32} (e : jaB h a i = some v) : ∃ n f, (h.1 a = some (.inl (.byte, (n, .inl f))) ∨ h.1 a = some (.inl (.boolean, (n, .inl f)))) ∧ vp_in i n ∧ v = f i.toNatClampNeg := by
  unfold jaB at e
  split at e
  · rename_i n f hf
    split at e
    · rename_i hj
      cases e
      exact ⟨n, f, Or.inl hf, jin_iff hj, rfl⟩
    · cases e
  · rename_i n f hf
    split at e
    · rename_i hj
      cases e
      exact ⟨n, f, Or.inr hf, jin_iff hj, rfl⟩
    · cases e
  · cases e
theorem jaJ_some {h : JH} {a : Nat} {i : Int32} {v : Int64} (e : jaJ h a i = some v) : ∃ n f, h.1 a = some (.inl (.long, (n, .inr (.inl f)))) ∧ vp_in i n ∧ v = f i.toNatClampNeg := by
  unfold jaJ at e
  split at e
  · rename_i n f hf
    split at e
    · rename_i hj
      cases e
      exact ⟨n, f, hf, jin_iff hj, rfl⟩
    · cases e
  · cases e
theorem jaR_some {h : JH} {a v : Nat} {i : Int32} (e : jaR h a i = some v) : ∃ ty n f, h.1 a = some (.inl (ty, (n, .inr (.inr (.inr (.inr f)))))) ∧ ty.isReference = true ∧ vp_in i n ∧ f i.toNatClampNeg = some v := by
  unfold jaR at e
  split at e
  · rename_i ty n f hf
    split at e
    · rename_i hj
      rw [Bool.and_eq_true] at hj
      exact ⟨ty, n, f, hf, hj.2, jin_iff hj.1, e⟩
    · cases e
  · cases e
theorem jal_some {h : JH} {a : Nat} {v : Int32} (e : jal h a = some v) : ∃ n, v = Int32.ofNat n ∧ ((∃ ty g, h.1 a = some (.inl (ty, (n, g)))) ∨ ∃ f, h.1 a = some (.inr (.inr (n, f)))) := by
  unfold jal at e
  split at e
  · rename_i ty n g hf
    cases e
    exact ⟨n, rfl, Or.inl ⟨ty, g, hf⟩⟩
  · rename_i n f hf
    cases e
    exact ⟨n, rfl, Or.inr ⟨f, hf⟩⟩
  · cases e
theorem jsI_some {h h1 : JH} {a : Nat} {i v : Int32} (e : jsI h a i v = some h1) : ∃ n f, h.1 a = some (.inl (.int, (n, .inl f))) ∧ vp_in i n ∧ h1 = j_set h a (.inl (.int, (n, .inl (upd f i.toNatClampNeg v)))) := by
  unfold jsI at e
  split at e
  · rename_i n f hf
    split at e
    · rename_i hj
      cases e
      exact ⟨n, f, hf, jin_iff hj, rfl⟩
    · cases e
  · cases e
theorem jsB_some {h h1 : JH} {a : Nat} {i v : Int32} (e : jsB h a i v = some h1) : ∃ n f, (h.1 a = some (.inl (.byte, (n, .inl f))) ∧ vp_in i n ∧ h1 = j_set h a (.inl (.byte, (n, .inl (upd f i.toNatClampNeg (vp_nar .byte v)))))) ∨ (h.1 a = some (.inl (.boolean, (n, .inl f))) ∧ vp_in i n ∧ h1 = j_set h a (.inl (.boolean, (n, .inl (upd f i.toNatClampNeg (vp_nar .boolean v)))))) := by
  unfold jsB at e
  split at e
  · rename_i n f hf
    split at e
    · rename_i hj
      cases e
      exact ⟨n, f, Or.inl ⟨hf, jin_iff hj, rfl⟩⟩
    · cases e
  · rename_i n f hf
    split at e
    · rename_i hj
      cases e
      exact ⟨n, f, Or.inr ⟨hf, jin_iff hj, rfl⟩⟩
    · cases e
  · cases e
theorem jsJ_some {h h1 : JH} {a : Nat} {i : Int32} {v : Int64} (e : jsJ h a i v = some h1) : ∃ n f, h.1 a = some (.inl (.long, (n, .inr (.inl f)))) ∧ vp_in i n ∧ h1 = j_set h a (.inl (.long, (n, .inr (.inl (vp_updL f i.toNatClampNeg v))))) := by
  unfold jsJ at e
  split at e
  · rename_i n f hf
    split at e
    · rename_i hj
      cases e
      exact ⟨n, f, hf, jin_iff hj, rfl⟩
    · cases e
  · cases e
theorem jsR_some {h h1 : JH} {a v ci : Nat} {i : Int32} (e : jsR h a i v ci = some h1) : ∃ n f fs, h.1 a = some (.inl (.object (jcn ci), (n, .inr (.inr (.inr (.inr f)))))) ∧ h.1 v = some (.inr (.inl (ci, fs))) ∧ vp_in i n ∧ h1 = j_set h a (.inl (.object (jcn ci), (n, .inr (.inr (.inr (.inr (va_up f i.toNatClampNeg (some v)))))))) := by
  unfold jsR at e
  split at e
  · rename_i C n f fs hf hv
    split at e
    · rename_i hj
      rw [Bool.and_eq_true] at hj
      have hC : C = jcn ci := of_decide_eq_true hj.2
      subst hC
      cases e
      exact ⟨n, f, fs, hf, jobj_some hv, jin_iff hj.1, rfl⟩
    · cases e
  · cases e
theorem jcI_some {h h1 : JH} {a0 a1 : Nat} {sp dp n : Int32} (e : jcI h a0 sp a1 dp n = some h1) : ∃ n0 n1 f g, h.1 a0 = some (.inl (.int, (n0, .inl f))) ∧ h.1 a1 = some (.inl (.int, (n1, .inl g))) ∧ (¬ sp < 0 ∧ ¬ dp < 0 ∧ ¬ n < 0 ∧ sp.toNatClampNeg + n.toNatClampNeg ≤ n0 ∧ dp.toNatClampNeg + n.toNatClampNeg ≤ n1) ∧ h1 = j_set h a1 (.inl (.int, (n1, .inl (va_cpy f g sp.toNatClampNeg dp.toNatClampNeg n.toNatClampNeg)))) := by
  unfold jcI at e
  split at e
  · rename_i n0 f n1 g hf hg
    split at e
    · rename_i hj
      cases e
      exact ⟨n0, n1, f, g, hf, hg, hj, rfl⟩
    · cases e
  · cases e
theorem jcJ_some {h h1 : JH} {a0 a1 : Nat} {sp dp n : Int32} (e : jcJ h a0 sp a1 dp n = some h1) : ∃ n0 n1 f g, h.1 a0 = some (.inl (.long, (n0, .inr (.inl f)))) ∧ h.1 a1 = some (.inl (.long, (n1, .inr (.inl g)))) ∧ (¬ sp < 0 ∧ ¬ dp < 0 ∧ ¬ n < 0 ∧ sp.toNatClampNeg + n.toNatClampNeg ≤ n0 ∧ dp.toNatClampNeg + n.toNatClampNeg ≤ n1) ∧ h1 = j_set h a1 (.inl (.long, (n1, .inr (.inl (va_cpy f g sp.toNatClampNeg dp.toNatClampNeg n.toNatClampNeg))))) := by
  unfold jcJ at e
  split at e
  · rename_i n0 f n1 g hf hg
    split at e
    · rename_i hj
      cases e
      exact ⟨n0, n1, f, g, hf, hg, hj, rfl⟩
    · cases e
  · cases e
theorem j_bind {α β : Type} {x : Option α} {f : α → Option β} {y : β} (e : x.bind f = some y) : ∃ v, x = some v ∧ f v = some y := by
  cases x with
  | none => cases e
  | some v => exact ⟨v, rfl, e⟩
/-- what a step leaves of the counters -/
theorem jput_n {h h1 : JH} {a ci k : Nat} {v : Value} (e : jput h a ci k v = some h1) : h1.2.1 = h.2.1 := by
  obtain ⟨_, -, -, rfl⟩ := jput_some e; rfl
theorem jsI_n {h h1 : JH} {a : Nat} {i v : Int32} (e : jsI h a i v = some h1) : h1.2.1 = h.2.1 := by
  obtain ⟨_, _, -, -, rfl⟩ := jsI_some e; rfl
theorem jsB_n {h h1 : JH} {a : Nat} {i v : Int32} (e : jsB h a i v = some h1) : h1.2.1 = h.2.1 := by
  obtain ⟨_, _, ⟨-, -, rfl⟩ | ⟨-, -, rfl⟩⟩ := jsB_some e <;> rfl
theorem jsJ_n {h h1 : JH} {a : Nat} {i : Int32} {v : Int64} (e : jsJ h a i v = some h1) : h1.2.1 = h.2.1 := by
  obtain ⟨_, _, -, -, rfl⟩ := jsJ_some e; rfl
theorem jsR_n {h h1 : JH} {a v ci : Nat} {i : Int32} (e : jsR h a i v ci = some h1) : h1.2.1 = h.2.1 := by
  obtain ⟨_, _, _, -, -, -, rfl⟩ := jsR_some e; rfl
theorem jcI_n {h h1 : JH} {a0 a1 : Nat} {sp dp n : Int32} (e : jcI h a0 sp a1 dp n = some h1) : h1.2.1 = h.2.1 := by
  obtain ⟨_, _, _, _, -, -, -, rfl⟩ := jcI_some e; rfl
theorem jcJ_n {h h1 : JH} {a0 a1 : Nat} {sp dp n : Int32} (e : jcJ h a0 sp a1 dp n = some h1) : h1.2.1 = h.2.1 := by
  obtain ⟨_, _, _, _, -, -, -, rfl⟩ := jcJ_some e; rfl
theorem jnA_some {h h1 : JH} {ty : FieldType} {n : Int32} {q : Nat} (e : jnA h ty n = some (q, h1)) : ¬ n < 0 ∧ n.toNatClampNeg ≤ 100000 ∧ q = h.2.1.1 ∧ h1 = j_new h (.inl (ty, (n.toNatClampNeg, jz0 ty))) n.toNatClampNeg := by
  unfold jnA at e
  split at e
  · rename_i hj
    cases e
    exact ⟨hj.1, hj.2, rfl, rfl⟩
  · cases e
theorem jnO_some {h : JH} {ci : Nat} {fs : List Value} {q : Nat × JH} (e : jnO h ci fs = some q) : q = (h.2.1.1, j_new h (.inr (.inl (ci, fs))) fs.length) := (Option.some.inj e).symm
abbrev j_le (h h1 : JH) : Prop := h.2.1.1 ≤ h1.2.1.1 ∧ h.2.1.2 ≤ h1.2.1.2
theorem j_le_refl (h : JH) : j_le h h := ⟨Nat.le_refl _, Nat.le_refl _⟩
theorem j_le_trans {a b c : JH} (x : j_le a b) (y : j_le b c) : j_le a c := ⟨Nat.le_trans x.1 y.1, Nat.le_trans x.2 y.2⟩
theorem j_le_of {h h1 : JH} (e : h1.2.1 = h.2.1) : j_le h h1 := ⟨by rw [e]; exact Nat.le_refl _, by rw [e]; exact Nat.le_refl _⟩
theorem jnO_le {h : JH} {ci : Nat} {fs : List Value} {q : Nat × JH} (e : jnO h ci fs = some q) : j_le h q.2 := by
  rw [jnO_some e]; exact ⟨Nat.le_succ _, Nat.le_add_right _ _⟩
theorem jnA_le {h : JH} {ty : FieldType} {n : Int32} {q : Nat × JH} (e : jnA h ty n = some q) : j_le h q.2 := by
  obtain ⟨a, b⟩ := q
  obtain ⟨-, -, -, rfl⟩ := jnA_some e
  exact ⟨Nat.le_succ _, Nat.le_add_right _ _⟩
def jnz (y : Int32) : Option Unit := if y = 0 then none else some ()
def jnzL (y : Int64) : Option Unit := if y = 0 then none else some ()
def jzb (v : Int32) : Option Unit := if v = 0 ∨ v = 1 then some () else none
def jnn (r : UInt32) : Option Unit := if r &&& 0x7fffffff ≤ 0x7f800000 then some () else none
theorem jnz_some {y : Int32} {u : Unit} (e : jnz y = some u) : ¬ y = 0 := by
  unfold jnz at e; split at e
  · cases e
  · assumption
theorem jnzL_some {y : Int64} {u : Unit} (e : jnzL y = some u) : ¬ y = 0 := by
  unfold jnzL at e; split at e
  · cases e
  · assumption
theorem jzb_some {v : Int32} {u : Unit} (e : jzb v = some u) : v = 0 ∨ v = 1 := by
  unfold jzb at e; split at e
  · assumption
  · cases e
theorem jzb_nar {v : Int32} {u : Unit} (e : jzb v = some u) : narrow .boolean (.int v) = .int v ∧ fits .boolean (.int v) = true := by
  rcases jzb_some e with rfl | rfl <;> exact ⟨rfl, rfl⟩
theorem jnn_some {r : UInt32} {u : Unit} (e : jnn r = some u) : vf_n32 r := by
  unfold jnn at e; split at e
  · assumption
  · cases e
theorem j_ifp {c : Prop} [Decidable c] {α : Type} {a b y : α} (e : (if c then a else b) = y) (h : c) : a = y := by rw [if_pos h] at e; exact e
theorem j_ifn {c : Prop} [Decidable c] {α : Type} {a b y : α} (e : (if c then a else b) = y) (h : ¬ c) : b = y := by rw [if_neg h] at e; exact e
theorem j_ite {c : Prop} [Decidable c] {α : Type} {a b y : α} (e : (if c then a else b) = y) : a = y ∨ b = y := by
  by_cases h : c
  · rw [if_pos h] at e; exact Or.inl e
  · rw [if_neg h] at e; exact Or.inr e
theorem j_eliml {α β γ : Type} {F : α → γ} {G : β → γ} {r : α} {y : γ} (e : Sum.elim F G (.inl r) = y) : F r = y := e
theorem j_elimr {α β γ : Type} {F : α → γ} {G : β → γ} {r : β} {y : γ} (e : Sum.elim F G (.inr r) = y) : G r = y := e
theorem j_elimG {α β : Type} {F : α → Prop} {G : β → Prop} {t : β} (h : G t) : Sum.elim F G (.inr t) := h
theorem j_ne {x c : Int32} {k : Int} (h : ¬ x = c) (hk : c.toInt = k) : x.toInt ≠ k := fun q => h (Int32.toInt_inj.mp (q.trans hk.symm))
/-- a loop: steps until one ends it -/
def jloop {σ τ : Type} (f : σ → JH → Option ((σ ⊕ τ) × JH)) : Nat → σ → JH → Option (τ × JH)
  | 0 => fun _ _ => none
  | n + 1 => fun z h => (f z h).bind fun q => Sum.elim (fun z => jloop f n z q.2) (fun t => some (t, q.2)) q.1
def jF : Nat := 20000
theorem jloop_ind {σ τ : Type} {f : σ → JH → Option ((σ ⊕ τ) × JH)} (P : σ → JH → τ → JH → Prop) (hi : ∀ z h z1 h1 t h2, f z h = some (.inl z1, h1) → P z1 h1 t h2 → P z h t h2) (ho : ∀ z h t h1, f z h = some (.inr t, h1) → P z h t h1) : ∀ (n : Nat) (z : σ) (h : JH) (q : τ × JH), jloop f n z h = some q → P z h q.1 q.2 := by
  intro n
  induction n with
  | zero => intro z h q e; cases e
  | succ n ih =>
    intro z h q e
    obtain ⟨⟨r, h1⟩, e1, e2⟩ := j_bind (show (f z h).bind (fun q => Sum.elim (fun z => jloop f n z q.2) (fun t => some (t, q.2)) q.1) = some q from e)
    cases r with
    | inl z1 => exact hi z h z1 h1 q.1 q.2 e1 (ih z1 h1 q e2)
    | inr t =>
      have e3 : some (t, h1) = some q := e2
      cases e3
      exact ho z h t h1 e1
theorem jloop_eq {σ τ : Type} {f : σ → JH → Option ((σ ⊕ τ) × JH)} (hs : ∀ z h r h1, f z h = some (r, h1) → h1.2.1 = h.2.1) {n : Nat} {z : σ} {h : JH} {q : τ × JH} (e : jloop f n z h = some q) : q.2.2.1 = h.2.1 :=
  jloop_ind (fun _ h _ h2 => h2.2.1 = h.2.1) (fun z h z1 h1 _ _ a b => b.trans (hs z h _ h1 a)) (fun z h t h1 a => hs z h _ h1 a) n z h q e
theorem jloop_le {σ τ : Type} {f : σ → JH → Option ((σ ⊕ τ) × JH)} (hs : ∀ z h r h1, f z h = some (r, h1) → j_le h h1) {n : Nat} {z : σ} {h : JH} {q : τ × JH} (e : jloop f n z h = some q) : j_le h q.2 :=
  jloop_ind (fun _ h _ h2 => j_le h h2) (fun z h z1 h1 _ _ a b => j_le_trans (hs z h _ h1 a) b) (fun z h t h1 a => hs z h _ h1 a) n z h q e
theorem x_loop {σ τ : Type} {f : σ → JH → Option ((σ ⊕ τ) × JH)} {P : σ → JH → Prop} {K : τ → JH → Prop} (hstep : ∀ z h r h1, f z h = some (r, h1) → Sum.elim (fun z => P z h1) (fun t => K t h1) r → P z h) {n : Nat} {z : σ} {h : JH} {q : τ × JH} (e : jloop f n z h = some q) (hk : K q.1 q.2) : P z h :=
  jloop_ind (fun z h t h2 => K t h2 → P z h) (fun z h z1 h1 _ _ a b k => hstep z h _ h1 a (b k)) (fun z h t h1 a k => hstep z h _ h1 a k) n z h q e hk
theorem x_loopA {σ τ : Type} {f : σ → JH → Option ((σ ⊕ τ) × JH)} {P : σ → JH → Prop} {K : τ → JH → Prop} {hF : JH} (hstep : ∀ z h r h1, f z h = some (r, h1) → j_le h1 hF → Sum.elim (fun z => P z h1) (fun t => K t h1) r → P z h) (hs : ∀ z h r h1, f z h = some (r, h1) → j_le h h1) {n : Nat} {z : σ} {h : JH} {q : τ × JH} (e : jloop f n z h = some q) (hl : j_le q.2 hF) (hk : K q.1 q.2) : P z h :=
  (jloop_ind (fun z h t h2 => j_le h2 hF → K t h2 → P z h ∧ j_le h hF) (fun z h z1 h1 _ _ a b l k => ⟨hstep z h _ h1 a (b l k).2 (b l k).1, j_le_trans (hs z h _ h1 a) (b l k).2⟩) (fun z h t h1 a l k => ⟨hstep z h _ h1 a l k, j_le_trans (hs z h _ h1 a) l⟩) n z h q e hl hk).1
