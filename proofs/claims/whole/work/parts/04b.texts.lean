/-! The two methods that look at constant texts: their functions (walked by hand). -/
theorem j_inj {α : Type} {a q : α} (e : some a = some q) : q = a := (Option.some.inj e).symm
theorem j_inj2 {α β : Type} {a r : α} {b h : β} (e : some (a, b) = some (r, h)) : r = a ∧ h = b := by
  have e1 := Option.some.inj e
  exact ⟨(congrArg Prod.fst e1).symm, (congrArg Prod.snd e1).symm⟩
/-- behind an exception that was made and left -/
def jexc (h : JH) : JH := (h.1, ((h.2.1.1 + 1, h.2.1.2 + 6), h.2.2))
theorem jexc_le (h : JH) : j_le h (jexc h) := ⟨Nat.le_add_right _ _, Nat.le_add_right _ _⟩
def jcmp (h : JH) (a : Nat) : Int32 → List Int32 → Option Int32
  | _, [] => some 1
  | i, w :: ws => (jaB h a i).bind fun v => if v = w then jcmp h a (i + 1) ws else some 0
def jword (h : JH) (a0 : Nat) (a1 a2 : Int32) (ws : List Int32) : Option Int32 :=
  if 0 ≤ a1 ∧ a1 ≤ a2 ∧ a2 ≤ 1000 then (if a2 - a1 = Int32.ofNat ws.length then jcmp h a0 a1 ws else some 0) else none
def f_X9_kindOfWord (a0 : Nat) (a1 a2 : Int32) (h : JH) : Option (Int32 × JH) :=
  (jword h a0 a1 a2 [112, 114, 105, 109, 101]).bind fun v1 => if v1 = 1 then some (4, h) else
  (jword h a0 a1 a2 [108, 101, 116]).bind fun v2 => if v2 = 1 then some (5, h) else
  (jword h a0 a1 a2 [98, 101]).bind fun v3 => if v3 = 1 then some (6, h) else
  (jword h a0 a1 a2 [102, 111, 117, 114]).bind fun v4 => if v4 = 1 then some (7, h) else
  (jword h a0 a1 a2 [115, 105, 120]).bind fun v5 => if v5 = 1 then some (8, h) else
  (jword h a0 a1 a2 [100, 101, 108, 116, 97]).bind fun v6 => if v6 = 1 then some (9, h) else some (2, h)
theorem q_X9_kindOfWord {a0 : Nat} {a1 a2 : Int32} {h : JH} {q : Int32 × JH} (hf : f_X9_kindOfWord a0 a1 a2 h = some q) : q.2.2.1 = h.2.1 := by
  unfold f_X9_kindOfWord at hf
  obtain ⟨v1, -, hf⟩ := j_bind hf
  rcases j_ite hf with hf | hf
  · cases hf; rfl
  obtain ⟨v2, -, hf⟩ := j_bind hf
  rcases j_ite hf with hf | hf
  · cases hf; rfl
  obtain ⟨v3, -, hf⟩ := j_bind hf
  rcases j_ite hf with hf | hf
  · cases hf; rfl
  obtain ⟨v4, -, hf⟩ := j_bind hf
  rcases j_ite hf with hf | hf
  · cases hf; rfl
  obtain ⟨v5, -, hf⟩ := j_bind hf
  rcases j_ite hf with hf | hf
  · cases hf; rfl
  obtain ⟨v6, -, hf⟩ := j_bind hf
  rcases j_ite hf with hf | hf
  · cases hf; rfl
  · cases hf; rfl
