/-! What the pure part owes. -/
def k_four : Nat → Int32 := fun j => [1, 240, 2160, 6720, 17520, 30240].getD j 0
def k_six : Nat → Int32 := fun j => [1, -504, -16632, -122976, -532728, -1575504].getD j 0
def k_delta : Nat → Int32 := fun j => [0, 1, -24, 252, -1472, 4830].getD j 0
/-- what the pure part must give: the law's function answers 1, within the room -/
def LawPure : Prop := ∀ (b L : Nat) (xs : Nat → Int32) (h : JH), L ≤ 3072 → h.2.1.2 = 0 → h.1 b = some (.inr (.inr (L, xs))) → h.1 (h.2.2 0) = some (.inr (.inr (6, k_four))) → h.1 (h.2.2 1) = some (.inr (.inr (6, k_six))) → h.1 (h.2.2 2) = some (.inr (.inr (6, k_delta))) →
  (∀ a, h.2.1.1 ≤ a → h.1 a = none) → (∀ i j : Nat, i < 6 → j < 6 → h.2.2 (3 + i) = h.2.2 (3 + j) → i = j) → (∀ i : Nat, i < 15 → h.2.2 i < h.2.1.1) → (∀ a c, h.1 a = some c → j_ro c = true) →
  ∃ h1 : JH, f_L_law b h = some (1, h1) ∧ h1.2.1.1 ≤ h.2.1.1 + 601024 ∧ h1.2.1.2 ≤ 7293034
