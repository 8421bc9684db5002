/-! Calls that only look. -/
theorem rng_cases (v : Int32) (n : Nat) : (∃ r : Nat, r < n ∧ v = ii (r : Int)) ∨ (∃ z : Int, v = ii z ∧ -2147483648 ≤ z ∧ z < 2147483648 ∧ (z < 0 ∨ (n : Int) ≤ z)) := by
  have h1 := Int32.le_toInt v
  have h2 := Int32.toInt_lt v
  by_cases h : 0 ≤ v.toInt ∧ v.toInt < (n : Int)
  · refine Or.inl ⟨v.toInt.toNat, by omega, ?_⟩
    rw [show ((v.toInt.toNat : Nat) : Int) = v.toInt by omega]
    exact ii_of v
  · exact Or.inr ⟨v.toInt, ii_of v, by omega, by omega, by omega⟩
theorem any_int (v : Int32) : ∃ z : Int, v = ii z ∧ -2147483648 ≤ z ∧ z < 2147483648 := ⟨v.toInt, ii_of v, by have := Int32.le_toInt v; omega, by have := Int32.toInt_lt v; omega⟩
theorem x_reg_y (h : JH) {r : Nat} (hr : r < 4) : f_X11_isRegister (ii (r : Int)) h = some (ii ((1 : Nat) : Int), h) := by
  unfold f_X11_isRegister
  simp (disch := omega) only [k0, k4, k1, n_lt, n_le, show ¬ (r < 0) by omega, show ¬ (4 ≤ r) by omega, ↓reduceIte]
theorem x_reg_n (h : JH) {z : Int} (h1 : -2147483648 ≤ z) (h2 : z < 2147483648) (hz : z < 0 ∨ ((4 : Nat) : Int) ≤ z) : f_X11_isRegister (ii z) h = some (ii ((0 : Nat) : Int), h) := by
  unfold f_X11_isRegister
  simp (disch := omega) only [k0, k4, i_lt, i_le]
  by_cases q : z < 0
  · rw [if_pos (by omega)]
  · rw [if_neg (by omega), if_pos (by omega)]
theorem m_win (h : JH) {z x y : Int} (h1 : -2147483648 ≤ z) (h2 : z < 2147483648) (h3 : -2147483648 ≤ x) (h4 : x < 2147483648) (h5 : -2147483648 ≤ y) (h6 : y < 2147483648) : f_X12_within (ii z) (ii x) (ii y) h = some (ii (((if x ≤ z ∧ z ≤ y then 1 else 0 : Nat)) : Int), h) := by
  unfold f_X12_within
  simp (disch := omega) only [i_lt]
  by_cases q : z < x
  · rw [if_pos q, if_neg (by omega)]; rfl
  · rw [if_neg q]
    by_cases q2 : y < z
    · rw [if_pos q2, if_neg (by omega)]; rfl
    · rw [if_neg q2, if_pos (by omega)]; rfl
theorem jzb_n {v : Nat} (h : v = 0 ∨ v = 1) : jzb (ii (v : Int)) = some () := by
  rcases h with rfl | rfl <;> rfl
theorem m_reg_y (h : JH) (m : Nat) {r : Nat} (hr : r < 4) : f_X12_isRegister m (ii (r : Int)) h = some (ii ((1 : Nat) : Int), h) := by
  unfold f_X12_isRegister
  rw [k0, k3, m_win h (by omega) (by omega) (by omega) (by omega) (by omega) (by omega), if_pos (by omega)]
  rfl
theorem m_reg_n (h : JH) (m : Nat) {z : Int} (h1 : -2147483648 ≤ z) (h2 : z < 2147483648) (hz : z < 0 ∨ ((4 : Nat) : Int) ≤ z) : f_X12_isRegister m (ii z) h = some (ii ((0 : Nat) : Int), h) := by
  unfold f_X12_isRegister
  rw [k0, k3, m_win h h1 h2 (by omega) (by omega) (by omega) (by omega), if_neg (by omega)]
  rfl
theorem x_long (h : JH) {k : Nat} (hk : k ≤ 60) : f_X11_lengthOf (ii (k : Int)) h = some (ii ((Lk k : Nat) : Int), h) := by
  unfold f_X11_lengthOf Lk
  simp (disch := omega) only [k12, k2, k1, n_rem, n_div, n_eq, n_add]
  by_cases q : k % 12 = 2 <;> simp only [q, ↓reduceIte]
theorem x_cusps (h : JH) {k : Nat} (hk : k ≤ 60) : f_X11_cuspsOf (ii (k : Int)) h = some (ii ((Lk k - 1 : Nat) : Int), h) := by
  have hL := Lk_r hk
  unfold f_X11_cuspsOf
  rw [x_long h hk]
  simp only [Option.bind_some]
  by_cases q : Lk k = 0
  · rw [q]; rfl
  · simp (disch := omega) only [k1, n_sub, k0, n_lt]
    rw [if_neg (by omega)]
theorem m_cusps (h : JH) {k : Nat} (hk : k ≤ 60) : f_X12_cuspsOf (ii (k : Int)) h = some (ii ((Lk k - 1 : Nat) : Int), h) := by
  have hL := Lk_r hk
  unfold f_X12_cuspsOf
  rw [m_long h hk]
  simp only [Option.bind_some]
  simp (disch := omega) only [k0, n_eq]
  by_cases q : Lk k = 0
  · rw [if_pos q, q]
  · rw [if_neg q, m_long h hk]
    simp only [Option.bind_some]
    rw [k1, n_sub (by omega)]
/-- a weight or none -/
theorem wt_cases (v : Int32) : (∃ k : Nat, k ≤ 60 ∧ k % 2 = 0 ∧ v = ii (k : Int) ∧ (∀ h, f_X11_isWeight v h = some (ii ((1 : Nat) : Int), h)) ∧ (∀ h, f_X12_isWeight v h = some (ii ((1 : Nat) : Int), h))) ∨ ((∀ h, f_X11_isWeight v h = some (ii ((0 : Nat) : Int), h)) ∧ (∀ h, f_X12_isWeight v h = some (ii ((0 : Nat) : Int), h))) := by
  rcases rng_cases v 61 with ⟨k, hk, rfl⟩ | ⟨z, rfl, h1, h2, hz⟩
  · by_cases q : k % 2 = 0
    · refine Or.inl ⟨k, by omega, q, rfl, fun h => ?_, fun h => ?_⟩
      · unfold f_X11_isWeight
        simp (disch := omega) only [k0, k60, k2, k1, n_lt, n_rem, n_eq, show ¬ (k < 0) by omega, show ¬ (60 < k) by omega, q, ↓reduceIte]
      · unfold f_X12_isWeight
        rw [k0, k60, m_win h (by omega) (by omega) (by omega) (by omega) (by omega) (by omega), if_pos (by omega)]
        simp (disch := omega) only [Option.bind_some, k2, k1, n_rem, n_eq, q, ↓reduceIte, show ¬ (1 = 0) by omega]
    · refine Or.inr ⟨fun h => ?_, fun h => ?_⟩
      · unfold f_X11_isWeight
        simp (disch := omega) only [k0, k60, k2, k1, n_lt, n_rem, n_eq, show ¬ (k < 0) by omega, show ¬ (60 < k) by omega, q, ↓reduceIte]
      · unfold f_X12_isWeight
        rw [k0, k60, m_win h (by omega) (by omega) (by omega) (by omega) (by omega) (by omega), if_pos (by omega)]
        simp (disch := omega) only [Option.bind_some, k2, k1, n_rem, n_eq, q, ↓reduceIte, show ¬ (1 = 0) by omega]
  · refine Or.inr ⟨fun h => ?_, fun h => ?_⟩
    · unfold f_X11_isWeight
      simp (disch := omega) only [k0, k60, i_lt]
      by_cases q : z < 0
      · rw [if_pos (by omega)]
      · rw [if_neg (by omega), if_pos (by omega)]
    · unfold f_X12_isWeight
      rw [k0, k60, m_win h h1 h2 (by omega) (by omega) (by omega) (by omega), if_neg (by omega)]
      rfl
def OPS (b : Nat) (S0 : SS) (A0 : ZA) (cc : Nat → Nat) (e : Nat) (fx fm : JH → Option (Int32 × JH)) : Prop := ∀ h, IH b S0 A0 cc e h → ∃ r h1 h2, fx h = some (r, h1) ∧ fm h1 = some (r, h2) ∧ IH b S0 A0 cc e h2
section ops
variable {b : Nat} {S0 : SS} {A0 : ZA} {cc : Nat → Nat} {e : Nat}
theorem op_makes (v : Int32) (w : Int32) : OPS b S0 A0 cc e (f_X11_makes b v w) (f_X12_makes (b + 286) v w) := by
  rintro h ⟨S, A, B, c, p, bs, nb, rfl, h1, h2⟩
  obtain ⟨g1, g2⟩ := IH_thrown (v := ((0 : Nat) : Int)) h1 h2
  have hX := h2.1
  have fin : IH b S0 A0 cc e (mz S (za A (b + 286) (up (A (b + 286)) 0 ((0 : Nat) : Int))) B c) := ⟨S, _, B, c, p, bs, nb, rfl, g1, g2⟩
  rcases wt_cases v with ⟨k, hk, hk2, rfl, e1, e2⟩ | ⟨e1, e2⟩
  · by_cases q : w = ii ((0 : Nat) : Int)
    · refine ⟨ii ((Lk k : Nat) : Int), mz S A B c, _, ?_, ?_, fin⟩
      · unfold f_X11_makes
        simp (disch := omega) only [k0, e1, Option.bind_some, n_eq, show ¬ (1 = 0) by omega, ↓reduceIte, x_long _ hk, q, eq_self]
      · unfold f_X12_makes
        simp (disch := omega) only [k0, MP0 (L_mod hX), e2, Option.bind_some, n_eq, show ¬ (1 = 0) by omega, ↓reduceIte, m_long _ hk, q, eq_self]
    · refine ⟨ii ((Lk k - 1 : Nat) : Int), mz S A B c, _, ?_, ?_, fin⟩
      · unfold f_X11_makes
        simp (disch := omega) only [k0, e1, Option.bind_some, n_eq, show ¬ (1 = 0) by omega, ↓reduceIte, x_cusps _ hk, q]
      · unfold f_X12_makes
        simp (disch := omega) only [k0, MP0 (L_mod hX), e2, Option.bind_some, n_eq, show ¬ (1 = 0) by omega, ↓reduceIte, m_cusps _ hk, q]
  · refine ⟨-1, mz S A B c, _, ?_, ?_, fin⟩
    · unfold f_X11_makes
      simp only [k0, e1, Option.bind_some, eq_self, ↓reduceIte]
    · unfold f_X12_makes
      simp only [k0, MP0 (L_mod hX), e2, Option.bind_some, eq_self, ↓reduceIte]
theorem op_weight (v : Int32) : OPS b S0 A0 cc e (f_X11_weight b v) (f_X12_weight (b + 286) v) := by
  rintro h ⟨S, A, B, c, p, bs, nb, rfl, h1, h2⟩
  obtain ⟨g1, g2⟩ := IH_thrown (v := ((0 : Nat) : Int)) h1 h2
  have hX := h2.1
  have fin : IH b S0 A0 cc e (mz S (za A (b + 286) (up (A (b + 286)) 0 ((0 : Nat) : Int))) B c) := ⟨S, _, B, c, p, bs, nb, rfl, g1, g2⟩
  rcases rng_cases v 4 with ⟨r, hr, rfl⟩ | ⟨z, rfl, a1, a2, a3⟩
  · obtain ⟨w, R, q1, q2, q3, q4, q5⟩ := h1.2.2.2.2.2.1 r hr
    refine ⟨ii (w : Int), mz S A B c, _, ?_, ?_, fin⟩
    · unfold f_X11_weight
      simp (disch := omega) only [k0, x_reg_y _ hr, Option.bind_some, n_eq, show ¬ (1 = 0) by omega, ↓reduceIte, XR5 hX, fgR (L_regs hX), FI ((L_regs hX).2 r hr), q2]
    · unfold f_X12_weight
      simp (disch := omega) only [k0, MP0 (L_mod hX), Mv (L_mod hX), m_reg_y _ _ hr, Option.bind_some, n_eq, show ¬ (1 = 0) by omega, ↓reduceIte, MR31 (L_mod hX), Ma18 (L_mod hX), za_ne, q4]
  · refine ⟨-1, mz S A B c, _, ?_, ?_, fin⟩
    · unfold f_X11_weight
      simp only [k0, x_reg_n _ a1 a2 a3, Option.bind_some, eq_self, ↓reduceIte]
    · unfold f_X12_weight
      simp only [k0, MP0 (L_mod hX), Mv (L_mod hX), m_reg_n _ _ a1 a2 a3, Option.bind_some, eq_self, ↓reduceIte]
/-- a let or none -/
theorem let_cases {S : SS} {A B : ZA} {c : (Nat × Nat) × (Nat → Nat)} (hX : LX S b) {n : Nat} (hn : n ≤ 6) (h3 : A b 3 = (n : Int)) (v : Int32) : (∃ i : Nat, i < n ∧ v = ii (i : Int) ∧ f_X11_isLet b v (mz S A B c) = some (ii ((1 : Nat) : Int), mz S A B c) ∧ (∀ h, f_X12_within v (ii ((0 : Nat) : Int)) (ii ((n : Int) - ((1 : Nat) : Int))) h = some (ii ((1 : Nat) : Int), h))) ∨ (f_X11_isLet b v (mz S A B c) = some (ii ((0 : Nat) : Int), mz S A B c) ∧ (∀ h, f_X12_within v (ii ((0 : Nat) : Int)) (ii ((n : Int) - ((1 : Nat) : Int))) h = some (ii ((0 : Nat) : Int), h))) := by
  rcases rng_cases v n with ⟨i, hi, rfl⟩ | ⟨z, rfl, a1, a2, a3⟩
  · refine Or.inl ⟨i, hi, rfl, ?_, fun h => ?_⟩
    · unfold f_X11_isLet
      simp (disch := omega) only [k0, XI3 hX, h3, Option.bind_some, n_lt, n_le, show ¬ (i < 0) by omega, show ¬ (n ≤ i) by omega, ↓reduceIte, k1]
    · rw [m_win h (by omega) (by omega) (by omega) (by omega) (by omega) (by omega), if_pos (by omega)]
  · refine Or.inr ⟨?_, fun h => ?_⟩
    · unfold f_X11_isLet
      simp (disch := omega) only [k0, XI3 hX, h3, Option.bind_some, i_lt, i_le]
      by_cases q : z < 0
      · rw [if_pos (by omega)]
      · rw [if_neg (by omega), if_pos (by omega)]
    · rw [m_win h a1 a2 (by omega) (by omega) (by omega) (by omega), if_neg (by omega)]
theorem isF_r {p : Int} (hp : PR p) {w : Nat} {R : Nat → Int} (h : isF p w R) (n : Nat) : 0 ≤ R n ∧ R n < p := VV_r (PR_1 hp) h.2.2.2 n
theorem op_let (v w : Int32) : OPS b S0 A0 cc e (f_X11_let b v w) (f_X12_let (b + 286) v w) := by
  rintro h ⟨S, A, B, c, p, bs, nb, rfl, h1, h2⟩
  obtain ⟨g1, g2⟩ := IH_thrown (v := ((0 : Nat) : Int)) h1 h2
  have hX := h2.1
  have fin : IH b S0 A0 cc e (mz S (za A (b + 286) (up (A (b + 286)) 0 ((0 : Nat) : Int))) B c) := ⟨S, _, B, c, p, bs, nb, rfl, g1, g2⟩
  obtain ⟨n, n1, n2, n3, n4⟩ := h1.2.2.2.2.1
  have hu : za A (b + 286) (up (A (b + 286)) 0 ((0 : Nat) : Int)) (b + 286) 19 = (n : Int) := by rw [za_at, up_ne _ _ (by omega)]; exact n3
  rcases let_cases (B := B) (c := c) hX n1 n2 v with ⟨i, hi, rfl, e1, e2⟩ | ⟨e1, e2⟩
  · obtain ⟨wt, R, q1, q2, q3, q4, q5⟩ := n4 i hi
    have r0 := isF_r h1.1 q1 0
    have hp := PR_p h1.1
    have q30 := q3 0 (by omega)
    have q50 : A (b + 286 + 11) (181 * i) = R 0 := q5 0 (by omega)
    have hz : ii (R 0) = ii ((0 : Nat) : Int) ↔ R 0 = ((0 : Nat) : Int) := i_eq (by omega) (by omega) (by omega) (by omega)
    have hw : wt ≤ 60 := q1.2.1
    refine ⟨if w = ii ((0 : Nat) : Int) then ii (wt : Int) else if w = ii ((1 : Nat) : Int) then ii ((Lk wt : Nat) : Int) else if w = ii ((2 : Nat) : Int) then (if R 0 = ((0 : Nat) : Int) then ii ((1 : Nat) : Int) else ii ((0 : Nat) : Int)) else -ii ((1 : Nat) : Int), mz S A B c, _, ?_, ?_, fin⟩
    · unfold f_X11_let
      simp (disch := omega) only [k0, k1, k2, Xv hX, e1, Option.bind_some, n_eq, show ¬ (1 = 0) by omega, ↓reduceIte, XR4 hX, fgR (L_lets hX), FI ((L_lets hX).2 i (by omega)), FR ((L_lets hX).2 i (by omega)), FA ((L_lets hX).2 i (by omega)), q2, q30, x_long _ hw, hz]
      by_cases a : w = ii ((0 : Nat) : Int)
      · rw [if_pos a, if_pos a]
      · rw [if_neg a, if_neg a]
        by_cases a1 : w = ii ((1 : Nat) : Int)
        · rw [if_pos a1, if_pos a1]
        · rw [if_neg a1, if_neg a1]
          by_cases a2 : w = ii ((2 : Nat) : Int)
          · rw [if_pos a2, if_pos a2]
            by_cases a3 : R 0 = ((0 : Nat) : Int)
            · rw [if_pos a3, if_pos a3]
            · rw [if_neg a3, if_neg a3]
          · rw [if_neg a2, if_neg a2]
    · unfold f_X12_let
      simp (disch := omega) only [k0, k1, k2, k181, MP0 (L_mod hX), MI19 (L_mod hX), hu, ii_sub, e2, Option.bind_some, n_eq, show ¬ (1 = 0) by omega, ↓reduceIte, MR20 (L_mod hX), MR21 (L_mod hX), n_mul, Ma10 (L_mod hX), Ma11 (L_mod hX), za_ne, q4, q50, m_long _ hw, hz]
      by_cases a : w = ii ((0 : Nat) : Int)
      · rw [if_pos a, if_pos a]
      · rw [if_neg a, if_neg a]
        by_cases a1 : w = ii ((1 : Nat) : Int)
        · rw [if_pos a1, if_pos a1]
        · rw [if_neg a1, if_neg a1]
          by_cases a2 : w = ii ((2 : Nat) : Int)
          · rw [if_pos a2, if_pos a2]
            by_cases a3 : R 0 = ((0 : Nat) : Int)
            · rw [if_pos a3, if_pos a3]
            · rw [if_neg a3, if_neg a3]
          · rw [if_neg a2, if_neg a2]
  · refine ⟨-ii ((1 : Nat) : Int), mz S A B c, _, ?_, ?_, fin⟩
    · unfold f_X11_let
      simp only [k0, k1, Xv hX, e1, Option.bind_some, eq_self, ↓reduceIte]
    · unfold f_X12_let
      simp only [k0, k1, MP0 (L_mod hX), MI19 (L_mod hX), hu, ii_sub, e2, Option.bind_some, eq_self, ↓reduceIte]
end ops
