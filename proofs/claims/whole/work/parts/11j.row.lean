/-! Shelves: row, swap. -/
theorem x_row_y (h : JH) {s r : Nat} (hs : s < 2) (hr : r < 4) : f_X11_isRow (ii (s : Int)) (ii (r : Int)) h = some (ii ((1 : Nat) : Int), h) := by
  unfold f_X11_isRow
  simp (disch := omega) only [k0, k2, k4, k1, n_lt, n_le, show ¬ (s < 0) by omega, show ¬ (2 ≤ s) by omega, show ¬ (r < 0) by omega, show ¬ (4 ≤ r) by omega, ↓reduceIte]
/-- a row's place, or none -/
theorem row_cases (v w : Int32) : (∃ s r : Nat, s < 2 ∧ r < 4 ∧ v = ii (s : Int) ∧ w = ii (r : Int) ∧ (∀ h, f_X12_within v (ii ((0 : Nat) : Int)) (ii ((1 : Nat) : Int)) h = some (ii ((1 : Nat) : Int), h)) ∧ (∀ h, f_X12_within w (ii ((0 : Nat) : Int)) (ii ((3 : Nat) : Int)) h = some (ii ((1 : Nat) : Int), h))) ∨ ((∀ h, f_X11_isRow v w h = some (ii ((0 : Nat) : Int), h)) ∧ ((∀ h, f_X12_within v (ii ((0 : Nat) : Int)) (ii ((1 : Nat) : Int)) h = some (ii ((0 : Nat) : Int), h)) ∨ ((∀ h, f_X12_within v (ii ((0 : Nat) : Int)) (ii ((1 : Nat) : Int)) h = some (ii ((1 : Nat) : Int), h)) ∧ (∀ h, f_X12_within w (ii ((0 : Nat) : Int)) (ii ((3 : Nat) : Int)) h = some (ii ((0 : Nat) : Int), h))))) := by
  rcases rng_cases v 2 with ⟨s, hs, rfl⟩ | ⟨z, rfl, a1, a2, a3⟩
  · rcases rng_cases w 4 with ⟨r, hr, rfl⟩ | ⟨y, rfl, b1, b2, b3⟩
    · refine Or.inl ⟨s, r, hs, hr, rfl, rfl, fun h => ?_, fun h => ?_⟩
      · rw [m_win h (by omega) (by omega) (by omega) (by omega) (by omega) (by omega), if_pos (by omega)]
      · rw [m_win h (by omega) (by omega) (by omega) (by omega) (by omega) (by omega), if_pos (by omega)]
    · refine Or.inr ⟨fun h => ?_, Or.inr ⟨fun h => ?_, fun h => ?_⟩⟩
      · unfold f_X11_isRow
        simp (disch := omega) only [k0, k2, k4, k1, n_lt, n_le, show ¬ (s < 0) by omega, show ¬ (2 ≤ s) by omega, ↓reduceIte, i_lt, i_le]
        by_cases q : y < 0
        · rw [if_neg (by omega), if_neg (by omega), if_pos (by omega)]
        · rw [if_neg (by omega), if_neg (by omega), if_neg (by omega), if_pos (by omega)]
      · rw [m_win h (by omega) (by omega) (by omega) (by omega) (by omega) (by omega), if_pos (by omega)]
      · rw [m_win h (by omega) (by omega) (by omega) (by omega) (by omega) (by omega), if_neg (by omega)]
  · refine Or.inr ⟨fun h => ?_, Or.inl fun h => ?_⟩
    · unfold f_X11_isRow
      simp (disch := omega) only [k0, k2, i_lt, i_le]
      by_cases q : z < 0
      · rw [if_pos (by omega)]
      · rw [if_neg (by omega), if_pos (by omega)]
    · rw [m_win h (by omega) (by omega) (by omega) (by omega) (by omega) (by omega), if_neg (by omega)]
section ops
variable {b : Nat} {S0 : SS} {A0 : ZA} {cc : Nat → Nat} {e : Nat}
theorem sh_sort {A B : ZA} (h : SHV A B b) {s : Nat} (hs : s < 2) : ∃ σ : Nat, σ < 2 ∧ A (b + 24 + 1 + 7 * s) 0 = (σ : Int) ∧ ∀ (S : SS) (A1 B1 : ZA) (c : (Nat × Nat) × (Nat → Nat)), LM S (b + 286) → A1 (b + 286) 42 = A (b + 286) 42 → f_X12_sortOf (b + 286) (ii (s : Int)) (mz S A1 B1 c) = some (ii (σ : Int), mz S A1 B1 c) := by
  obtain ⟨a, b1, c1, _⟩ := h
  by_cases s0 : s = 0
  · subst s0
    refine ⟨(A (b + 286) 42).toNat, by omega, by rw [b1]; omega, fun S A1 B1 c hM h42 => ?_⟩
    unfold f_X12_sortOf
    rw [if_pos (show ii ((0 : Nat) : Int) = (0 : Int32) from rfl), MI42 hM, h42]
    simp only [Option.bind_some]
    rw [show (((A (b + 286) 42).toNat : Nat) : Int) = A (b + 286) 42 by omega]
  · have s1 : s = 1 := by omega
    subst s1
    refine ⟨(1 - A (b + 286) 42).toNat, by omega, by rw [c1]; omega, fun S A1 B1 c hM h42 => ?_⟩
    unfold f_X12_sortOf
    rw [if_neg (show ¬ (ii ((1 : Nat) : Int) = (0 : Int32)) by decide), MI42 hM, h42]
    simp only [Option.bind_some]
    rw [show (((1 - A (b + 286) 42).toNat : Nat) : Int) = 1 - A (b + 286) 42 by omega, show (1 : Int32) = ii 1 from rfl, ii_sub]
theorem op_row (v w u : Int32) : ∀ h, IH b S0 A0 cc e h → ∃ k h1 r h2, f_L_row b v w u (b + 320) h = some (k, h1) ∧ f_X12_row (b + 286) v w u h1 = some (r, h2) ∧ f_X12_thrown (b + 286) h2 = some (k, h2) ∧ (k = ii ((0 : Nat) : Int) → ∃ x, jaJ h2 (b + 320) (ii ((0 : Nat) : Int)) = some x ∧ lg_cmp x r = (0 : Int32)) ∧ IH b S0 A0 cc (e + 1) h2 := by
  rintro h ⟨S, A, B, c, p, bs, nb, rfl, h1, h2⟩
  have hX := h2.1
  have hM := L_mod hX
  have hV := h1.2.2.2.2.2.2.1
  have k13 : (13 : Int32) = ii ((13 : Nat) : Int) := rfl
  -- what is told where it throws
  have bad : f_X11_row b v w u (mz S A B c) = some (none, mz S A B ((c.1.1 + 1, c.1.2 + 6), c.2)) → (∃ r, f_X12_row (b + 286) v w u (mz S A B ((c.1.1 + 1, c.1.2 + 6), c.2)) = some (r, mz S (za A (b + 286) (up (A (b + 286)) 0 ((1 : Nat) : Int))) B ((c.1.1 + 1, c.1.2 + 6), c.2))) → ∃ k h1 r h2, f_L_row b v w u (b + 320) (mz S A B c) = some (k, h1) ∧ f_X12_row (b + 286) v w u h1 = some (r, h2) ∧ f_X12_thrown (b + 286) h2 = some (k, h2) ∧ (k = ii ((0 : Nat) : Int) → ∃ x, jaJ h2 (b + 320) (ii ((0 : Nat) : Int)) = some x ∧ lg_cmp x r = (0 : Int32)) ∧ IH b S0 A0 cc (e + 1) h2 := by
    rintro e1 ⟨r, e2⟩
    obtain ⟨g3, g4⟩ := IH_mf 0 ((1 : Nat) : Int) (by omega) h1 (IH_exc h2)
    refine ⟨ii ((1 : Nat) : Int), _, r, _, ?_, e2, ?_, fun x => absurd x (by decide), ⟨S, _, _, _, p, bs, nb, rfl, g3, g4⟩⟩
    · unfold f_L_row
      rw [Xv hX]
      simp only [Option.bind_some]
      rw [e1]
      rfl
    · unfold f_X12_thrown
      rw [MI0 hM, za_at, up_at]; rfl
  have mcells : ∀ {c' : (Nat × Nat) × (Nat → Nat)} {B' : ZA}, jput (mz S A B' c') (b + 286) 9 0 (.int (ii ((1 : Nat) : Int))) = some (mz S (za A (b + 286) (up (A (b + 286)) 0 ((1 : Nat) : Int))) B' c') := MP0 hM
  rcases row_cases v w with ⟨s, r, hs, hr, rfl, rfl, w1, w2⟩ | ⟨n1, n2⟩
  · obtain ⟨f1, f2, f3⟩ := hV.2.2.2 s hs r hr
    rw [Nat.zero_add] at f1
    obtain ⟨σ, σ1, σ2, σ3⟩ := sh_sort hV hs
    have fe : za A (b + 286) (up (A (b + 286)) 0 ((1 : Nat) : Int)) (b + 286 + 26) (4 * s + r) = A (b + 24 + 2 + 7 * s) r := by rw [za_ne _ _ (by omega), f1]
    have h42 : za A (b + 286) (up (A (b + 286)) 0 ((1 : Nat) : Int)) (b + 286) 42 = A (b + 286) 42 := by rw [za_at, up_ne _ _ (by omega)]
    rcases f2 with f0 | ff
    · refine bad ?_ ⟨ll 0, ?_⟩
      · unfold f_X11_row
        simp (disch := omega) only [x_row_y _ hs hr, Option.bind_some, k0, n_eq, show ¬ (1 = 0) by omega, ↓reduceIte, XR6 hX, sgR (L_shv hX), sgR1 (L_shv hX), sgF (L_shv hX), f0]
        rw [if_pos (show ii 0 = ii ((0 : Nat) : Int) from rfl)]
        rfl
      · unfold f_X12_row
        rw [k1, mcells]
        simp (disch := omega) only [Option.bind_some, k0, k3, k4, w1, w2, n_eq, show ¬ (1 = 0) by omega, ↓reduceIte, MR43 hM, n_mul, n_add, Ma26 hM, fe, f0]
        rw [if_pos (show ii 0 = ii ((0 : Nat) : Int) from rfl)]
        rfl
    · have hlim : ∃ N : Nat, N ≤ 13 ∧ (σ = 0 ∧ N = 13 ∨ σ = 1 ∧ N = 12) := by
        by_cases σ0 : σ = 0
        · exact ⟨13, by omega, by omega⟩
        · exact ⟨12, by omega, by omega⟩
      obtain ⟨N, N1, N2⟩ := hlim
      have hnum : f_X6_numbersInRow (b + 24 + 1 + 7 * s) (mz S A B c) = some (ii (N : Int), mz S A B c) := by
        unfold f_X6_numbersInRow
        simp (disch := omega) only [sgI (L_shv hX) hs, σ2, Option.bind_some, k0, k12, k13, n_eq]
        rcases N2 with ⟨a, rfl⟩ | ⟨a, rfl⟩
        · rw [if_pos a]
        · rw [if_neg (by omega)]
      have cl : ∀ (R : Option ((Option Int64) × JH)), (if u < ii ((0 : Nat) : Int) then some (none, jexc (mz S A B c)) else if u < ii (N : Int) then (jaJ (mz S A B c) (b + 24 + 3 + 7 * s + 1 + r) u).bind fun v25 => some (some v25, mz S A B c) else some (none, jexc (mz S A B c))) = R → f_X11_row b (ii (s : Int)) (ii (r : Int)) u (mz S A B c) = R := by
        intro R hR
        rw [← hR]
        unfold f_X11_row
        simp (disch := omega) only [x_row_y _ hs hr, Option.bind_some, k0, n_eq, show ¬ (1 = 0) by omega, ↓reduceIte, XR6 hX, sgR (L_shv hX), sgR1 (L_shv hX), sgR2 (L_shv hX), sgF (L_shv hX), ff, sgv (L_shv hX), hnum, sgRR (L_shv hX)]
        rw [if_neg (show ¬ (ii 1 = ii ((0 : Nat) : Int)) by decide)]
      have mr : ∀ (B' : ZA) (c' : (Nat × Nat) × (Nat → Nat)) (R : Option (Int64 × JH)) (q : Nat), q < 2 → f_X12_within u (ii ((0 : Nat) : Int)) (ii ((N - 1 : Nat) : Int)) (mz S (za A (b + 286) (up (A (b + 286)) 0 ((1 : Nat) : Int))) B' c') = some (ii (q : Int), mz S (za A (b + 286) (up (A (b + 286)) 0 ((1 : Nat) : Int))) B' c') → (if q = 0 then some ((0 : Int64), mz S (za A (b + 286) (up (A (b + 286)) 0 ((1 : Nat) : Int))) B' c') else (jaJ (mz S (za A (b + 286) (up (A (b + 286)) 0 ((0 : Nat) : Int))) B' c') (b + 286 + 27) (ii ((13 * (4 * s + r) : Nat) : Int) + u)).bind fun x => some (x, mz S (za A (b + 286) (up (A (b + 286)) 0 ((0 : Nat) : Int))) B' c')) = R → f_X12_row (b + 286) (ii (s : Int)) (ii (r : Int)) u (mz S A B' c') = R := by
        intro B' c' R q hq hw hR
        rw [← hR]
        have e0 : za (za A (b + 286) (up (A (b + 286)) 0 ((1 : Nat) : Int))) (b + 286) (up (za A (b + 286) (up (A (b + 286)) 0 ((1 : Nat) : Int)) (b + 286)) 0 ((0 : Nat) : Int)) = za A (b + 286) (up (A (b + 286)) 0 ((0 : Nat) : Int)) := by
          rw [za_za, za_at]
          congr 1
          funext j
          by_cases q : j = 0
          · rw [q, up_at, up_at]
          · rw [up_ne _ _ q, up_ne _ _ q, up_ne _ _ q]
        unfold f_X12_row
        rw [k1, mcells]
        simp (disch := omega) only [Option.bind_some, k0, k3, k4, w1, w2, n_eq, show ¬ (1 = 0) by omega, ↓reduceIte, MR43 hM, n_mul, n_add, Ma26 hM, fe, ff, Mv hM, σ3 S _ B' c' hM h42]
        rw [if_neg (show ¬ (ii 1 = ii ((0 : Nat) : Int)) by decide)]
        rcases N2 with ⟨a, rfl⟩ | ⟨a, rfl⟩
        · have hw' : f_X12_within u (ii ((0 : Nat) : Int)) (ii ((12 : Nat) : Int)) (mz S (za A (b + 286) (up (A (b + 286)) 0 ((1 : Nat) : Int))) B' c') = some (ii (q : Int), mz S (za A (b + 286) (up (A (b + 286)) 0 ((1 : Nat) : Int))) B' c') := hw
          rw [if_pos a]
          simp (disch := omega) only [k12, hw', Option.bind_some, n_eq, MP0 hM, e0, MR44 hM, k13, n_mul]
        · have hw' : f_X12_within u (ii ((0 : Nat) : Int)) (ii ((11 : Nat) : Int)) (mz S (za A (b + 286) (up (A (b + 286)) 0 ((1 : Nat) : Int))) B' c') = some (ii (q : Int), mz S (za A (b + 286) (up (A (b + 286)) 0 ((1 : Nat) : Int))) B' c') := hw
          rw [if_neg (by omega)]
          simp (disch := omega) only [k11, hw', Option.bind_some, n_eq, MP0 hM, e0, MR44 hM, k13, n_mul]
      rcases rng_cases u N with ⟨i, hi, rfl⟩ | ⟨y, rfl, y1, y2, y3⟩
      · have hcond : i < 12 ∨ (i = 12 ∧ A (b + 24 + 1 + 7 * s) 0 = 0) := by
          by_cases q : i < 12
          · exact Or.inl q
          · exact Or.inr ⟨by omega, by rw [σ2]; omega⟩
        have hB := f3 ff i hcond
        rw [Nat.zero_add] at hB
        obtain ⟨g1, g2⟩ := IH_B (x := b + 320) (up (B (b + 320)) 0 (B (b + 24 + 3 + 7 * s + 1 + r) i)) (Or.inr rfl) h1 h2
        obtain ⟨g3, g4⟩ := IH_mf 0 ((0 : Nat) : Int) (by omega) g1 g2
        refine ⟨ii ((0 : Nat) : Int), mz S A (za B (b + 320) (up (B (b + 320)) 0 (B (b + 24 + 3 + 7 * s + 1 + r) i))) c, ll (B (b + 24 + 3 + 7 * s + 1 + r) i), _, ?_, mr _ _ _ 1 (by omega) ?_ ?_, ?_, fun _ => ⟨ll (B (b + 24 + 3 + 7 * s + 1 + r) i), ?_, lg_0⟩, IH_more ⟨S, _, _, c, p, bs, nb, rfl, g3, g4⟩⟩
        · unfold f_L_row
          rw [Xv hX]
          simp only [Option.bind_some]
          rw [cl (some (some (ll (B (b + 24 + 3 + 7 * s + 1 + r) i)), mz S A B c)) (by
            simp (disch := omega) only [n_lt, show ¬ (i < 0) by omega, hi, ↓reduceIte, sgJ (L_shv hX), Option.bind_some])]
          simp only [Option.bind_some, Option.elim]
          rw [k0, jsJ_v (L_out hX) (by omega) (by omega)]
          rfl
        · rw [m_win _ (by omega) (by omega) (by omega) (by omega) (by omega) (by omega), if_pos (by omega)]
        · rw [if_neg (by omega), n_add, Ma27 hM (by omega), za_ne _ _ (by omega), ← hB]
          rfl
        · unfold f_X12_thrown
          rw [MI0 hM, za_at, up_at]; rfl
        · rw [jaJ_n (L_out hX) (by omega) (by omega), za_at, up_at]
      · refine bad (cl _ ?_) ⟨(0 : Int64), mr _ _ _ 0 (by omega) ?_ ?_⟩
        · simp (disch := omega) only [i_lt]
          by_cases q : y < 0
          · rw [if_pos (by omega)]; rfl
          · rw [if_neg (by omega), if_neg (by omega)]; rfl
        · rw [m_win _ (by omega) (by omega) (by omega) (by omega) (by omega) (by omega), if_neg (by omega)]
        · rw [if_pos rfl]
  · refine bad ?_ ⟨(0 : Int64), ?_⟩
    · unfold f_X11_row
      simp only [n1, Option.bind_some, k0, eq_self, ↓reduceIte]
      rfl
    · unfold f_X12_row
      rw [k1, mcells]
      rcases n2 with n3 | ⟨n3, n4⟩
      · simp only [Option.bind_some, k0, n3, eq_self, ↓reduceIte]
      · simp (disch := omega) only [Option.bind_some, k0, k3, n3, n4, n_eq, show ¬ (1 = 0) by omega, eq_self, ↓reduceIte]
end ops
