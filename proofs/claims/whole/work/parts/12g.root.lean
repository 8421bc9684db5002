/-! Call root. -/
section ops
variable {b : Nat} {S0 : SS} {A0 : ZA} {cc : Nat → Nat} {e : Nat}
/-- Both sides lay the roots. -/
theorem xm_roots {S : SS} {A B : ZA} {c : (Nat × Nat) × (Nat → Nat)} {p : Int} {bs nb : Nat → Nat} (h1 : CORE A B b p) (h2 : DYN b S0 A0 cc e S A B c p bs nb) {q : Nat} (hq : q < 31) :
    ∃ S' A' c' bs' nb' A3, f_X11_spaceWithRoots b (ii ((2 * q : Nat) : Int)) (mz S A B c) = some (b + 42 + 3 * q, mz S' A' B c') ∧ f_X12_laysRoots (b + 286) (ii ((2 * q : Nat) : Int)) (mz S' (za A' (b + 286) (up (A' (b + 286)) 0 ((0 : Nat) : Int))) B c') = some ((), mz S' A3 B c') ∧ CORE A' B b p ∧ DYN b S0 A0 cc e S' A' B c' p bs' nb' ∧ CORE A3 B b p ∧ DYN b S0 A0 cc e S' A3 B c' p bs' nb'
      ∧ A' (b + 42 + 3 * q) 6 = (((rtl p (2 * q)).length : Nat) : Int) ∧ (∀ j, j < (rtl p (2 * q)).length → A' (b + 44 + 3 * q) j = (((rtl p (2 * q)).getD j 0 : Nat) : Int)) ∧ (q ≠ 1 → Rdy A' b q p ((Lk (2 * q) - 1) * 2) ∧ Rdy A' b q p 36)
      ∧ A3 (b + 286) 39 = (((rtl p (2 * q)).length : Nat) : Int) ∧ (∀ j, j < (rtl p (2 * q)).length → A3 (b + 310) j = (((rtl p (2 * q)).getD j 0 : Nat) : Int)) ∧ A3 (b + 286) 35 = ((Lk (2 * q) - 1 : Nat) : Int) ∧ (∀ i, i < Lk (2 * q) - 1 → ∀ j, j < Lk (2 * q) - 1 → A3 (b + 306) (6 * i + j) = TT p (2 * q) 2 i j) ∧ (∀ x, x < b + 286 → A3 x = A' x) := by
  obtain ⟨S', A', c', bs', nb', er, t1, t2, t3, t4, t5⟩ := x_swr h1 h2 (i := q) hq
  have hM' := L_mod t2.1
  obtain ⟨g1, g2⟩ := IH_thrown (v := ((0 : Nat) : Int)) t1 t2
  obtain ⟨A3, e3, z1, z2, z3, z4, z5, z6, z7⟩ := m_roots (A := za A' (b + 286) (up (A' (b + 286)) 0 ((0 : Nat) : Int))) (B := B) (c := c') (w := 2 * q) hM' g1.2.2.1 g2.2.2.2.1 h1.1 (by omega) (by omega)
  obtain ⟨g3, g4⟩ := IH_scr g1 g2 (A2 := A3) (fun x hx => z7 x (by omega) (by omega) (by omega)) (fun k' hk' => z6 k' (by omega) (by omega) (by omega)) (fun o ho => z7 _ (by omega) (by omega) (by omega)) z5
  exact ⟨S', A', c', bs', nb', A3, er, e3, t1, t2, g3, g4, t3, t4, t5, z1, z2, z3, z4, fun x hx => by rw [z7 x (by omega) (by omega) (by omega), za_ne _ _ (by omega)]⟩
theorem op_root (v w : Int32) : OPS b S0 A0 cc e (f_X11_root b v w) (f_X12_root (b + 286) v w) := by
  rintro h ⟨S, A, B, c, p, bs, nb, rfl, h1, h2⟩
  have hX := h2.1
  have hM := L_mod hX
  have fin : IH b S0 A0 cc e (mz S (za A (b + 286) (up (A (b + 286)) 0 ((0 : Nat) : Int))) B c) := by
    obtain ⟨g1, g2⟩ := IH_thrown (v := ((0 : Nat) : Int)) h1 h2
    exact ⟨S, _, B, c, p, bs, nb, rfl, g1, g2⟩
  have hP := h1.1
  have hp := PR_p hP
  rcases wt_cases v with ⟨k, hk, hk2, rfl, e1, e2⟩ | ⟨e1, e2⟩
  · obtain ⟨q, rfl⟩ : ∃ q, k = 2 * q := ⟨k / 2, by omega⟩
    have hL := Lk_r hk
    obtain ⟨S', A', c', bs', nb', A3, er, e3, t1, t2, g3, g4, t3, t4, t5, z1, z2, z3, z4, z5⟩ := xm_roots h1 h2 (q := q) (by omega)
    have hl := rtl_len hP (2 * q)
    have hX' := t2.1
    have hM' := L_mod hX'
    have hs := (t2.2.1.1.1 q (by omega)).1.1
    have fin' : IH b S0 A0 cc e (mz S' A3 B c') := ⟨S', A3, B, c', p, bs', nb', rfl, g3, g4⟩
    rcases rng_cases w ((rtl p (2 * q)).length) with ⟨i, hi, rfl⟩ | ⟨y, rfl, y1, y2, y3⟩
    · have pi := t4 i hi
      have pm := z2 i hi
      have mwi : ∀ h, f_X12_within (ii (i : Int)) (ii ((0 : Nat) : Int)) (ii (((rtl p (2 * q)).length - 1 : Nat) : Int)) h = some (ii ((1 : Nat) : Int), h) := fun h => by
        rw [m_win h (by omega) (by omega) (by omega) (by omega) (by omega) (by omega), if_pos (by omega)]
      have ne : ¬ (ii (i : Int) = (-1 : Int32)) := by rw [show (-1 : Int32) = ii (-1) from rfl, i_eq (by omega) (by omega) (by omega) (by omega)]; omega
      refine ⟨ii (((rtl p (2 * q)).getD i 0 : Nat) : Int), mz S' A' B c', mz S' A3 B c', ?_, ?_, fin'⟩
      · unfold f_X11_root
        simp only [e1, Option.bind_some, Xv hX, er]
        rw [if_neg (by decide), if_neg ne]
        simp (disch := omega) only [k0, n_lt, show ¬ (i < 0) by omega, ↓reduceIte, PI6 hs, t3, Option.bind_some, n_le, show ¬ ((rtl p (2 * q)).length ≤ i) by omega, PR5 hs, jaI_n (L_rts hX' q (by omega)), pi]
      · unfold f_X12_root
        rw [k0, MP0 hM']
        simp only [Option.bind_some, e2, Mv hM', e3]
        rw [if_neg (by decide), if_neg ne]
        simp (disch := omega) only [MI39 hM', z1, Option.bind_some, k1, n_sub, mwi, n_eq, show ¬ (1 = 0) by omega, ↓reduceIte, MR40 hM', Ma24 hM', pm]
    · by_cases y0 : y = -1
      · subst y0
        refine ⟨ii (((rtl p (2 * q)).length : Nat) : Int), mz S' A' B c', mz S' A3 B c', ?_, ?_, fin'⟩
        · unfold f_X11_root
          simp only [e1, Option.bind_some, Xv hX, er]
          rw [if_neg (by decide), if_pos (by decide), PI6 hs, t3]
          rfl
        · unfold f_X12_root
          rw [k0, MP0 hM']
          simp only [Option.bind_some, e2, Mv hM', e3]
          rw [if_neg (by decide), if_pos (by decide), MI39 hM', z1]
          rfl
      · have ne : ¬ (ii y = (-1 : Int32)) := by rw [show (-1 : Int32) = ii (-1) from rfl, i_eq (by omega) (by omega) (by omega) (by omega)]; omega
        refine ⟨-1, mz S' A' B c', mz S' A3 B c', ?_, ?_, fin'⟩
        · unfold f_X11_root
          simp only [e1, Option.bind_some, Xv hX, er]
          rw [if_neg (by decide), if_neg ne]
          simp (disch := omega) only [k0, i_lt, PI6 hs, t3, Option.bind_some, i_le]
          by_cases z : y < 0
          · rw [if_pos (by omega)]
          · rw [if_neg (by omega), if_pos (by omega)]
        · unfold f_X12_root
          rw [k0, MP0 hM']
          simp only [Option.bind_some, e2, Mv hM', e3]
          rw [if_neg (by decide), if_neg ne]
          simp only [MI39 hM', z1, Option.bind_some, k1]
          rw [ii_sub, m_win _ (by omega) (by omega) (by omega) (by omega) (by omega) (by omega), if_neg (by omega)]
          rfl
  · refine ⟨-1, mz S A B c, _, ?_, ?_, fin⟩
    · unfold f_X11_root
      simp only [k0, e1, Option.bind_some, eq_self, ↓reduceIte]
    · unfold f_X12_root
      simp only [k0, MP0 hM, e2, Option.bind_some, eq_self, ↓reduceIte]
end ops
