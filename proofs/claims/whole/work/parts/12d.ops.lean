/-! Calls table, polynomial. -/
section ops
variable {b : Nat} {S0 : SS} {A0 : ZA} {cc : Nat → Nat} {e : Nat}
theorem IH_scr {S : SS} {A B A2 : ZA} {c : (Nat × Nat) × (Nat → Nat)} {p : Int} {bs nb : Nat → Nat} (h1 : CORE A B b p) (h2 : DYN b S0 A0 cc e S A B c p bs nb)
    (k1 : ∀ x, x < b + 135 ∨ (b + 236 ≤ x ∧ x < b + 286) ∨ b + 321 ≤ x → A2 x = A x) (k2 : ∀ k, k = 1 ∨ k = 12 ∨ k = 19 ∨ k = 42 → A2 (b + 286) k = A (b + 286) k) (k3 : ∀ o, (1 ≤ o ∧ o ≤ 3) ∨ (9 ≤ o ∧ o ≤ 11) ∨ (18 ≤ o ∧ o ≤ 19) ∨ (26 ≤ o ∧ o ≤ 33) → A2 (b + 286 + o) = A (b + 286 + o)) (hR : RC A2 (b + 286) p) : CORE A2 B b p ∧ DYN b S0 A0 cc e S A2 B c p bs nb := by
  obtain ⟨d1, d2, d3, d4, d5, d6, d7⟩ := h2
  exact ⟨CORE_frame h1 ⟨fun x hx => k1 x (by omega), fun x h3 h4 => k1 x (by omega), k2, k3⟩ (FRB_refl b B), d1, SG_of d2 (fun x hx => k1 x (by omega)) (fun i hi k _ => by rw [k1 _ (by omega)]) (fun _ _ => rfl), d3, hR, ROOTS_of d5 (fun i hi => ⟨by rw [k1 _ (by omega)], by rw [k1 _ (by omega)], k1 _ (by omega)⟩), fun x hx => ⟨(d6 x hx).1, by rw [k1 x (by omega)]; exact (d6 x hx).2⟩, d7⟩
theorem op_table (v w x y : Int32) : OPS b S0 A0 cc e (f_X11_table b v w x y) (f_X12_table (b + 286) v w x y) := by
  rintro h ⟨S, A, B, c, p, bs, nb, rfl, h1, h2⟩
  have hX := h2.1
  have hM := L_mod hX
  have fin : IH b S0 A0 cc e (mz S (za A (b + 286) (up (A (b + 286)) 0 ((0 : Nat) : Int))) B c) := by
    obtain ⟨g1, g2⟩ := IH_thrown (v := ((0 : Nat) : Int)) h1 h2
    exact ⟨S, _, B, c, p, bs, nb, rfl, g1, g2⟩
  have hP := h1.1
  have hp := PR_p hP
  rcases wt_cases v with ⟨k, hk, hk2, rfl, e1, e2⟩ | ⟨e1, e2⟩
  · rcases hkc w with ⟨n, hn1, hn, rfl, hkk⟩ | hkk
    · have hL := Lk_r hk
      obtain ⟨i, hi, i1, i2⟩ := any_int x
      obtain ⟨j, hj, j1, j2⟩ := any_int y
      subst hi
      subst hj
      have mwi : ∀ h, f_X12_within (ii i) (ii ((1 : Nat) : Int)) (ii ((Lk k - 1 : Nat) : Int)) h = some (ii (((if ((1 : Nat) : Int) ≤ i ∧ i ≤ ((Lk k - 1 : Nat) : Int) then 1 else 0 : Nat)) : Int), h) := fun h => m_win h (by omega) (by omega) (by omega) (by omega) (by omega) (by omega)
      have mwj : ∀ h, f_X12_within (ii j) (ii ((1 : Nat) : Int)) (ii ((Lk k - 1 : Nat) : Int)) h = some (ii (((if ((1 : Nat) : Int) ≤ j ∧ j ≤ ((Lk k - 1 : Nat) : Int) then 1 else 0 : Nat)) : Int), h) := fun h => m_win h (by omega) (by omega) (by omega) (by omega) (by omega) (by omega)
      by_cases gi : ((1 : Nat) : Int) ≤ i ∧ i ≤ ((Lk k - 1 : Nat) : Int)
      · by_cases gj : ((1 : Nat) : Int) ≤ j ∧ j ≤ ((Lk k - 1 : Nat) : Int)
        · obtain ⟨q, rfl⟩ : ∃ q, k = 2 * q := ⟨k / 2, by omega⟩
          obtain ⟨S', A', c', bs', nb', er, t1, t2, t3, t4⟩ := x_rfh h1 h2 (i := q) (by omega) hn
          have q1 : q ≠ 1 := fun z => by
            subst z
            have : Lk (2 * 1) = 0 := rfl
            omega
          obtain ⟨rd, rd36⟩ := t4 q1
          have hX' := t2.1
          have hM' := L_mod hX'
          have hSG := t2.2.1
          obtain ⟨n1, w1⟩ := Rdy_rows hSG (show q < 31 by omega) hP rd36
          have hs := (hSG.1.1 q (by omega)).1
          rw [n1] at hs
          obtain ⟨i', rfl⟩ : ∃ i' : Nat, i = ((i' + 1 : Nat) : Int) := ⟨(i - 1).toNat, by omega⟩
          obtain ⟨j', rfl⟩ : ∃ j' : Nat, j = ((j' + 1 : Nat) : Int) := ⟨(j - 1).toNat, by omega⟩
          have hh := x_hecke (C := dl (i' + 1)) (x := j' + 1) hSG hP (show q < 31 by omega) hn (by omega) rd (hs.2.2 (i' + 1) (by omega)) (by omega) (by omega) (fun u hu => by
            have hd : (0 : Int) ≤ dl (i' + 1) u ∧ dl (i' + 1) u < p := by unfold dl; split <;> omega
            refine ⟨?_, hd⟩
            rw [w1 (i' + 1) (by omega) u (by omega), ex_first (EH_of hP) hk _ hu]
            exact Int.emod_eq_of_lt hd.1 hd.2)
          have er' : f_X11_readyForHecke b (ii ((2 * q : Nat) : Int)) (ii (n : Int)) (mz S A B c) = some (b + 42 + 3 * q, mz S' A' B c') := er
          obtain ⟨g1, g2⟩ := IH_thrown (v := ((0 : Nat) : Int)) t1 t2
          obtain ⟨A3, e3, z1, z2, z3, z4, z5⟩ := m_table (A := za A' (b + 286) (up (A' (b + 286)) 0 ((0 : Nat) : Int))) (B := B) (c := c') hM' g1.2.2.1 g2.2.2.2.1 hP hk hk2 hn
          obtain ⟨g3, g4⟩ := IH_scr g1 g2 (A2 := A3) (fun x hx => z5 x (by omega) (by omega) (by omega) (by omega) (by omega) (by omega) (by omega)) (fun k' hk' => z4 k' (by omega) (by omega)) (fun o ho => z5 _ (by omega) (by omega) (by omega) (by omega) (by omega) (by omega) (by omega)) z3
          have zt := z2 i' (by omega) j' (by omega)
          refine ⟨ii (TT p (2 * q) n i' j'), mz S' A' B c', mz S' A3 B c', ?_, ?_, ⟨S', A3, B, c', p, bs', nb', rfl, g3, g4⟩⟩
          · unfold f_X11_table
            simp (disch := omega) only [k0, k1, e1, (hkk _).1, Option.bind_some, n_eq, show ¬ (1 = 0) by omega, ↓reduceIte, x_cusps _ hk, n_lt, n_le, show ¬ (i' + 1 < 1) by omega, show ¬ (Lk (2 * q) - 1 < i' + 1) by omega, show ¬ (j' + 1 < 1) by omega, show j' + 1 ≤ Lk (2 * q) - 1 by omega, Xv hX, er', PR2 hs.1, sp_row hs, Pv hs.1, hh]
            rfl
          · unfold f_X12_table
            rw [k0, MP0 hM']
            simp only [k1, e2, (hkk _).2, Option.bind_some, m_cusps _ hk]
            rw [if_neg n10, if_neg n10, mwi, if_pos gi]
            simp only [Option.bind_some, m_cusps _ hk]
            rw [if_neg n10, mwj, if_pos gj]
            simp (disch := omega) only [Option.bind_some, n_eq, show ¬ (1 = 0) by omega, ↓reduceIte, Mv hM', e3, MR34 hM', k6, k7, n_mul, n_add, n_sub, show 6 * (i' + 1) + (j' + 1) - 7 = 6 * i' + j' by omega, Ma20 hM', zt]
        · refine ⟨-ii ((1 : Nat) : Int), mz S A B c, _, ?_, ?_, fin⟩
          · unfold f_X11_table
            simp (disch := omega) only [k0, k1, e1, (hkk _).1, Option.bind_some, n_eq, show ¬ (1 = 0) by omega, ↓reduceIte, x_cusps _ hk, i_lt, i_le]
            rw [if_neg (by omega), if_neg (by omega)]
            by_cases z : j < 1
            · rw [if_pos (by omega)]
            · rw [if_neg (by omega), if_neg (by omega)]
          · unfold f_X12_table
            rw [k0, MP0 hM]
            simp only [k1, e2, (hkk _).2, Option.bind_some, m_cusps _ hk]
            rw [if_neg n10, if_neg n10, mwi, if_pos gi]
            simp only [Option.bind_some, m_cusps _ hk]
            rw [if_neg n10, mwj, if_neg gj]
            simp only [Option.bind_some, eq_self, ↓reduceIte]
      · refine ⟨-ii ((1 : Nat) : Int), mz S A B c, _, ?_, ?_, fin⟩
        · unfold f_X11_table
          simp (disch := omega) only [k0, k1, e1, (hkk _).1, Option.bind_some, n_eq, show ¬ (1 = 0) by omega, ↓reduceIte, x_cusps _ hk, i_lt, i_le]
          by_cases z : i < 1
          · rw [if_pos (by omega)]
          · rw [if_neg (by omega), if_pos (by omega)]
        · unfold f_X12_table
          rw [k0, MP0 hM]
          simp only [k1, e2, (hkk _).2, Option.bind_some, m_cusps _ hk]
          rw [if_neg n10, if_neg n10, mwi, if_neg gi]
          simp only [Option.bind_some, eq_self, ↓reduceIte]
    · refine ⟨-1, mz S A B c, _, ?_, ?_, fin⟩
      · unfold f_X11_table
        simp (disch := omega) only [k0, e1, (hkk _).1, Option.bind_some, n_eq, show ¬ (1 = 0) by omega, eq_self, ↓reduceIte]
      · unfold f_X12_table
        simp (disch := omega) only [k0, MP0 hM, e2, (hkk _).2, Option.bind_some, n_eq, show ¬ (1 = 0) by omega, eq_self, ↓reduceIte]
  · refine ⟨-1, mz S A B c, _, ?_, ?_, fin⟩
    · unfold f_X11_table
      simp only [k0, e1, Option.bind_some, eq_self, ↓reduceIte]
    · unfold f_X12_table
      simp only [k0, MP0 hM, e2, Option.bind_some, eq_self, ↓reduceIte]
theorem op_polynomial (v w x : Int32) : OPS b S0 A0 cc e (f_X11_polynomial b v w x) (f_X12_polynomial (b + 286) v w x) := by
  rintro h ⟨S, A, B, c, p, bs, nb, rfl, h1, h2⟩
  have hX := h2.1
  have hM := L_mod hX
  have fin : IH b S0 A0 cc e (mz S (za A (b + 286) (up (A (b + 286)) 0 ((0 : Nat) : Int))) B c) := by
    obtain ⟨g1, g2⟩ := IH_thrown (v := ((0 : Nat) : Int)) h1 h2
    exact ⟨S, _, B, c, p, bs, nb, rfl, g1, g2⟩
  have hP := h1.1
  have hp := PR_p hP
  rcases wt_cases v with ⟨k, hk, hk2, rfl, e1, e2⟩ | ⟨e1, e2⟩
  · rcases hkc w with ⟨n, hn1, hn, rfl, hkk⟩ | hkk
    · have hL := Lk_r hk
      rcases rng_cases x (Lk k - 1 + 1) with ⟨i, hi, rfl⟩ | ⟨y, rfl, y1, y2, y3⟩
      · obtain ⟨q, rfl⟩ : ∃ q, k = 2 * q := ⟨k / 2, by omega⟩
        obtain ⟨S', A', c', bs', nb', er, t1, t2, t3, t4⟩ := x_rfh h1 h2 (i := q) (by omega) hn
        have hX' := t2.1
        have hM' := L_mod hX'
        have hSG := t2.2.1
        have rdy : 2 ≤ Lk (2 * q) → Rdy A' b q p ((Lk (2 * q) - 1) * n) := fun h => (t4 (fun z => by
            subst z
            have : Lk (2 * 1) = 0 := rfl
            omega)).1
        obtain ⟨A1, e3, a1, a2, a3, a4⟩ := x_load (B := B) (c := c') hX' hSG hP (show q < 31 by omega) hn rdy
        have ot : OTab A1 b (Lk (2 * q) - 1) p (TT p (2 * q) n) := ⟨a1, fun h => by rw [a2]; exact (rdy (by omega)).1, a3⟩
        obtain ⟨A2, e4, c1, c2⟩ := x_poly (A := A1) (B := B) (c := c') hX' (by omega) hp.1 hp.2 ot (TT_r (by omega) (2 * q) n)
        have g : ∀ x, x < b + 135 ∨ b + 155 ≤ x → A2 x = A' x := fun x hx => by rw [c2 x (by omega) (fun i _ => by omega), a4 x (by omega) (fun r _ => by omega)]
        obtain ⟨s1, s2⟩ := IH_scr t1 t2 (A2 := A2) (fun x hx => g x (by omega)) (fun k' hk' => by rw [g _ (by omega)]) (fun o ho => g _ (by omega)) (RC_of t2.2.2.2.1 (by rw [g _ (by omega)]) (g _ (by omega)))
        obtain ⟨g1, g2⟩ := IH_thrown (v := ((0 : Nat) : Int)) s1 s2
        obtain ⟨A3, e5, z1, z2, z3, z4, z5⟩ := m_table (A := za A2 (b + 286) (up (A2 (b + 286)) 0 ((0 : Nat) : Int))) (B := B) (c := c') hM' g1.2.2.1 g2.2.2.2.1 hP hk hk2 hn
        obtain ⟨g3, g4⟩ := IH_scr g1 g2 (A2 := A3) (fun x hx => z5 x (by omega) (by omega) (by omega) (by omega) (by omega) (by omega) (by omega)) (fun k' hk' => z4 k' (by omega) (by omega)) (fun o ho => z5 _ (by omega) (by omega) (by omega) (by omega) (by omega) (by omega) (by omega)) z3
        obtain ⟨A4, e6, o1, o2⟩ := m_poly (A := A3) (B := B) (c := c') (T := TT p (2 * q) n) hM' (by omega) hp.1 hp.2 g3.2.2.1.1 z1 z2 (TT_r (by omega) (2 * q) n)
        obtain ⟨g5, g6⟩ := IH_scr g3 g4 (A2 := A4) (fun x hx => o2 x (by omega) (by omega) (by omega)) (fun k' hk' => by rw [o2 _ (by omega) (by omega) (by omega)]) (fun o ho => o2 _ (by omega) (by omega) (by omega)) (RC_of z3 (by rw [o2 _ (by omega) (by omega) (by omega)]) (o2 _ (by omega) (by omega) (by omega)))
        have pi := c1 i (by omega)
        have pm := o1 i (by omega)
        have mwi : ∀ h, f_X12_within (ii (i : Int)) (ii ((0 : Nat) : Int)) (ii ((Lk (2 * q) - 1 : Nat) : Int)) h = some (ii ((1 : Nat) : Int), h) := fun h => by
          rw [m_win h (by omega) (by omega) (by omega) (by omega) (by omega) (by omega), if_pos (by omega)]
        refine ⟨ii (pc p (TT p (2 * q) n) (Lk (2 * q) - 1) i), mz S' A2 B c', mz S' A4 B c', ?_, ?_, ⟨S', A4, B, c', p, bs', nb', rfl, g5, g6⟩⟩
        · unfold f_X11_polynomial
          simp (disch := omega) only [k0, e1, (hkk _).1, Option.bind_some, n_eq, show ¬ (1 = 0) by omega, ↓reduceIte, x_cusps _ hk, n_lt, n_le, show ¬ (i < 0) by omega, show i ≤ Lk (2 * q) - 1 by omega, XR9 hX, Xv hX, er, Ov hX', e3, XR9 hX', e4, OR0 hX', jaI_n (L_pol hX'), pi]
        · unfold f_X12_polynomial
          rw [k0, MP0 hM']
          simp (disch := omega) only [e2, (hkk _).2, Option.bind_some, n_eq, show ¬ (1 = 0) by omega, ↓reduceIte, m_cusps _ hk, mwi, Mv hM', e5, e6, MR36 hM', Ma21 hM', pm]
      · have mwi : ∀ h, f_X12_within (ii y) (ii ((0 : Nat) : Int)) (ii ((Lk k - 1 : Nat) : Int)) h = some (ii ((0 : Nat) : Int), h) := fun h => by
          rw [m_win h (by omega) (by omega) (by omega) (by omega) (by omega) (by omega), if_neg (by omega)]
        refine ⟨-1, mz S A B c, _, ?_, ?_, fin⟩
        · unfold f_X11_polynomial
          simp (disch := omega) only [k0, e1, (hkk _).1, Option.bind_some, n_eq, show ¬ (1 = 0) by omega, ↓reduceIte, x_cusps _ hk, i_lt, i_le]
          by_cases z : y < 0
          · rw [if_pos (by omega)]
          · rw [if_neg (by omega), if_neg (by omega)]
        · unfold f_X12_polynomial
          rw [k0, MP0 hM]
          simp (disch := omega) only [e2, (hkk _).2, Option.bind_some, n_eq, show ¬ (1 = 0) by omega, ↓reduceIte, m_cusps _ hk, mwi]
    · refine ⟨-1, mz S A B c, _, ?_, ?_, fin⟩
      · unfold f_X11_polynomial
        simp (disch := omega) only [k0, e1, (hkk _).1, Option.bind_some, n_eq, show ¬ (1 = 0) by omega, eq_self, ↓reduceIte]
      · unfold f_X12_polynomial
        simp (disch := omega) only [k0, MP0 hM, e2, (hkk _).2, Option.bind_some, n_eq, show ¬ (1 = 0) by omega, eq_self, ↓reduceIte]
  · refine ⟨-1, mz S A B c, _, ?_, ?_, fin⟩
    · unfold f_X11_polynomial
      simp only [k0, e1, Option.bind_some, eq_self, ↓reduceIte]
    · unfold f_X12_polynomial
      simp only [k0, MP0 hM, e2, Option.bind_some, eq_self, ↓reduceIte]
end ops
