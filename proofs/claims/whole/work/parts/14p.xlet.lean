/-! The class reads a let. -/
def XF (b : Nat) (A A' : ZA) : Prop := ∀ x, x < b + 155 ∨ b + 232 < x → A' x = A x
theorem XF_PF {b : Nat} {A A' : ZA} {s r w : Nat} (h : PF b A A' s r w) : XF b A A' := fun x hx => h.1 x (by omega)
theorem XF_trans {b : Nat} {A A' A'' : ZA} (h : XF b A A') (h' : XF b A' A'') : XF b A A'' := fun x hx => by rw [h' x hx, h x hx]
theorem XF_k {b : Nat} {A : ZA} {F : Nat → Int} : XF b A (za A (b + 155) F) := fun x hx => za_ne _ _ (by omega)
def LC (S : SS) (B : ZA) (c : (Nat × Nat) × (Nat → Nat)) (b : Nat) (T : Nat → Int) (n : Nat) (p : Int) (nl : Nat) (L : LT) (A : ZA) (r : LR) (res : Option ((Int32 ⊕ (Int32 ⊕ Int32)) × JH)) : Prop :=
  ∃ A' : ZA, XF b A A' ∧ Sum.elim (fun (g : Nat) => res = some (.inr (.inl (ii ((0 : Nat) : Int))), mz S A' B c) ∧ A' (b + 155) 0 = (g : Int)) (fun s => res = some (.inl (ii ((nl + 1 : Nat) : Int)), mz S A' B c) ∧ CS S A' c b T n p (nl + 1) (uL L nl s.2) ∧ A' (b + 155) 6 = ((tcn T s.1 : Nat) : Int)) r
section rd
variable {S : SS} {A B : ZA} {c : (Nat × Nat) × (Nat → Nat)} {b n nl : Nat} {T : Nat → Int} {p : Int} {L : LT} {q : Nat}
theorem LC_fail {A1 : ZA} {g : Nat} (h : XF b A A1) : LC S B c b T n p nl L A (.inl g) (some (.inr (.inl (ii ((0 : Nat) : Int))), mz S (za A1 (b + 155) (up (A1 (b + 155)) 0 ((g : Nat) : Int))) B c)) :=
  ⟨_, XF_trans h XF_k, rfl, by rw [za_at, up_at]⟩
theorem x_let (hX : LX S b) (hP : PR p) (hC : CS S A c b T n p nl L) (hi : A (b + 155) 6 = ((tcn T q : Nat) : Int)) (hq : q ≤ n) (ht : tok T n q) (h0 : kdx T n q ≠ 0) :
    LC S B c b T n p nl L A (plet T n p nl L q) (f_X0_readLets_L2 (b + 155) (ii (nl : Int)) (mz S A B c)) := by
  have hkr := kdx_r T n q
  have h6 := hC.2.2.2.2.2.1
  have h2 : A (b + 155) 2 = (nl : Int) := hC.2.2.2.2.1
  have hF : ∀ i, i < nl → isF p (L i).2.1 (L i).2.2 := fun i hi => (hC.2.2.2.2.2.2 i hi).1.2
  obtain ⟨x1, x2, x3⟩ := nxt_k h0 ht
  unfold f_X0_readLets_L2 plet
  rw [if_neg (show ¬ ((6 : Int32) < ii (nl : Int)) by rw [k6, n_lt (by omega) (by omega)]; omega)]
  simp only [Dv hX, Option.bind_some, x_kind hX hC hi hq ht]
  rw [if_neg (show ¬ ii (kdx T n q) = (0 : Int32) by rw [k0, i_eq (by omega) (by omega) (by omega) (by omega)]; omega)]
  by_cases c5 : kdx T n q = 5
  · rw [if_pos (show ii (kdx T n q) = (5 : Int32) by rw [c5]; rfl), if_pos c5]
    simp only [DI2 hX, h2, Option.bind_some]
    by_cases c6 : nl < 6
    · rw [if_pos (show ii (nl : Int) < (6 : Int32) by rw [k6, n_lt (by omega) (by omega)]; exact c6), if_pos c6]
      rw [k5, x_expY hX hC hi ht (k := 5) (by omega) (by omega)]
      have f1 : PF b A (za A (b + 155) (up (A (b + 155)) 6 ((tcn T (nxt T n q) : Nat) : Int))) 0 0 0 := PF_k (Or.inr rfl)
      generalize nxt T n q = q1 at x1 x2 x3 f1 ⊢
      generalize hA1 : za A (b + 155) (up (A (b + 155)) 6 ((tcn T q1 : Nat) : Int)) = A1 at f1 ⊢
      have i1 : A1 (b + 155) 6 = ((tcn T q1 : Nat) : Int) := by rw [← hA1, za_at, up_at]
      have hC1 := CS_PF hC f1
      have hkr1 := kdx_r T n q1
      simp only [Option.bind_some, Dv hX]
      rw [if_neg (show ¬ ii ((1 : Nat) : Int) = (0 : Int32) by decide)]
      by_cases c2 : kdx T n q1 = 2
      · have hq1 := kdx_n (T := T) (n := n) (q := q1) (by omega)
        obtain ⟨y1, y2, y3⟩ := nxt_k (show kdx T n q1 ≠ 0 by omega) x3
        have hv := vlx_r (T := T) hq1
        simp only [x_value hX hC1 i1 hq1 x3, x_kind hX hC1 i1 x2 x3, Option.bind_some, Dv hX]
        rw [if_pos (show ii (kdx T n q1) = (2 : Int32) by rw [c2]; rfl), if_pos c2, x_find hX hC1 hv.1 hv.2]
        simp only [Option.bind_some]
        by_cases g : fnd (fun i => vlx T n (L i).1 = vlx T n q1) nl 0 < nl
        · rw [if_pos g, if_pos g]
          generalize fnd (fun i => vlx T n (L i).1 = vlx T n q1) nl 0 = r at g ⊢
          rw [if_neg (show ¬ ii (r : Int) = (-1 : Int32) by rw [show (-1 : Int32) = ii (-1) from rfl, i_eq (by omega) (by omega) (by omega) (by omega)]; omega)]
          simp only [DI6 hX, i1, Option.bind_some, k2, x_fail hX hC1 x2 x3, jzb_n (Or.inl rfl), Dv hX]
          exact LC_fail (XF_PF f1)
        · rw [if_neg g, if_neg g, if_pos (show ii (-1) = (-1 : Int32) from rfl)]
          rw [k2, x_expY hX hC1 i1 x3 (k := 2) (by omega) (by omega)]
          have f2 : PF b A1 (za A1 (b + 155) (up (A1 (b + 155)) 6 ((tcn T (nxt T n q1) : Nat) : Int))) 0 0 0 := PF_k (Or.inr rfl)
          generalize nxt T n q1 = q2 at y1 y2 y3 f2 ⊢
          generalize hA2 : za A1 (b + 155) (up (A1 (b + 155)) 6 ((tcn T q2 : Nat) : Int)) = A2 at f2 ⊢
          have i2 : A2 (b + 155) 6 = ((tcn T q2 : Nat) : Int) := by rw [← hA2, za_at, up_at]
          have f12 := PF_trans f1 f2 (Nat.le_refl _) (Nat.le_refl _) (Nat.le_refl _)
          have hC2 := CS_PF hC f12
          simp only [Option.bind_some, Dv hX]
          rw [if_neg (show ¬ ii ((1 : Nat) : Int) = (0 : Int32) by decide)]
          by_cases c6' : kdx T n q2 = 6
          · obtain ⟨z1, z2, z3⟩ := nxt_k (show kdx T n q2 ≠ 0 by omega) y3
            rw [if_pos c6', k6, x_expY hX hC2 i2 y3 (k := 6) (by omega) (by omega)]
            have f3 : PF b A2 (za A2 (b + 155) (up (A2 (b + 155)) 6 ((tcn T (nxt T n q2) : Nat) : Int))) 0 0 0 := PF_k (Or.inr rfl)
            generalize nxt T n q2 = q3 at z1 z2 z3 f3 ⊢
            generalize hA3 : za A2 (b + 155) (up (A2 (b + 155)) 6 ((tcn T q3 : Nat) : Int)) = A3 at f3 ⊢
            have i3 : A3 (b + 155) 6 = ((tcn T q3 : Nat) : Int) := by rw [← hA3, za_at, up_at]
            have f13 := PF_trans f12 f3 (Nat.le_refl _) (Nat.le_refl _) (Nat.le_refl _)
            have hC3 := CS_PF hC f13
            simp only [Option.bind_some, Dv hX]
            rw [if_neg (show ¬ ii ((1 : Nat) : Int) = (0 : Int32) by decide)]
            obtain ⟨A4, e4, f4, r4⟩ := x_reads (S := S) (B := B) hX hP hF 10 0 rfl (by omega) A3 q3 hC3 i3 z2 z3
            have hg := psum_ok (T := T) (n := n) hP (FL_ok (T := T) (n := n) hF) 10 0 q3 z2 z3
            have e4' : n_X0_readSum 10 (b + 155) (0 : Int32) (mz S A3 B c) = _ := e4
            rw [e4']
            simp only [Option.bind_some]
            have f14 := PF_trans f13 f4 (Nat.le_refl _) (Nat.le_refl _) (Nat.le_refl _)
            have hC4 := CS_PF hC f14
            cases e : psum T n p (FL T n nl L) 10 0 q3 with
            | inl f =>
              rw [e] at r4
              rw [if_pos (show ii ((rb (Sum.inl f) : Nat) : Int) = (0 : Int32) from rfl)]
              exact ⟨A4, XF_PF f14, rfl, r4⟩
            | inr s =>
              rw [e] at r4 hg
              obtain ⟨u1, u2, u3⟩ := r4
              obtain ⟨w1, w2, w3, w4⟩ := hg
              rw [if_neg (show ¬ ii ((rb (Sum.inr s) : Nat) : Int) = (0 : Int32) from show ¬ ii ((1 : Nat) : Int) = (0 : Int32) by decide)]
              simp only [Dv hX, Option.bind_some, Sum.elim_inr]
              by_cases c59 : kdx T n s.1 = 59
              · obtain ⟨v1, v2, v3⟩ := nxt_k (show kdx T n s.1 ≠ 0 by omega) w3
                rw [if_pos c59, k59, x_expY hX hC4 u1 w3 (k := 59) (by omega) (by omega)]
                have f5 : PF b A4 (za A4 (b + 155) (up (A4 (b + 155)) 6 ((tcn T (nxt T n s.1) : Nat) : Int))) 0 0 0 := PF_k (Or.inr rfl)
                generalize nxt T n s.1 = q5 at v1 v2 v3 f5 ⊢
                have g5 : ∀ x, x ≠ b + 155 → za A4 (b + 155) (up (A4 (b + 155)) 6 ((tcn T q5 : Nat) : Int)) x = A4 x := fun x hx => za_ne _ _ hx
                generalize hA5 : za A4 (b + 155) (up (A4 (b + 155)) 6 ((tcn T q5 : Nat) : Int)) = A5 at f5 g5 ⊢
                have i5 : A5 (b + 155) 6 = ((tcn T q5 : Nat) : Int) := by rw [← hA5, za_at, up_at]
                have f15 := PF_trans f14 f5 (Nat.le_refl _) (Nat.le_refl _) (Nat.le_refl _)
                have hC5 := CS_PF hC f15
                have h25 : A5 (b + 155) 2 = (nl : Int) := hC5.2.2.2.2.1
                simp only [Option.bind_some]
                rw [if_neg (show ¬ ii ((1 : Nat) : Int) = (0 : Int32) by decide)]
                simp (disch := omega) only [DR4 hX, DI2 hX, h25, Option.bind_some, jsI_v (L_nam hX)]
                have g6 : ∀ x, x ≠ b + 169 → za A5 (b + 169) (up (A5 (b + 169)) nl (vlx T n q1)) x = A5 x := fun x hx => za_ne _ _ hx
                generalize hA6 : za A5 (b + 169) (up (A5 (b + 169)) nl (vlx T n q1)) = A6 at g6 ⊢
                have n6 : A6 (b + 169) = up (A5 (b + 169)) nl (vlx T n q1) := by rw [← hA6, za_at]
                have h26 : A6 (b + 155) 2 = (nl : Int) := by rw [g6 _ (by omega)]; exact h25
                obtain ⟨A7, e7, t1, t2, t3⟩ := x_copy (A := A6) (B := B) (c := c) (fgF (L_rl hX) c6) (fgF (L_sum hX) (show 0 < 9 by omega))
                simp (disch := omega) only [DR3 hX, DI2 hX, h26, Option.bind_some, fgR (L_rl hX), DR7 hX, k0, fgR (L_sum hX), FV (fgF (L_rl hX) c6), e7, t3, k1, n_add, DP2 hX]
                have g8 : ∀ x, x ≠ b + 155 → za A7 (b + 155) (up (A6 (b + 155)) 2 ((nl + 1 : Nat) : Int)) x = A7 x := fun x hx => za_ne _ _ hx
                have o8 : za A7 (b + 155) (up (A6 (b + 155)) 2 ((nl + 1 : Nat) : Int)) (b + 155) = up (A5 (b + 155)) 2 ((nl + 1 : Nat) : Int) := by rw [za_at, g6 _ (by omega)]
                generalize za A7 (b + 155) (up (A6 (b + 155)) 2 ((nl + 1 : Nat) : Int)) = A8 at g8 o8 ⊢
                have k8 : ∀ x, x ≠ b + 155 → x ≠ b + 169 → x ≠ b + 156 + 1 + 2 * nl → x ≠ b + 156 + 1 + 2 * nl + 1 → A8 x = A5 x := fun x a1 a2 a3 a4 => by rw [g8 x a1, t3 x a3 a4, g6 x a2]
                have n8 : A8 (b + 169) = up (A (b + 169)) nl (vlx T n q1) := by rw [g8 _ (by omega), t3 _ (by omega) (by omega), n6, f15.1 _ (by omega)]
                refine ⟨A8, fun x hx => ?_, rfl, ?_, by rw [o8, up_ne _ _ (by omega)]; exact i5⟩
                · rw [k8 x (by omega) (by omega) (by omega) (by omega), f15.1 x (by omega)]
                · obtain ⟨j1, j2, j3, j4, j5, j6, j7⟩ := hC5
                  obtain ⟨-, -, -, -, -, -, jj⟩ := hC
                  refine ⟨fun i hi => ⟨(j1 i hi).1, (j1 i hi).2.1, fun k hk => ?_⟩, ?_, j3, ?_, ?_, by omega, fun i hi => ?_⟩
                  · have := (j1 i hi).1
                    rw [k8 _ (by omega) (by omega) (by omega) (by omega)]
                    exact (j1 i hi).2.2 k hk
                  · unfold TOK
                    rw [k8 (b + 170) (by omega) (by omega) (by omega) (by omega), k8 (b + 171) (by omega) (by omega) (by omega) (by omega), k8 (b + 172) (by omega) (by omega) (by omega) (by omega), k8 (b + 173) (by omega) (by omega) (by omega) (by omega)]
                    exact j2
                  · rw [o8, up_ne _ _ (by omega)]; exact j4
                  · rw [o8, up_at]
                  · by_cases gi : i = nl
                    · subst gi
                      rw [uL_at, n8, up_at]
                      refine ⟨⟨hq1, w4⟩, rfl, ?_, fun k hk => ?_⟩
                      · rw [g8 _ (by omega), t1, g6 _ (by omega), g5 _ (by omega)]; exact u2
                      · rw [g8 _ (by omega), show b + 156 + 2 + 2 * i = b + 156 + 1 + 2 * i + 1 by omega, t2 k hk, g6 _ (by omega), g5 _ (by omega)]; exact u3 k hk
                    · rw [uL_ne _ _ gi, n8, up_ne _ _ gi, k8 (b + 156 + 1 + 2 * i) (by omega) (by omega) (by omega) (by omega), k8 (b + 156 + 2 + 2 * i) (by omega) (by omega) (by omega) (by omega)]
                      have := j7 i (by omega)
                      rw [f15.1 (b + 169) (by omega)] at this
                      exact this
              · rw [if_neg c59, k59, x_expN hX hC4 u1 w2 w3 (k := 59) (by omega) (by omega)]
                simp only [Option.bind_some]
                rw [if_pos (show ii ((0 : Nat) : Int) = (0 : Int32) from rfl)]
                exact LC_fail (XF_PF f14)
          · rw [if_neg c6', k6, x_expN hX hC2 i2 y2 y3 (k := 6) (by omega) (by omega)]
            simp only [Option.bind_some]
            rw [if_pos (show ii ((0 : Nat) : Int) = (0 : Int32) from rfl)]
            exact LC_fail (XF_PF f12)
      · simp only [x_valueE hX hC1 i1 x2, x_kind hX hC1 i1 x2 x3, Option.bind_some, Dv hX]
        rw [if_neg (show ¬ ii (kdx T n q1) = (2 : Int32) by rw [k2, i_eq (by omega) (by omega) (by omega) (by omega)]; omega), if_neg c2]
        rw [k2, x_expN hX hC1 i1 x2 x3 (k := 2) (by omega) (by omega)]
        simp only [Option.bind_some]
        rw [if_pos (show ii ((0 : Nat) : Int) = (0 : Int32) from rfl)]
        exact LC_fail (XF_PF f1)
    · rw [if_neg (show ¬ ii (nl : Int) < (6 : Int32) by rw [k6, n_lt (by omega) (by omega)]; exact c6), if_neg c6]
      simp only [DI6 hX, hi, Option.bind_some, k5, x_fail hX hC hq ht, jzb_n (Or.inl rfl), Dv hX]
      exact LC_fail (fun _ _ => rfl)
  · rw [if_neg (show ¬ ii (kdx T n q) = (5 : Int32) by rw [k5, i_eq (by omega) (by omega) (by omega) (by omega)]; omega), if_neg c5]
    rw [k5, x_expN hX hC hi hq ht (k := 5) (by omega) (by omega)]
    simp only [Option.bind_some]
    rw [if_pos (show ii ((0 : Nat) : Int) = (0 : Int32) from rfl)]
    exact LC_fail (fun _ _ => rfl)
/-- the class reads its lets -/
theorem x_lets (hX : LX S b) (hP : PR p) : ∀ (k nl : Nat) (L : LT) (q : Nat) (A : ZA), nl + k = 7 → CS S A c b T n p nl L → A (b + 155) 6 = ((tcn T q : Nat) : Int) → q ≤ n → tok T n q → ∀ fuel, k < fuel →
    ∃ A' : ZA, XF b A A' ∧ Sum.elim (fun (g : Nat) => jloop (f_X0_readLets_L2 (b + 155)) fuel (ii (nl : Int)) (mz S A B c) = some (.inl (ii ((0 : Nat) : Int)), mz S A' B c) ∧ A' (b + 155) 0 = (g : Int)) (fun s => ∃ z : Int32, jloop (f_X0_readLets_L2 (b + 155)) fuel (ii (nl : Int)) (mz S A B c) = some (.inr z, mz S A' B c) ∧ CS S A' c b T n p s.1 s.2) (plts T n p k nl L q) := by
  intro k
  induction k with
  | zero => intro nl L q A h1 h2; have := h2.2.2.2.2.2.1; omega
  | succ k ih =>
    intro nl L q A h1 hC hi hq ht fuel hf
    obtain ⟨fu, rfl⟩ : ∃ x, fuel = x + 1 := ⟨fuel - 1, by omega⟩
    have h6 := hC.2.2.2.2.2.1
    unfold plts
    by_cases c0 : kdx T n q = 0
    · rw [if_pos c0]
      refine ⟨A, fun _ _ => rfl, ii (nl : Int), jloop_end ?_, hC⟩
      unfold f_X0_readLets_L2
      rw [if_neg (show ¬ ((6 : Int32) < ii (nl : Int)) by rw [k6, n_lt (by omega) (by omega)]; omega)]
      simp only [Dv hX, Option.bind_some, x_kind hX hC hi hq ht]
      rw [if_pos (show ii (kdx T n q) = (0 : Int32) by rw [c0]; rfl)]
    · rw [if_neg c0]
      obtain ⟨A1, f1, r1⟩ := x_let (B := B) hX hP hC hi hq ht c0
      have hF : ∀ i, i < nl → isF p (L i).2.1 (L i).2.2 := fun i hi => (hC.2.2.2.2.2.2 i hi).1.2
      cases e : plet T n p nl L q with
      | inl g =>
        rw [e] at r1
        exact ⟨A1, f1, jloop_end r1.1, r1.2⟩
      | inr s =>
        rw [e] at r1
        obtain ⟨r1, r2, r3⟩ := r1
        obtain ⟨p1, p2, p3, p4, p5⟩ := plet_ok hP hF ht e
        simp only [Sum.elim_inr, jloop_go r1]
        obtain ⟨A2, f2, r4⟩ := ih (nl + 1) (uL L nl s.2) s.1 A1 (by omega) r2 r3 p2 p3 fu (by omega)
        exact ⟨A2, XF_trans f1 f2, r4⟩
end rd
