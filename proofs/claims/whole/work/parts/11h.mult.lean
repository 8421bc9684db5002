/-! multiplies. -/
section ops
variable {b : Nat} {S0 : SS} {A0 : ZA} {cc : Nat → Nat} {e : Nat}
theorem op_multiplies (v w : Int32) : OPS b S0 A0 cc e (f_X11_multiplies b v w) (f_X12_multiplies_ (b + 286) v w) := by
  rintro h ⟨S, A, B, c, p, bs, nb, rfl, h1, h2⟩
  have hX := h2.1
  have hM := L_mod hX
  have fin : IH b S0 A0 cc e (mz S (za A (b + 286) (up (A (b + 286)) 0 ((0 : Nat) : Int))) B c) := by
    obtain ⟨g1, g2⟩ := IH_thrown (v := ((0 : Nat) : Int)) h1 h2
    exact ⟨S, _, B, c, p, bs, nb, rfl, g1, g2⟩
  have km2 : (-2 : Int32) = ii (-2) := rfl
  rcases rng_cases v 4 with ⟨r, hr, rfl⟩ | ⟨z, rfl, a1, a2, a3⟩
  · rcases hkc w with ⟨n, hn1, hn, rfl, hkk⟩ | hkk
    · obtain ⟨wt, R, q1, q2, q3, q4, q5⟩ := h1.2.2.2.2.2.1 r hr
      have hP := h1.1
      have hp := PR_p hP
      have hE := EH_of hP
      have rR := isF_r hP q1
      obtain ⟨i, rfl⟩ : ∃ i, wt = 2 * i := ⟨wt / 2, by have := q1.1; omega⟩
      have w60 := q1.2.1
      have hL := Lk_r w60
      have hne1 : i ≠ 1 := fun x => q1.2.2.1 (by omega)
      have heq0 : ∀ j, ii (R j) = ii ((0 : Nat) : Int) ↔ R j = 0 := fun j => by
        have := rR j
        rw [i_eq (by omega) (by omega) (by omega) (by omega)]; omega
      rcases x_first (S := S) (A := A) (B := B) (c := c) ((L_regs hX).2 r hr) (fun n hn => by rw [q3 n hn]; have := rR n; omega) with ⟨k, k1', k2', k3', k4'⟩ | ⟨k1', k2'⟩
      · -- the first that is not 0
        rw [q3 k k1'] at k3'
        have k4 : ∀ j, j < k → R j = 0 := fun j hj => by rw [← q3 j (by omega)]; exact k4' j hj
        have kL : k < Lk (2 * i) := by
          rcases Nat.lt_or_ge k (Lk (2 * i)) with x | x
          · exact x
          · exact absurd (congrFun (VV_zero hE w60 q1.2.2.2 (fun j hj => k4 j (by omega))) k) k3'
        obtain ⟨S', A', c', bs', nb', e1, t1, t2, t3, t4⟩ := x_rfh h1 h2 (i := i) (by omega) hn
        obtain ⟨rd, rd36⟩ := t4 hne1
        have hX' := t2.1
        have hM' := L_mod hX'
        have hSG := t2.2.1
        have u : ∀ x, x < b + 321 → (∀ i, i < 31 → x ≠ b + 42 + 3 * i) → A' x = A x := fun x h3 h4 => (t3.1 x h3 h4).2
        have hs := (hSG.1.1 i (by omega)).1
        have hlen := (hSG.1.2.2.1 i (by omega)).2
        have hd : ∀ j, j < 6 → A' (b + 15 + 2 + 2 * r) j = R j := fun j hj => by rw [u _ (by omega) (fun k _ => by omega)]; exact q3 j hj
        have hh : ∀ t, t < Lk (2 * i) → f_X7_heckeAt (b + 42 + 3 * i) (b + 15 + 2 + 2 * r) (ii (n : Int)) (ii (t : Int)) (mz S' A' B c') = some (ii (hk p (2 * i) R n t), mz S' A' B c') := fun t ht => by
          have := x_hecke (C := R) (x := t) hSG hP (show i < 31 by omega) hn ht rd ((L_regs hX').2 r hr).2 (by omega) (by omega) (fun j hj => ⟨hd j (by omega), rR j⟩)
          rw [isF_ex hP q1 (fun _ _ => rfl)] at this
          exact this
        have hkr := fun t => hk_r (p := p) (by omega) (2 * i) R n t
        generalize hby : hk p (2 * i) R n k * pw (R k) p (p - 2).toNat % p = by'
        have hbr : 0 ≤ by' ∧ by' < p := by rw [← hby]; exact emod_r (by omega)
        have hprr : ∀ t, 0 ≤ by' * R t ∧ by' * R t ≤ 100000000 := fun t => pr_r ⟨hbr.1, by omega⟩ ⟨(rR t).1, by have := (rR t).2; omega⟩
        have hcl := find_run (h := mz S' A' B c') (f := f_X11_multiplies_L86 b (ii (n : Int)) (b + 15 + 2 + 2 * r) (b + 42 + 3 * i) (ii by')) (Lk (2 * i)) (by omega) (fun t => hk p (2 * i) R n t ≠ by' * R t % p) (fun _ => .inl (ii (-2))) (.inr (ii ((Lk (2 * i) : Nat) : Int))) (fun t ht hPt => by
          have e3 := hh t ht
          have e4 := hd t (by omega)
          have r1 := rR t
          have r2 := hkr t
          have r3 := hprr t
          have r4 := emod_r (x := by' * R t) (p := p) (by omega)
          have hP' : hk p (2 * i) R n t = by' * R t % p := Decidable.not_not.mp hPt
          unfold f_X11_multiplies_L86
          simp (disch := omega) only [PI1 hs.1, hlen, Option.bind_some, n_le, show ¬ (Lk (2 * i) ≤ t) by omega, ↓reduceIte, Pv hs.1, e3, FA ((L_regs hX').2 r hr), e4, XI2 hX', t1.2.1, i_l, ll_mul, f_of', i_eq, hP', k1, n_add]) (fun t ht hPt => by
          have e3 := hh t ht
          have e4 := hd t (by omega)
          have r1 := rR t
          have r2 := hkr t
          have r3 := hprr t
          have r4 := emod_r (x := by' * R t) (p := p) (by omega)
          unfold f_X11_multiplies_L86
          simp (disch := omega) only [PI1 hs.1, hlen, Option.bind_some, n_le, show ¬ (Lk (2 * i) ≤ t) by omega, ↓reduceIte, Pv hs.1, e3, FA ((L_regs hX').2 r hr), e4, XI2 hX', t1.2.1, i_l, ll_mul, f_of', i_eq]
          rw [if_neg hPt]; rfl) (by
          unfold f_X11_multiplies_L86
          simp (disch := omega) only [PI1 hs.1, hlen, Option.bind_some, n_le, Nat.le_refl, ↓reduceIte])
        have cl : ∀ t q, jloop (f_X11_multiplies_L86 b (ii (n : Int)) (b + 15 + 2 + 2 * r) (b + 42 + 3 * i) (ii by')) jF (ii ((0 : Nat) : Int)) (mz S' A' B c') = some (t, mz S' A' B c') → (Sum.elim (fun r50 => (some (r50, mz S' A' B c') : Option (Int32 × JH))) (fun _ => some (ii by', mz S' A' B c')) t = some (q, mz S' A' B c')) → f_X11_multiplies b (ii (r : Int)) (ii (n : Int)) (mz S A B c) = some (q, mz S' A' B c') := by
          intro t q ht hq
          have rk := rR k
          have hk1 := hkr k
          have ek := hh k kL
          have ed := hd k k1'
          have fd : f_X4_divide (ii (hk p (2 * i) R n k)) (ii (R k)) (ii p) (mz S' A' B c') = some (ii by', mz S' A' B c') := by
            rw [f_divide _ ⟨hk1.1, by omega⟩ (r31_of (by omega) (by omega)) (by omega) (by omega), hby]
          unfold f_X11_multiplies
          simp (disch := omega) only [k0, x_reg_y _ hr, (hkk _).1, Option.bind_some, n_eq, show ¬ (1 = 0) by omega, ↓reduceIte, XR5 hX, fgR (L_regs hX), FR ((L_regs hX).2 r hr), FV ((L_regs hX).2 r hr), k2', n_le, show 0 ≤ k by omega, FI ((L_regs hX).2 r hr), q2, Xv hX, e1, Pv hs.1, ek, FA ((L_regs hX').2 r hr), ed, XI2 hX', t1.2.1, fd, ht]
          exact hq
        -- the reference
        obtain ⟨g1, g2⟩ := IH_thrown (v := ((0 : Nat) : Int)) t1 t2
        generalize hA5 : za A' (b + 286) (up (A' (b + 286)) 0 ((0 : Nat) : Int)) = A5 at g1 g2
        have u5 : ∀ x, x ≠ b + 286 → A5 x = A' x := fun x hx => by rw [← hA5, za_ne _ _ hx]
        have row5 : ∀ i, i < 181 → A5 (b + 286 + 19) (181 * r + i) = R i ∧ (0 ≤ R i ∧ R i < p) := fun i hi => ⟨by rw [u5 _ (by omega), u _ (by omega) (fun k _ => by omega)]; exact q5 i hi, rR i⟩
        have w5 : A5 (b + 286 + 18) r = ((2 * i : Nat) : Int) := by rw [u5 _ (by omega), u _ (by omega) (fun k _ => by omega)]; exact q4
        have p5 : A5 (b + 286) 1 = p := g1.2.2.1.1
        have hm5 : jgI (mz S' A5 B c') (b + 286) 9 1 = some (ii p) := by rw [MI1 hM', p5]
        have mh : ∀ t, t < Lk (2 * i) → f_X12_heckeAt (b + 286) (b + 286 + 19) (ii ((181 * r : Nat) : Int)) (ii ((2 * i : Nat) : Int)) (ii (n : Int)) (ii (t : Int)) (mz S' A5 B c') = some (ii (hk p (2 * i) R n t), mz S' A5 B c') := fun t ht => m_hecke (R := R) hM' p5 (by omega) hp.2 w60 hn (by omega) (MS19 hM') (by omega) (by omega) row5
        have hne2 : ¬ (ii by' = ii (-2)) := by rw [i_eq (by omega) (by omega) (by omega) (by omega)]; omega
        have key := jloop_run (f := f_X12_multiplies__L43 (b + 286) (ii (n : Int)) (ii ((2 * i : Nat) : Int)) (ii ((181 * r : Nat) : Int))) (fun t => (if t ≤ k then ii (-2) else ii by', ii (t : Int))) (fun _ => mz S' A5 B c') (k + 1) (fun t ht => by
          have e4 := (row5 t (by omega)).1
          unfold f_X12_multiplies__L43
          rw [m_long _ w60]
          simp (disch := omega) only [Option.bind_some, n_le, show ¬ (Lk (2 * i) ≤ t) by omega, show t ≤ k by omega, ↓reduceIte, km2, eq_self, MR32 hM', n_add, Ma19 hM', e4, heq0, k0]
          by_cases q : t = k
          · subst q
            have r1 := rR t
            have r2 := hkr t
            have r3 := pw_r (b := R t) (p := p) (by omega) (p - 2).toNat
            have r4 := pr_r (x := hk p (2 * i) R n t) (y := pw (R t) p (p - 2).toNat) ⟨r2.1, by omega⟩ ⟨r3.1, by omega⟩
            rw [if_neg k3', if_neg (show ¬ (t + 1 ≤ t) by omega)]
            simp only [Mv hM', Option.bind_some]
            rw [mh t kL]
            simp (disch := omega) only [Option.bind_some, MR32 hM', Ma19 hM', e4, Mv hM']
            rw [m_inverse hm5 ⟨r1.1, by omega⟩ (by omega) (by omega)]
            simp (disch := omega) only [Option.bind_some, Mv hM', i_l, ll_mul]
            rw [m_left' hM' p5 (by omega) hp.2 (by omega) (by omega), hby]
            simp only [Option.bind_some, k1, n_add]
          · rw [if_pos (k4 t (by omega)), if_pos (show t + 1 ≤ k by omega), k1, n_add]) (t := (ii by', ii ((k + 1 : Nat) : Int))) (h1 := mz S' A5 B c') (by
          unfold f_X12_multiplies__L43
          rw [m_long _ w60, if_neg (show ¬ (k + 1 ≤ k) by omega)]
          simp (disch := omega) only [Option.bind_some, n_le, km2, hne2, ↓reduceIte, ite_self]) (jF_big (by omega))
        rw [if_pos (Nat.zero_le _)] at key
        have hml := flag_run (h := mz S' A5 B c') (f := f_X12_multiplies__L137 (b + 286) (ii (n : Int)) (ii ((2 * i : Nat) : Int)) (ii ((181 * r : Nat) : Int)) (ii by')) (Lk (2 * i)) (by omega) (fun t => hk p (2 * i) R n t ≠ by' * R t % p) (fun t ht hPt => by
          have e4 := (row5 t (by omega)).1
          have r1 := rR t
          have r2 := hkr t
          have r3 := hprr t
          have r4 := emod_r (x := by' * R t) (p := p) (by omega)
          have hP' : hk p (2 * i) R n t = by' * R t % p := Decidable.not_not.mp hPt
          unfold f_X12_multiplies__L137
          rw [m_long _ w60]
          simp (disch := omega) only [Option.bind_some, n_le, n_eq, show ¬ (Lk (2 * i) ≤ t) by omega, show ¬ (1 = 0) by omega, ↓reduceIte, k0, k1, MR32 hM', Mv hM', mh, n_add, Ma19 hM', e4, i_l, ll_mul]
          rw [m_left' hM' p5 (by omega) hp.2 (by omega) (by omega)]
          simp only [Option.bind_some]
          rw [if_pos (by rw [hP'])]) (fun t ht hPt => by
          have e4 := (row5 t (by omega)).1
          have r1 := rR t
          have r2 := hkr t
          have r3 := hprr t
          have r4 := emod_r (x := by' * R t) (p := p) (by omega)
          unfold f_X12_multiplies__L137
          rw [m_long _ w60]
          simp (disch := omega) only [Option.bind_some, n_le, n_eq, show ¬ (Lk (2 * i) ≤ t) by omega, show ¬ (1 = 0) by omega, ↓reduceIte, k0, k1, MR32 hM', Mv hM', mh, n_add, Ma19 hM', e4, i_l, ll_mul]
          rw [m_left' hM' p5 (by omega) hp.2 (by omega) (by omega)]
          simp only [Option.bind_some]
          rw [if_neg (by rw [i_eq (by omega) (by omega) (by omega) (by omega)]; exact hPt)]) (fun t ht => by
          unfold f_X12_multiplies__L137
          rw [m_long _ w60]
          simp (disch := omega) only [Option.bind_some, k0, eq_self, ↓reduceIte, ite_self]) (by
          unfold f_X12_multiplies__L137
          rw [m_long _ w60]
          simp (disch := omega) only [Option.bind_some, n_le, Nat.le_refl, ↓reduceIte])
        have mm : ∀ t u, jloop (f_X12_multiplies__L137 (b + 286) (ii (n : Int)) (ii ((2 * i : Nat) : Int)) (ii ((181 * r : Nat) : Int)) (ii by')) jF (ii ((1 : Nat) : Int), ii ((0 : Nat) : Int)) (mz S' A5 B c') = some ((t, u), mz S' A5 B c') → f_X12_multiplies_ (b + 286) (ii (r : Int)) (ii (n : Int)) (mz S' A' B c') = if t = ii ((0 : Nat) : Int) then some (ii (-2), mz S' A5 B c') else some (ii by', mz S' A5 B c') := by
          intro t u ht
          unfold f_X12_multiplies_
          rw [k0, MP0 hM']
          simp (disch := omega) only [hA5, Mv hM', m_reg_y _ _ hr, (hkk _).2, Option.bind_some, n_eq, show ¬ (1 = 0) by omega, ↓reduceIte, MR31 hM', Ma18 hM', w5, k181, n_mul, km2, key, hne2, k1, ht]
        rcases hcl with ⟨t, t1', t2', t3', t4'⟩ | ⟨t1', t2'⟩
        · refine ⟨ii (-2), _, mz S' A5 B c', cl _ _ t4' rfl, ?_, ⟨S', _, B, c', p, bs', nb', rfl, g1, g2⟩⟩
          rcases hml with ⟨t, u, s1, s2, s3⟩ | ⟨s1, u, s2⟩
          · rw [mm _ _ s3, if_pos rfl]
          · exact absurd t2' (s1 t t1')
        · refine ⟨ii by', _, mz S' A5 B c', cl _ _ t2' rfl, ?_, ⟨S', _, B, c', p, bs', nb', rfl, g1, g2⟩⟩
          rcases hml with ⟨t, u, s1, s2, s3⟩ | ⟨s1, u, s2⟩
          · exact absurd s2 (t1' t s1)
          · rw [mm _ _ s2, if_neg (by decide)]
      · -- it is 0
        have k4 : ∀ j, j < Lk (2 * i) → R j = 0 := fun j hj => by rw [← q3 j (by omega)]; exact k2' j (by omega)
        obtain ⟨g1, g2⟩ := IH_thrown (v := ((0 : Nat) : Int)) h1 h2
        generalize hA5 : za A (b + 286) (up (A (b + 286)) 0 ((0 : Nat) : Int)) = A5 at g1 g2
        have u5 : ∀ x, x ≠ b + 286 → A5 x = A x := fun x hx => by rw [← hA5, za_ne _ _ hx]
        have w5 : A5 (b + 286 + 18) r = ((2 * i : Nat) : Int) := by rw [u5 _ (by omega)]; exact q4
        have key := jloop_run (f := f_X12_multiplies__L43 (b + 286) (ii (n : Int)) (ii ((2 * i : Nat) : Int)) (ii ((181 * r : Nat) : Int))) (fun t => (ii (-2), ii (t : Int))) (fun _ => mz S A5 B c) (Lk (2 * i)) (fun t ht => by
          have e4 : A5 (b + 286 + 19) (181 * r + t) = R t := by rw [u5 _ (by omega)]; exact q5 t (by omega)
          unfold f_X12_multiplies__L43
          rw [m_long _ w60]
          simp (disch := omega) only [Option.bind_some, n_le, show ¬ (Lk (2 * i) ≤ t) by omega, ↓reduceIte, km2, eq_self, MR32 hM, n_add, Ma19 hM, e4, heq0, k0, k1]
          rw [if_pos (k4 t ht)]) (t := (ii (-2), ii ((Lk (2 * i) : Nat) : Int))) (h1 := mz S A5 B c) (by
          unfold f_X12_multiplies__L43
          rw [m_long _ w60]
          simp (disch := omega) only [Option.bind_some, n_le, Nat.le_refl, ↓reduceIte]) (jF_big (by omega))
        have hend : jloop (f_X12_multiplies__L137 (b + 286) (ii (n : Int)) (ii ((2 * i : Nat) : Int)) (ii ((181 * r : Nat) : Int)) (ii (-2))) jF (ii ((0 : Nat) : Int), ii ((0 : Nat) : Int)) (mz S A5 B c) = some ((ii ((0 : Nat) : Int), ii ((0 : Nat) : Int)), mz S A5 B c) := by
          refine jloop_end (n := 19999) ?_
          unfold f_X12_multiplies__L137
          rw [m_long _ w60]
          simp (disch := omega) only [Option.bind_some, k0, eq_self, ↓reduceIte, ite_self]
        refine ⟨ii (-2), mz S A B c, mz S A5 B c, ?_, ?_, ⟨S, _, B, c, p, bs, nb, rfl, g1, g2⟩⟩
        · unfold f_X11_multiplies
          simp (disch := omega) only [k0, x_reg_y _ hr, (hkk _).1, Option.bind_some, n_eq, show ¬ (1 = 0) by omega, ↓reduceIte, XR5 hX, fgR (L_regs hX), FR ((L_regs hX).2 r hr), FV ((L_regs hX).2 r hr), k1']
          rw [if_neg (by decide)]; rfl
        · unfold f_X12_multiplies_
          rw [k0, MP0 hM]
          simp (disch := omega) only [hA5, Mv hM, m_reg_y _ _ hr, (hkk _).2, Option.bind_some, n_eq, show ¬ (1 = 0) by omega, ↓reduceIte, MR31 hM, Ma18 hM, w5, k181, n_mul, km2, key, eq_self, hend]
    · refine ⟨-1, mz S A B c, _, ?_, ?_, fin⟩
      · unfold f_X11_multiplies
        simp (disch := omega) only [k0, x_reg_y _ hr, (hkk _).1, Option.bind_some, n_eq, show ¬ (1 = 0) by omega, eq_self, ↓reduceIte]
      · unfold f_X12_multiplies_
        simp (disch := omega) only [k0, MP0 hM, Mv hM, m_reg_y _ _ hr, (hkk _).2, Option.bind_some, n_eq, show ¬ (1 = 0) by omega, eq_self, ↓reduceIte]
  · refine ⟨-1, mz S A B c, _, ?_, ?_, fin⟩
    · unfold f_X11_multiplies
      simp only [k0, x_reg_n _ a1 a2 a3, Option.bind_some, eq_self, ↓reduceIte]
    · unfold f_X12_multiplies_
      simp only [k0, MP0 hM, Mv hM, m_reg_n _ _ a1 a2 a3, Option.bind_some, eq_self, ↓reduceIte]
end ops
