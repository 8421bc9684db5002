/-! The reference's polynomial; calls table, polynomial. -/
theorem jnzL_p {p : Int} (h : 0 < p) (h2 : p < 10000) : jnzL (ll p) = some () := jnzL_ll h (by omega)
section ops
variable {b : Nat} {S0 : SS} {A0 : ZA} {cc : Nat → Nat} {e : Nat}
theorem m_poly {S : SS} {A B : ZA} {c : (Nat × Nat) × (Nat → Nat)} {m s : Nat} {p : Int} {T : Nat → Nat → Int} (hM : LM S m) (hs : s ≤ 5) (hp : 101 ≤ p) (hp2 : p < 10000) (h1 : A m 1 = p) (h35 : A m 35 = (s : Int)) (hT : ∀ i, i < s → ∀ j, j < s → A (m + 20) (6 * i + j) = T i j) (hTr : ∀ i j, 0 ≤ T i j ∧ T i j < p) :
    ∃ A' : ZA, f_X12_laysPolynomial m (mz S A B c) = some ((), mz S A' B c) ∧ (∀ i, i ≤ s → A' (m + 21) i = pc p T s i) ∧ (∀ x, x ≠ m + 21 → x ≠ m + 22 → x ≠ m + 23 → A' x = A x) := by
  have hp1 : 1 < p := by omega
  have key1 := fill_run (S := S) (A := za A (m + 21) (up (A (m + 21)) s ((1 : Nat) : Int))) (B := B) (c := c) (a := m + 22) (o := 0) (f := f_X12_laysPolynomial_L12 m) (fun _ => 0) 36 (by decide) (fun i hi => by
    unfold f_X12_laysPolynomial_L12
    simp (disch := omega) only [k36, k0, k1, n_le, show ¬ (36 ≤ i) by omega, ↓reduceIte, MR37 hM, Option.bind_some, n_add]
    rw [jsI_m0 (G := fun _ => 0) (v := ((0 : Nat) : Int)) (MS22 hM) hi (by omega) rfl]
    rfl) (by
    unfold f_X12_laysPolynomial_L12
    simp (disch := omega) only [k36, n_le, Nat.le_refl, ↓reduceIte])
  have key2 := z_run (S := S) (B := B) (c := c) (f := f_X12_laysPolynomial_L33 m) (fun t => ii ((t + 1 : Nat) : Int)) (fun t A' => (∀ i, i < s → ∀ j, j < s → A' (m + 22) (6 * i + j) = (fl' p T s t).1 i j) ∧ (∀ t', t' ≤ t → A' (m + 21) (s - t') = (fl' p T s t').2) ∧ (∀ x, x ≠ m + 21 → x ≠ m + 22 → x ≠ m + 23 → A' x = A x)) s (t := ii ((s + 1 : Nat) : Int)) (by omega) (fun t ht A2 ⟨z1, z2, z3⟩ => by
    obtain ⟨fr1, fr2⟩ := fl_r hp1 T s t
    have wr := flW_r hp1 fr1 (fl' p T s t).2
    have m2 : A2 m = A m := z3 m (by omega) (by omega) (by omega)
    have t2 : A2 (m + 20) = A (m + 20) := z3 _ (by omega) (by omega) (by omega)
    have pv : A2 (m + 21) (s - t) = (fl' p T s t).2 := z2 t (Nat.le_refl _)
    -- onto the diagonal
    have ka := z_run (S := S) (B := B) (c := c) (f := f_X12_laysPolynomial_L43 m (ii ((t + 1 : Nat) : Int))) (fun u => ii (u : Int)) (fun u A' => (∀ i, i < s → ∀ j, j < s → A' (m + 22) (6 * i + j) = if i < u then flW (fl' p T s t).1 (fl' p T s t).2 p i j else (fl' p T s t).1 i j) ∧ (∀ x, x ≠ m + 22 → A' x = A2 x)) s (t := ii (s : Int)) (by omega) (fun u hu A3 ⟨v1, v2⟩ => by
      have m3 : A3 m = A m := by rw [v2 _ (by omega), m2]
      have p3 : A3 (m + 21) (s - t) = (fl' p T s t).2 := by rw [v2 _ (by omega)]; exact pv
      have d3 : A3 (m + 22) (7 * u) = (fl' p T s t).1 u u := by have := v1 u hu u hu; rw [if_neg (by omega), show 6 * u + u = 7 * u by omega] at this; exact this
      have r1 := fr1 u u
      refine ⟨za A3 (m + 22) (up (A3 (m + 22)) (7 * u) (((fl' p T s t).1 u u + (fl' p T s t).2) % p)), ?_, fun i hi j hj => ?_, fun x hx => by rw [za_ne _ _ hx, v2 x hx]⟩
      · unfold f_X12_laysPolynomial_L43
        simp (disch := omega) only [MI35 hM, m3, h35, Option.bind_some, n_le, show ¬ (s ≤ u) by omega, ↓reduceIte, MR37 hM, MR36 hM, k7, n_mul, Ma22 hM, d3, k1, n_sub, n_add, show s - (t + 1) + 1 = s - t by omega, Ma21 hM, p3, Mv hM]
        rw [ii_add, i_l (by omega) (by omega)]
        rw [m_left' hM (by rw [m3]; exact h1) (by omega) hp2 (by omega) (by omega)]
        simp (disch := omega) only [Option.bind_some, Ms22 hM]
      · rw [za_at]
        by_cases q : i = u
        · subst q
          by_cases q2 : j = i
          · subst q2
            rw [show 6 * j + j = 7 * j by omega, up_at, if_pos (by omega)]
            unfold flW
            rw [if_pos rfl]
          · rw [up_ne _ _ (by omega), v1 i hi j hj, if_neg (by omega), if_pos (by omega)]
            unfold flW
            rw [if_neg (fun x => q2 x.symm)]
        · rw [up_ne _ _ (by omega), v1 i hi j hj]
          by_cases q2 : i < u
          · rw [if_pos q2, if_pos (by omega)]
          · rw [if_neg q2, if_neg (by omega)]) (fun A3 ⟨_, v2⟩ => by
      have m3 : A3 m = A m := by rw [v2 _ (by omega), m2]
      unfold f_X12_laysPolynomial_L43
      simp (disch := omega) only [MI35 hM, m3, h35, Option.bind_some, n_le, Nat.le_refl, ↓reduceIte]) (A0 := A2) ⟨fun i hi j hj => by rw [if_neg (by omega)]; exact z1 i hi j hj, fun _ _ => rfl⟩
    obtain ⟨A3, e3, v1, v2⟩ := ka
    have e3' : jloop (f_X12_laysPolynomial_L43 m (ii ((t + 1 : Nat) : Int))) jF (ii ((0 : Nat) : Int)) (mz S A2 B c) = some (ii (s : Int), mz S A3 B c) := e3
    have w3 : ∀ i, i < s → ∀ j, j < s → A3 (m + 22) (6 * i + j) = flW (fl' p T s t).1 (fl' p T s t).2 p i j := fun i hi j hj => by have := v1 i hi j hj; rw [if_pos hi] at this; exact this
    have m3 : A3 m = A m := by rw [v2 _ (by omega), m2]
    have t3 : A3 (m + 20) = A (m + 20) := by rw [v2 _ (by omega), t2]
    generalize hWd : flW (fl' p T s t).1 (fl' p T s t).2 p = W at wr w3
    -- the product
    have kb := z_run (S := S) (B := B) (c := c) (f := f_X12_laysPolynomial_L96 m (ii ((t + 1 : Nat) : Int))) (fun u => ii (u : Int)) (fun u A' => (∀ i, i < u → ∀ j, j < s → A' (m + 23) (6 * i + j) = flM p T W s i j) ∧ (∀ x, x ≠ m + 23 → A' x = A3 x)) s (t := ii (s : Int)) (by omega) (fun u hu A4 ⟨x1, x2⟩ => by
      have kb2 := z_run (S := S) (B := B) (c := c) (f := f_X12_laysPolynomial_L106 m (ii ((t + 1 : Nat) : Int)) (ii (u : Int))) (fun v => ii (v : Int)) (fun v A' => (∀ j, j < v → A' (m + 23) (6 * u + j) = flM p T W s u j) ∧ (∀ k, ¬ (6 * u ≤ k ∧ k < 6 * u + 6) → A' (m + 23) k = A4 (m + 23) k) ∧ (∀ x, x ≠ m + 23 → A' x = A3 x)) s (t := ii (s : Int)) (by omega) (fun v hv A5 ⟨o1, o2, o3⟩ => by
        have m5 : A5 m = A m := by rw [o3 _ (by omega), m3]
        have hb := flM_sr hp2 hTr wr s u v
        have key3 := sum_run (h := mz S A5 B c) (f := f_X12_laysPolynomial_L120 m (ii ((t + 1 : Nat) : Int)) (ii (u : Int)) (ii (v : Int))) (fun k => T u k * W k v) s (by omega) (fun k hk => by
          have a1 : A5 (m + 20) (6 * u + k) = T u k := by rw [o3 _ (by omega), t3]; exact hT u hu k hk
          have a2 : A5 (m + 22) (6 * k + v) = W k v := by rw [o3 _ (by omega)]; exact w3 k hk v hv
          have r1 := hTr u k
          have r2 := wr k v
          unfold f_X12_laysPolynomial_L120
          simp (disch := omega) only [MI35 hM, m5, h35, Option.bind_some, n_le, show ¬ (s ≤ k) by omega, ↓reduceIte, MR34 hM, MR37 hM, k6, n_mul, n_add, Ma20 hM, Ma22 hM, a1, a2, i_l, ll_mul, ll_add, k1]) (by
          unfold f_X12_laysPolynomial_L120
          simp (disch := omega) only [MI35 hM, m5, h35, Option.bind_some, n_le, Nat.le_refl, ↓reduceIte])
        refine ⟨za A5 (m + 23) (up (A5 (m + 23)) (6 * u + v) (flM p T W s u v)), ?_, fun j hj => ?_, fun k hk => by rw [za_at, up_ne _ _ (by omega)]; exact o2 k hk, fun x hx => by rw [za_ne _ _ hx, o3 x hx]⟩
        · unfold f_X12_laysPolynomial_L106
          simp (disch := omega) only [MI35 hM, m5, h35, Option.bind_some, n_le, show ¬ (s ≤ v) by omega, ↓reduceIte, g0, k0, key3, MR38 hM, Mv hM]
          rw [m_left' hM (by rw [m5]; exact h1) (by omega) hp2 (by omega) (by omega)]
          simp (disch := omega) only [Option.bind_some, k6, n_mul, n_add, Ms23 hM, k1]
          rfl
        · rw [za_at]
          by_cases q : j = v
          · subst q; rw [up_at]
          · rw [up_ne _ _ (by omega)]; exact o1 j (by omega)) (fun A5 ⟨_, _, o3⟩ => by
        have m5 : A5 m = A m := by rw [o3 _ (by omega), m3]
        unfold f_X12_laysPolynomial_L106
        simp (disch := omega) only [MI35 hM, m5, h35, Option.bind_some, n_le, Nat.le_refl, ↓reduceIte]) (A0 := A4) ⟨fun j hj => by omega, fun _ _ => rfl, x2⟩
      obtain ⟨A5, e5, o1, o2, o3⟩ := kb2
      have e5' : jloop (f_X12_laysPolynomial_L106 m (ii ((t + 1 : Nat) : Int)) (ii (u : Int))) jF (ii ((0 : Nat) : Int)) (mz S A4 B c) = some (ii (s : Int), mz S A5 B c) := e5
      have m4 : A4 m = A m := by rw [x2 _ (by omega), m3]
      refine ⟨A5, ?_, fun i hi j hj => ?_, o3⟩
      · unfold f_X12_laysPolynomial_L96
        simp (disch := omega) only [MI35 hM, m4, h35, Option.bind_some, n_le, show ¬ (s ≤ u) by omega, ↓reduceIte, k0, e5', k1, n_add]
      · by_cases q : i = u
        · subst q; exact o1 j hj
        · rw [o2 _ (by omega)]; exact x1 i (by omega) j hj) (fun A4 ⟨_, x2⟩ => by
      have m4 : A4 m = A m := by rw [x2 _ (by omega), m3]
      unfold f_X12_laysPolynomial_L96
      simp (disch := omega) only [MI35 hM, m4, h35, Option.bind_some, n_le, Nat.le_refl, ↓reduceIte]) (A0 := A3) ⟨fun i hi => by omega, fun _ _ => rfl⟩
    obtain ⟨A4, e4, x1, x2⟩ := kb
    have e4' : jloop (f_X12_laysPolynomial_L96 m (ii ((t + 1 : Nat) : Int))) jF (ii ((0 : Nat) : Int)) (mz S A3 B c) = some (ii (s : Int), mz S A4 B c) := e4
    have kc := fill_run (S := S) (A := A4) (B := B) (c := c) (a := m + 22) (o := 0) (f := f_X12_laysPolynomial_L201 m (ii ((t + 1 : Nat) : Int)) (ll 0)) (fun i => A4 (m + 23) i) 36 (by decide) (fun i hi => by
      unfold f_X12_laysPolynomial_L201
      simp (disch := omega) only [k36, k1, n_le, show ¬ (36 ≤ i) by omega, ↓reduceIte, MR37 hM, MR38 hM, Option.bind_some, n_add, Ma23 hM, za_ne]
      rw [jsI_m0 (G := fun i => A4 (m + 23) i) (MS22 hM) hi (by omega) rfl]
      rfl) (by
      unfold f_X12_laysPolynomial_L201
      simp (disch := omega) only [k36, n_le, Nat.le_refl, ↓reduceIte])
    generalize hA5 : za A4 (m + 22) (mo (fun i => A4 (m + 23) i) (A4 (m + 22)) 0 36) = A5 at kc
    have m5 : A5 m = A m := by rw [← hA5, za_ne _ _ (by omega), x2 _ (by omega), m3]
    have n5 : ∀ i, i < s → ∀ j, j < s → A5 (m + 22) (6 * i + j) = flM p T W s i j := fun i hi j hj => by rw [← hA5, za_at, mo_0in _ _ (by omega)]; exact x1 i hi j hj
    have g5 : ∀ x, x ≠ m + 22 → x ≠ m + 23 → A5 x = A2 x := fun x c1 c2 => by rw [← hA5, za_ne _ _ c1, x2 x c2, v2 x c1]
    have mr : ∀ i, 0 ≤ flM p T W s i i ∧ flM p T W s i i < p := fun i => emod_r (by omega)
    have dr := sm_r (g := fun i => flM p T W s i i) (M := 10000) (n := s) (fun i _ => ⟨(mr i).1, by have := (mr i).2; omega⟩)
    have kd := sum_run (h := mz S A5 B c) (f := f_X12_laysPolynomial_L231 m (ii ((t + 1 : Nat) : Int))) (fun i => flM p T W s i i) s (by omega) (fun k hk => by
      have a1 : A5 (m + 22) (7 * k) = flM p T W s k k := by have := n5 k hk k hk; rw [show 6 * k + k = 7 * k by omega] at this; exact this
      have r1 := mr k
      unfold f_X12_laysPolynomial_L231
      simp (disch := omega) only [MI35 hM, m5, h35, Option.bind_some, n_le, show ¬ (s ≤ k) by omega, ↓reduceIte, MR37 hM, k7, n_mul, Ma22 hM, a1, i_l, ll_add, k1, n_add]) (by
      unfold f_X12_laysPolynomial_L231
      simp (disch := omega) only [MI35 hM, m5, h35, Option.bind_some, n_le, Nat.le_refl, ↓reduceIte])
    have hin := pw_r (b := ((t + 1 : Nat) : Int)) hp1 (p - 2).toNat
    have tr := tmod_r (-(sm (fun i => flM p T W s i i) s)) (p := p) (by omega)
    have br := mul_bd (M := 10000) (N := 10000) (a := (-(sm (fun i => flM p T W s i i) s)).tmod p) ⟨by omega, by omega⟩ (b := pw ((t + 1 : Nat) : Int) p (p - 2).toNat) ⟨hin.1, by omega⟩
    refine ⟨za A5 (m + 21) (up (A5 (m + 21)) (s - (t + 1)) (fl' p T s (t + 1)).2), ?_, fun i hi j hj => ?_, fun t' ht' => ?_, fun x c1 c2 c3 => by rw [za_ne _ _ c1, g5 x c2 c3, z3 x c1 c2 c3]⟩
    · unfold f_X12_laysPolynomial_L33
      simp (disch := omega) only [MI35 hM, m2, h35, Option.bind_some, n_lt, show ¬ (s < t + 1) by omega, ↓reduceIte, k0, e3', e4', g0, kc, kd, MR36 hM, m5, MI1 hM, h1, i_l, jnzL_p, Mv hM]
      rw [m_inverse (by rw [MI1 hM, m5, h1]) (by omega) (by omega) (by omega)]
      simp (disch := omega) only [Option.bind_some, Mv hM, ll_neg, i_l]
      rw [ll_rem (r63_of (by omega) (by omega)) (r63_of (by omega) (by omega)) (by omega), ll_mul, m_left' hM (by rw [m5]; exact h1) (by omega) hp2 (by omega) (by omega)]
      simp (disch := omega) only [Option.bind_some, n_sub, Ms21 hM, k1, n_add]
      have ef : (fl' p T s (t + 1)).2 = (-(sm (fun i => flM p T W s i i) s)).tmod p * pw ((t + 1 : Nat) : Int) p (p - 2).toNat % p := by
        show (-(sm (fun i => flM p T (flW (fl' p T s t).1 (fl' p T s t).2 p) s i i) s)) % p * pw ((t + 1 : Nat) : Int) p (p - 2).toNat % p = _
        rw [hWd, ← em_mul_l ((-(sm (fun i => flM p T W s i i) s)).tmod p), tmod_mod]
      rw [ef]
    · rw [za_ne _ _ (by omega), n5 i hi j hj, ← hWd]; rfl
    · rw [za_at]
      by_cases q : t' = t + 1
      · subst q; rw [up_at]
      · rw [up_ne _ _ (by omega), g5 _ (by omega) (by omega)]; exact z2 t' (by omega)) (fun A2 ⟨_, _, z3⟩ => by
    have m2 : A2 m = A m := z3 m (by omega) (by omega) (by omega)
    unfold f_X12_laysPolynomial_L33
    simp (disch := omega) only [MI35 hM, m2, h35, Option.bind_some, n_lt, show s < s + 1 by omega, ↓reduceIte]) (A0 := za (za A (m + 21) (up (A (m + 21)) s ((1 : Nat) : Int))) (m + 22) (mo (fun _ => 0) (za A (m + 21) (up (A (m + 21)) s ((1 : Nat) : Int)) (m + 22)) 0 36)) ⟨fun i hi j hj => by rw [za_at, mo_0in _ _ (by omega)]; rfl, fun t' ht' => by
      have : t' = 0 := by omega
      subst this; rw [za_ne _ _ (by omega), za_at, Nat.sub_zero, up_at]; rfl, fun x c1 c2 c3 => by rw [za_ne _ _ c2, za_ne _ _ c1]⟩
  obtain ⟨A2, e2, z1, z2, z3⟩ := key2
  have e2' : jloop (f_X12_laysPolynomial_L33 m) jF (ii ((1 : Nat) : Int)) (mz S (za (za A (m + 21) (up (A (m + 21)) s ((1 : Nat) : Int))) (m + 22) (mo (fun _ => 0) (za A (m + 21) (up (A (m + 21)) s ((1 : Nat) : Int)) (m + 22)) 0 36)) B c) = some (ii ((s + 1 : Nat) : Int), mz S A2 B c) := e2
  unfold f_X12_laysPolynomial
  simp (disch := omega) only [MR36 hM, MI35 hM, h35, Option.bind_some, k1, Ms21 hM, k0, key1, e2']
  refine ⟨A2, rfl, fun i hi => ?_, z3⟩
  have := z2 (s - i) (by omega)
  rw [show s - (s - i) = i by omega] at this
  exact this
end ops
