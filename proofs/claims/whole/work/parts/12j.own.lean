/-! An own form: the reference's side. -/
def ER (A : ZA) (m s : Nat) (E : Nat → Nat → Int) : Prop := ∀ q, q < s → ∀ z, z < s → A (m + 25) (6 * q + z) = E q z
theorem ER_up {A : ZA} {m s : Nat} {E F : Nat → Nat → Int} {q z : Nat} {v : Int} (hs : s ≤ 5) (hz : z < s) (h : ER A m s E) (he : ∀ q', q' < s → ∀ z', z' < s → F q' z' = if q' = q ∧ z' = z then v else E q' z') : ER (za A (m + 25) (up (A (m + 25)) (6 * q + z) v)) m s F := fun q' hq' z' hz' => by
  rw [za_at, he q' hq' z' hz']
  by_cases x : q' = q ∧ z' = z
  · rw [if_pos x, x.1, x.2, up_at]
  · rw [if_neg x, up_ne _ _ (by omega)]; exact h q' hq' z' hz'
theorem m_eqs {S : SS} {A B : ZA} {c : (Nat × Nat) × (Nat → Nat)} {m s : Nat} {p l : Int} {T : Nat → Nat → Int} (hM : LM S m) (hs : s ≤ 5) (hp : 1 < p) (hp2 : p < 10000) (h1 : A m 1 = p) (h35 : A m 35 = (s : Int)) (hT : ∀ i, i < s → ∀ j, j < s → A (m + 20) (6 * i + j) = T i j) (hTr : ∀ i j, 0 ≤ T i j ∧ T i j < p) (hl : 0 ≤ l ∧ l < p) :
    ∃ A' : ZA, jloop (f_X12_solves_L2 m (ii l)) jF (ii ((0 : Nat) : Int)) (mz S A B c) = some (ii (s : Int), mz S A' B c) ∧ ER A' m s (eqm p l T) ∧ (∀ x, x ≠ m + 25 → A' x = A x) := by
  have key := z_run (S := S) (B := B) (c := c) (f := f_X12_solves_L2 m (ii l)) (fun t => ii (t : Int)) (fun t A' => (∀ q, q < t → ∀ z, z < s → A' (m + 25) (6 * q + z) = eqm p l T q z) ∧ (∀ x, x ≠ m + 25 → A' x = A x)) s (t := ii (s : Int)) (by omega) (fun t ht A1 ⟨y1, y2⟩ => by
    have key2 := z_run (S := S) (B := B) (c := c) (f := f_X12_solves_L12 m (ii l) (ii (t : Int))) (fun u => ii (u : Int)) (fun u A' => (∀ q, q < t → ∀ z, z < s → A' (m + 25) (6 * q + z) = eqm p l T q z) ∧ (∀ z, z < u → A' (m + 25) (6 * t + z) = eqm p l T t z) ∧ (∀ x, x ≠ m + 25 → A' x = A x)) s (t := ii (s : Int)) (by omega) (fun u hu A2 ⟨z0, z1, z2⟩ => by
      have e1 : A2 m 1 = p := by rw [z2 _ (by omega)]; exact h1
      have e35 : A2 m 35 = (s : Int) := by rw [z2 _ (by omega)]; exact h35
      have v : A2 (m + 20) (6 * u + t) = T u t := by rw [z2 _ (by omega)]; exact hT u hu t ht
      have tr := hTr u t
      refine ⟨za A2 (m + 25) (up (A2 (m + 25)) (6 * t + u) (eqm p l T t u)), ?_, fun q hq z hz => ?_, fun z hz => ?_, fun x hx => by rw [za_ne _ _ hx, z2 x hx]⟩
      · unfold f_X12_solves_L12
        simp (disch := omega) only [MI35 hM, e35, Option.bind_some, n_le, show ¬ (s ≤ u) by omega, ↓reduceIte, MR41 hM, MR34 hM, k6, n_mul, n_add, Ma20 hM, v, n_eq]
        by_cases q : u = t
        · subst q
          simp (disch := omega) only [↓reduceIte, Mv hM, ii_sub, Option.bind_some, i_l, m_left' hM e1]
          unfold eqm
          rw [if_pos rfl]
          simp (disch := omega) only [Ms25 hM, Option.bind_some, k1, n_add]
        · simp (disch := omega) only [q, ↓reduceIte, Mv hM, show (0 : Int32) = ii 0 from rfl, ii_sub, Option.bind_some, i_l, m_left' hM e1]
          unfold eqm
          rw [if_neg q]
          simp (disch := omega) only [Ms25 hM, Option.bind_some, k1, n_add]
      · rw [za_at, up_ne _ _ (by omega)]; exact z0 q hq z hz
      · rw [za_at]
        by_cases d : z = u
        · subst d; rw [up_at]
        · rw [up_ne _ _ (by omega)]; exact z1 z (by omega)) (fun A2 ⟨_, _, z2⟩ => by
      have e35 : A2 m 35 = (s : Int) := by rw [z2 _ (by omega)]; exact h35
      unfold f_X12_solves_L12
      simp (disch := omega) only [MI35 hM, e35, Option.bind_some, n_le, Nat.le_refl, ↓reduceIte]) (A0 := A1) ⟨y1, fun z hz => by omega, y2⟩
    obtain ⟨A2, e2, z0, z1, z2⟩ := key2
    have e2' : jloop (f_X12_solves_L12 m (ii l) (ii (t : Int))) jF (ii ((0 : Nat) : Int)) (mz S A1 B c) = some (ii (s : Int), mz S A2 B c) := e2
    have e35 : A1 m 35 = (s : Int) := by rw [y2 _ (by omega)]; exact h35
    refine ⟨A2, ?_, fun q hq z hz => ?_, z2⟩
    · unfold f_X12_solves_L2
      simp (disch := omega) only [MI35 hM, e35, Option.bind_some, n_le, show ¬ (s ≤ t) by omega, ↓reduceIte, k0, e2', k1, n_add]
    · by_cases d : q = t
      · subst d; exact z1 z hz
      · exact z0 q (by omega) z hz) (fun A1 ⟨_, y2⟩ => by
    have e35 : A1 m 35 = (s : Int) := by rw [y2 _ (by omega)]; exact h35
    unfold f_X12_solves_L2
    simp (disch := omega) only [MI35 hM, e35, Option.bind_some, n_le, Nat.le_refl, ↓reduceIte]) (A0 := A) ⟨fun q hq => by omega, fun _ _ => rfl⟩
  obtain ⟨A', e1, y1, y2⟩ := key
  exact ⟨A', e1, y1, y2⟩
theorem m_step {S : SS} {A B : ZA} {c : (Nat × Nat) × (Nat → Nat)} {m s : Nat} {p : Int} {E : Nat → Nat → Int} (hM : LM S m) (hs : s ≤ 5) (hp : 1 < p) (hp2 : p < 10000) (h1 : A m 1 = p) (h35 : A m 35 = (s : Int)) (hE : ER A m s E) (hEr : ∀ i j, 0 ≤ E i j ∧ E i j < p) {k r col : Nat} (hk : k < s) (hr : r < s) (hc : col < s) :
    ∃ A' : ZA, f_X12_takesStep m (ii (k : Int)) (ii (r : Int)) (ii (col : Int)) (mz S A B c) = some ((), mz S A' B c) ∧ ER A' m s (clr p k col (swm k r E)) ∧ (∀ x, x ≠ m + 25 → A' x = A x) := by
  have sk : ∀ z, swm k r E k z = E r z := fun z => by
    unfold swm
    by_cases x : k = r
    · rw [if_pos x, x]
    · rw [if_neg x, if_pos rfl]
  have ivr := pw_r (b := E r col) (p := p) hp (p - 2).toNat
  have rr := hEr r col
  have inv : f_X12_inverse m (ii (E r col)) (mz S A B c) = some (ii (pw (E r col) p (p - 2).toNat), mz S A B c) := m_inverse (p := p) (by rw [MI1 hM, h1]) ⟨by omega, by omega⟩ (by omega) (by omega)
  have sr := swm_r k r hEr
  generalize hiv : pw (E r col) p (p - 2).toNat = iv at *
  -- the row of the pivot
  have key := z_run (S := S) (B := B) (c := c) (f := f_X12_takesStep_L20 m (ii (k : Int)) (ii (r : Int)) (ii (col : Int)) (ii iv)) (fun t => ii (t : Int)) (fun t A' => ER A' m s (fun q z => if z < t then (if q = k then E r z * iv % p else swm k r E q z) else E q z) ∧ (∀ x, x ≠ m + 25 → A' x = A x)) s (t := ii (s : Int)) (by omega) (fun t ht A1 ⟨y1, y2⟩ => by
    have e1 : A1 m 1 = p := by rw [y2 _ (by omega)]; exact h1
    have e35 : A1 m 35 = (s : Int) := by rw [y2 _ (by omega)]; exact h35
    have v1 : A1 (m + 25) (6 * r + t) = E r t := (y1 r hr t ht).trans (if_neg (by omega))
    have v2 : A1 (m + 25) (6 * k + t) = E k t := (y1 k hk t ht).trans (if_neg (by omega))
    have er := hEr r t
    have m1 := Int.mul_nonneg er.1 ivr.1
    have m2 : E r t * iv ≤ 10000 * 10000 := Int.mul_le_mul (by omega) (by omega) (by omega) (by omega)
    generalize hA2 : za A1 (m + 25) (up (A1 (m + 25)) (6 * r + t) (E k t)) = A2
    have g2 : ∀ x, x ≠ m + 25 → A2 x = A1 x := fun x hx => by rw [← hA2, za_ne _ _ hx]
    have f1 : A2 m 1 = p := by rw [g2 _ (by omega)]; exact e1
    refine ⟨za A2 (m + 25) (up (A2 (m + 25)) (6 * k + t) (E r t * iv % p)), ?_, ?_, fun x hx => by rw [za_ne _ _ hx, g2 x hx, y2 x hx]⟩
    · unfold f_X12_takesStep_L20
      simp (disch := omega) only [MI35 hM, e35, Option.bind_some, n_le, show ¬ (s ≤ t) by omega, ↓reduceIte, MR41 hM, k6, n_mul, n_add, Ma25 hM, v1, v2, Ms25 hM, hA2, Mv hM, i_l, ll_mul, m_left' hM f1, k1]
    · refine ER_up (E := fun q z => if z < t then (if q = k then E r z * iv % p else swm k r E q z) else if q = r ∧ z = t then E k t else E q z) hs ht ?_ (fun q hq z hz => ?_)
      · rw [← hA2]
        refine ER_up hs ht y1 (fun q hq z hz => ?_)
        by_cases a : z < t
        · rw [if_pos a, if_pos a, if_neg (fun x : q = r ∧ z = t => by omega)]
        · rw [if_neg a, if_neg a]
      · by_cases a : z < t
        · rw [if_pos a, if_pos (show z < t + 1 by omega), if_neg (fun x : q = k ∧ z = t => by omega)]
        · rw [if_neg a]
          by_cases d : z = t
          · subst d
            rw [if_pos (show z < z + 1 by omega)]
            by_cases f : q = k
            · rw [if_pos f, if_pos ⟨f, rfl⟩]
            · rw [if_neg f, if_neg (fun x => f x.1)]
              unfold swm
              by_cases g : q = r
              · rw [if_pos g, if_pos ⟨g, rfl⟩]
              · rw [if_neg g, if_neg f, if_neg (fun x => g x.1)]
          · rw [if_neg (show ¬ (z < t + 1) by omega), if_neg (fun x : q = k ∧ z = t => d x.2), if_neg (fun x : q = r ∧ z = t => d x.2)]) (fun A1 ⟨_, y2⟩ => by
    have e35 : A1 m 35 = (s : Int) := by rw [y2 _ (by omega)]; exact h35
    unfold f_X12_takesStep_L20
    simp (disch := omega) only [MI35 hM, e35, Option.bind_some, n_le, Nat.le_refl, ↓reduceIte]) (A0 := A) ⟨fun q hq z hz => (hE q hq z hz).trans (if_neg (by omega)).symm, fun _ _ => rfl⟩
  obtain ⟨A1, e1, y1, y2⟩ := key
  have e1' : jloop (f_X12_takesStep_L20 m (ii (k : Int)) (ii (r : Int)) (ii (col : Int)) (ii iv)) jF (ii ((0 : Nat) : Int)) (mz S A B c) = some (ii (s : Int), mz S A1 B c) := e1
  have key2 := z_run (S := S) (B := B) (c := c) (f := f_X12_takesStep_L99 m (ii (k : Int)) (ii (col : Int))) (fun t => ii (t : Int)) (fun t A' => ER A' m s (fun q z => if q < t ∨ q = k then clr p k col (swm k r E) q z else swm k r E q z) ∧ (∀ x, x ≠ m + 25 → A' x = A x)) s (t := ii (s : Int)) (by omega) (fun t ht A2 ⟨z1, z2⟩ => by
    have e4 : A2 m 1 = p := by rw [z2 _ (by omega)]; exact h1
    have e35 : A2 m 35 = (s : Int) := by rw [z2 _ (by omega)]; exact h35
    obtain ⟨w, hw⟩ : ∃ w, A2 (m + 25) (6 * t + col) = w := ⟨_, rfl⟩
    by_cases tk : t = k
    · refine ⟨A2, ?_, fun q hq z hz => ?_, z2⟩
      · have il : jloop (f_X12_takesStep_L126 m (ii (k : Int)) (ii (col : Int)) (ii (t : Int)) ((ii w).toInt64)) jF (ii ((0 : Nat) : Int)) (mz S A2 B c) = some (ii ((0 : Nat) : Int), mz S A2 B c) := by
          refine jloop_end (n := 19999) ?_
          unfold f_X12_takesStep_L126
          simp (disch := omega) only [MI35 hM, e35, Option.bind_some, n_le, show ¬ (s ≤ 0) by omega, ↓reduceIte, tk]
        unfold f_X12_takesStep_L99
        simp (disch := omega) only [MI35 hM, e35, Option.bind_some, n_le, show ¬ (s ≤ t) by omega, ↓reduceIte, MR41 hM, k6, n_mul, n_add, Ma25 hM, hw, k0, il, k1]
      · rw [z1 q hq z hz]
        dsimp only
        by_cases g : q < t ∨ q = k
        · rw [if_pos g, if_pos (by omega)]
        · rw [if_neg g, if_neg (by omega)]
    · have hw' : w = swm k r E t col := by rw [← hw]; exact (z1 t ht col hc).trans (if_neg (by omega))
      subst hw'
      have wr := sr t col
      have key3 := z_run (S := S) (B := B) (c := c) (f := f_X12_takesStep_L126 m (ii (k : Int)) (ii (col : Int)) (ii (t : Int)) (ll (swm k r E t col))) (fun u => ii (u : Int)) (fun u A' => ER A' m s (fun q z => if q < t ∨ q = k ∨ (q = t ∧ z < u) then clr p k col (swm k r E) q z else swm k r E q z) ∧ (∀ x, x ≠ m + 25 → A' x = A x)) s (t := ii (s : Int)) (by omega) (fun u hu A3 ⟨x1, x2⟩ => by
        have f1 : A3 m 1 = p := by rw [x2 _ (by omega)]; exact h1
        have f35 : A3 m 35 = (s : Int) := by rw [x2 _ (by omega)]; exact h35
        have vt : A3 (m + 25) (6 * t + u) = swm k r E t u := (x1 t ht u hu).trans (if_neg (by omega))
        have vn : A3 (m + 25) (6 * k + u) = E r u * iv % p := by
          refine (x1 k hk u hu).trans ((if_pos (by omega)).trans ?_)
          unfold clr
          rw [if_pos rfl, sk, sk, hiv]
        have w1 := sr t u
        have n1 := emr hp (E r u * iv)
        have m1 := Int.mul_nonneg wr.1 n1.1
        have m2 : swm k r E t col * (E r u * iv % p) ≤ 10000 * 10000 := Int.mul_le_mul (by omega) (by omega) (by omega) (by omega)
        refine ⟨za A3 (m + 25) (up (A3 (m + 25)) (6 * t + u) ((swm k r E t u - swm k r E t col * (E r u * iv % p)) % p)), ?_, ?_, fun x hx => by rw [za_ne _ _ hx, x2 x hx]⟩
        · unfold f_X12_takesStep_L126
          simp (disch := omega) only [MI35 hM, f35, Option.bind_some, n_le, show ¬ (s ≤ u) by omega, ↓reduceIte, n_eq, tk, MR41 hM, k6, n_mul, n_add, Ma25 hM, vt, vn, Mv hM, i_l, ll_mul, ll_sub, m_left' hM f1, Ms25 hM, k1]
        · refine ER_up hs hu x1 (fun q hq z hz => ?_)
          by_cases g : q = t ∧ z = u
          · rw [if_pos g, if_pos (by omega), g.1, g.2]
            unfold clr
            rw [if_neg tk, sk, sk, hiv]
          · rw [if_neg g]
            by_cases f : q < t ∨ q = k ∨ (q = t ∧ z < u)
            · rw [if_pos f, if_pos (by omega)]
            · rw [if_neg f, if_neg (by omega)]) (fun A3 ⟨_, x2⟩ => by
        have f35 : A3 m 35 = (s : Int) := by rw [x2 _ (by omega)]; exact h35
        unfold f_X12_takesStep_L126
        simp (disch := omega) only [MI35 hM, f35, Option.bind_some, n_le, Nat.le_refl, ↓reduceIte]) (A0 := A2) ⟨fun q hq z hz => by
          rw [z1 q hq z hz]
          dsimp only
          by_cases g : q < t ∨ q = k
          · rw [if_pos g, if_pos (by omega)]
          · rw [if_neg g, if_neg (by omega)], z2⟩
      obtain ⟨A3, e3, x1, x2⟩ := key3
      have e3' : jloop (f_X12_takesStep_L126 m (ii (k : Int)) (ii (col : Int)) (ii (t : Int)) (ll (swm k r E t col))) jF (ii ((0 : Nat) : Int)) (mz S A2 B c) = some (ii (s : Int), mz S A3 B c) := e3
      refine ⟨A3, ?_, fun q hq z hz => ?_, x2⟩
      · unfold f_X12_takesStep_L99
        simp (disch := omega) only [MI35 hM, e35, Option.bind_some, n_le, show ¬ (s ≤ t) by omega, ↓reduceIte, MR41 hM, k6, n_mul, n_add, Ma25 hM, hw, i_l, k0, e3', k1]
      · rw [x1 q hq z hz]
        dsimp only
        by_cases g : q < t ∨ q = k ∨ (q = t ∧ z < s)
        · rw [if_pos g, if_pos (by omega)]
        · rw [if_neg g, if_neg (by omega)]) (fun A2 ⟨_, z2⟩ => by
    have e35 : A2 m 35 = (s : Int) := by rw [z2 _ (by omega)]; exact h35
    unfold f_X12_takesStep_L99
    simp (disch := omega) only [MI35 hM, e35, Option.bind_some, n_le, Nat.le_refl, ↓reduceIte]) (A0 := A1) ⟨fun q hq z hz => by
      rw [y1 q hq z hz]
      dsimp only
      rw [if_pos hz]
      by_cases g : q = k
      · rw [if_pos g, if_pos (by omega), g]
        unfold clr
        rw [if_pos rfl, sk, sk, hiv]
      · rw [if_neg g, if_neg (by omega)], y2⟩
  obtain ⟨A2, e2, z1, z2⟩ := key2
  have e2' : jloop (f_X12_takesStep_L99 m (ii (k : Int)) (ii (col : Int))) jF (ii ((0 : Nat) : Int)) (mz S A1 B c) = some (ii (s : Int), mz S A2 B c) := e2
  refine ⟨A2, ?_, fun q hq z hz => (z1 q hq z hz).trans (if_pos (by omega)), z2⟩
  have v := hE r hr col hc
  unfold f_X12_takesStep
  simp (disch := omega) only [MR41 hM, Option.bind_some, k6, n_mul, n_add, Ma25 hM, v, Mv hM, inv, k0, e1', e2']
