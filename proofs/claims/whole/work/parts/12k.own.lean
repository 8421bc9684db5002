/-! Call own. -/
theorem ER_of {A A' : ZA} {m s : Nat} {E : Nat → Nat → Int} (h : ER A m s E) (he : A' (m + 25) = A (m + 25)) : ER A' m s E := fun q hq z hz => by rw [he]; exact h q hq z hz
theorem m_pvr {S : SS} {A B : ZA} {c : (Nat × Nat) × (Nat → Nat)} {m s : Nat} {p : Int} {E : Nat → Nat → Int} {y : Int32} (hM : LM S m) (hs : s ≤ 5) (hp2 : p < 10000) (h35 : A m 35 = (s : Int)) (hE : ER A m s E) (hEr : ∀ i j, 0 ≤ E i j ∧ E i j < p) {col : Nat} (hc : col < s) : ∀ (n x : Nat), x + n = s → ∀ fuel, n < fuel → jloop (f_X12_solves_L85 m y (ii (col : Int))) fuel (ii (x : Int)) (mz S A B c) = some (ii ((pvr E col n x : Nat) : Int), mz S A B c) := by
  intro n
  induction n with
  | zero =>
    intro x hx fuel hf
    obtain ⟨fu, rfl⟩ : ∃ q, fuel = q + 1 := ⟨fuel - 1, by omega⟩
    have ex : x = s := by omega
    subst ex
    refine jloop_end ?_
    unfold f_X12_solves_L85
    simp (disch := omega) only [MI35 hM, h35, Option.bind_some, n_le, Nat.le_refl, ↓reduceIte]
    rfl
  | succ n ih =>
    intro x hx fuel hf
    obtain ⟨fu, rfl⟩ : ∃ q, fuel = q + 1 := ⟨fuel - 1, by omega⟩
    have v := hE x (by omega) col hc
    have vr := hEr x col
    by_cases z : E x col = 0
    · have e1 : pvr E col (n + 1) x = pvr E col n (x + 1) := by
        show (if E x col = 0 then pvr E col n (x + 1) else x) = _
        rw [if_pos z]
      have hh : f_X12_solves_L85 m y (ii (col : Int)) (ii (x : Int)) (mz S A B c) = some (.inl (ii ((x + 1 : Nat) : Int)), mz S A B c) := by
        unfold f_X12_solves_L85
        simp (disch := omega) only [MI35 hM, h35, Option.bind_some, n_le, show ¬ (s ≤ x) by omega, ↓reduceIte, MR41 hM, k6, n_mul, n_add, Ma25 hM, v, z, k1]
        rw [if_pos (by decide)]
      rw [e1, jloop_go hh]
      exact ih (x + 1) (by omega) fu (by omega)
    · have e1 : pvr E col (n + 1) x = x := by
        show (if E x col = 0 then pvr E col n (x + 1) else x) = _
        rw [if_neg z]
      rw [e1]
      refine jloop_end ?_
      unfold f_X12_solves_L85
      simp (disch := omega) only [MI35 hM, h35, Option.bind_some, n_le, show ¬ (s ≤ x) by omega, ↓reduceIte, MR41 hM, k6, n_mul, n_add, Ma25 hM, v]
      rw [if_neg (by rw [k0, i_eq (by omega) (by omega) (by omega) (by omega)]; omega)]
theorem m_elim {S : SS} {A B : ZA} {c : (Nat × Nat) × (Nat → Nat)} {m s : Nat} {p : Int} {E : Nat → Nat → Int} (hM : LM S m) (hs : s ≤ 5) (hs1 : 1 ≤ s) (hp : 1 < p) (hp2 : p < 10000) (h1 : A m 1 = p) (h35 : A m 35 = (s : Int)) (hEr : ∀ i j, 0 ≤ E i j ∧ E i j < p) (hE : ER A m s E) :
    ∃ (A' : ZA) (t : Int32 ⊕ (Int32 × Int32)), jloop (f_X12_solves_L74 m) jF (ii ((0 : Nat) : Int), ii ((1 : Nat) : Int)) (mz S A B c) = some (t, mz S A' B c) ∧ (elm p s E (s - 1) = none → t = .inl (ii ((0 : Nat) : Int))) ∧ (∀ V, elm p s E (s - 1) = some V → t = .inr (ii ((s - 1 : Nat) : Int), ii (s : Int)) ∧ ER A' m s V) ∧ (∀ x, x ≠ m + 25 → A' x = A x) := by
  have step : ∀ (n k : Nat), k + n = s - 1 → ∀ (A1 : ZA) (V : Nat → Nat → Int) (fuel : Nat), n < fuel → elm p s E k = some V → ER A1 m s V → (∀ x, x ≠ m + 25 → A1 x = A x) → ∃ (A' : ZA) (t : Int32 ⊕ (Int32 × Int32)), jloop (f_X12_solves_L74 m) fuel (ii (k : Int), ii ((k + 1 : Nat) : Int)) (mz S A1 B c) = some (t, mz S A' B c) ∧ (elm p s E (s - 1) = none → t = .inl (ii ((0 : Nat) : Int))) ∧ (∀ V, elm p s E (s - 1) = some V → t = .inr (ii ((s - 1 : Nat) : Int), ii (s : Int)) ∧ ER A' m s V) ∧ (∀ x, x ≠ m + 25 → A' x = A x) := by
    intro n
    induction n with
    | zero =>
      intro k hk A1 V fuel hf q1 q2 q3
      obtain ⟨fu, rfl⟩ : ∃ q, fuel = q + 1 := ⟨fuel - 1, by omega⟩
      have e35 : A1 m 35 = (s : Int) := by rw [q3 _ (by omega)]; exact h35
      have ek : k = s - 1 := by omega
      subst ek
      refine ⟨A1, .inr (ii ((s - 1 : Nat) : Int), ii (s : Int)), jloop_end ?_, fun h => ?_, fun V' h => ⟨rfl, ?_⟩, q3⟩
      · unfold f_X12_solves_L74
        simp (disch := omega) only [MI35 hM, e35, Option.bind_some, show s - 1 + 1 = s by omega, n_le, Nat.le_refl, ↓reduceIte]
      · rw [q1] at h; exact absurd h (by simp)
      · rw [q1, Option.some.injEq] at h
        rw [← h]; exact q2
    | succ n ih =>
      intro k hk A1 V fuel hf q1 q2 q3
      obtain ⟨fu, rfl⟩ : ∃ q, fuel = q + 1 := ⟨fuel - 1, by omega⟩
      have e1 : A1 m 1 = p := by rw [q3 _ (by omega)]; exact h1
      have e35 : A1 m 35 = (s : Int) := by rw [q3 _ (by omega)]; exact h35
      have Vr := elm_r hp hEr k V q1
      have en : elm p s E (k + 1) = if pvr V (k + 1) (s - k) k = s then none else some (clr p k (k + 1) (swm k (pvr V (k + 1) (s - k) k) V)) := by
        show (elm p s E k).bind _ = _
        rw [q1]; rfl
      have pv := m_pvr (B := B) (c := c) (y := ii (k : Int)) hM hs hp2 e35 q2 Vr (show k + 1 < s by omega) (s - k) k (by omega) jF (jF_big (by omega))
      have ge := pvr_ge V (k + 1) (s - k) k
      by_cases pz : pvr V (k + 1) (s - k) k = s
      · rw [if_pos pz] at en
        rw [pz] at pv
        have no : elm p s E (s - 1) = none := by
          have := elm_none en n
          rw [show k + 1 + n = s - 1 by omega] at this
          exact this
        refine ⟨A1, .inl (ii ((0 : Nat) : Int)), jloop_end ?_, fun _ => rfl, fun V' h => ?_, q3⟩
        · unfold f_X12_solves_L74
          simp (disch := omega) only [MI35 hM, e35, Option.bind_some, n_le, show ¬ (s ≤ k + 1) by omega, ↓reduceIte, pv, eq_self, k0]
        · rw [no] at h; exact absurd h (by simp)
      · rw [if_neg pz] at en
        obtain ⟨A3, c1, c2, c3⟩ := m_step (A := A1) (B := B) (c := c) hM hs hp hp2 e1 e35 q2 Vr (k := k) (r := pvr V (k + 1) (s - k) k) (col := k + 1) (by omega) (by omega) (by omega)
        have hh : f_X12_solves_L74 m (ii (k : Int), ii ((k + 1 : Nat) : Int)) (mz S A1 B c) = some (.inl (ii ((k + 1 : Nat) : Int), ii ((k + 1 + 1 : Nat) : Int)), mz S A3 B c) := by
          unfold f_X12_solves_L74
          simp (disch := omega) only [MI35 hM, e35, Option.bind_some, n_le, show ¬ (s ≤ k + 1) by omega, ↓reduceIte, pv, n_eq, pz, Mv hM, c1, k1, n_add]
        rw [jloop_go hh]
        exact ih (k + 1) (by omega) A3 _ fu (by omega) en c2 (fun x hx => by rw [c3 x hx, q3 x hx])
  exact step (s - 1) 0 (by omega) A E jF (jF_big (by omega)) rfl hE (fun _ _ => rfl)
theorem m_solves {S : SS} {A B : ZA} {c : (Nat × Nat) × (Nat → Nat)} {m s : Nat} {p l : Int} {T : Nat → Nat → Int} (hM : LM S m) (hs : s ≤ 5) (hs1 : 1 ≤ s) (hp : 1 < p) (hp2 : p < 10000) (h1 : A m 1 = p) (h35 : A m 35 = (s : Int)) (hT : ∀ i, i < s → ∀ j, j < s → A (m + 20) (6 * i + j) = T i j) (hTr : ∀ i j, 0 ≤ T i j ∧ T i j < p) (hl : 0 ≤ l ∧ l < p) :
    ∃ A' : ZA, (∀ x, x ≠ m + 25 → x ≠ m + 7 → A' x = A x) ∧ ((f_X12_solves m (ii l) (mz S A B c) = some (ii ((0 : Nat) : Int), mz S A' B c) ∧ ∀ V, ¬ owf p s (eqm p l T) V) ∨ (∃ V, owf p s (eqm p l T) V ∧ f_X12_solves m (ii l) (mz S A B c) = some (ii ((1 : Nat) : Int), mz S A' B c) ∧ ∀ j, j ≤ s → A' (m + 7) j = ov p V j)) := by
  obtain ⟨A1, e1, y1, y2⟩ := m_eqs (B := B) (c := c) hM hs hp hp2 h1 h35 hT hTr hl
  have hEr := eqm_r hp l T
  obtain ⟨A2, t, e2, z1, z2, z3⟩ := m_elim (B := B) (c := c) hM hs hs1 hp hp2 (by rw [y2 _ (by omega)]; exact h1) (by rw [y2 _ (by omega)]; exact h35) hEr y1
  have g2 : ∀ x, x ≠ m + 25 → A2 x = A x := fun x hx => by rw [z3 x hx, y2 x hx]
  have d1 : A2 m 1 = p := by rw [g2 _ (by omega)]; exact h1
  have d35 : A2 m 35 = (s : Int) := by rw [g2 _ (by omega)]; exact h35
  rcases ee : elm p s (eqm p l T) (s - 1) with _ | V
  · refine ⟨A2, fun x hx _ => g2 x hx, Or.inl ⟨?_, fun V h => ?_⟩⟩
    · rw [z1 ee] at e2
      unfold f_X12_solves
      simp only [k0, k1, e1, Option.bind_some, e2, Sum.elim_inl]
    · rw [h.1] at ee; exact absurd ee (by simp)
  · obtain ⟨ht, w⟩ := z2 V ee
    rw [ht] at e2
    have Vr := elm_r hp hEr (s - 1) V ee
    have vl := w (s - 1) (by omega) 0 (by omega)
    rw [show 6 * (s - 1) + 0 = 6 * (s - 1) by omega] at vl
    have rl := Vr (s - 1) 0
    by_cases q : V (s - 1) 0 = 0
    · have e3 : jloop (f_X12_solves_L145 m) jF (ii ((s - 1 : Nat) : Int)) (mz S A2 B c) = some (.inr (ii (s : Int)), mz S A2 B c) := by
        have hh : f_X12_solves_L145 m (ii ((s - 1 : Nat) : Int)) (mz S A2 B c) = some (.inl (ii (s : Int)), mz S A2 B c) := by
          unfold f_X12_solves_L145
          simp (disch := omega) only [MI35 hM, d35, Option.bind_some, n_le, show ¬ (s ≤ s - 1) by omega, ↓reduceIte, MR41 hM, k6, n_mul, Ma25 hM, vl, q, k1, n_add, show s - 1 + 1 = s by omega]
          rw [if_pos (by decide)]
        show jloop (f_X12_solves_L145 m) (19999 + 1) _ _ = _
        rw [jloop_go hh]
        refine jloop_end (n := 19998) ?_
        unfold f_X12_solves_L145
        simp (disch := omega) only [MI35 hM, d35, Option.bind_some, n_le, Nat.le_refl, ↓reduceIte]
      generalize hA3 : za A2 (m + 7) (up (A2 (m + 7)) 0 ((0 : Nat) : Int)) = A3
      generalize hA4 : za A3 (m + 7) (up (A3 (m + 7)) 1 ((1 : Nat) : Int)) = A4
      have g4 : ∀ x, x ≠ m + 7 → A4 x = A2 x := fun x hx => by rw [← hA4, za_ne _ _ hx, ← hA3, za_ne _ _ hx]
      have key := z_run (S := S) (B := B) (c := c) (f := f_X12_solves_L189 m) (fun t => ii ((t + 1 : Nat) : Int)) (fun t A' => (∀ j, j < t + 2 → A' (m + 7) j = ov p V j) ∧ (∀ x, x ≠ m + 7 → A' x = A2 x)) (s - 1) (t := ii (s : Int)) (by omega) (fun t ht A5 ⟨x1, x2⟩ => by
        have f1 : A5 m 1 = p := by rw [x2 _ (by omega)]; exact d1
        have f35 : A5 m 35 = (s : Int) := by rw [x2 _ (by omega)]; exact d35
        have vt : A5 (m + 25) (6 * t) = V t 0 := by rw [x2 _ (by omega)]; exact w t (by omega) 0 (by omega)
        have vr := Vr t 0
        refine ⟨za A5 (m + 7) (up (A5 (m + 7)) (t + 1 + 1) ((-(V t 0)) % p)), ?_, fun j hj => ?_, fun x hx => by rw [za_ne _ _ hx, x2 x hx]⟩
        · unfold f_X12_solves_L189
          simp (disch := omega) only [MI35 hM, f35, Option.bind_some, n_le, show ¬ (s ≤ t + 1) by omega, ↓reduceIte, MR9 hM, MR41 hM, k1, n_sub, show t + 1 - 1 = t by omega, k6, n_mul, Ma25 hM, vt, Mv hM, ii_neg, i_l, m_left' hM f1, n_add, Ms7 hM]
        · rw [za_at]
          by_cases d : j = t + 1 + 1
          · subst d
            rw [up_at]
            unfold ov
            rw [if_neg (by omega), if_neg (by omega), show t + 1 + 1 - 2 = t by omega]
          · rw [up_ne _ _ d]; exact x1 j (by omega)) (fun A5 ⟨_, x2⟩ => by
        have f35 : A5 m 35 = (s : Int) := by rw [x2 _ (by omega)]; exact d35
        unfold f_X12_solves_L189
        simp (disch := omega) only [MI35 hM, f35, Option.bind_some, show s - 1 + 1 = s by omega, n_le, Nat.le_refl, ↓reduceIte]) (A0 := A4) ⟨fun j hj => by
          rw [← hA4, za_at]
          by_cases d : j = 1
          · subst d; rw [up_at]; rfl
          · have : j = 0 := by omega
            subst this
            rw [up_ne _ _ (by omega), ← hA3, za_at, up_at]; rfl, g4⟩
      obtain ⟨A5, e5, x1, x2⟩ := key
      have e5' : jloop (f_X12_solves_L189 m) jF (ii ((1 : Nat) : Int)) (mz S A4 B c) = some (ii (s : Int), mz S A5 B c) := e5
      refine ⟨A5, fun x hx h' => by rw [x2 x h', g2 x hx], Or.inr ⟨V, ⟨ee, q⟩, ?_, fun j hj => x1 j (by omega)⟩⟩
      unfold f_X12_solves
      simp (disch := omega) only [k0, k1, e1, Option.bind_some, e2, Sum.elim_inr, e3, MR9 hM, Ms7 hM, hA3, hA4, e5']
    · refine ⟨A2, fun x hx _ => g2 x hx, Or.inl ⟨?_, fun U h => ?_⟩⟩
      · have e3 : jloop (f_X12_solves_L145 m) jF (ii ((s - 1 : Nat) : Int)) (mz S A2 B c) = some (.inl (ii ((0 : Nat) : Int)), mz S A2 B c) := by
          refine jloop_end (n := 19999) ?_
          unfold f_X12_solves_L145
          simp (disch := omega) only [MI35 hM, d35, Option.bind_some, n_le, show ¬ (s ≤ s - 1) by omega, ↓reduceIte, MR41 hM, k6, n_mul, Ma25 hM, vl, k0]
          rw [if_neg (by rw [i_eq (by omega) (by omega) (by omega) (by omega)]; exact q)]
        unfold f_X12_solves
        simp only [k0, k1, e1, Option.bind_some, e2, Sum.elim_inr, e3, Sum.elim_inl]
      · have := h.1
        rw [ee, Option.some.injEq] at this
        subst this
        exact q h.2
