/-! The class: what is done with forms. -/
theorem find_run {τ : Type} {f : Int32 → JH → Option ((Int32 ⊕ τ) × JH)} {h : JH} (N : Nat) (hN : N < 20000) (P : Nat → Prop) (r : Nat → τ) (t : τ) (hs : ∀ i, i < N → ¬ P i → f (ii (i : Int)) h = some (.inl (ii ((i + 1 : Nat) : Int)), h)) (hf : ∀ i, i < N → P i → f (ii (i : Int)) h = some (.inr (r i), h)) (he : f (ii (N : Int)) h = some (.inr t, h)) :
    (∃ k, k < N ∧ P k ∧ (∀ j, j < k → ¬ P j) ∧ jloop f jF (ii ((0 : Nat) : Int)) h = some (r k, h)) ∨ ((∀ j, j < N → ¬ P j) ∧ jloop f jF (ii ((0 : Nat) : Int)) h = some (t, h)) := by
  have key : ∀ (k i : Nat), i + k = N → (∀ j, j < i → ¬ P j) → ∀ fuel, k < fuel → (∃ k, k < N ∧ P k ∧ (∀ j, j < k → ¬ P j) ∧ jloop f fuel (ii (i : Int)) h = some (r k, h)) ∨ ((∀ j, j < N → ¬ P j) ∧ jloop f fuel (ii (i : Int)) h = some (t, h)) := by
    intro k
    induction k with
    | zero =>
      intro i hi hP fuel hfu
      obtain ⟨fu, rfl⟩ : ∃ q, fuel = q + 1 := ⟨fuel - 1, by omega⟩
      have e : i = N := by omega
      subst e
      exact Or.inr ⟨hP, jloop_end he⟩
    | succ k ih =>
      intro i hi hP fuel hfu
      obtain ⟨fu, rfl⟩ : ∃ q, fuel = q + 1 := ⟨fuel - 1, by omega⟩
      by_cases g : P i
      · exact Or.inl ⟨i, by omega, g, hP, jloop_end (hf i (by omega) g)⟩
      · rw [jloop_go (hs i (by omega) g)]
        exact ih (i + 1) (by omega) (fun j hj => by
          by_cases e : j = i
          · rw [e]; exact g
          · exact hP j (by omega)) fu (by omega)
  exact key N 0 (by omega) (fun j hj => by omega) jF (jF_big hN)
section Fm
variable {S : SS} {A B : ZA} {c : (Nat × Nat) × (Nat → Nat)} {f g f' g' : Nat} {v p : Int}
theorem x_copy (h : fm S f g) (h' : fm S f' g') : ∃ A' : ZA, f_X2_copyFrom f f' (mz S A B c) = some ((), mz S A' B c) ∧ A' f 0 = A f' 0 ∧ (∀ n, n < 6 → A' g n = A g' n) ∧ (∀ x, x ≠ f → x ≠ g → A' x = A x) := by
  have n1 := fm_ne h h
  have n2 := fm_ne h h'
  unfold f_X2_copyFrom
  simp only [FI h', Option.bind_some, FP h, FR h, FR h']
  rw [k0, k6, jcI_z h'.2 h.2 rfl rfl rfl (by omega) (by omega) (by omega) (by omega)]
  refine ⟨_, rfl, ?_, fun n hn => ?_, fun x h1 h2 => ?_⟩
  · rw [za_ne _ _ n1, za_at, up_at]
  · rw [za_at]
    unfold va_cpy
    rw [if_pos (by omega), za_ne _ _ n2.symm, show 0 + (n - 0) = n by omega]
  · rw [za_ne _ _ h2, za_ne _ _ h1]
theorem x_setNum (h : fm S f g) : ∃ A' : ZA, f_X2_setNumber f (ii v) (mz S A B c) = some ((), mz S A' B c) ∧ A' f 0 = 0 ∧ (∀ n, n < 6 → A' g n = if n = 0 then v else 0) ∧ (∀ x, x ≠ f → x ≠ g → A' x = A x) := by
  have n1 := fm_ne h h
  unfold f_X2_setNumber
  rw [k0, FP h]
  simp only [Option.bind_some, FR h]
  rw [x_fill h.2 (by omega)]
  simp (disch := omega) only [Option.bind_some, FR h, FS' h]
  refine ⟨_, rfl, ?_, fun n hn => ?_, fun x h1 h2 => ?_⟩
  · rw [za_ne _ _ n1, za_ne _ _ n1, za_at, up_at]; rfl
  · rw [za_at]
    by_cases e : n = 0
    · subst e; rw [up_at, if_pos rfl]
    · rw [up_ne _ _ e, if_neg e, za_at, mo_0in _ _ hn]; rfl
  · rw [za_ne _ _ h2, za_ne _ _ h2, za_ne _ _ h1]
theorem x_addf (h : fm S f g) (h' : fm S f' g') (hp : 1 < p) (hp2 : p < 10000) (hv : 0 ≤ v ∧ v < p) (r1 : ∀ n, n < 6 → 0 ≤ A g n ∧ A g n < p) (r2 : ∀ n, n < 6 → 0 ≤ A g' n ∧ A g' n < p) :
    ∃ A' : ZA, f_X2_add f f' (ii v) (ii p) (mz S A B c) = some ((), mz S A' B c) ∧ (∀ n, n < 6 → A' g n = (A g n + v * A g' n) % p) ∧ (∀ x, x ≠ g → A' x = A x) := by
  have n1 := fm_ne h h
  have n2 := fm_ne h' h
  have key := fill_run (S := S) (A := A) (B := B) (c := c) (a := g) (o := 0) (f := f_X2_add_L3 f f' (ii v) (ii p)) (fun n => (A g n + v * A g' n) % p) 6 (by decide) (fun i hi => by
    have a1 := r1 i hi
    have a2 := r2 i hi
    have a3 := pr_r (x := v) (y := A g' i) ⟨hv.1, by omega⟩ ⟨a2.1, by omega⟩
    have e1 : za A g (mo (fun n => (A g n + v * A g' n) % p) (A g) 0 i) g i = A g i := by rw [za_at, mo_out _ _ (by omega)]
    have e2 : za A g (mo (fun n => (A g n + v * A g' n) % p) (A g) 0 i) g' i = A g' i := by
      by_cases e : g' = g
      · rw [e, za_at, mo_out _ _ (by omega)]
      · rw [za_ne _ _ e]
    unfold f_X2_add_L3
    simp (disch := omega) only [k6, n_le, show ¬ (6 ≤ i) by omega, ↓reduceIte, FR h, FR h', Option.bind_some, FA h, FA h', e1, e2, i_l, ll_mul, ll_add, f_of']
    rw [jsI_m0 h.2 hi (by omega) rfl]
    simp only [Option.bind_some, k1, n_add]) (by
    unfold f_X2_add_L3
    simp (disch := omega) only [k6, n_le, Nat.le_refl, ↓reduceIte])
  unfold f_X2_add
  rw [k0, key]
  exact ⟨_, rfl, fun n hn => by rw [za_at, mo_0in _ _ hn], fun x hx => za_ne _ _ hx⟩
theorem x_mulf1 {n : Nat} (h : fm S f g) (h' : fm S f' g') (hp2 : p < 10000) (hn : n < 6) (r1 : ∀ i, i ≤ n → 0 ≤ A g i ∧ A g i < p) (r2 : ∀ i, i ≤ n → 0 ≤ A g' i ∧ A g' i < p) :
    jloop (f_X2_multiplyBy_L12 f f' (ii p) (ii (n : Int))) jF (ll 0, ii ((0 : Nat) : Int)) (mz S A B c) = some ((ll (cv (A g) (A g') n), ii ((n + 1 : Nat) : Int)), mz S A B c) := by
  exact sum_run (fun i => A g i * A g' (n - i)) (n + 1) (by omega) (fun i hi => by
    have b1 := r1 i (by omega)
    have b2 := r2 (n - i) (by omega)
    unfold f_X2_multiplyBy_L12
    simp (disch := omega) only [k1, n_add, n_sub, n_lt, FR h, FR h', FA h, FA h', Option.bind_some, show ¬ (n < i) by omega, ↓reduceIte, i_l, ll_mul, ll_add]) (by
    unfold f_X2_multiplyBy_L12
    simp (disch := omega) only [n_lt, show n < n + 1 by omega, ↓reduceIte])
theorem x_mulf (h : fm S f g) (h' : fm S f' g') (hp : 1 < p) (hp2 : p < 10000) (r1 : ∀ n, n < 6 → 0 ≤ A g n ∧ A g n < p) (r2 : ∀ n, n < 6 → 0 ≤ A g' n ∧ A g' n < p) :
    ∃ A' : ZA, f_X2_multiplyBy f f' (ii p) (mz S A B c) = some ((), mz S A' B c) ∧ A' f 0 = A f 0 + A f' 0 ∧ (∀ n, n < 6 → A' g n = cv (A g) (A g') n % p) ∧ (∀ x, x ≠ f → x ≠ g → A' x = A x) := by
  have n1 := fm_ne h h
  have n2 := fm_ne h' h
  have key := z_run (S := S) (B := B) (c := c) (f := f_X2_multiplyBy_L2 f f' (ii p)) (fun t => ii (5 - (t : Int))) (fun t A' => (∀ j, j < 6 → A' g j = if 6 - t ≤ j then cv (A g) (A g') j % p else A g j) ∧ (∀ x, x ≠ g → A' x = A x)) 6 (t := ii (-1)) (by omega) (fun t ht A1 ⟨y1, y2⟩ => by
    have hz : (5 : Int) - (t : Int) = ((5 - t : Nat) : Int) := by omega
    have hz2 : (5 : Int) - ((t + 1 : Nat) : Int) = ((5 - t : Nat) : Int) + -1 := by omega
    have v1 : ∀ i, i ≤ 5 - t → A1 g i = A g i := fun i hi => by rw [y1 i (by omega), if_neg (by omega)]
    have v2 : ∀ i, i ≤ 5 - t → A1 g' i = A g' i := fun i hi => by
      by_cases e : g' = g
      · rw [e]; exact v1 i hi
      · rw [y2 _ e]
    have hcv : cv (A1 g) (A1 g') (5 - t) = cv (A g) (A g') (5 - t) := sm_congr fun i hi => by rw [v1 i (by omega), v2 _ (by omega)]
    have hb := cv_r' (n := 5 - t) (N := 6) hp2 (by omega) (by omega) r1 r2
    have inner := x_mulf1 (A := A1) (B := B) (c := c) (n := 5 - t) h h' hp2 (by omega) (fun i hi => by rw [v1 i hi]; exact r1 i (by omega)) (fun i hi => by rw [v2 i hi]; exact r2 i (by omega))
    rw [hcv] at inner
    unfold f_X2_multiplyBy_L2
    rw [hz, hz2]
    simp (disch := omega) only [k0, g0, n_lt, show ¬ (5 - t < 0) by omega, ↓reduceIte, inner, Option.bind_some, FR h, f_of', FS' h]
    rw [show (-1 : Int32) = ii (-1) from rfl, ii_add]
    refine ⟨_, rfl, fun j hj => ?_, fun x hx => by rw [za_ne _ _ hx, y2 x hx]⟩
    rw [za_at]
    by_cases e : j = 5 - t
    · subst e; rw [up_at, if_pos (by omega)]
    · rw [up_ne _ _ e, y1 j hj]
      by_cases q : 6 - t ≤ j
      · rw [if_pos q, if_pos (by omega)]
      · rw [if_neg q, if_neg (by omega)]) (fun A1 _ => by
    unfold f_X2_multiplyBy_L2
    rw [show (5 : Int) - ((6 : Nat) : Int) = -1 by omega, if_pos (by decide)]) (A0 := A) ⟨fun j hj => by rw [if_neg (by omega)], fun _ _ => rfl⟩
  obtain ⟨A', e, y1, y2⟩ := key
  have e' : jloop (f_X2_multiplyBy_L2 f f' (ii p)) jF (5 : Int32) (mz S A B c) = some (ii (-1), mz S A' B c) := e
  unfold f_X2_multiplyBy
  rw [e']
  simp only [Option.bind_some, FI h, FI h', ii_add, FP h]
  refine ⟨_, rfl, ?_, fun n hn => ?_, fun x h1 h2 => ?_⟩
  · rw [za_at, up_at, y2 f n1, y2 f' n2]
  · rw [za_ne _ _ n1.symm, y1 n hn, if_pos (by omega)]
  · rw [za_ne _ _ h1, y2 x h2]
theorem x_first (h : fm S f g) (r1 : ∀ n, n < 6 → 0 ≤ A g n ∧ A g n < 10000) : (∃ k : Nat, k < 6 ∧ f_X2_firstNotZero f (mz S A B c) = some (ii (k : Int), mz S A B c) ∧ A g k ≠ 0 ∧ ∀ n, n < k → A g n = 0) ∨ (f_X2_firstNotZero f (mz S A B c) = some (ii (-1), mz S A B c) ∧ ∀ n, n < 6 → A g n = 0) := by
  have key := find_run (h := mz S A B c) (f := f_X2_firstNotZero_L2 f) 6 (by decide) (fun i => A g i ≠ 0) (fun i => .inl (ii (i : Int))) (.inr (ii ((6 : Nat) : Int))) (fun i hi hP => by
    have a1 := r1 i hi
    unfold f_X2_firstNotZero_L2
    simp (disch := omega) only [k6, k0, k1, n_le, n_add, show ¬ (6 ≤ i) by omega, ↓reduceIte, FR h, FA h, Option.bind_some, show ii (A g i) = ii ((0 : Nat) : Int) ↔ A g i = ((0 : Nat) : Int) from i_eq (by omega) (by omega) (by omega) (by omega)]
    rw [if_pos (by omega)]) (fun i hi hP => by
    have a1 := r1 i hi
    unfold f_X2_firstNotZero_L2
    simp (disch := omega) only [k6, k0, k1, n_le, n_add, show ¬ (6 ≤ i) by omega, ↓reduceIte, FR h, FA h, Option.bind_some, show ii (A g i) = ii ((0 : Nat) : Int) ↔ A g i = ((0 : Nat) : Int) from i_eq (by omega) (by omega) (by omega) (by omega)]
    rw [if_neg (by omega)]) (by
    unfold f_X2_firstNotZero_L2
    simp (disch := omega) only [k6, n_le, Nat.le_refl, ↓reduceIte])
  unfold f_X2_firstNotZero
  rw [k0]
  rcases key with ⟨k, k1, k2, k3, k4⟩ | ⟨k1, k2⟩
  · rw [k4]
    exact Or.inl ⟨k, k1, rfl, k2, fun n hn => Decidable.not_not.mp (k3 n hn)⟩
  · rw [k2]
    exact Or.inr ⟨rfl, fun n hn => Decidable.not_not.mp (k1 n hn)⟩
end Fm
