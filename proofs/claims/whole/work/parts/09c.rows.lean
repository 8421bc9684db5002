/-! The reference's rows: copies, products. -/
theorem m_copies {S : SS} {A B : ZA} {c : (Nat × Nat) × (Nat → Nat)} {a a' o o' N N' : Nat} (h1 : S a = some (.inr (.inl (.int, N)))) (h2 : S a' = some (.inr (.inl (.int, N')))) (hne : a ≠ a') (ho : o + 181 ≤ N) (ho' : o' + 181 ≤ N') (hN : N < 100000) (hN' : N' < 100000) :
    f_X12_copies a (ii (o : Int)) a' (ii (o' : Int)) (mz S A B c) = some ((), mz S (za A a' (mo (fun k => A a (o + k)) (A a') o' 181)) B c) := by
  have key := fill_run (S := S) (A := A) (B := B) (c := c) (a := a') (o := o') (f := f_X12_copies_L3 a (ii (o : Int)) a' (ii (o' : Int))) (fun k => A a (o + k)) 181 (by decide) (fun i hi => by
    unfold f_X12_copies_L3
    simp (disch := omega) only [k181, k1, n_add, n_le, jaI_n h1, Option.bind_some, show ¬ (181 ≤ i) by omega, ↓reduceIte, za_ne _ _ hne]
    rw [jsI_m h2 (by omega) (by omega) rfl]
    rfl) (by
    unfold f_X12_copies_L3
    simp (disch := omega) only [k181, n_le, Nat.le_refl, ↓reduceIte])
  unfold f_X12_copies
  rw [k0, key]
  rfl
/-- the same within one row: the two pieces are apart -/
theorem m_copies_self {S : SS} {A B : ZA} {c : (Nat × Nat) × (Nat → Nat)} {a o o' N : Nat} (h1 : S a = some (.inr (.inl (.int, N)))) (hd : o + 181 ≤ o' ∨ o' + 181 ≤ o) (ho : o + 181 ≤ N) (ho' : o' + 181 ≤ N) (hN : N < 100000) :
    f_X12_copies a (ii (o : Int)) a (ii (o' : Int)) (mz S A B c) = some ((), mz S (za A a (mo (fun k => A a (o + k)) (A a) o' 181)) B c) := by
  have key := fill_run (S := S) (A := A) (B := B) (c := c) (a := a) (o := o') (f := f_X12_copies_L3 a (ii (o : Int)) a (ii (o' : Int))) (fun k => A a (o + k)) 181 (by decide) (fun i hi => by
    unfold f_X12_copies_L3
    simp (disch := omega) only [k181, k1, n_add, n_le, jaI_n h1, Option.bind_some, show ¬ (181 ≤ i) by omega, ↓reduceIte, za_at]
    rw [mo_out _ _ (by omega), jsI_m h1 (by omega) (by omega) rfl]
    rfl) (by
    unfold f_X12_copies_L3
    simp (disch := omega) only [k181, n_le, Nat.le_refl, ↓reduceIte])
  unfold f_X12_copies
  rw [k0, key]
  rfl
/-- the product's coefficient, ahead of what the prime leaves -/
def cv (f g : Nat → Int) (n : Nat) : Int := sm (fun i => f i * g (n - i)) (n + 1)
theorem cv_r {f g : Nat → Int} {n : Nat} {p : Int} (hp : p < 10000) (hn : n < 181) (hf : ∀ k, k < 181 → 0 ≤ f k ∧ f k < p) (hg : ∀ k, k < 181 → 0 ≤ g k ∧ g k < p) : 0 ≤ cv f g n ∧ cv f g n ≤ 18100000000 := by
  have := sm_r (g := fun i => f i * g (n - i)) (M := 100000000) (n := n + 1) (fun i hi => by
    have h1 := hf i (by omega)
    have h2 := hg (n - i) (by omega)
    exact pr_r ⟨h1.1, by omega⟩ ⟨h2.1, by omega⟩)
  unfold cv
  omega
theorem m_mul1 {S : SS} {A B : ZA} {c : (Nat × Nat) × (Nat → Nat)} {m a a' o o' N N' n t : Nat} {p : Int} (h1 : S a = some (.inr (.inl (.int, N)))) (h2 : S a' = some (.inr (.inl (.int, N')))) (hn : n < 181) (ho : o + 181 ≤ N) (ho' : o' + 181 ≤ N') (hN : N < 100000) (hN' : N' < 100000) (hp : p < 10000)
    (hf : ∀ k, k < 181 → 0 ≤ A a (o + k) ∧ A a (o + k) < p) (hg : ∀ k, k < 181 → 0 ≤ A a' (o' + k) ∧ A a' (o' + k) < p) :
    jloop (f_X12_multiplies_L17 m a (ii (o : Int)) a' (ii (o' : Int)) t (ii (n : Int))) jF (ll 0, ii ((0 : Nat) : Int)) (mz S A B c) = some ((ll (cv (fun k => A a (o + k)) (fun k => A a' (o' + k)) n), ii ((n + 1 : Nat) : Int)), mz S A B c) := by
  exact sum_run (fun i => A a (o + i) * A a' (o' + (n - i))) (n + 1) (by omega) (fun i hi => by
    have b1 := hf i (by omega)
    have b2 := hg (n - i) (by omega)
    rw [show o' + (n - i) = o' + n - i by omega] at b2 ⊢
    unfold f_X12_multiplies_L17
    simp (disch := omega) only [k1, n_add, n_sub, n_lt, jaI_n h1, jaI_n h2, Option.bind_some, show ¬ (n < i) by omega, ↓reduceIte, i_l, ll_mul, ll_add]) (by
    unfold f_X12_multiplies_L17
    simp (disch := omega) only [n_lt, show n < n + 1 by omega, ↓reduceIte])
theorem m_left' {S : SS} {A B : ZA} {c : (Nat × Nat) × (Nat → Nat)} {m : Nat} (hM : LM S m) {p x : Int} (hm : A m 1 = p) (hp : 0 < p) (hp2 : p < 10000) (hx : -9223372036854775808 ≤ x) (hx2 : x < 9223372036854775808) : f_X12_left m (ll x) (mz S A B c) = some (ii (x % p), mz S A B c) :=
  m_left (by rw [MI1 hM, hm]) ⟨hx, hx2⟩ hp (by omega)
/-- the product in another row -/
theorem m_mul {S : SS} {A B : ZA} {c : (Nat × Nat) × (Nat → Nat)} {m a a' t o o' N N' : Nat} {p : Int} (hM : LM S m) (hm : A m 1 = p) (hp0 : 0 < p) (hp : p < 10000) (h1 : S a = some (.inr (.inl (.int, N)))) (h2 : S a' = some (.inr (.inl (.int, N')))) (h3 : S t = some (.inr (.inl (.int, 181)))) (hne1 : a ≠ t) (hne2 : a' ≠ t) (ho : o + 181 ≤ N) (ho' : o' + 181 ≤ N') (hN : N < 100000) (hN' : N' < 100000)
    (hf : ∀ k, k < 181 → 0 ≤ A a (o + k) ∧ A a (o + k) < p) (hg : ∀ k, k < 181 → 0 ≤ A a' (o' + k) ∧ A a' (o' + k) < p) :
    f_X12_multiplies m a (ii (o : Int)) a' (ii (o' : Int)) t (mz S A B c) = some ((), mz S (za A t (mo (fun n => cv (fun k => A a (o + k)) (fun k => A a' (o' + k)) n % p) (A t) 0 181)) B c) := by
  have hmt : m ≠ t := fun e => by rw [e] at hM; rw [hM.1] at h3; cases h3
  have key := fill_run (S := S) (A := A) (B := B) (c := c) (a := t) (o := 0) (f := f_X12_multiplies_L3 m a (ii (o : Int)) a' (ii (o' : Int)) t) (fun n => cv (fun k => A a (o + k)) (fun k => A a' (o' + k)) n % p) 181 (by decide) (fun i hi => by
    have hb := cv_r hp hi hf hg
    have k1' := m_mul1 (A := za A t (mo (fun n => cv (fun k => A a (o + k)) (fun k => A a' (o' + k)) n % p) (A t) 0 i)) (B := B) (c := c) (m := m) (t := t) h1 h2 hi ho ho' hN hN' hp (by rw [za_ne _ _ hne1]; exact hf) (by rw [za_ne _ _ hne2]; exact hg)
    rw [za_ne _ _ hne1, za_ne _ _ hne2] at k1'
    unfold f_X12_multiplies_L3
    simp (disch := omega) only [k181, k0, g0, n_le, show ¬ (181 ≤ i) by omega, ↓reduceIte, k1', Option.bind_some, Mv hM]
    rw [m_left' hM (by rw [za_ne _ _ hmt]; exact hm) hp0 hp (by omega) (by omega)]
    simp only [Option.bind_some]
    rw [jsI_m0 h3 hi (by omega) rfl]
    simp only [Option.bind_some, k1, n_add]) (by
    unfold f_X12_multiplies_L3
    simp (disch := omega) only [k181, n_le, Nat.le_refl, ↓reduceIte])
  unfold f_X12_multiplies
  rw [k0, key]
  rfl
