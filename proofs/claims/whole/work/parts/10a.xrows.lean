/-! The class: rows of a space. -/
def rSp (q r : Nat) : Nat → Option (Option Nat) := fun k => if k = 2 then some (some q) else if k = 5 then some (some r) else none
section Sp
variable {S : SS} {A B : ZA} {n : (Nat × Nat) × (Nat → Nat)} {s q r : Nat} {v : Int}
theorem Pv (h : S s = some (.inl (5, 8, rSp q r))) : jrecv (mz S A B n) s 5 = some () := jrecv_z h
theorem PI0 (h : S s = some (.inl (5, 8, rSp q r))) : jgI (mz S A B n) s 5 0 = some (ii (A s 0)) := jgI_z h (by decide) rfl
theorem PI1 (h : S s = some (.inl (5, 8, rSp q r))) : jgI (mz S A B n) s 5 1 = some (ii (A s 1)) := jgI_z h (by decide) rfl
theorem PI3 (h : S s = some (.inl (5, 8, rSp q r))) : jgI (mz S A B n) s 5 3 = some (ii (A s 3)) := jgI_z h (by decide) rfl
theorem PI4 (h : S s = some (.inl (5, 8, rSp q r))) : jgI (mz S A B n) s 5 4 = some (ii (A s 4)) := jgI_z h (by decide) rfl
theorem PI6 (h : S s = some (.inl (5, 8, rSp q r))) : jgI (mz S A B n) s 5 6 = some (ii (A s 6)) := jgI_z h (by decide) rfl
theorem PI7 (h : S s = some (.inl (5, 8, rSp q r))) : jgI (mz S A B n) s 5 7 = some (ii (A s 7)) := jgI_z h (by decide) rfl
theorem PR2 (h : S s = some (.inl (5, 8, rSp q r))) : jgR (mz S A B n) s 5 2 = some q := jgR_z h (by decide) rfl
theorem PR5 (h : S s = some (.inl (5, 8, rSp q r))) : jgR (mz S A B n) s 5 5 = some r := jgR_z h (by decide) rfl
theorem PP3 (h : S s = some (.inl (5, 8, rSp q r))) : jput (mz S A B n) s 5 3 (.int (ii v)) = some (mz S (za A s (up (A s) 3 v)) B n) := jput_z h (by decide) rfl
theorem PP4 (h : S s = some (.inl (5, 8, rSp q r))) : jput (mz S A B n) s 5 4 (.int (ii v)) = some (mz S (za A s (up (A s) 4 v)) B n) := jput_z h (by decide) rfl
theorem PP6 (h : S s = some (.inl (5, 8, rSp q r))) : jput (mz S A B n) s 5 6 (.int (ii v)) = some (mz S (za A s (up (A s) 6 v)) B n) := jput_z h (by decide) rfl
theorem PP7 (h : S s = some (.inl (5, 8, rSp q r))) : jput (mz S A B n) s 5 7 (.int (ii v)) = some (mz S (za A s (up (A s) 7 v)) B n) := jput_z h (by decide) rfl
end Sp
theorem f_of' (h : JH) {x p : Int} (h1 : -9223372036854775808 ≤ x) (h2 : x < 9223372036854775808) (hp : 0 < p) (hp2 : p < 10000) : f_X4_of (ll x) (ii p) h = some (ii (x % p), h) := f_of h ⟨h1, h2⟩ hp (by omega)
theorem x_mul1 {S : SS} {A B : ZA} {c : (Nat × Nat) × (Nat → Nat)} {s a a' n t N : Nat} {p : Int} (h1 : S a = some (.inr (.inl (.int, 181)))) (h2 : S a' = some (.inr (.inl (.int, 181)))) (hn : n < N) (hN : N ≤ 181) (hp : p < 10000)
    (hf : ∀ k, k < N → 0 ≤ A a k ∧ A a k < p) (hg : ∀ k, k < N → 0 ≤ A a' k ∧ A a' k < p) :
    jloop (f_X7_multiply_L18 s t a a' (ii (n : Int))) jF (ll 0, ii ((0 : Nat) : Int)) (mz S A B c) = some ((ll (cv (A a) (A a') n), ii ((n + 1 : Nat) : Int)), mz S A B c) := by
  exact sum_run (fun i => A a i * A a' (n - i)) (n + 1) (by omega) (fun i hi => by
    have b1 := hf i (by omega)
    have b2 := hg (n - i) (by omega)
    unfold f_X7_multiply_L18
    simp (disch := omega) only [k1, n_add, n_sub, n_lt, jaI_n h1, jaI_n h2, Option.bind_some, show ¬ (n < i) by omega, ↓reduceIte, i_l, ll_mul, ll_add]) (by
    unfold f_X7_multiply_L18
    simp (disch := omega) only [n_lt, show n < n + 1 by omega, ↓reduceIte])
theorem cv_r' {f g : Nat → Int} {n N : Nat} {p : Int} (hp : p < 10000) (hN : N ≤ 181) (hn : n < N) (hf : ∀ k, k < N → 0 ≤ f k ∧ f k < p) (hg : ∀ k, k < N → 0 ≤ g k ∧ g k < p) : 0 ≤ cv f g n ∧ cv f g n ≤ 18100000000 := by
  have := sm_r (g := fun i => f i * g (n - i)) (M := 100000000) (n := n + 1) (fun i hi => by
    have h1 := hf i (by omega)
    have h2 := hg (n - i) (by omega)
    exact pr_r ⟨h1.1, by omega⟩ ⟨h2.1, by omega⟩)
  unfold cv
  omega
theorem x_mulr {S : SS} {A B : ZA} {c : (Nat × Nat) × (Nat → Nat)} {s q r a a' t l : Nat} {p : Int} {f g : Nat → Int} (hs : S s = some (.inl (5, 8, rSp q r))) (h3 : A s 3 = p) (h4 : A s 4 = (l : Int)) (hl : l ≤ 180) (hp : 1 < p) (hp2 : p < 10000) (h1 : S a = some (.inr (.inl (.int, 181)))) (h2 : S a' = some (.inr (.inl (.int, 181)))) (ht : S t = some (.inr (.inl (.int, 181)))) (n1 : a ≠ t) (n2 : a' ≠ t)
    (hf : ∀ k, k ≤ l → A a k = f k ∧ (0 ≤ f k ∧ f k < p)) (hg : ∀ k, k ≤ l → A a' k = g k ∧ (0 ≤ g k ∧ g k < p)) :
    f_X7_multiply s t a a' (mz S A B c) = some ((), mz S (za A t (mo (ml p f g) (A t) 0 (l + 1))) B c) := by
  have hst : s ≠ t := fun e => by rw [e] at hs; rw [hs] at ht; cases ht
  have hf' : ∀ k, k < l + 1 → 0 ≤ A a k ∧ A a k < p := fun k hk => by rw [(hf k (by omega)).1]; exact (hf k (by omega)).2
  have hg' : ∀ k, k < l + 1 → 0 ≤ A a' k ∧ A a' k < p := fun k hk => by rw [(hg k (by omega)).1]; exact (hg k (by omega)).2
  have key := fill_run (S := S) (A := A) (B := B) (c := c) (a := t) (o := 0) (f := f_X7_multiply_L3 s t a a') (ml p f g) (l + 1) (by omega) (fun i hi => by
    have hb := cv_r' hp2 (by omega) hi hf' hg'
    have k1' := x_mul1 (A := za A t (mo (ml p f g) (A t) 0 i)) (B := B) (c := c) (s := s) (t := t) (N := l + 1) h1 h2 hi (by omega) hp2 (by rw [za_ne _ _ n1]; exact hf') (by rw [za_ne _ _ n2]; exact hg')
    rw [za_ne _ _ n1, za_ne _ _ n2] at k1'
    unfold f_X7_multiply_L3
    simp (disch := omega) only [k0, g0, PI4 hs, PI3 hs, za_ne _ _ hst, h4, h3, n_lt, show ¬ (l < i) by omega, ↓reduceIte, k1', Option.bind_some, f_of']
    rw [jsI_m0 ht (by omega) (by omega) (by
      unfold ml
      rw [ser_at (by omega)]
      exact cv_em (fun j hj => by rw [(hf j (by omega)).1]) (fun j hj => by rw [(hg j (by omega)).1]))]
    simp only [Option.bind_some, k1, n_add]) (by
    unfold f_X7_multiply_L3
    simp (disch := omega) only [PI4 hs, za_ne _ _ hst, h4, Option.bind_some, n_lt, show l < l + 1 by omega, ↓reduceIte])
  unfold f_X7_multiply
  rw [k0, key]
  rfl
theorem x_subr {S : SS} {A B : ZA} {c : (Nat × Nat) × (Nat → Nat)} {s q r a a' l : Nat} {p v : Int} {f g : Nat → Int} (hs : S s = some (.inl (5, 8, rSp q r))) (h3 : A s 3 = p) (h4 : A s 4 = (l : Int)) (hl : l ≤ 180) (hp : 1 < p) (hp2 : p < 10000) (h1 : S a = some (.inr (.inl (.int, 181)))) (h2 : S a' = some (.inr (.inl (.int, 181)))) (n1 : a' ≠ a) (hv : 0 ≤ v ∧ v < p)
    (hf : ∀ k, k ≤ l → A a k = f k ∧ (0 ≤ f k ∧ f k < p)) (hg : ∀ k, k ≤ l → A a' k = g k ∧ (0 ≤ g k ∧ g k < p)) :
    f_X7_subtract s a a' (ii v) (mz S A B c) = some ((), mz S (za A a (mo (ad p f (sc p (-v) g)) (A a) 0 (l + 1))) B c) := by
  have hst : s ≠ a := fun e => by rw [e] at hs; rw [hs] at h1; cases h1
  have key := fill_run (S := S) (A := A) (B := B) (c := c) (a := a) (o := 0) (f := f_X7_subtract_L3 s a a' (ii v)) (ad p f (sc p (-v) g)) (l + 1) (by omega) (fun i hi => by
    obtain ⟨f1, f2⟩ := hf i (by omega)
    obtain ⟨g1, g2⟩ := hg i (by omega)
    have hb := pr_r (x := v) (y := g i) ⟨hv.1, by omega⟩ ⟨g2.1, by omega⟩
    unfold f_X7_subtract_L3
    simp (disch := omega) only [PI4 hs, PI3 hs, za_ne _ _ hst, za_ne _ _ n1, h4, h3, n_lt, show ¬ (l < i) by omega, ↓reduceIte, Option.bind_some, jaI_n h1, jaI_n h2, za_at, mo_out, f1, g1, i_l, ll_mul, ll_sub, f_of']
    rw [jsI_m0 h1 (by omega) (by omega) (by
      unfold ad sc
      rw [ser_at (by omega), ser_at (by omega), em_add_r, Int.neg_mul, ← Int.sub_eq_add_neg])]
    simp only [Option.bind_some, k1, n_add]) (by
    unfold f_X7_subtract_L3
    simp (disch := omega) only [PI4 hs, za_ne _ _ hst, h4, Option.bind_some, n_lt, show l < l + 1 by omega, ↓reduceIte])
  unfold f_X7_subtract
  rw [k0, key]
  rfl
