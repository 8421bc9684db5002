/-! Tools for loops over the memory: sums, rows that are written piece by piece, whole numbers from 0 on as indices. -/
def sm (g : Nat → Int) : Nat → Int
  | 0 => 0
  | n + 1 => sm g n + g n
theorem sm_congr {g g' : Nat → Int} {n : Nat} (h : ∀ i, i < n → g i = g' i) : sm g n = sm g' n := by
  induction n with
  | zero => rfl
  | succ n ih => simp only [sm]; rw [ih (fun i hi => h i (by omega)), h n (by omega)]
theorem sm_r {g : Nat → Int} {M : Int} {n : Nat} (h : ∀ i, i < n → 0 ≤ g i ∧ g i ≤ M) : 0 ≤ sm g n ∧ sm g n ≤ M * (n : Int) := by
  induction n with
  | zero => simp [sm]
  | succ n ih =>
    have h1 := ih (fun i hi => h i (by omega))
    have h2 := h n (by omega)
    simp only [sm]
    rw [show ((n + 1 : Nat) : Int) = (n : Int) + 1 by omega, Int.mul_add]
    omega
theorem sm_abs {g : Nat → Int} {M : Int} {n : Nat} (h : ∀ i, i < n → -M ≤ g i ∧ g i ≤ M) : -(M * (n : Int)) ≤ sm g n ∧ sm g n ≤ M * (n : Int) := by
  induction n with
  | zero => simp [sm]
  | succ n ih =>
    have h1 := ih (fun i hi => h i (by omega))
    have h2 := h n (by omega)
    simp only [sm]
    rw [show ((n + 1 : Nat) : Int) = (n : Int) + 1 by omega, Int.mul_add]
    omega
theorem n_add (a b : Nat) : ii (a : Int) + ii (b : Int) = ii ((a + b : Nat) : Int) := by rw [ii_add]; congr 1
theorem n_mul (a b : Nat) : ii (a : Int) * ii (b : Int) = ii ((a * b : Nat) : Int) := by rw [ii_mul]; congr 1
theorem n_sub {a b : Nat} (h : b ≤ a) : ii (a : Int) - ii (b : Int) = ii ((a - b : Nat) : Int) := by rw [ii_sub]; congr 1; omega
theorem n_lt {a b : Nat} (ha : a < 2147483648) (hb : b < 2147483648) : ii (a : Int) < ii (b : Int) ↔ a < b := by
  rw [ii_lt (r31_of (by omega) (by omega)) (r31_of (by omega) (by omega))]; omega
theorem n_le {a b : Nat} (ha : a < 2147483648) (hb : b < 2147483648) : ii (a : Int) ≤ ii (b : Int) ↔ a ≤ b := by
  rw [ii_le (r31_of (by omega) (by omega)) (r31_of (by omega) (by omega))]; omega
theorem n_eq {a b : Nat} (ha : a < 2147483648) (hb : b < 2147483648) : ii (a : Int) = ii (b : Int) ↔ a = b := by
  rw [ii_eq (r31_of (by omega) (by omega)) (r31_of (by omega) (by omega))]; omega
theorem n_rem {a b : Nat} (ha : a < 2147483648) (hb : b < 2147483648) (h0 : 0 < b) : jrem (ii (a : Int)) (ii (b : Int)) = ii ((a % b : Nat) : Int) := by
  rw [ii_rem (r31_of (by omega) (by omega)) (r31_of (by omega) (by omega)) (by omega)]
  congr 1
theorem n_div {a b : Nat} (ha : a < 2147483648) (hb : b < 2147483648) (h0 : 0 < b) : ii (a : Int) / ii (b : Int) = ii ((a / b : Nat) : Int) := by
  rw [ii_div (r31_of (by omega) (by omega)) (r31_of (by omega) (by omega)) (by omega)]
  congr 1
theorem n_nz {a : Nat} (ha : a < 2147483648) (h0 : 0 < a) : jnz (ii (a : Int)) = some () := jnz_ii (r31_of (by omega) (by omega)) (by omega)
theorem n_l {a : Nat} (ha : a < 2147483648) : (ii (a : Int)).toInt64 = ll (a : Int) := ii_l (r31_of (by omega) (by omega))
theorem i_lt {a b : Int} (h1 : -2147483648 ≤ a) (h2 : a < 2147483648) (h3 : -2147483648 ≤ b) (h4 : b < 2147483648) : ii a < ii b ↔ a < b := ii_lt ⟨h1, h2⟩ ⟨h3, h4⟩
theorem i_le {a b : Int} (h1 : -2147483648 ≤ a) (h2 : a < 2147483648) (h3 : -2147483648 ≤ b) (h4 : b < 2147483648) : ii a ≤ ii b ↔ a ≤ b := ii_le ⟨h1, h2⟩ ⟨h3, h4⟩
theorem i_eq {a b : Int} (h1 : -2147483648 ≤ a) (h2 : a < 2147483648) (h3 : -2147483648 ≤ b) (h4 : b < 2147483648) : ii a = ii b ↔ a = b := ii_eq ⟨h1, h2⟩ ⟨h3, h4⟩
theorem i_l {a : Int} (h1 : -2147483648 ≤ a) (h2 : a < 2147483648) : (ii a).toInt64 = ll a := ii_l ⟨h1, h2⟩
section Z
variable {S : SS} {A B : ZA} {n : (Nat × Nat) × (Nat → Nat)} {a k N : Nat} {v : Int}
theorem jaI_n (hS : S a = some (.inr (.inl (.int, N)))) (hk : k < N) (h31 : k < 2147483648) : jaI (mz S A B n) a (ii (k : Int)) = some (ii (A a k)) := jaI_z hS rfl hk h31
theorem jaI_nr (hS : S a = some (.inr (.inr (.inr N)))) (hk : k < N) (h31 : k < 2147483648) : jaI (mz S A B n) a (ii (k : Int)) = some (ii (A a k)) := jaI_zr hS rfl hk h31
theorem jaB_n (hS : S a = some (.inr (.inl (.byte, N)))) (hk : k < N) (h31 : k < 2147483648) : jaB (mz S A B n) a (ii (k : Int)) = some (ii (A a k)) := jaB_z hS rfl hk h31
theorem jaB_nb (hS : S a = some (.inr (.inl (.boolean, N)))) (hk : k < N) (h31 : k < 2147483648) : jaB (mz S A B n) a (ii (k : Int)) = some (ii (A a k)) := jaB_zb hS rfl hk h31
theorem jaJ_n (hS : S a = some (.inr (.inl (.long, N)))) (hk : k < N) (h31 : k < 2147483648) : jaJ (mz S A B n) a (ii (k : Int)) = some (ll (B a k)) := jaJ_z hS rfl hk h31
theorem jsI_v (hS : S a = some (.inr (.inl (.int, N)))) (hk : k < N) (h31 : k < 2147483648) : jsI (mz S A B n) a (ii (k : Int)) (ii v) = some (mz S (za A a (up (A a) k v)) B n) := jsI_z hS rfl hk h31
theorem jsJ_v (hS : S a = some (.inr (.inl (.long, N)))) (hk : k < N) (h31 : k < 2147483648) : jsJ (mz S A B n) a (ii (k : Int)) (ll v) = some (mz S A (za B a (up (B a) k v)) n) := jsJ_z hS rfl hk h31
theorem jaR_n {t : FieldType} {f : Nat → Option Nat} (hS : S a = some (.inr (.inr (.inl (t, N, f))))) (ht : t.isReference = true) (hk : k < N) (h31 : k < 2147483648) : jaR (mz S A B n) a (ii (k : Int)) = f k := by
  unfold mz; rw [jaR_mk]; simp only [hS, jin_z (z := (k : Int)) rfl hk h31, nat_z (z := (k : Int)) rfl h31, ht, Bool.and_self, if_true]
end Z
/-- a row that is G in n places from o on, elsewhere F -/
def mo (G F : Nat → Int) (o n : Nat) : Nat → Int := fun j => if o ≤ j ∧ j < o + n then G (j - o) else F j
theorem mo_0 (G F : Nat → Int) (o : Nat) : mo G F o 0 = F := by funext j; simp only [mo]; rw [if_neg (by omega)]
theorem mo_up (G F : Nat → Int) (o n : Nat) {v : Int} (h : v = G n) : up (mo G F o n) (o + n) v = mo G F o (n + 1) := by
  funext j
  simp only [mo, up]
  by_cases h1 : j = o + n
  · rw [if_pos h1, if_pos (by omega), h]; congr 1; omega
  · rw [if_neg h1]
    by_cases h2 : o ≤ j ∧ j < o + n
    · rw [if_pos h2, if_pos (by omega)]
    · rw [if_neg h2, if_neg (by omega)]
theorem mo_in (G F : Nat → Int) {o n k : Nat} (h : k < n) : mo G F o n (o + k) = G k := by
  simp only [mo]; rw [if_pos (by omega)]; congr 1; omega
theorem mo_out (G F : Nat → Int) {o n j : Nat} (h : ¬ (o ≤ j ∧ j < o + n)) : mo G F o n j = F j := by simp only [mo]; rw [if_neg h]
theorem mo_0in (G F : Nat → Int) {n k : Nat} (h : k < n) : mo G F 0 n k = G k := by
  simp only [mo]; rw [if_pos (by omega)]; rfl
theorem jsI_m {S : SS} {A B : ZA} {c} {a N o i : Nat} {G F : Nat → Int} {v : Int} (hS : S a = some (.inr (.inl (.int, N)))) (hk : o + i < N) (h31 : o + i < 2147483648) (hv : v = G i) : jsI (mz S (za A a (mo G F o i)) B c) a (ii ((o + i : Nat) : Int)) (ii v) = some (mz S (za A a (mo G F o (i + 1))) B c) := by
  rw [jsI_v hS hk h31, za_za, za_at, mo_up _ _ _ _ hv]
theorem jsI_m0 {S : SS} {A B : ZA} {c} {a N i : Nat} {G F : Nat → Int} {v : Int} (hS : S a = some (.inr (.inl (.int, N)))) (hk : i < N) (h31 : i < 2147483648) (hv : v = G i) : jsI (mz S (za A a (mo G F 0 i)) B c) a (ii (i : Int)) (ii v) = some (mz S (za A a (mo G F 0 (i + 1))) B c) := by
  have := jsI_m (A := A) (B := B) (c := c) (F := F) hS (o := 0) (i := i) (by omega) (by omega) hv
  rw [Nat.zero_add] at this
  exact this
/-- a loop that writes a row -/
theorem fill_run {S : SS} {A B : ZA} {c : (Nat × Nat) × (Nat → Nat)} {a o : Nat} {f : Int32 → JH → Option ((Int32 ⊕ Int32) × JH)} (G : Nat → Int) (N : Nat) (hN : N < 20000)
    (hs : ∀ i, i < N → f (ii (i : Int)) (mz S (za A a (mo G (A a) o i)) B c) = some (.inl (ii ((i + 1 : Nat) : Int)), mz S (za A a (mo G (A a) o (i + 1))) B c))
    (he : f (ii (N : Int)) (mz S (za A a (mo G (A a) o N)) B c) = some (.inr (ii (N : Int)), mz S (za A a (mo G (A a) o N)) B c)) :
    jloop f jF (ii ((0 : Nat) : Int)) (mz S A B c) = some (ii (N : Int), mz S (za A a (mo G (A a) o N)) B c) := by
  have key := jloop_run (f := f) (fun i => ii (i : Int)) (fun i => mz S (za A a (mo G (A a) o i)) B c) N hs he (jF_big hN)
  rw [mo_0, za_self] at key
  exact key
/-- a loop that only reads, with a sum -/
theorem sum_run {h : JH} {f : Int64 × Int32 → JH → Option (((Int64 × Int32) ⊕ (Int64 × Int32)) × JH)} (g : Nat → Int) (N : Nat) (hN : N < 20000)
    (hs : ∀ i, i < N → f (ll (sm g i), ii (i : Int)) h = some (.inl (ll (sm g i + g i), ii ((i + 1 : Nat) : Int)), h))
    (he : f (ll (sm g N), ii (N : Int)) h = some (.inr (ll (sm g N), ii (N : Int)), h)) :
    jloop f jF (ll 0, ii ((0 : Nat) : Int)) h = some ((ll (sm g N), ii (N : Int)), h) :=
  jloop_run (f := f) (fun i => (ll (sm g i), ii (i : Int))) (fun _ => h) N hs he (jF_big hN)
theorem pr_r {x y : Int} (hx : 0 ≤ x ∧ x < 10000) (hy : 0 ≤ y ∧ y < 10000) : 0 ≤ x * y ∧ x * y ≤ 100000000 := by
  refine ⟨Int.mul_nonneg hx.1 hy.1, ?_⟩
  have := Int.mul_le_mul (show x ≤ 10000 by omega) (show y ≤ 10000 by omega) hy.1 (by decide)
  omega
/-- entries of a row are left by p -/
abbrev rg (F : Nat → Int) (o n : Nat) (p : Int) : Prop := ∀ k, k < n → 0 ≤ F (o + k) ∧ F (o + k) < p
