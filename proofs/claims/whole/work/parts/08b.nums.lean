/-! Numbers of the machine as whole numbers. -/
abbrev ii (z : Int) : Int32 := Int32.ofInt z
abbrev ll (z : Int) : Int64 := Int64.ofInt z
abbrev r31 (z : Int) : Prop := -2147483648 ≤ z ∧ z < 2147483648
abbrev r63 (z : Int) : Prop := -9223372036854775808 ≤ z ∧ z < 9223372036854775808
theorem ii_toInt {z : Int} (h : r31 z) : (ii z).toInt = z := by
  have h2 := h
  exact Int32.toInt_ofInt_of_le (by omega) (by omega)
theorem ll_toInt {z : Int} (h : r63 z) : (ll z).toInt = z := by
  have h2 := h
  exact Int64.toInt_ofInt_of_le (by omega) (by omega)
theorem ii_of (x : Int32) : x = ii x.toInt := (Int32.ofInt_toInt x).symm
theorem ll_of (x : Int64) : x = ll x.toInt := (Int64.ofInt_toInt x).symm
theorem ii_r (x : Int32) : r31 x.toInt := ⟨by have := Int32.le_toInt x; omega, by have := Int32.toInt_lt x; omega⟩
theorem ll_r (x : Int64) : r63 x.toInt := ⟨by have := Int64.le_toInt x; omega, by have := Int64.toInt_lt x; omega⟩
theorem ii_add (a b : Int) : ii a + ii b = ii (a + b) := (Int32.ofInt_add a b).symm
theorem ii_sub (a b : Int) : ii a - ii b = ii (a - b) := (Int32.ofInt_sub a b).symm
theorem ii_mul (a b : Int) : ii a * ii b = ii (a * b) := (Int32.ofInt_mul a b).symm
theorem ii_neg (a : Int) : -ii a = ii (-a) := (Int32.ofInt_neg a).symm
theorem ll_add (a b : Int) : ll a + ll b = ll (a + b) := (Int64.ofInt_add a b).symm
theorem ll_sub (a b : Int) : ll a - ll b = ll (a - b) := (Int64.ofInt_sub a b).symm
theorem ll_mul (a b : Int) : ll a * ll b = ll (a * b) := (Int64.ofInt_mul a b).symm
theorem ll_neg (a : Int) : -ll a = ll (-a) := (Int64.ofInt_neg a).symm
theorem ii_le {a b : Int} (ha : r31 a) (hb : r31 b) : ii a ≤ ii b ↔ a ≤ b := by rw [Int32.le_iff_toInt_le, ii_toInt ha, ii_toInt hb]
theorem ii_lt {a b : Int} (ha : r31 a) (hb : r31 b) : ii a < ii b ↔ a < b := by rw [Int32.lt_iff_toInt_lt, ii_toInt ha, ii_toInt hb]
theorem ii_eq {a b : Int} (ha : r31 a) (hb : r31 b) : ii a = ii b ↔ a = b := by rw [← Int32.toInt_inj, ii_toInt ha, ii_toInt hb]
theorem ll_le {a b : Int} (ha : r63 a) (hb : r63 b) : ll a ≤ ll b ↔ a ≤ b := by rw [Int64.le_iff_toInt_le, ll_toInt ha, ll_toInt hb]
theorem ll_lt {a b : Int} (ha : r63 a) (hb : r63 b) : ll a < ll b ↔ a < b := by rw [Int64.lt_iff_toInt_lt, ll_toInt ha, ll_toInt hb]
theorem ll_eq {a b : Int} (ha : r63 a) (hb : r63 b) : ll a = ll b ↔ a = b := by rw [← Int64.toInt_inj, ll_toInt ha, ll_toInt hb]
theorem ii_l {a : Int} (ha : r31 a) : (ii a).toInt64 = ll a := by
  rw [ll_of (ii a).toInt64, Int32.toInt_toInt64, ii_toInt ha]
theorem ll_i (a : Int) : (ll a).toInt32 = ii a := Int64.toInt32_ofInt
theorem ii_nat {a : Int} (ha : r31 a) : (ii a).toNatClampNeg = a.toNat := by
  show (ii a).toInt.toNat = a.toNat
  rw [ii_toInt ha]
theorem ii_jin {a : Int} {n : Nat} (ha : r31 a) : jin (ii a) n = decide (0 ≤ a ∧ a < (n : Int)) := by
  unfold jin
  rw [decide_eq_decide, ii_nat ha, show (0 : Int32) = ii 0 from rfl, ii_lt ha (by decide)]
  omega
theorem ii_div {a b : Int} (ha : r31 a) (hb : r31 b) (h : b ≠ -1) : ii a / ii b = ii (a.tdiv b) := by
  rw [ii_of (ii a / ii b)]
  rw [Int32.toInt_div_of_ne_right _ _ (by rw [show (-1 : Int32) = ii (-1) from rfl, ne_eq, ii_eq hb (by decide)]; exact h), ii_toInt ha, ii_toInt hb]
theorem ll_div {a b : Int} (ha : r63 a) (hb : r63 b) (h : b ≠ -1) : ll a / ll b = ll (a.tdiv b) := by
  rw [ll_of (ll a / ll b)]
  rw [Int64.toInt_div_of_ne_right _ _ (by rw [show (-1 : Int64) = ll (-1) from rfl, ne_eq, ll_eq hb (by decide)]; exact h), ll_toInt ha, ll_toInt hb]
theorem ii_rem {a b : Int} (ha : r31 a) (hb : r31 b) (h : b ≠ -1) : jrem (ii a) (ii b) = ii (a.tmod b) := by
  unfold jrem
  rw [ii_div ha hb h, ii_mul, ii_sub, Int.tmod_def, Int.mul_comm]
theorem ll_rem {a b : Int} (ha : r63 a) (hb : r63 b) (h : b ≠ -1) : jremL (ll a) (ll b) = ll (a.tmod b) := by
  unfold jremL
  rw [ll_div ha hb h, ll_mul, ll_sub, Int.tmod_def, Int.mul_comm]
theorem nI_ii (n : Nat) : nI n = ii (n : Int) := by
  show Int32.ofNat n = Int32.ofInt n
  exact (Int32.ofInt_eq_ofNat (n := n)).symm
theorem r31_of {z : Int} (h1 : -2147483648 ≤ z) (h2 : z < 2147483648) : r31 z := ⟨h1, h2⟩
theorem r63_of {z : Int} (h1 : -9223372036854775808 ≤ z) (h2 : z < 9223372036854775808) : r63 z := ⟨h1, h2⟩
theorem r31_63 {z : Int} (h : r31 z) : r63 z := by omega
/-- what a prime leaves -/
theorem tmod_fix {x p : Int} (hp : 0 < p) : (if x.tmod p < 0 then x.tmod p + p else x.tmod p) = x % p := by
  rcases Int.lt_or_le x 0 with h | h
  · have e : x.tmod p = -((-x) % p) := by rw [← Int.neg_neg x, Int.neg_tmod, Int.neg_neg, Int.tmod_eq_emod_of_nonneg (by omega)]
    rw [e]
    have h1 := Int.emod_nonneg (-x) (show p ≠ 0 by omega)
    have h2 := Int.emod_lt_of_pos (-x) hp
    obtain ⟨k, hk⟩ : ∃ k, (-x) % p + p * k = -x := ⟨_, Int.emod_add_mul_ediv (-x) p⟩
    generalize (-x) % p = r at h1 h2 hk ⊢
    by_cases hr : r = 0
    · have hx : x = p * (-k) := by rw [Int.mul_neg]; omega
      rw [if_neg (by omega), hx, Int.mul_emod_right, hr]; rfl
    · have hx : x = (p - r) + p * (-k - 1) := by rw [Int.mul_sub, Int.mul_neg]; omega
      rw [if_pos (by omega), hx, Int.add_mul_emod_self_left, Int.emod_eq_of_lt (by omega) (by omega)]
      omega
  · rw [Int.tmod_eq_emod_of_nonneg h]
    have h1 := Int.emod_nonneg x (show p ≠ 0 by omega)
    rw [if_neg (by omega)]
theorem tmod_r (x : Int) {p : Int} (hp : 0 < p) : -p < x.tmod p ∧ x.tmod p < p := by
  rcases Int.lt_or_le x 0 with h | h
  · have e : x.tmod p = -((-x) % p) := by rw [← Int.neg_neg x, Int.neg_tmod, Int.neg_neg, Int.tmod_eq_emod_of_nonneg (by omega)]
    have h1 := Int.emod_nonneg (-x) (show p ≠ 0 by omega)
    have h2 := Int.emod_lt_of_pos (-x) hp
    omega
  · rw [Int.tmod_eq_emod_of_nonneg h]
    have h1 := Int.emod_nonneg x (show p ≠ 0 by omega)
    have h2 := Int.emod_lt_of_pos x hp
    omega
theorem emod_r {x p : Int} (hp : 0 < p) : 0 ≤ x % p ∧ x % p < p := ⟨Int.emod_nonneg x (by omega), Int.emod_lt_of_pos x hp⟩
theorem f_of (h : JH) {x p : Int} (hx : r63 x) (hp : 0 < p) (hp2 : p < 2147483648) : f_X4_of (ll x) (ii p) h = some (ii (x % p), h) := by
  have hp31 : r31 p := r31_of (by omega) hp2
  have hp63 := r31_63 hp31
  have ht : r31 (x.tmod p) := by
    have h1 := tmod_r x hp
    exact r31_of (by omega) (by omega)
  unfold f_X4_of
  rw [if_pos (by rw [show (0 : Int32) = ii 0 from rfl, ii_lt (by decide) hp31]; exact hp), ii_l hp31]
  have hne : jnzL (ll p) = some () := by
    unfold jnzL
    rw [if_neg (by rw [show (0 : Int64) = ll 0 from rfl, ll_eq hp63 (by decide)]; omega)]
  rw [hne, ll_rem hx hp63 (by omega), ll_i]
  show (if (0 : Int32) ≤ ii (x.tmod p) then some (ii (x.tmod p), h) else some (ii (x.tmod p) + ii p, h)) = _
  have key := tmod_fix (x := x) hp
  by_cases hc : x.tmod p < 0
  · rw [if_neg (by rw [show (0 : Int32) = ii 0 from rfl, ii_le (by decide) ht]; omega), ii_add]
    rw [if_pos hc] at key
    rw [key]
  · rw [if_pos (by rw [show (0 : Int32) = ii 0 from rfl, ii_le (by decide) ht]; omega)]
    rw [if_neg hc] at key
    rw [key]
