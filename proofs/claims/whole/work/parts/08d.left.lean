/-! P1: what a prime leaves: powers, parts. -/
/-- b to the e by what p leaves -/
def pw (b : Int) (p : Int) : Nat → Int
  | 0 => 1
  | e + 1 => pw b p e * b % p
theorem pw_r {b p : Int} (hp : 1 < p) (e : Nat) : 0 ≤ pw b p e ∧ pw b p e < p := by
  cases e with
  | zero => simp [pw]; omega
  | succ e => exact emod_r (by omega)
theorem em_mul (a b p : Int) : a % p * (b % p) % p = a * b % p := (Int.mul_emod a b p).symm
theorem em_mul_l (a b p : Int) : a % p * b % p = a * b % p := by rw [Int.mul_emod, Int.emod_emod, ← Int.mul_emod]
theorem em_mul_r (a b p : Int) : a * (b % p) % p = a * b % p := by rw [Int.mul_emod, Int.emod_emod, ← Int.mul_emod]
theorem pw_em {b p : Int} (hp : 1 < p) (e : Nat) : pw b p e = b ^ e % p := by
  induction e with
  | zero => simp [pw]; exact (Int.emod_eq_of_lt (by omega) (by omega)).symm
  | succ e ih => rw [pw, ih, em_mul_l, Int.pow_succ]
theorem pow_em (b p : Int) (e : Nat) : (b % p) ^ e % p = b ^ e % p := by
  induction e with
  | zero => simp
  | succ e ih => rw [Int.pow_succ, Int.pow_succ, Int.mul_emod, ih, ← Int.mul_emod, em_mul_r]
theorem pow_sq (s : Int) (e : Nat) : (s * s) ^ e = s ^ (2 * e) := by
  induction e with
  | zero => simp
  | succ e ih => rw [Int.pow_succ, ih, show 2 * (e + 1) = 2 * e + 1 + 1 by omega, Int.pow_succ, Int.pow_succ, Int.mul_assoc]
theorem mul_lt63 {a b : Int} (ha : 0 ≤ a ∧ a < 2147483648) (hb : 0 ≤ b ∧ b < 2147483648) : r63 (a * b) := by
  have h1 : 0 ≤ a * b := Int.mul_nonneg ha.1 hb.1
  have h2 : a * b ≤ 2147483648 * 2147483648 := Int.mul_le_mul (by omega) (by omega) hb.1 (by omega)
  exact r63_of (by omega) (by omega)
theorem and1 {e : Nat} (h : e < 2147483648) : (ii (e : Int) &&& (1 : Int32)) = ii ((e % 2 : Nat) : Int) := by
  apply Int32.toBitVec_inj.mp
  show (BitVec.ofInt 32 (e : Int)) &&& 1#32 = BitVec.ofInt 32 ((e % 2 : Nat) : Int)
  apply BitVec.eq_of_toNat_eq
  rw [BitVec.toNat_and, BitVec.toNat_ofInt, BitVec.toNat_ofInt]
  show (((e : Int) % ((2 ^ 32 : Nat) : Int)).toNat &&& 1) = _
  rw [Nat.and_one_is_mod]
  omega
theorem shr1 {e : Nat} (h : e < 2147483648) : (ii (e : Int) >>> ((1 : Int32) &&& 31)) = ii ((e / 2 : Nat) : Int) := by
  rw [show ((1 : Int32) &&& 31) = 1 from rfl]
  apply Int32.toInt_inj.mp
  rw [ii_toInt (r31_of (by omega) (by omega))]
  have : (ii (e : Int) >>> (1 : Int32)).toInt = (ii (e : Int)).toInt >>> 1 := by
    show ((ii (e : Int)).toBitVec.sshiftRight 1).toInt = _
    rw [BitVec.toInt_sshiftRight]
    rfl
  rw [this, ii_toInt (r31_of (by omega) (by omega)), Int.shiftRight_eq_div_pow]
  omega
theorem jloop_go {σ τ : Type} {f : σ → JH → Option ((σ ⊕ τ) × JH)} {n : Nat} {z z1 : σ} {h h1 : JH} (e : f z h = some (.inl z1, h1)) : jloop f (n + 1) z h = jloop f n z1 h1 := by
  show (f z h).bind _ = _
  rw [e]; rfl
theorem jloop_end {σ τ : Type} {f : σ → JH → Option ((σ ⊕ τ) × JH)} {n : Nat} {z : σ} {t : τ} {h h1 : JH} (e : f z h = some (.inr t, h1)) : jloop f (n + 1) z h = some (t, h1) := by
  show (f z h).bind _ = _
  rw [e]; rfl
theorem odd_step {a s p : Int} {e : Nat} (h : e % 2 = 1) : (a * s % p) * (s * s % p) ^ (e / 2) % p = a * s ^ e % p := by
  rw [Int.mul_emod, pow_em, Int.emod_emod, ← Int.mul_emod, pow_sq, Int.mul_assoc]
  have : s ^ e = s * s ^ (2 * (e / 2)) := by
    rw [Int.mul_comm, ← Int.pow_succ, show (2 * (e / 2)).succ = e by omega]
  rw [this]
theorem even_step {a s p : Int} {e : Nat} (h : e % 2 = 0) : a * (s * s % p) ^ (e / 2) % p = a * s ^ e % p := by
  rw [Int.mul_emod, pow_em, ← Int.mul_emod, pow_sq, show 2 * (e / 2) = e by omega]
theorem power_loop (h : JH) {p : Int} (hp : 1 < p) (hp2 : p < 2147483648) : ∀ (fuel e : Nat), e < fuel → e < 2147483648 → ∀ a s : Int, (0 ≤ a ∧ a < p) → (0 ≤ s ∧ s < p) → ∃ s' : Int32, jloop (f_X4_power_L13 (ii p)) fuel (ii a, ii s, ii (e : Int)) h = some ((ii (a * s ^ e % p), s', ii 0), h) := by
  intro fuel
  induction fuel with
  | zero => intro e he; omega
  | succ fuel ih =>
    intro e he he2 a s ha hs
    have ha31 : r31 a := r31_of (by omega) (by omega)
    have hs31 : r31 s := r31_of (by omega) (by omega)
    by_cases h0 : e = 0
    · subst h0
      refine ⟨ii s, jloop_end ?_⟩
      unfold f_X4_power_L13
      rw [if_pos (show ii ((0 : Nat) : Int) ≤ (0 : Int32) from by decide)]
      simp only [Int.pow_zero, Int.mul_one, Int.emod_eq_of_lt ha.1 ha.2]
      rfl
    · have hne : ¬ (ii (e : Int) ≤ (0 : Int32)) := by
        rw [show (0 : Int32) = ii 0 from rfl, ii_le (r31_of (by omega) (by omega)) (by decide)]; omega
      have hss : (ii s).toInt64 * (ii s).toInt64 = ll (s * s) := by rw [ii_l hs31, ll_mul]
      have has : (ii a).toInt64 * (ii s).toInt64 = ll (a * s) := by rw [ii_l ha31, ii_l hs31, ll_mul]
      have f1 := f_of h (x := s * s) (mul_lt63 ⟨hs.1, by omega⟩ ⟨hs.1, by omega⟩) (show 0 < p by omega) hp2
      have f2 := f_of h (x := a * s) (mul_lt63 ⟨ha.1, by omega⟩ ⟨hs.1, by omega⟩) (show 0 < p by omega) hp2
      by_cases h1 : e % 2 = 1
      · obtain ⟨s', hs'⟩ := ih (e / 2) (by omega) (by omega) (a * s % p) (s * s % p) (emod_r (by omega)) (emod_r (by omega))
        refine ⟨s', ?_⟩
        rw [← odd_step h1, ← hs']
        refine jloop_go ?_
        unfold f_X4_power_L13
        simp only []
        rw [if_neg hne, and1 he2, h1, if_pos (by decide), has, f2, hss]
        simp only [Option.bind_some]
        rw [f1, shr1 he2]
        rfl
      · obtain ⟨s', hs'⟩ := ih (e / 2) (by omega) (by omega) a (s * s % p) ha (emod_r (by omega))
        have h2 : e % 2 = 0 := by omega
        refine ⟨s', ?_⟩
        rw [← even_step h2, ← hs']
        refine jloop_go ?_
        unfold f_X4_power_L13
        simp only []
        rw [if_neg hne, and1 he2, h2, if_neg (by decide), hss, f1, shr1 he2]
        rfl
theorem f_power (h : JH) {b p : Int} {e : Nat} (hb : r31 b) (hp : 1 < p) (hp2 : p < 2147483648) (he : e < 20000) : f_X4_power (ii b) (ii (e : Int)) (ii p) h = some (ii (pw b p e), h) := by
  unfold f_X4_power
  rw [ii_l hb, f_of h (r31_63 hb) (by omega) hp2]
  simp only [Option.bind_some]
  obtain ⟨s', hs'⟩ := power_loop h hp hp2 jF e (jF_big he) (by omega) 1 (b % p) ⟨by omega, hp⟩ (emod_r (by omega))
  rw [show (1 : Int32) = ii 1 from rfl, hs', Int.one_mul, pow_em, ← pw_em hp]
  rfl
theorem f_divide (h : JH) {a b p : Int} (ha : 0 ≤ a ∧ a < 2147483648) (hb : r31 b) (hp : 2 ≤ p) (hp2 : p < 20000) : f_X4_divide (ii a) (ii b) (ii p) h = some (ii (a * pw b p (p - 2).toNat % p), h) := by
  unfold f_X4_divide
  have e : ii p - (2 : Int32) = ii (((p - 2).toNat : Nat) : Int) := by
    rw [show (2 : Int32) = ii 2 from rfl, ii_sub]; congr 1; omega
  rw [e, f_power h hb (by omega) (by omega) (by omega)]
  simp only [Option.bind_some]
  have hr := pw_r (b := b) (p := p) (by omega) (p - 2).toNat
  rw [ii_l (r31_of (by omega) (by omega)), ii_l (r31_of (by omega) (by omega)), ll_mul, f_of h (mul_lt63 ha ⟨hr.1, by omega⟩) (by omega) (by omega)]
  rfl
/-! the reference's -/
theorem jnzL_ll {p : Int} (h : 0 < p) (h2 : p < 9223372036854775808) : jnzL (ll p) = some () := by
  unfold jnzL
  rw [if_neg (by rw [show (0 : Int64) = ll 0 from rfl, ll_eq (r63_of (by omega) h2) (by decide)]; omega)]
theorem m_left {h : JH} {m : Nat} {x p : Int} (hm : jgI h m 9 1 = some (ii p)) (hx : r63 x) (hp : 0 < p) (hp2 : p < 2147483648) : f_X12_left m (ll x) h = some (ii (x % p), h) := by
  have hp31 : r31 p := r31_of (by omega) hp2
  have ht := tmod_r x hp
  have ht63 : r63 (x.tmod p) := r63_of (by omega) (by omega)
  unfold f_X12_left
  rw [hm]
  simp only [Option.bind_some]
  rw [ii_l hp31, jnzL_ll hp (by omega), ll_rem hx (r31_63 hp31) (by omega)]
  simp only [Option.bind_some, lg_cmp_ge]
  have key := tmod_fix (x := x) hp
  have hle : (0 : Int64) ≤ ll (x.tmod p) ↔ 0 ≤ x.tmod p := ll_le (a := 0) (by decide) ht63
  by_cases hc : x.tmod p < 0
  · rw [if_pos hc] at key
    rw [if_neg (by rw [hle]; omega), ll_add, ll_i, key]
  · rw [if_neg hc] at key
    rw [if_pos (by rw [hle]; omega), ll_i, key]
theorem m_power {h : JH} {m : Nat} {b p : Int} {e : Nat} (hm : jgI h m 9 1 = some (ii p)) (hb : 0 ≤ b ∧ b < 2147483648) (hp : 1 < p) (hp2 : p < 2147483648) (he : e < 20000) : f_X12_power m (ii b) (ii (e : Int)) h = some (ii (pw b p e), h) := by
  unfold f_X12_power
  have hp31 : r31 p := r31_of (by omega) hp2
  have key := jloop_run (f := f_X12_power_L5 m (ii b) (ii (e : Int))) (fun i => (ll (pw b p i), ii (i : Int))) (fun _ => h) e (fun i hi => by
    have hr := pw_r (b := b) hp i
    unfold f_X12_power_L5
    simp only []
    rw [if_neg (by rw [ii_le (r31_of (by omega) (by omega)) (r31_of (by omega) (by omega))]; omega), hm]
    simp only [Option.bind_some]
    rw [ii_l hp31, jnzL_ll (by omega) (by omega), ii_l (r31_of (by omega) (by omega)), ll_mul, ll_rem (mul_lt63 ⟨hr.1, by omega⟩ hb) (r31_63 hp31) (by omega), Int.tmod_eq_emod_of_nonneg (Int.mul_nonneg hr.1 hb.1), show (1 : Int32) = ii 1 from rfl, ii_add]
    rfl) (t := (ll (pw b p e), ii (e : Int))) (h1 := h) (by
    unfold f_X12_power_L5
    simp only []
    rw [if_pos (by rw [ii_le (r31_of (by omega) (by omega)) (r31_of (by omega) (by omega))]; omega)]) (jF_big he)
  have key' : jloop (f_X12_power_L5 m (ii b) (ii (e : Int))) jF ((1 : Int64), (0 : Int32)) h = some ((ll (pw b p e), ii (e : Int)), h) := key
  rw [key']
  simp only [Option.bind_some, ll_i]
theorem m_inv_loop {h : JH} {m : Nat} {p : Int} (hm : jgI h m 9 1 = some (ii p)) (hp : 1 < p) (hp2 : p < 2147483648) : ∀ (fuel e : Nat), e < fuel → e < 2147483648 → ∀ a s : Int, (0 ≤ a ∧ a < p) → (0 ≤ s ∧ s < 2147483648) → ∃ s' : Int64, jloop (f_X12_inverse_L14 m) fuel (ll a, ll s, ii (e : Int)) h = some ((ll (a * s ^ e % p), s', ii 0), h) := by
  intro fuel
  have hp31 : r31 p := r31_of (by omega) hp2
  induction fuel with
  | zero => intro e he; omega
  | succ fuel ih =>
    intro e he he2 a s ha hs
    by_cases h0 : e = 0
    · subst h0
      refine ⟨ll s, jloop_end ?_⟩
      unfold f_X12_inverse_L14
      rw [if_pos (show ii ((0 : Nat) : Int) ≤ (0 : Int32) from by decide)]
      simp only [Int.pow_zero, Int.mul_one, Int.emod_eq_of_lt ha.1 ha.2]
      rfl
    · have hne : ¬ (ii (e : Int) ≤ (0 : Int32)) := by
        rw [show (0 : Int32) = ii 0 from rfl, ii_le (r31_of (by omega) (by omega)) (by decide)]; omega
      have e1 : jremL (ll s * ll s) (ll p) = ll (s * s % p) := by
        rw [ll_mul, ll_rem (mul_lt63 hs hs) (r31_63 hp31) (by omega), Int.tmod_eq_emod_of_nonneg (Int.mul_nonneg hs.1 hs.1)]
      have e2 : jremL (ll a * ll s) (ll p) = ll (a * s % p) := by
        rw [ll_mul, ll_rem (mul_lt63 ⟨ha.1, by omega⟩ hs) (r31_63 hp31) (by omega), Int.tmod_eq_emod_of_nonneg (Int.mul_nonneg ha.1 hs.1)]
      have e3 : jrem (ii (e : Int)) (2 : Int32) = ii ((e % 2 : Nat) : Int) := by
        rw [show (2 : Int32) = ii 2 from rfl, ii_rem (r31_of (by omega) (by omega)) (by decide) (by decide), Int.tmod_eq_emod_of_nonneg (by omega)]
        congr 1
      have e4 : ii (e : Int) / (2 : Int32) = ii ((e / 2 : Nat) : Int) := by
        rw [show (2 : Int32) = ii 2 from rfl, ii_div (r31_of (by omega) (by omega)) (by decide) (by decide), Int.tdiv_eq_ediv_of_nonneg (by omega)]
        congr 1
      have hsr := emod_r (x := s * s) (p := p) (by omega)
      by_cases h1 : e % 2 = 1
      · obtain ⟨s', hs'⟩ := ih (e / 2) (by omega) (by omega) (a * s % p) (s * s % p) (emod_r (by omega)) ⟨hsr.1, by omega⟩
        refine ⟨s', ?_⟩
        rw [← odd_step h1, ← hs']
        refine jloop_go ?_
        unfold f_X12_inverse_L14
        simp only []
        rw [if_neg hne, e3, h1, if_pos (by decide), hm]
        simp only [Option.bind_some]
        rw [ii_l hp31, jnzL_ll (by omega) (by omega)]
        simp only [Option.bind_some]
        rw [e1, e2, e4]
      · obtain ⟨s', hs'⟩ := ih (e / 2) (by omega) (by omega) a (s * s % p) ha ⟨hsr.1, by omega⟩
        have h2 : e % 2 = 0 := by omega
        refine ⟨s', ?_⟩
        rw [← even_step h2, ← hs']
        refine jloop_go ?_
        unfold f_X12_inverse_L14
        simp only []
        rw [if_neg hne, e3, h2, if_neg (by decide), hm]
        simp only [Option.bind_some]
        rw [ii_l hp31, jnzL_ll (by omega) (by omega)]
        simp only [Option.bind_some]
        rw [e1, e4]
theorem m_inverse {h : JH} {m : Nat} {b p : Int} (hm : jgI h m 9 1 = some (ii p)) (hb : 0 ≤ b ∧ b < 2147483648) (hp : 2 ≤ p) (hp2 : p < 20000) : f_X12_inverse m (ii b) h = some (ii (pw b p (p - 2).toNat), h) := by
  unfold f_X12_inverse
  rw [hm]
  simp only [Option.bind_some]
  have e : ii p - (2 : Int32) = ii (((p - 2).toNat : Nat) : Int) := by
    rw [show (2 : Int32) = ii 2 from rfl, ii_sub]; congr 1; omega
  obtain ⟨s', hs'⟩ := m_inv_loop hm (by omega) (by omega) jF (p - 2).toNat (jF_big (by omega)) (by omega) 1 b ⟨by omega, by omega⟩ hb
  rw [e, ii_l (r31_of (by omega) (by omega)), show (1 : Int64) = ll 1 from rfl, hs', Int.one_mul, ← pw_em (by omega)]
  simp only [Option.bind_some, ll_i]
