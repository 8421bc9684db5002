/-! The three series: what is wanted of them holds for every prime; those of weight 8, 10, 14. -/
theorem pn_2 {p : Int} (hp : 1 < p) (f : Nat → Int) : pn p (ser p f) 2 = ml p f f := by
  show ml p (ml p (dl 0) (ser p f)) (ser p f) = _
  rw [ml_one, ml_serl, ml_serl, ml_serr]
theorem pn_3 {p : Int} (hp : 1 < p) (f : Nat → Int) : pn p (ser p f) 3 = ml p (cv f f) f := by
  show ml p (pn p (ser p f) 2) (ser p f) = _
  rw [pn_2 hp, ml_serr]
  exact ml_serl p _ _
theorem PR_1 {p : Int} (h : PR p) : 1 < p := by have := h.1; omega
def tau (n : Nat) : Int := [0, 1, -24, 252, -1472, 4830].getD n 0
theorem tau_ok : ∀ n, n < 6 → cv (cv (ie 240 3) (ie 240 3)) (ie 240 3) n - cv (ie (-504) 5) (ie (-504) 5) n = 1728 * tau n := by decide +kernel
theorem dt_head {p : Int} (h : PR p) {n : Nat} (hn : n < 6) : dt p n = tau n % p := by
  have hp := PR_1 h
  unfold dt e4 e6
  rw [ser_at (by omega), pn_3 hp, pn_2 hp]
  unfold ml
  rw [ser_at (by omega), ser_at (by omega), ← em_mul_l, em_sub_l, em_sub_r, tau_ok n hn, em_mul_l, Int.mul_assoc, Int.mul_comm, Int.mul_assoc, ← em_mul_r, inv_1728 h, Int.mul_one]
theorem EH_of {p : Int} (h : PR p) : EH p := by
  have hp := PR_1 h
  refine ⟨hp, ?_, ?_, ?_⟩
  · rw [← pn_ser hp (e6 p) 2]
    refine ser_eq fun n hn => ?_
    unfold sc dt
    rw [ser_at hn, ser_at hn, em_add_r, ← em_add_r, em_mul_r, em_add_r]
    generalize pn p (e4 p) 3 n = x
    generalize pn p (e6 p) 2 n = y
    have hi := inv_1728 h
    generalize pw 1728 p (p - 2).toNat = w at hi
    have e : x + -1728 * ((x - y) * w) = x - (x - y) * (w * 1728) := by
      rw [show (x - y) * (w * 1728) = 1728 * ((x - y) * w) by rw [← Int.mul_assoc, Int.mul_comm]]
      omega
    rw [e, ← em_sub_r, ← em_mul_r, hi, Int.mul_one, em_sub_r]
    congr 1
    omega
  · intro n hn
    have e : n = 0 := by omega
    subst e
    rw [dt_head h (by omega)]
    rfl
  · rw [dt_head h (by omega)]
    exact Int.emod_eq_of_lt (show (0 : Int) ≤ 1 by decide) hp
/-- the series of a weight with one form alone -/
def es (k : Nat) : Nat → Int := if k = 0 then dl 0 else if k = 4 then ie 240 3 else if k = 6 then ie (-504) 5 else if k = 8 then ie 480 7 else if k = 10 then ie (-264) 9 else ie (-24) 13
theorem VV_one {p : Int} (hp : 1 < p) {k : Nat} (hk : k = 0 ∨ k = 4 ∨ k = 6 ∨ k = 8 ∨ k = 10 ∨ k = 14) : VV p k (ser p (es k)) := by
  have hL : 0 < Lk k := by rcases hk with rfl | rfl | rfl | rfl | rfl | rfl <;> decide
  have e : ser p (es k) = rwx p k 0 := by
    have e4s : ser p (e4 p) = e4 p := ser_ser _ _
    have e6s : ser p (e6 p) = e6 p := ser_ser _ _
    have z1 : ∀ f : Nat → Int, ml p (ser p f) (dl 0) = ser p f := fun f => by rw [ml_comm, ml_one, ser_ser]
    have d0 : ser p (dl 0) = dl 0 := pn_ser hp (dl 0) 0
    rcases hk with rfl | rfl | rfl | rfl | rfl | rfl
    · show ser p (dl 0) = ml p (ml p (dl 0) (dl 0)) (dl 0)
      rw [ml_one, d0, ml_one, d0]
    · show ser p (ie 240 3) = ml p (ml p (pn p (e4 p) 1) (dl 0)) (dl 0)
      rw [pn_1, e4s]
      unfold e4
      rw [z1, z1]
    · show ser p (ie (-504) 5) = ml p (ml p (dl 0) (pn p (e6 p) 1)) (dl 0)
      rw [pn_1, e6s]
      unfold e6
      rw [ml_one, ser_ser, z1]
    · show ser p (ie 480 7) = ml p (ml p (pn p (e4 p) 2) (dl 0)) (dl 0)
      unfold e4
      rw [pn_2 hp]
      unfold ml
      rw [← ml, z1, ← ml, z1]
      exact ser_eq fun n hn => by rw [q8 hn]
    · show ser p (ie (-264) 9) = ml p (ml p (pn p (e4 p) 1) (pn p (e6 p) 1)) (dl 0)
      rw [pn_1, pn_1, e4s, e6s]
      unfold e4 e6
      rw [ml_serl, ml_serr]
      unfold ml
      rw [← ml, z1]
      exact ser_eq fun n hn => by rw [q10 hn]
    · show ser p (ie (-24) 13) = ml p (ml p (pn p (e4 p) 2) (pn p (e6 p) 1)) (dl 0)
      rw [pn_1, e6s]
      unfold e4 e6
      rw [pn_2 hp, ml_serr, ml_assoc p (ie 240 3) (ie 240 3) (ie (-504) 5), show ml p (ie 240 3) (ie (-504) 5) = ser p (ie (-264) 9) from ser_eq fun n hn => by rw [q10 hn], ml_serr]
      unfold ml
      rw [← ml, z1]
      exact ser_eq fun n hn => by rw [q14 hn]
  rw [e]
  exact VV_row hL
/-- so it is the one that begins with 1 -/
theorem es_ex {p : Int} (h : EH p) {k : Nat} (hk : k = 0 ∨ k = 4 ∨ k = 6 ∨ k = 8 ∨ k = 10 ∨ k = 14) : ser p (es k) = ex p k (dl 0) := by
  have hp := h.1
  refine (ex_self h (by omega) (VV_one hp hk) fun n hn => ?_).symm
  have hL : Lk k = 1 := by rcases hk with rfl | rfl | rfl | rfl | rfl | rfl <;> rfl
  have e : n = 0 := by omega
  subst e
  rw [ser_at (by omega)]
  rcases hk with rfl | rfl | rfl | rfl | rfl | rfl <;> rfl
/-- no two numbers that the prime doesn't go into make one that it does -/
theorem PR_dvd {p : Int} (h : PR p) {x y : Int} (hd : p ∣ x * y) : p ∣ x ∨ p ∣ y := by
  obtain ⟨h1, h2, h3⟩ := h
  obtain ⟨q, rfl⟩ : ∃ q : Nat, p = (q : Int) := ⟨p.toNat, by omega⟩
  have h3' : ∀ d : Nat, 2 ≤ d → d * d ≤ q → ¬ d ∣ q := by simpa using h3
  have hd' : q ∣ x.natAbs * y.natAbs := by rw [← Int.natAbs_mul]; exact Int.ofNat_dvd_left.mp hd
  by_cases hx : q ∣ x.natAbs
  · exact Or.inl (Int.ofNat_dvd_left.mpr hx)
  · refine Or.inr (Int.ofNat_dvd_left.mpr ?_)
    have hg : Nat.gcd q x.natAbs = 1 := by
      obtain ⟨t, ht⟩ := Nat.gcd_dvd_left q x.natAbs
      have hgx := Nat.gcd_dvd_right q x.natAbs
      have hgq := Nat.gcd_dvd_left q x.natAbs
      generalize Nat.gcd q x.natAbs = g at ht hgx hgq
      by_cases g1 : g = 1
      · exact g1
      · exfalso
        have g0 : g ≠ 0 := fun e => by rw [e, Nat.zero_mul] at ht; omega
        have t0 : t ≠ 0 := fun e => by rw [e, Nat.mul_zero] at ht; omega
        have t1 : t ≠ 1 := fun e => by rw [e, Nat.mul_one] at ht; rw [ht] at hx; exact hx hgx
        rcases Nat.le_total g t with hle | hle
        · exact h3' g (by omega) (by rw [ht]; exact Nat.mul_le_mul_left g hle) hgq
        · exact h3' t (by omega) (by rw [ht]; exact Nat.mul_le_mul_right t hle) ⟨g, by rw [ht, Nat.mul_comm]⟩
    exact Nat.Coprime.dvd_of_dvd_mul_left hg hd'
