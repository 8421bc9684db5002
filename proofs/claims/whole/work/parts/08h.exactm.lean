/-! P3: the reference's traces. -/
/-- the flag, at field 33 -/
def fl (A : ZA) (m : Nat) (v : Int) : ZA := za A m (up (A m) 33 v)
theorem fl_fl (A : ZA) (m : Nat) (v w : Int) : fl (fl A m v) m w = fl A m w := by
  unfold fl
  rw [za_za, za_at]
  congr 1
  funext j
  by_cases h : j = 33 <;> simp [up, h]
theorem fl_33 (A : ZA) (m : Nat) (v : Int) : fl A m v m 33 = v := by unfold fl; rw [za_at, up_at]
def hf (x : Int) : Int := if -LIM ≤ x ∧ x ≤ LIM then 0 else 1
theorem hf_cut (x : Int) : cut x = if hf x = 0 then some x else none := by
  unfold cut hf
  by_cases h : -LIM ≤ x ∧ x ≤ LIM
  · rw [if_pos h, if_pos h, if_pos rfl]
  · rw [if_neg h, if_neg h, if_neg (by decide)]
theorem g33 {S : SS} {A B : ZA} {c} {m : Nat} {rf} (hM : S m = some (.inl (9, 51, rf))) (hr : rf 33 = none) (v : Int) : jgI (mz S (fl A m v) B c) m 9 33 = some (ii v) := by
  rw [jgI_z hM (by decide) hr, fl_33]
theorem p33 {S : SS} {A B : ZA} {c} {m : Nat} {rf} (hM : S m = some (.inl (9, 51, rf))) (hr : rf 33 = none) (v w : Int) : jput (mz S (fl A m v) B c) m 9 33 (.int (ii w)) = some (mz S (fl A m w) B c) := by
  rw [jput_z hM (by decide) hr]
  exact congrArg (fun X => some (mz S X B c)) (fl_fl A m v w)
theorem m_plus1 {S : SS} {A B : ZA} {c} {m : Nat} {rf} (hM : S m = some (.inl (9, 51, rf))) (hr : rf 33 = none) (x y : Int64) : f_X12_plus m x y (mz S (fl A m 1) B c) = some (x + y, mz S (fl A m 1) B c) := by
  unfold f_X12_plus
  rw [g33 hM hr]
  simp only [Option.bind_some]
  rw [if_neg (by decide), show (1 : Int32) = ii 1 from rfl, p33 hM hr]
  rfl
theorem m_plus0 {S : SS} {A B : ZA} {c} {m : Nat} {rf} (hM : S m = some (.inl (9, 51, rf))) (hr : rf 33 = none) {x y : Int} (hx : -LIM ≤ x ∧ x ≤ LIM) (hy : -LIM ≤ y ∧ y ≤ LIM) : f_X12_plus m (ll x) (ll y) (mz S (fl A m 0) B c) = some (ll (x + y), mz S (fl A m (hf (x + y))) B c) := by
  have hx2 := hx
  have hy2 := hy
  unfold LIM at hx2 hy2
  unfold f_X12_plus
  rw [g33 hM hr]
  simp only [Option.bind_some, lg_cmp_gt, lg_cmp_ge]
  rw [if_pos (by rfl), ll_add, show (1 : Int32) = ii 1 from rfl, show (0 : Int32) = ii 0 from rfl]
  simp only [p33 hM hr, Option.bind_some]
  by_cases hw : x + y = 9223372036854775808
  · rw [hw, if_neg (by decide), if_neg (by decide)]
    rfl
  · have hr : r63 (x + y) := r63_of (by omega) (by omega)
    have e1 : (4611686018427387904 : Int64) < ll (x + y) ↔ 4611686018427387904 < x + y := ll_lt (a := 4611686018427387904) (by decide) hr
    have e2 : (-4611686018427387904 : Int64) ≤ ll (x + y) ↔ -4611686018427387904 ≤ x + y := by
      rw [show (-4611686018427387904 : Int64) = ll (-4611686018427387904) from by decide]; exact ll_le (by decide) hr
    simp only [e1, e2]
    unfold hf LIM
    by_cases q1 : 4611686018427387904 < x + y
    · rw [if_pos q1, if_neg (by omega)]
    · rw [if_neg q1]
      by_cases q2 : -4611686018427387904 ≤ x + y
      · rw [if_pos q2, if_pos (by omega)]
      · rw [if_neg q2, if_neg (by omega)]
theorem m_times1 {S : SS} {A B : ZA} {c} {m : Nat} {rf} (hM : S m = some (.inl (9, 51, rf))) (hr : rf 33 = none) {x : Int} (hx : -LIM ≤ x ∧ x ≤ LIM) (y : Int64) : f_X12_times m (ll x) y (mz S (fl A m 1) B c) = some (ll x * y, mz S (fl A m 1) B c) := by
  have hx2 := hx
  unfold LIM at hx2
  have e0 : ll x = (0 : Int64) ↔ x = 0 := ll_eq (b := 0) (lim_r hx) (by decide)
  have e1 : (0 : Int64) ≤ ll x ↔ 0 ≤ x := ll_le (a := 0) (by decide) (lim_r hx)
  unfold f_X12_times
  simp only [lg_cmp_eq, lg_cmp_ge, e0, e1, g33 hM hr, Option.bind_some, show ¬ (ii 1 = (0 : Int32)) from by decide, if_false]
  simp only [show (1 : Int32) = ii 1 from rfl, p33 hM hr, Option.bind_some]
  by_cases q0 : x = 0
  · rw [if_pos q0]
  · rw [if_neg q0]
    by_cases q1 : 0 ≤ x
    · rw [if_pos q1, jnzL_ll (by omega) (by omega)]; rfl
    · rw [if_neg q1, ll_neg, jnzL_ll (by omega) (by omega)]; rfl
theorem far_le {x y : Int} (q0 : x ≠ 0) : (-LIM ≤ x * y ∧ x * y ≤ LIM) ↔ (-(LIM / (x.natAbs : Int)) ≤ y ∧ y ≤ LIM / (x.natAbs : Int)) := by
  rw [mul_abs_le, Int.mul_comm, ← Int.le_ediv_iff_mul_le (show (0 : Int) < (x.natAbs : Int) by omega)]
  omega
theorem m_times0 {S : SS} {A B : ZA} {c} {m : Nat} {rf} (hM : S m = some (.inl (9, 51, rf))) (hr : rf 33 = none) {x y : Int} (hx : -LIM ≤ x ∧ x ≤ LIM) (hy : -LIM ≤ y ∧ y ≤ LIM) : f_X12_times m (ll x) (ll y) (mz S (fl A m 0) B c) = some (ll (x * y), mz S (fl A m (hf (x * y))) B c) := by
  have hx2 := hx
  unfold LIM at hx2
  have e0 : ll x = (0 : Int64) ↔ x = 0 := ll_eq (b := 0) (lim_r hx) (by decide)
  have e1 : (0 : Int64) ≤ ll x ↔ 0 ≤ x := ll_le (a := 0) (by decide) (lim_r hx)
  have hq : 0 ≤ LIM / (x.natAbs : Int) := Int.ediv_nonneg (by decide) (by omega)
  have hq2 : LIM / (x.natAbs : Int) ≤ LIM := Int.ediv_le_self _ (by decide)
  have hq3 : r63 (LIM / (x.natAbs : Int)) := lim_r ⟨by unfold LIM at hq ⊢; omega, hq2⟩
  have hq4 : r63 (-(LIM / (x.natAbs : Int))) := lim_r ⟨by omega, by unfold LIM at hq ⊢; omega⟩
  have e2 : ll (LIM / (x.natAbs : Int)) < ll y ↔ LIM / (x.natAbs : Int) < y := ll_lt hq3 (lim_r hy)
  have e3 : ll (-(LIM / (x.natAbs : Int))) ≤ ll y ↔ -(LIM / (x.natAbs : Int)) ≤ y := ll_le hq4 (lim_r hy)
  have hxa : r63 (x.natAbs : Int) := r63_of (by omega) (by omega)
  have hdiv : x ≠ 0 → ll LIM / ll (x.natAbs : Int) = ll (LIM / (x.natAbs : Int)) := fun q => by
    rw [ll_div (by decide) hxa (by omega), Int.tdiv_eq_ediv_of_nonneg (by decide)]
  unfold f_X12_times
  simp only [lg_cmp_eq, lg_cmp_ge, lg_cmp_gt, e0, e1, g33 hM hr, Option.bind_some, show (ii 0 = (0 : Int32)) from rfl, if_true]
  simp only [show (1 : Int32) = ii 1 from rfl, show (0 : Int32) = ii 0 from rfl, p33 hM hr, Option.bind_some, ll_mul]
  by_cases q0 : x = 0
  · rw [if_pos q0, if_pos q0, q0, Int.zero_mul]; rfl
  · rw [if_neg q0, show (4611686018427387904 : Int64) = ll LIM from rfl]
    have hfe : hf (x * y) = if -(LIM / (x.natAbs : Int)) ≤ y ∧ y ≤ LIM / (x.natAbs : Int) then 0 else 1 := by
      unfold hf
      by_cases q : -LIM ≤ x * y ∧ x * y ≤ LIM
      · rw [if_pos q, if_pos ((far_le q0).mp q)]
      · rw [if_neg q, if_neg (fun z => q ((far_le q0).mpr z))]
    have fin : (if ll (LIM / (x.natAbs : Int)) < ll y then some (ll (x * y), mz S (fl A m 1) B c) else if ll (-(LIM / (x.natAbs : Int))) ≤ ll y then some (ll (x * y), mz S (fl A m 0) B c) else some (ll (x * y), mz S (fl A m 1) B c)) = some (ll (x * y), mz S (fl A m (hf (x * y))) B c) := by
      rw [hfe]
      simp only [e2, e3]
      by_cases q2 : LIM / (x.natAbs : Int) < y
      · rw [if_pos q2, if_neg (by omega)]
      · rw [if_neg q2]
        by_cases q3 : -(LIM / (x.natAbs : Int)) ≤ y
        · rw [if_pos q3, if_pos (by omega)]
        · rw [if_neg q3, if_neg (by omega)]
    by_cases q1 : 0 ≤ x
    · have hd : ll LIM / ll x = ll (LIM / (x.natAbs : Int)) := by
        have := hdiv q0
        rw [show ((x.natAbs : Nat) : Int) = x by omega] at this ⊢
        exact this
      rw [if_pos q1, jnzL_ll (by omega) (by omega)]
      simp only [Option.bind_some]
      rw [if_neg q0, hd, ll_neg]
      exact fin
    · have hd : ll LIM / ll (-x) = ll (LIM / (x.natAbs : Int)) := by
        have := hdiv q0
        rw [show ((x.natAbs : Nat) : Int) = -x by omega] at this ⊢
        exact this
      rw [if_neg q1, ll_neg, jnzL_ll (by omega) (by omega)]
      simp only [Option.bind_some]
      rw [if_neg q0, hd, ll_neg]
      exact fin
