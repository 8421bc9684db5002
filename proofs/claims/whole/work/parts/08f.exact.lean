/-! P3: whole numbers that may be huge: none is huge. -/
def LIM : Int := 4611686018427387904
def enc (a : Option Int) : Int64 := match a with
  | some x => ll x
  | none => (-9223372036854775808 : Int64)
def okn (a : Option Int) : Prop := ∀ x, a = some x → -LIM ≤ x ∧ x ≤ LIM
def cut (x : Int) : Option Int := if -LIM ≤ x ∧ x ≤ LIM then some x else none
def oadd (a b : Option Int) : Option Int := match a, b with
  | some x, some y => cut (x + y)
  | _, _ => none
def omul (a b : Option Int) : Option Int := match a, b with
  | some x, some y => cut (x * y)
  | _, _ => none
theorem cut_ok (x : Int) : okn (cut x) := by
  intro y hy
  unfold cut at hy
  split at hy
  · cases hy; assumption
  · cases hy
theorem oadd_ok (a b : Option Int) : okn (oadd a b) := by
  unfold oadd
  split
  · exact cut_ok _
  · intro x hx; cases hx
theorem omul_ok (a b : Option Int) : okn (omul a b) := by
  unfold omul
  split
  · exact cut_ok _
  · intro x hx; cases hx
theorem some_ok {x : Int} (h1 : -LIM ≤ x) (h2 : x ≤ LIM) : okn (some x) := by
  intro y hy; cases hy; exact ⟨h1, h2⟩
theorem lim_r {x : Int} (h : -LIM ≤ x ∧ x ≤ LIM) : r63 x := by
  unfold LIM at h
  exact r63_of (by omega) (by omega)
theorem huge_ne {x : Int} (h : -LIM ≤ x ∧ x ≤ LIM) : ¬ ll x = (-9223372036854775808 : Int64) := by
  have h2 := h
  unfold LIM at h2
  rw [show (-9223372036854775808 : Int64) = ll (-9223372036854775808) from rfl, ll_eq (lim_r h) (by decide)]
  omega
theorem x_add (h : JH) {a b : Option Int} (ha : okn a) (hb : okn b) : f_X10_add (enc a) (enc b) h = some (enc (oadd a b), h) := by
  unfold f_X10_add
  simp only [lg_cmp_eq, lg_cmp_gt, lg_cmp_ge]
  cases a with
  | none => simp [enc, oadd]
  | some x =>
    cases b with
    | none => simp [enc, oadd]
    | some y =>
      have hx := ha x rfl
      have hy := hb y rfl
      have hx2 := hx
      have hy2 := hy
      unfold LIM at hx2 hy2
      rw [show enc (some x) = ll x from rfl, show enc (some y) = ll y from rfl, show oadd (some x) (some y) = cut (x + y) from rfl]
      rw [if_neg (huge_ne hx), if_neg (huge_ne hy), ll_add]
      by_cases hw : x + y = 9223372036854775808
      · rw [hw]
        unfold cut LIM
        rw [if_neg (by decide), if_neg (by decide), if_neg (by omega)]; rfl
      · have hr : r63 (x + y) := r63_of (by omega) (by omega)
        have e1 : (4611686018427387904 : Int64) < ll (x + y) ↔ 4611686018427387904 < x + y := ll_lt (a := 4611686018427387904) (by decide) hr
        have e2 : (-4611686018427387904 : Int64) ≤ ll (x + y) ↔ -4611686018427387904 ≤ x + y := by
          rw [show (-4611686018427387904 : Int64) = ll (-4611686018427387904) from by decide]; exact ll_le (by decide) hr
        simp only [e1, e2]
        unfold cut LIM
        by_cases q1 : 4611686018427387904 < x + y
        · rw [if_pos q1, if_neg (by omega)]; rfl
        · rw [if_neg q1]
          by_cases q2 : -4611686018427387904 ≤ x + y
          · rw [if_pos q2, if_pos (by omega)]; rfl
          · rw [if_neg q2, if_neg (by omega)]; rfl
theorem abs_ll {x : Int} (h : -LIM ≤ x ∧ x ≤ LIM) : (if 0 < ll x then ll x else -ll x) = ll (x.natAbs : Int) := by
  have e : (0 : Int64) < ll x ↔ 0 < x := ll_lt (a := 0) (by decide) (lim_r h)
  by_cases q : 0 < x
  · rw [if_pos (e.mpr q), show ((x.natAbs : Nat) : Int) = x by omega]
  · rw [if_neg (fun z => q (e.mp z)), ll_neg, show ((x.natAbs : Nat) : Int) = -x by omega]
theorem mul_abs_le {x y : Int} : (-LIM ≤ x * y ∧ x * y ≤ LIM) ↔ (x.natAbs : Int) * (y.natAbs : Int) ≤ LIM := by
  rw [← Int.natCast_mul, ← Int.natAbs_mul]
  omega
theorem x_mul (h : JH) {a b : Option Int} (ha : okn a) (hb : okn b) : f_X10_multiply (enc a) (enc b) h = some (enc (omul a b), h) := by
  unfold f_X10_multiply
  simp only [lg_cmp_eq, lg_cmp_le]
  cases a with
  | none => simp [enc, omul]
  | some x =>
    cases b with
    | none => simp [enc, omul]
    | some y =>
      have hx := ha x rfl
      have hy := hb y rfl
      rw [show enc (some x) = ll x from rfl, show enc (some y) = ll y from rfl, show omul (some x) (some y) = cut (x * y) from rfl]
      rw [if_neg (huge_ne hx), if_neg (huge_ne hy)]
      have e0 : ll y = (0 : Int64) ↔ y = 0 := ll_eq (b := 0) (lim_r hy) (by decide)
      by_cases q0 : y = 0
      · rw [if_pos (e0.mpr q0), q0, Int.mul_zero]; rfl
      · have hx2 := hx
        have hy2 := hy
        unfold LIM at hx2 hy2
        have hxa : r63 (x.natAbs : Int) := r63_of (by omega) (by omega)
        have hya : r63 (y.natAbs : Int) := r63_of (by omega) (by omega)
        rw [if_neg (fun z => q0 (e0.mp z)), abs_ll hy, abs_ll hx, jnzL_ll (by omega) (by omega)]
        simp only [Option.bind_some]
        rw [show (4611686018427387904 : Int64) = ll LIM from rfl, ll_div (by decide) hya (by omega), Int.tdiv_eq_ediv_of_nonneg (by decide)]
        have hq : 0 ≤ LIM / (y.natAbs : Int) := Int.ediv_nonneg (by decide) (by omega)
        have hq2 : LIM / (y.natAbs : Int) ≤ LIM := Int.ediv_le_self _ (by decide)
        have e1 : ll (x.natAbs : Int) ≤ ll (LIM / (y.natAbs : Int)) ↔ (x.natAbs : Int) ≤ LIM / (y.natAbs : Int) := ll_le hxa (lim_r ⟨by unfold LIM at hq ⊢; omega, hq2⟩)
        simp only [e1, Int.le_ediv_iff_mul_le (show (0 : Int) < (y.natAbs : Int) by omega), ← mul_abs_le, cut]
        by_cases q1 : -LIM ≤ x * y ∧ x * y ≤ LIM
        · rw [if_pos q1, if_pos q1, ll_mul]; rfl
        · rw [if_neg q1, if_neg q1]; rfl
/-- powers, and the q's -/
def opw (b : Int) : Nat → Option Int
  | 0 => some 1
  | e + 1 => omul (opw b e) (some b)
def oQ (t n : Int) : Nat → Option Int × Option Int
  | 0 => (some 1, some t)
  | i + 1 => ((oQ t n i).2, oadd (omul (some t) (oQ t n i).2) (omul (some (-n)) (oQ t n i).1))
theorem opw_ok (b : Int) (e : Nat) : okn (opw b e) := by
  cases e with
  | zero => exact some_ok (by decide) (by decide)
  | succ e => exact omul_ok _ _
theorem oQ_ok {t n : Int} (ht : -LIM ≤ t ∧ t ≤ LIM) (i : Nat) : okn (oQ t n i).1 ∧ okn (oQ t n i).2 := by
  induction i with
  | zero => exact ⟨some_ok (by decide) (by decide), some_ok ht.1 ht.2⟩
  | succ i ih => exact ⟨ih.2, oadd_ok _ _⟩
theorem x_power (h : JH) {b : Int} {e : Nat} (hb : -20000 ≤ b ∧ b ≤ 20000) (he : e < 20000) : f_X10_exactPower (ii b) (ii (e : Int)) h = some (enc (opw b e), h) := by
  unfold f_X10_exactPower
  have hb2 : -LIM ≤ b ∧ b ≤ LIM := by unfold LIM; omega
  have key := jloop_run (f := f_X10_exactPower_L5 (ii b) (ii (e : Int))) (fun i => (enc (opw b i), ii (i : Int))) (fun _ => h) e (fun i hi => by
    unfold f_X10_exactPower_L5
    simp only []
    rw [if_neg (by rw [ii_le (r31_of (by omega) (by omega)) (r31_of (by omega) (by omega))]; omega), ii_l (r31_of (by omega) (by omega)), show ll b = enc (some b) from rfl, x_mul h (opw_ok b i) (some_ok hb2.1 hb2.2)]
    simp only [Option.bind_some, show (1 : Int32) = ii 1 from rfl, ii_add]
    rfl) (t := (enc (opw b e), ii (e : Int))) (h1 := h) (by
    unfold f_X10_exactPower_L5
    simp only []
    rw [if_pos (by rw [ii_le (r31_of (by omega) (by omega)) (r31_of (by omega) (by omega))]; omega)]) (jF_big he)
  have key' : jloop (f_X10_exactPower_L5 (ii b) (ii (e : Int))) jF ((1 : Int64), (0 : Int32)) h = some ((enc (opw b e), ii (e : Int)), h) := key
  rw [key']
  rfl
theorem x_Q (h : JH) {k t n : Int} (hk : 3 ≤ k ∧ k ≤ 60) (ht : -1000 ≤ t ∧ t ≤ 1000) (hn : 0 ≤ n ∧ n ≤ 1000) : f_X10_exactQ (ii k) (ii t) (ii n) h = some (enc (oQ t n (k - 3).toNat).2, h) := by
  unfold f_X10_exactQ
  have ht2 : -LIM ≤ t ∧ t ≤ LIM := by unfold LIM; omega
  have hn2 : -LIM ≤ -n ∧ -n ≤ LIM := by unfold LIM; omega
  have key := jloop_run (f := f_X10_exactQ_L9 (ii k) (ii t) (ii n)) (fun i => (enc (oQ t n i).1, enc (oQ t n i).2, ii (4 + (i : Int)))) (fun _ => h) (k - 3).toNat (fun i hi => by
    have ok := oQ_ok (n := n) ht2 i
    unfold f_X10_exactQ_L9
    simp only []
    rw [if_neg (by rw [ii_lt (r31_of (by omega) (by omega)) (r31_of (by omega) (by omega))]; omega), ii_l (r31_of (by omega) (by omega)), show ll t = enc (some t) from rfl, x_mul h (some_ok ht2.1 ht2.2) ok.2, ii_neg, ii_l (r31_of (by omega) (by omega)), show ll (-n) = enc (some (-n)) from rfl]
    simp only [Option.bind_some]
    rw [x_mul h (some_ok hn2.1 hn2.2) ok.1]
    simp only [Option.bind_some]
    rw [x_add h (omul_ok _ _) (omul_ok _ _)]
    simp only [Option.bind_some, show (1 : Int32) = ii 1 from rfl, ii_add, oQ]
    rw [show (4 : Int) + (i : Int) + 1 = 4 + ((i + 1 : Nat) : Int) by omega]) (t := (enc (oQ t n (k - 3).toNat).1, enc (oQ t n (k - 3).toNat).2, ii (k + 1))) (h1 := h) (by
    unfold f_X10_exactQ_L9
    simp only []
    rw [show (4 : Int) + (((k - 3).toNat : Nat) : Int) = k + 1 by omega, if_pos (by rw [ii_lt (r31_of (by omega) (by omega)) (r31_of (by omega) (by omega))]; omega)]) (jF_big (by omega))
  have key' : jloop (f_X10_exactQ_L9 (ii k) (ii t) (ii n)) jF ((1 : Int64), ll t, (4 : Int32)) h = some ((enc (oQ t n (k - 3).toNat).1, enc (oQ t n (k - 3).toNat).2, ii (k + 1)), h) := key
  rw [ii_l (r31_of (by omega) (by omega)), key']
  rfl
