/-! P3: the reference's traceLeft. -/
theorem rc_2n {n : Int} (hn : 1 ≤ n ∧ n ≤ 60) : (rc n : Int) ≤ 2 * n := by
  obtain ⟨r1, r2, r3⟩ := rc_r hn
  by_cases h : (rc n : Int) ≤ 2 * n
  · exact h
  · have h1 : (2 * n + 1) * 3 ≤ (rc n : Int) * (rc n : Int) := Int.mul_le_mul (by omega) (by omega) (by omega) (by omega)
    omega
theorem t_in {n t : Int} (hn : 1 ≤ n ∧ n ≤ 60) (ht : -120 ≤ t ∧ t ≤ 120) : (((4 : Int32) * ii n) < (ii t * ii t)) ↔ ¬ (-(rc n : Int) ≤ t ∧ t ≤ (rc n : Int)) := by
  obtain ⟨r1, r2, r3⟩ := rc_r hn
  have e : t * t = (t.natAbs : Int) * (t.natAbs : Int) := (Int.natAbs_mul_self (a := t)).symm
  have b1 := sq_le (i := t.natAbs) (k := 120) (by omega)
  have b0 : 0 ≤ (t.natAbs : Int) * (t.natAbs : Int) := Int.mul_nonneg (by omega) (by omega)
  have b2 : (120 : Int) * 120 = 14400 := by decide
  have b1' : (t.natAbs : Int) * (t.natAbs : Int) ≤ 14400 := Int.le_trans b1 (by decide)
  rw [show (4 : Int32) = ii 4 from rfl, ii_mul, ii_mul, e, ii_lt (r31_of (by omega) (by omega)) (r31_of (by omega) (by omega))]
  by_cases h : t.natAbs ≤ rc n
  · have := sq_le h
    constructor
    · intro q; omega
    · intro q; omega
  · have h2 := sq_le (i := rc n + 1) (k := t.natAbs) (by omega)
    have h3 : ((rc n : Int) + 1) * ((rc n : Int) + 1) ≤ (t.natAbs : Int) * (t.natAbs : Int) := by
      have e2 : (((rc n + 1 : Nat)) : Int) = (rc n : Int) + 1 := by omega
      rw [e2] at h2
      exact h2
    constructor
    · intro q; omega
    · intro q; omega
def cnt (n : Int) (i : Nat) : Nat := min (i - (2 * n.toNat - rc n)) (2 * rc n + 1)
theorem m_lS {h : JH} {m : Nat} {k n p : Int} (hm : jgI h m 9 1 = some (ii p)) (hv : jrecv h m 9 = some ()) (hk : 4 ≤ k ∧ k ≤ 60) (hn : 1 ≤ n ∧ n ≤ 60) (hp : 1 < p) (hp2 : p < 20000) : jloop (f_X12_traceLeft_L23 m (ii k) (ii n)) jF ((0 : Int64), (-2 : Int32) * ii n) h = some ((ll (lS k n p (2 * rc n + 1) % p), ii (2 * n + 1)), h) := by
  have r1 := (rc_r hn).1
  have r2 := rc_2n hn
  have key := jloop_run (f := f_X12_traceLeft_L23 m (ii k) (ii n)) (fun i => (ll (lS k n p (cnt n i) % p), ii (-2 * n + (i : Int)))) (fun _ => h) (4 * n.toNat + 1) (fun i hi => by
    have hsr := emod_r (x := lS k n p (cnt n i)) (p := p) (by omega)
    have hti := t_in hn (t := -2 * n + (i : Int)) ⟨by omega, by omega⟩
    have hnext : ii (-2 * n + (i : Int)) + (1 : Int32) = ii (-2 * n + ((i + 1 : Nat) : Int)) := by
      rw [show (1 : Int32) = ii 1 from rfl, ii_add]; congr 1; omega
    unfold f_X12_traceLeft_L23
    simp only []
    rw [if_neg (by rw [show (2 : Int32) = ii 2 from rfl, ii_mul, ii_lt (r31_of (by omega) (by omega)) (r31_of (by omega) (by omega))]; omega)]
    by_cases q : -(rc n : Int) ≤ -2 * n + (i : Int) ∧ -2 * n + (i : Int) ≤ (rc n : Int)
    · have hc : cnt n (i + 1) = cnt n i + 1 := by unfold cnt; omega
      have ht : -(rc n : Int) + (cnt n i : Int) = -2 * n + (i : Int) := by unfold cnt; omega
      have hlS : lS k n p (cnt n (i + 1)) = lS k n p (cnt n i) + lT k n p (-2 * n + (i : Int)) := by
        rw [hc]
        show lS k n p (cnt n i) + lT k n p (-(rc n : Int) + (cnt n i : Int)) = _
        rw [ht]
      rw [hlS, hnext]
      generalize htt : -2 * n + (i : Int) = t at *
      have hs := t_sq (t := t) (by omega)
      have htp := emod_r (x := t) (p := p) (by omega)
      have hw := cnW_r (4 * n - t * t)
      have hT := lT_r (k := k) (n := n) (t := t) hp hp2
      rw [if_neg (fun z => (hti.mp z) q), hv]
      simp only [Option.bind_some]
      rw [ii_l (r31_of (by omega) (by omega)), m_left hm (r63_of (by omega) (by omega)) (by omega) (by omega)]
      simp only [Option.bind_some]
      rw [ii_l (r31_of (by omega) (by omega)), m_leftQ hm hv ⟨by omega, hk.2⟩ ⟨by omega, by omega⟩ ⟨by omega, by omega⟩ hp hp2]
      simp only [Option.bind_some]
      rw [show (4 : Int32) = ii 4 from rfl, ii_mul, ii_mul, ii_sub, (cn_whole h (r31_of (by omega) (by omega))).2]
      simp only [Option.bind_some, hv]
      rw [ii_l (r31_of (by omega) (by omega)), ll_mul, ll_add, show (lQ t n p (k - 3).toNat).2 * cnW (4 * n - t * t) = lT k n p t from rfl, m_left hm (r63_of (by omega) (by omega)) (by omega) (by omega)]
      have hq := emod_r (x := lS k n p (cnt n i) % p + lT k n p t) (p := p) (by omega)
      simp only [Option.bind_some]
      rw [ii_l (r31_of (by omega) (by omega)), Int.emod_add_emod]
    · have hc : cnt n (i + 1) = cnt n i := by unfold cnt; omega
      rw [if_pos (hti.mpr q), hnext, hc]) (t := (ll (lS k n p (2 * rc n + 1) % p), ii (2 * n + 1))) (h1 := h) (by
    unfold f_X12_traceLeft_L23
    simp only []
    rw [show -2 * n + ((4 * n.toNat + 1 : Nat) : Int) = 2 * n + 1 by omega, if_pos (by rw [show (2 : Int32) = ii 2 from rfl, ii_mul, ii_lt (r31_of (by omega) (by omega)) (r31_of (by omega) (by omega))]; omega), show cnt n (4 * n.toNat + 1) = 2 * rc n + 1 by unfold cnt; omega]) (jF_big (by omega))
  rw [← key, show (-2 : Int32) = ii (-2) from rfl, ii_mul]
  simp only [Int.natCast_zero, Int.add_zero, show cnt n 0 = 0 by unfold cnt; omega]
  simp [lS]
  rfl
