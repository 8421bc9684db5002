/-! P3: the class's traces. -/
/-- the greatest t with t t at most m -/
def rcO (m : Int) : Nat → Nat
  | 0 => 0
  | j + 1 => if ((j + 1 : Nat) : Int) * ((j + 1 : Nat) : Int) ≤ m then j + 1 else rcO m j
def rc (n : Int) : Nat := rcO (4 * n) 15
theorem rc_r {n : Int} (hn : 1 ≤ n ∧ n ≤ 60) : rc n ≤ 15 ∧ (rc n : Int) * (rc n : Int) ≤ 4 * n ∧ 4 * n < ((rc n : Int) + 1) * ((rc n : Int) + 1) := by
  have key : ∀ j : Nat, 4 * n < ((j : Int) + 1) * ((j : Int) + 1) → rcO (4 * n) j ≤ j ∧ (rcO (4 * n) j : Int) * (rcO (4 * n) j : Int) ≤ 4 * n ∧ 4 * n < ((rcO (4 * n) j : Int) + 1) * ((rcO (4 * n) j : Int) + 1) := by
    intro j
    induction j with
    | zero => intro h; exact ⟨Nat.le_refl _, by simp [rcO]; omega, by simpa [rcO] using h⟩
    | succ j ih =>
      intro h
      by_cases h2 : ((j + 1 : Nat) : Int) * ((j + 1 : Nat) : Int) ≤ 4 * n
      · simp only [rcO, if_pos h2]
        exact ⟨Nat.le_refl _, h2, h⟩
      · simp only [rcO, if_neg h2]
        obtain ⟨a, b, c⟩ := ih (by simpa using h2)
        exact ⟨by omega, b, c⟩
  exact key 15 (by show 4 * n < 16 * 16; omega)
theorem sq_le {i k : Nat} (h : i ≤ k) : (i : Int) * i ≤ (k : Int) * k := by
  have : i * i ≤ k * k := Nat.mul_le_mul h h
  exact_mod_cast this
theorem rc_go {n : Int} (hn : 1 ≤ n ∧ n ≤ 60) {i : Nat} (hi : i < rc n) : ¬ (((4 : Int32) * ii n) < (ii ((i : Int) + 1) * ii ((i : Int) + 1))) := by
  obtain ⟨r1, r2, r3⟩ := rc_r hn
  have h1 := sq_le (i := i + 1) (k := rc n) (by omega)
  have h2 := sq_le (i := rc n) (k := 15) r1
  have h0 : (0 : Int) ≤ ((i : Int) + 1) * ((i : Int) + 1) := Int.mul_nonneg (by omega) (by omega)
  simp only [Int.natCast_add] at h1
  rw [show (4 : Int32) = ii 4 from rfl, ii_mul, ii_mul, ii_lt (r31_of (by omega) (by omega)) (r31_of (by omega) (by simp at h1 h2; omega))]
  simp at h1
  omega
theorem rc_end {n : Int} (hn : 1 ≤ n ∧ n ≤ 60) : ((4 : Int32) * ii n) < (ii ((rc n : Int) + 1) * ii ((rc n : Int) + 1)) := by
  obtain ⟨r1, r2, r3⟩ := rc_r hn
  have h2 := sq_le (i := rc n + 1) (k := 16) (by omega)
  simp only [Int.natCast_add] at h2
  rw [show (4 : Int32) = ii 4 from rfl, ii_mul, ii_mul, ii_lt (r31_of (by omega) (by omega)) (r31_of (by omega) (by simp at h2; omega))]
  exact r3
theorem x_reach (h : JH) {n : Int} (hn : 1 ≤ n ∧ n ≤ 60) : f_X10_reachOf (ii n) h = some (ii (rc n : Int), h) := by
  have r1 := (rc_r hn).1
  unfold f_X10_reachOf
  have key := jloop_run (f := f_X10_reachOf_L4 (ii n)) (fun i => (ii (i : Int), ii ((i : Int) + 1))) (fun _ => h) (rc n) (fun i hi => by
    unfold f_X10_reachOf_L4
    simp only []
    rw [if_neg (rc_go hn hi), show (1 : Int32) = ii 1 from rfl, ii_add]
    rfl) (t := (ii (rc n : Int), ii ((rc n : Int) + 1))) (h1 := h) (by
    unfold f_X10_reachOf_L4
    simp only []
    rw [if_pos (rc_end hn)]) (jF_big (by omega))
  have key' : jloop (f_X10_reachOf_L4 (ii n)) jF ((0 : Int32), (1 : Int32)) h = some ((ii (rc n : Int), ii ((rc n : Int) + 1)), h) := key
  rw [key']
  rfl
/-- the two sums -/
def oT (k n t : Int) : Option Int := omul (oQ t n (k - 3).toNat).2 (some (cnW (4 * n - t * t)))
def oS (k n : Int) : Nat → Option Int
  | 0 => some 0
  | i + 1 => oadd (oS k n i) (oT k n (-(rc n : Int) + (i : Int)))
def oL (n d : Int) : Int := if n / d < d then n / d else d
def oD (k n : Int) (s : Option Int) : Nat → Option Int
  | 0 => s
  | i + 1 => if ((i + 1 : Nat) : Int) ∣ n then oadd (oD k n s i) (omul (opw (oL n ((i + 1 : Nat) : Int)) (k - 1).toNat) (some 12)) else oD k n s i
def trO (k n : Int) : Option Int := oD k n (oS k n (2 * rc n + 1)) n.toNat
theorem oS_ok (k n : Int) (i : Nat) : okn (oS k n i) := by
  cases i with
  | zero => exact some_ok (by decide) (by decide)
  | succ i => exact oadd_ok _ _
theorem oD_ok (k n : Int) {s : Option Int} (hs : okn s) (i : Nat) : okn (oD k n s i) := by
  induction i with
  | zero => exact hs
  | succ i ih =>
    unfold oD
    split
    · exact oadd_ok _ _
    · exact ih
theorem oL_r {n d : Int} (hn : 1 ≤ n ∧ n ≤ 60) (hd : 1 ≤ d ∧ d ≤ n) : 0 ≤ oL n d ∧ oL n d ≤ 60 := by
  have h1 : 0 ≤ n / d := Int.ediv_nonneg (by omega) (by omega)
  unfold oL
  split <;> omega
theorem t_sq {t : Int} (ht : -16 ≤ t ∧ t ≤ 16) : 0 ≤ t * t ∧ t * t ≤ 256 := by
  have h1 : t * t = t.natAbs * t.natAbs := (Int.natAbs_mul_self (a := t)).symm
  have h2 : t.natAbs ≤ 16 := by omega
  have h3 : t.natAbs * t.natAbs ≤ 16 * 16 := Nat.mul_le_mul h2 h2
  omega
theorem cnW_ok (d : Int) : okn (some (cnW d)) := by
  have := cnW_r d
  exact some_ok (by unfold LIM; omega) (by unfold LIM; omega)
theorem x_exact (h : JH) {k n : Int} (hk : 4 ≤ k ∧ k ≤ 60) (hn : 1 ≤ n ∧ n ≤ 60) : f_X10_exact (ii k) (ii n) h = some (match trO k n with | none => (-9223372036854775808 : Int64) | some s => ll (-s) / (24 : Int64), h) := by
  have r1 := (rc_r hn).1
  unfold f_X10_exact
  rw [x_reach h hn]
  simp only [Option.bind_some]
  have k1 := jloop_run (f := f_X10_exact_L13 (ii k) (ii n) (ii (rc n : Int))) (fun i => (enc (oS k n i), ii (-(rc n : Int) + (i : Int)))) (fun _ => h) (2 * rc n + 1) (fun i hi => by
    have hs := t_sq (t := -(rc n : Int) + (i : Int)) (by omega)
    unfold f_X10_exact_L13
    simp only []
    rw [if_neg (by rw [ii_lt (r31_of (by omega) (by omega)) (r31_of (by omega) (by omega))]; omega), show (4 : Int32) = ii 4 from rfl, ii_mul, ii_mul, ii_sub, (cn_whole h (r31_of (by omega) (by omega))).1]
    simp only [Option.bind_some]
    rw [x_Q h ⟨by omega, hk.2⟩ ⟨by omega, by omega⟩ ⟨by omega, by omega⟩]
    simp only [Option.bind_some]
    have hw := cnW_r (4 * n - (-(rc n : Int) + (i : Int)) * (-(rc n : Int) + (i : Int)))
    rw [ii_l (r31_of (by omega) (by omega)), show ∀ z : Int, ll z = enc (some z) from fun _ => rfl, x_mul h (oQ_ok (by unfold LIM; omega) _).2 (cnW_ok _)]
    simp only [Option.bind_some]
    rw [x_add h (oS_ok k n i) (omul_ok _ _)]
    simp only [Option.bind_some, show (1 : Int32) = ii 1 from rfl, ii_add]
    rw [show -(rc n : Int) + (i : Int) + 1 = -(rc n : Int) + ((i + 1 : Nat) : Int) by omega]
    rfl) (t := (enc (oS k n (2 * rc n + 1)), ii ((rc n : Int) + 1))) (h1 := h) (by
    unfold f_X10_exact_L13
    simp only []
    rw [show -(rc n : Int) + ((2 * rc n + 1 : Nat) : Int) = (rc n : Int) + 1 by omega, if_pos (by rw [ii_lt (r31_of (by omega) (by omega)) (r31_of (by omega) (by omega))]; omega)]) (jF_big (by omega))
  have k1' : jloop (f_X10_exact_L13 (ii k) (ii n) (ii (rc n : Int))) jF ((0 : Int64), -ii (rc n : Int)) h = some ((enc (oS k n (2 * rc n + 1)), ii ((rc n : Int) + 1)), h) := by
    rw [ii_neg, ← k1]
    simp only [Int.natCast_zero, Int.add_zero]
    rfl
  rw [k1']
  simp only [Option.bind_some]
  have k2 := jloop_run (f := f_X10_exact_L61 (ii k) (ii n)) (fun i => (enc (oD k n (oS k n (2 * rc n + 1)) i), ii (((i + 1 : Nat) : Int)))) (fun _ => h) n.toNat (fun i hi => by
    have hl := oL_r hn (d := ((i + 1 : Nat) : Int)) ⟨by omega, by omega⟩
    have hd31 : r31 (((i + 1 : Nat) : Int)) := r31_of (by omega) (by omega)
    have hdv : ii n / ii (((i + 1 : Nat) : Int)) = ii (n / ((i + 1 : Nat) : Int)) := by
      rw [ii_div (r31_of (by omega) (by omega)) hd31 (by omega), Int.tdiv_eq_ediv_of_nonneg (by omega)]
    have hq0 : 0 ≤ n / ((i + 1 : Nat) : Int) := Int.ediv_nonneg (by omega) (by omega)
    have hq1 : n / ((i + 1 : Nat) : Int) ≤ n := Int.ediv_le_self _ (by omega)
    have hmin : (if (ii n / ii (((i + 1 : Nat) : Int))) < ii (((i + 1 : Nat) : Int)) then (ii n / ii (((i + 1 : Nat) : Int))) else ii (((i + 1 : Nat) : Int))) = ii (oL n ((i + 1 : Nat) : Int)) := by
      have e : ii (n / ((i + 1 : Nat) : Int)) < ii (((i + 1 : Nat) : Int)) ↔ n / ((i + 1 : Nat) : Int) < ((i + 1 : Nat) : Int) := ii_lt (r31_of (by omega) (by omega)) hd31
      rw [hdv]
      unfold oL
      by_cases q : n / ((i + 1 : Nat) : Int) < ((i + 1 : Nat) : Int)
      · rw [if_pos (e.mpr q), if_pos q]
      · rw [if_neg (fun z => q (e.mp z)), if_neg q]
    have hsucc : ii (((i + 1 : Nat) : Int)) + (1 : Int32) = ii (((i + 1 + 1 : Nat) : Int)) := by
      rw [show (1 : Int32) = ii 1 from rfl, ii_add]
      congr 1
    unfold f_X10_exact_L61
    simp only []
    rw [if_neg (by rw [ii_lt (r31_of (by omega) (by omega)) hd31]; omega), jnz_ii hd31 (by omega)]
    simp only [Option.bind_some]
    have hrz := rem_zero (a := n) (z := ((i + 1 : Nat) : Int)) (r31_of (by omega) (by omega)) hd31 (by omega)
    by_cases q : ((i + 1 : Nat) : Int) ∣ n
    · rw [if_pos (hrz.mpr q), hmin, show ii k - (1 : Int32) = ii (((k - 1).toNat : Nat) : Int) by rw [show (1 : Int32) = ii 1 from rfl, ii_sub]; congr 1; omega, x_power h ⟨by omega, by omega⟩ (by omega)]
      simp only [Option.bind_some]
      rw [show (12 : Int64) = enc (some 12) from rfl, x_mul h (opw_ok _ _) (some_ok (by decide) (by decide))]
      simp only [Option.bind_some]
      rw [x_add h (oD_ok k n (oS_ok k n _) i) (omul_ok _ _)]
      simp only [Option.bind_some, hsucc, oD, if_pos q]
    · rw [if_neg (fun z => q (hrz.mp z)), hsucc]
      simp only [oD, if_neg q]) (t := (enc (trO k n), ii (n + 1))) (h1 := h) (by
    unfold f_X10_exact_L61
    simp only []
    rw [show ((n.toNat + 1 : Nat) : Int) = n + 1 by omega, if_pos (by rw [ii_lt (r31_of (by omega) (by omega)) (r31_of (by omega) (by omega))]; omega)]
    rfl) (jF_big (by omega))
  have k2' : jloop (f_X10_exact_L61 (ii k) (ii n)) jF (enc (oS k n (2 * rc n + 1)), (1 : Int32)) h = some ((enc (trO k n), ii (n + 1)), h) := k2
  rw [k2']
  simp only [Option.bind_some, lg_cmp_eq]
  have hok : okn (trO k n) := oD_ok k n (oS_ok k n _) _
  cases ht : trO k n with
  | none => rw [if_pos (show enc none = (-9223372036854775808 : Int64) from rfl)]
  | some s =>
    rw [ht] at hok
    have := hok s rfl
    rw [show enc (some s) = ll s from rfl, if_neg (huge_ne this), ll_neg]
