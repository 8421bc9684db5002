/-! P3: the class's traceLeft. -/
def lT (k n p t : Int) : Int := (lQ t n p (k - 3).toNat).2 * cnW (4 * n - t * t)
def lS (k n p : Int) : Nat → Int
  | 0 => 0
  | i + 1 => lS k n p i + lT k n p (-(rc n : Int) + (i : Int))
def lD (k n p s : Int) : Nat → Int
  | 0 => s
  | i + 1 => if ((i + 1 : Nat) : Int) ∣ n then lD k n p s i + 12 * pw (oL n ((i + 1 : Nat) : Int)) p (k - 1).toNat else lD k n p s i
theorem lT_r {k n p t : Int} (hp : 1 < p) (hp2 : p < 20000) : -400000000 ≤ lT k n p t ∧ lT k n p t ≤ 400000000 := by
  have h1 := (lQ_r (t := t) (n := n) hp (k - 3).toNat).2
  have h2 := cnW_r (4 * n - t * t)
  have := mul_bd (M := 20000) (N := 20000) (a := cnW (4 * n - t * t)) ⟨by omega, by omega⟩ (b := (lQ t n p (k - 3).toNat).2) ⟨h1.1, by omega⟩
  unfold lT
  rw [Int.mul_comm]
  omega
theorem lS_r {k n p : Int} (hp : 1 < p) (hp2 : p < 20000) (i : Nat) : -(400000000 * (i : Int)) ≤ lS k n p i ∧ lS k n p i ≤ 400000000 * (i : Int) := by
  induction i with
  | zero => simp [lS]
  | succ i ih =>
    have := lT_r (k := k) (n := n) (t := -(rc n : Int) + (i : Int)) hp hp2
    simp only [lS]
    omega
theorem lD_r {k n p s : Int} (hp : 1 < p) (hp2 : p < 20000) (i : Nat) : s ≤ lD k n p s i ∧ lD k n p s i ≤ s + 240000 * (i : Int) := by
  induction i with
  | zero => simp [lD]
  | succ i ih =>
    have := pw_r (b := oL n ((i + 1 : Nat) : Int)) hp (k - 1).toNat
    simp only [lD]
    split <;> omega
def lSum (k n p : Int) : Int := lD k n p (lS k n p (2 * rc n + 1)) n.toNat
theorem x_left (h : JH) {k n p : Int} (hk : 4 ≤ k ∧ k ≤ 60) (hn : 1 ≤ n ∧ n ≤ 60) (hp : 2 ≤ p) (hp2 : p < 20000) : f_X10_left (ii k) (ii n) (ii p) h = some (ii ((-(lSum k n p)) % p * pw 24 p (p - 2).toNat % p), h) := by
  have r1 := (rc_r hn).1
  have hp1 : 1 < p := by omega
  unfold f_X10_left
  rw [x_reach h hn]
  simp only [Option.bind_some]
  have k1 := jloop_run (f := f_X10_left_L13 (ii k) (ii n) (ii p) (ii (rc n : Int))) (fun i => (ll (lS k n p i), ii (-(rc n : Int) + (i : Int)))) (fun _ => h) (2 * rc n + 1) (fun i hi => by
    have hs := t_sq (t := -(rc n : Int) + (i : Int)) (by omega)
    have hr := (lQ_r (t := -(rc n : Int) + (i : Int)) (n := n) hp1 (k - 3).toNat).2
    have hw := cnW_r (4 * n - (-(rc n : Int) + (i : Int)) * (-(rc n : Int) + (i : Int)))
    unfold f_X10_left_L13
    simp only []
    rw [if_neg (by rw [ii_lt (r31_of (by omega) (by omega)) (r31_of (by omega) (by omega))]; omega), x_leftQ h ⟨by omega, hk.2⟩ ⟨by omega, by omega⟩ ⟨by omega, by omega⟩ hp1 hp2]
    simp only [Option.bind_some]
    rw [show (4 : Int32) = ii 4 from rfl, ii_mul, ii_mul, ii_sub, (cn_whole h (r31_of (by omega) (by omega))).1]
    simp only [Option.bind_some]
    rw [ii_l (r31_of (by omega) (by omega)), ii_l (r31_of (by omega) (by omega)), ll_mul, ll_add, show (1 : Int32) = ii 1 from rfl, ii_add, show -(rc n : Int) + (i : Int) + 1 = -(rc n : Int) + ((i + 1 : Nat) : Int) by omega]
    rfl) (t := (ll (lS k n p (2 * rc n + 1)), ii ((rc n : Int) + 1))) (h1 := h) (by
    unfold f_X10_left_L13
    simp only []
    rw [show -(rc n : Int) + ((2 * rc n + 1 : Nat) : Int) = (rc n : Int) + 1 by omega, if_pos (by rw [ii_lt (r31_of (by omega) (by omega)) (r31_of (by omega) (by omega))]; omega)]) (jF_big (by omega))
  have k1' : jloop (f_X10_left_L13 (ii k) (ii n) (ii p) (ii (rc n : Int))) jF ((0 : Int64), -ii (rc n : Int)) h = some ((ll (lS k n p (2 * rc n + 1)), ii ((rc n : Int) + 1)), h) := by
    rw [ii_neg, ← k1]
    simp only [Int.natCast_zero, Int.add_zero]
    rfl
  rw [k1']
  simp only [Option.bind_some]
  have k2 := jloop_run (f := f_X10_left_L55 (ii k) (ii n) (ii p)) (fun i => (ll (lD k n p (lS k n p (2 * rc n + 1)) i), ii (((i + 1 : Nat) : Int)))) (fun _ => h) n.toNat (fun i hi => by
    have hl := oL_r hn (d := ((i + 1 : Nat) : Int)) ⟨by omega, by omega⟩
    have hd31 : r31 (((i + 1 : Nat) : Int)) := r31_of (by omega) (by omega)
    have hdv : ii n / ii (((i + 1 : Nat) : Int)) = ii (n / ((i + 1 : Nat) : Int)) := by
      rw [ii_div (r31_of (by omega) (by omega)) hd31 (by omega), Int.tdiv_eq_ediv_of_nonneg (by omega)]
    have hq0 : 0 ≤ n / ((i + 1 : Nat) : Int) := Int.ediv_nonneg (by omega) (by omega)
    have hq1 : n / ((i + 1 : Nat) : Int) ≤ n := Int.ediv_le_self _ (by omega)
    have hmin : (if (ii n / ii (((i + 1 : Nat) : Int))) < ii (((i + 1 : Nat) : Int)) then (ii n / ii (((i + 1 : Nat) : Int))) else ii (((i + 1 : Nat) : Int))) = ii (oL n ((i + 1 : Nat) : Int)) := by
      have e : ii (n / ((i + 1 : Nat) : Int)) < ii (((i + 1 : Nat) : Int)) ↔ n / ((i + 1 : Nat) : Int) < ((i + 1 : Nat) : Int) := ii_lt (r31_of (by omega) (by omega)) hd31
      rw [hdv]
      unfold oL
      by_cases q : n / ((i + 1 : Nat) : Int) < ((i + 1 : Nat) : Int)
      · rw [if_pos (e.mpr q), if_pos q]
      · rw [if_neg (fun z => q (e.mp z)), if_neg q]
    have hsucc : ii (((i + 1 : Nat) : Int)) + (1 : Int32) = ii (((i + 1 + 1 : Nat) : Int)) := by
      rw [show (1 : Int32) = ii 1 from rfl, ii_add]
      congr 1
    have hpw := pw_r (b := oL n ((i + 1 : Nat) : Int)) hp1 (k - 1).toNat
    unfold f_X10_left_L55
    simp only []
    rw [if_neg (by rw [ii_lt (r31_of (by omega) (by omega)) hd31]; omega), jnz_ii hd31 (by omega)]
    simp only [Option.bind_some]
    have hrz := rem_zero (a := n) (z := ((i + 1 : Nat) : Int)) (r31_of (by omega) (by omega)) hd31 (by omega)
    by_cases q : ((i + 1 : Nat) : Int) ∣ n
    · rw [if_pos (hrz.mpr q), hmin, show ii k - (1 : Int32) = ii (((k - 1).toNat : Nat) : Int) by rw [show (1 : Int32) = ii 1 from rfl, ii_sub]; congr 1; omega, f_power h (r31_of (by omega) (by omega)) hp1 (by omega) (by omega)]
      simp only [Option.bind_some]
      rw [ii_l (r31_of (by omega) (by omega)), show (12 : Int64) = ll 12 from rfl, ll_mul, ll_add, hsucc]
      simp only [lD, if_pos q]
    · rw [if_neg (fun z => q (hrz.mp z)), hsucc]
      simp only [lD, if_neg q]) (t := (ll (lSum k n p), ii (n + 1))) (h1 := h) (by
    unfold f_X10_left_L55
    simp only []
    rw [show ((n.toNat + 1 : Nat) : Int) = n + 1 by omega, if_pos (by rw [ii_lt (r31_of (by omega) (by omega)) (r31_of (by omega) (by omega))]; omega)]
    rfl) (jF_big (by omega))
  have k2' : jloop (f_X10_left_L55 (ii k) (ii n) (ii p)) jF (ll (lS k n p (2 * rc n + 1)), (1 : Int32)) h = some ((ll (lSum k n p), ii (n + 1)), h) := k2
  rw [k2']
  simp only [Option.bind_some]
  have b1 := lS_r (k := k) (n := n) hp1 hp2 (2 * rc n + 1)
  have b2 := lD_r (k := k) (n := n) (s := lS k n p (2 * rc n + 1)) hp1 hp2 n.toNat
  have hb : -100000000000 ≤ lSum k n p ∧ lSum k n p ≤ 100000000000 := by unfold lSum; omega
  have hm := emod_r (x := -(lSum k n p)) (p := p) (by omega)
  rw [ll_neg, f_of h (r63_of (by omega) (by omega)) (by omega) (by omega)]
  simp only [Option.bind_some]
  rw [show (24 : Int32) = ii 24 from rfl, f_divide h ⟨hm.1, by omega⟩ (by decide) hp hp2]
  rfl
