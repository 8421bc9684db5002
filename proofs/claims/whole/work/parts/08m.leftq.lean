/-! P3: traces by what a prime leaves: the q's. -/
def lQ (t n p : Int) : Nat → Int × Int
  | 0 => (1, t % p)
  | i + 1 => ((lQ t n p i).2, (t * (lQ t n p i).2 - n * (lQ t n p i).1) % p)
theorem lQ_r {t n p : Int} (hp : 1 < p) (i : Nat) : (0 ≤ (lQ t n p i).1 ∧ (lQ t n p i).1 < p) ∧ (0 ≤ (lQ t n p i).2 ∧ (lQ t n p i).2 < p) := by
  induction i with
  | zero => exact ⟨⟨by simp [lQ], by simpa [lQ] using hp⟩, emod_r (by omega)⟩
  | succ i ih => exact ⟨ih.2, emod_r (by omega)⟩
theorem mul_bd {a b M N : Int} (ha : -M ≤ a ∧ a ≤ M) (hb : 0 ≤ b ∧ b ≤ N) : -(M * N) ≤ a * b ∧ a * b ≤ M * N := by
  have hM : 0 ≤ M := by omega
  have h1 : a * b ≤ M * N := by
    rcases Int.le_total 0 a with h | h
    · exact Int.mul_le_mul ha.2 hb.2 hb.1 hM
    · exact Int.le_trans (Int.mul_nonpos_of_nonpos_of_nonneg h hb.1) (Int.mul_nonneg hM (by omega))
  have h2 : -a * b ≤ M * N := by
    rcases Int.le_total 0 (-a) with h | h
    · exact Int.mul_le_mul (by omega) hb.2 hb.1 hM
    · exact Int.le_trans (Int.mul_nonpos_of_nonpos_of_nonneg h hb.1) (Int.mul_nonneg hM (by omega))
  rw [Int.neg_mul] at h2
  omega
theorem x_leftQ (h : JH) {k t n p : Int} (hk : 3 ≤ k ∧ k ≤ 60) (ht : -1000 ≤ t ∧ t ≤ 1000) (hn : 0 ≤ n ∧ n ≤ 1000) (hp : 1 < p) (hp2 : p < 20000) : f_X10_leftQ (ii k) (ii t) (ii n) (ii p) h = some (ii (lQ t n p (k - 3).toNat).2, h) := by
  unfold f_X10_leftQ
  rw [ii_l (r31_of (by omega) (by omega)), f_of h (r63_of (by omega) (by omega)) (by omega) (by omega)]
  simp only [Option.bind_some]
  have key := jloop_run (f := f_X10_leftQ_L14 (ii k) (ii t) (ii n) (ii p)) (fun i => (ii (lQ t n p i).1, ii (lQ t n p i).2, ii (4 + (i : Int)))) (fun _ => h) (k - 3).toNat (fun i hi => by
    have hr := lQ_r (t := t) (n := n) hp i
    have b1 := mul_bd (M := 1000) (N := 20000) ht (b := (lQ t n p i).2) ⟨hr.2.1, by omega⟩
    have b2 := mul_bd (M := 1000) (N := 20000) (a := n) ⟨by omega, hn.2⟩ (b := (lQ t n p i).1) ⟨hr.1.1, by omega⟩
    unfold f_X10_leftQ_L14
    simp only []
    rw [if_neg (by rw [ii_lt (r31_of (by omega) (by omega)) (r31_of (by omega) (by omega))]; omega), ii_l (r31_of (by omega) (by omega)), ii_l (r31_of (by omega) (by omega)), ii_l (r31_of (by omega) (by omega)), ii_l (r31_of (by omega) (by omega)), ll_mul, ll_mul, ll_sub, f_of h (r63_of (by omega) (by omega)) (by omega) (by omega)]
    simp only [Option.bind_some, show (1 : Int32) = ii 1 from rfl, ii_add, lQ]
    rw [show (4 : Int) + (i : Int) + 1 = 4 + ((i + 1 : Nat) : Int) by omega]) (t := (ii (lQ t n p (k - 3).toNat).1, ii (lQ t n p (k - 3).toNat).2, ii (k + 1))) (h1 := h) (by
    unfold f_X10_leftQ_L14
    simp only []
    rw [show (4 : Int) + (((k - 3).toNat : Nat) : Int) = k + 1 by omega, if_pos (by rw [ii_lt (r31_of (by omega) (by omega)) (r31_of (by omega) (by omega))]; omega)]) (jF_big (by omega))
  have key' : jloop (f_X10_leftQ_L14 (ii k) (ii t) (ii n) (ii p)) jF ((1 : Int32), ii (t % p), (4 : Int32)) h = some ((ii (lQ t n p (k - 3).toNat).1, ii (lQ t n p (k - 3).toNat).2, ii (k + 1)), h) := key
  rw [key']
  rfl
theorem m_leftQ {h : JH} {m : Nat} {k t n p : Int} (hm : jgI h m 9 1 = some (ii p)) (hv : jrecv h m 9 = some ()) (hk : 3 ≤ k ∧ k ≤ 60) (ht : -1000 ≤ t ∧ t ≤ 1000) (hn : 0 ≤ n ∧ n ≤ 1000) (hp : 1 < p) (hp2 : p < 20000) (a3 : Int64) : jloop (f_X12_traceLeft_L58 m (ii k) (ii n) a3 (ii t)) jF ((1 : Int64), ll (t % p), (4 : Int32)) h = some ((ll (lQ t n p (k - 3).toNat).1, ll (lQ t n p (k - 3).toNat).2, ii (k + 1)), h) := by
  have htp := emod_r (x := t) (p := p) (by omega)
  have key := jloop_run (f := f_X12_traceLeft_L58 m (ii k) (ii n) a3 (ii t)) (fun i => (ll (lQ t n p i).1, ll (lQ t n p i).2, ii (4 + (i : Int)))) (fun _ => h) (k - 3).toNat (fun i hi => by
    have hr := lQ_r (t := t) (n := n) hp i
    have b1 := mul_bd (M := 20000) (N := 20000) (a := t % p) ⟨by omega, by omega⟩ (b := (lQ t n p i).2) ⟨hr.2.1, by omega⟩
    have b2 := mul_bd (M := 1000) (N := 20000) (a := n) ⟨by omega, hn.2⟩ (b := (lQ t n p i).1) ⟨hr.1.1, by omega⟩
    unfold f_X12_traceLeft_L58
    simp only []
    rw [if_neg (by rw [ii_lt (r31_of (by omega) (by omega)) (r31_of (by omega) (by omega))]; omega), hv]
    simp only [Option.bind_some]
    rw [ii_l (r31_of (by omega) (by omega)), m_left hm (r63_of (by omega) (by omega)) (by omega) (by omega)]
    simp only [Option.bind_some, hv]
    rw [ii_l (r31_of (by omega) (by omega)), ii_l (r31_of (by omega) (by omega)), ll_mul, ll_mul, ll_sub, m_left hm (r63_of (by omega) (by omega)) (by omega) (by omega)]
    have hq := emod_r (x := t % p * (lQ t n p i).2 - n * (lQ t n p i).1) (p := p) (by omega)
    simp only [Option.bind_some, show (1 : Int32) = ii 1 from rfl, ii_add, lQ]
    rw [show (4 : Int) + (i : Int) + 1 = 4 + ((i + 1 : Nat) : Int) by omega, ii_l (r31_of (by omega) (by omega)), Int.sub_emod (t % p * _), em_mul_l, ← Int.sub_emod]) (t := (ll (lQ t n p (k - 3).toNat).1, ll (lQ t n p (k - 3).toNat).2, ii (k + 1))) (h1 := h) (by
    unfold f_X12_traceLeft_L58
    simp only []
    rw [show (4 : Int) + (((k - 3).toNat : Nat) : Int) = k + 1 by omega, if_pos (by rw [ii_lt (r31_of (by omega) (by omega)) (r31_of (by omega) (by omega))]; omega)]) (jF_big (by omega))
  exact key
