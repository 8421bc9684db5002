theorem m_lD {h : JH} {m : Nat} {k n p s : Int} (hm : jgI h m 9 1 = some (ii p)) (hv : jrecv h m 9 = some ()) (hk : 4 ≤ k ∧ k ≤ 60) (hn : 1 ≤ n ∧ n ≤ 60) (hp : 1 < p) (hp2 : p < 20000) : jloop (f_X12_traceLeft_L135 m (ii k) (ii n)) jF (ll (s % p), (1 : Int32)) h = some ((ll (lD k n p s n.toNat % p), ii (n + 1)), h) := by
  have key := jloop_run (f := f_X12_traceLeft_L135 m (ii k) (ii n)) (fun i => (ll (lD k n p s i % p), ii (((i + 1 : Nat) : Int)))) (fun _ => h) n.toNat (fun i hi => by
    have hsr := emod_r (x := lD k n p s i) (p := p) (by omega)
    have hl := oL_r hn (d := ((i + 1 : Nat) : Int)) ⟨by omega, by omega⟩
    have hd31 : r31 (((i + 1 : Nat) : Int)) := r31_of (by omega) (by omega)
    have hdv : ii n / ii (((i + 1 : Nat) : Int)) = ii (n / ((i + 1 : Nat) : Int)) := by
      rw [ii_div (r31_of (by omega) (by omega)) hd31 (by omega), Int.tdiv_eq_ediv_of_nonneg (by omega)]
    have hq0 : 0 ≤ n / ((i + 1 : Nat) : Int) := Int.ediv_nonneg (by omega) (by omega)
    have hq1 : n / ((i + 1 : Nat) : Int) ≤ n := Int.ediv_le_self _ (by omega)
    have hle : ii (n / ((i + 1 : Nat) : Int)) ≤ ii (((i + 1 : Nat) : Int)) ↔ n / ((i + 1 : Nat) : Int) ≤ ((i + 1 : Nat) : Int) := ii_le (r31_of (by omega) (by omega)) hd31
    have hsucc : ii (((i + 1 : Nat) : Int)) + (1 : Int32) = ii (((i + 1 + 1 : Nat) : Int)) := by
      rw [show (1 : Int32) = ii 1 from rfl, ii_add]
      congr 1
    have hpw := pw_r (b := oL n ((i + 1 : Nat) : Int)) hp (k - 1).toNat
    have hkk : ii k - (1 : Int32) = ii (((k - 1).toNat : Nat) : Int) := by
      rw [show (1 : Int32) = ii 1 from rfl, ii_sub]; congr 1; omega
    have hrz := rem_zero (a := n) (z := ((i + 1 : Nat) : Int)) (r31_of (by omega) (by omega)) hd31 (by omega)
    have tail : ∀ b : Int, b = oL n ((i + 1 : Nat) : Int) → ((f_X12_power m (ii b) (ii (((k - 1).toNat : Nat) : Int)) h).bind fun q27 => (jrecv q27.2 m 9).bind fun u31 => (f_X12_left m (ll (lD k n p s i % p) + ((12 : Int64) * q27.1.toInt64)) q27.2).bind fun q29 => some ((Sum.inl (q29.1.toInt64, ii (((i + 1 + 1 : Nat) : Int))) : (Int64 × Int32) ⊕ (Int64 × Int32)), q29.2)) = some (.inl (ll ((lD k n p s i + 12 * pw (oL n ((i + 1 : Nat) : Int)) p (k - 1).toNat) % p), ii (((i + 1 + 1 : Nat) : Int))), h) := by
      rintro b rfl
      rw [m_power hm ⟨hl.1, by omega⟩ hp (by omega) (by omega)]
      simp only [Option.bind_some, hv]
      rw [ii_l (r31_of (by omega) (by omega)), show (12 : Int64) = ll 12 from rfl, ll_mul, ll_add, m_left hm (r63_of (by omega) (by omega)) (by omega) (by omega)]
      have hq := emod_r (x := lD k n p s i % p + 12 * pw (oL n ((i + 1 : Nat) : Int)) p (k - 1).toNat) (p := p) (by omega)
      simp only [Option.bind_some]
      rw [ii_l (r31_of (by omega) (by omega)), Int.emod_add_emod]
    unfold f_X12_traceLeft_L135
    simp only []
    rw [if_neg (by rw [ii_lt (r31_of (by omega) (by omega)) hd31]; omega), jnz_ii hd31 (by omega)]
    simp only [Option.bind_some]
    by_cases q : ((i + 1 : Nat) : Int) ∣ n
    · rw [if_pos (hrz.mpr q), hdv, hkk, hsucc, hv]
      simp only [Option.bind_some, lD, if_pos q]
      by_cases g : n / ((i + 1 : Nat) : Int) ≤ ((i + 1 : Nat) : Int)
      · rw [if_pos (hle.mpr g)]
        exact tail _ (by unfold oL; split <;> omega)
      · rw [if_neg (fun z => g (hle.mp z))]
        exact tail _ (by unfold oL; split <;> omega)
    · rw [if_neg (fun z => q (hrz.mp z)), hsucc]
      simp only [lD, if_neg q]) (t := (ll (lD k n p s n.toNat % p), ii (n + 1))) (h1 := h) (by
    unfold f_X12_traceLeft_L135
    simp only []
    rw [show ((n.toNat + 1 : Nat) : Int) = n + 1 by omega, if_pos (by rw [ii_lt (r31_of (by omega) (by omega)) (r31_of (by omega) (by omega))]; omega)]) (jF_big (by omega))
  exact key
