theorem oD_none {k n : Int} {s : Option Int} {i : Nat} (h : oD k n s i = none) (j : Nat) : oD k n s (i + j) = none := by
  induction j with
  | zero => exact h
  | succ j ih =>
    show (if ((i + j + 1 : Nat) : Int) ∣ n then oadd (oD k n s (i + j)) _ else oD k n s (i + j)) = none
    rw [ih]
    split <;> rfl
theorem m_D {S : SS} {A B : ZA} {c} {m : Nat} {rf} (hM : S m = some (.inl (9, 51, rf))) (hr : rf 33 = none) {k n : Int} (hk : 4 ≤ k ∧ k ≤ 60) (hn : 1 ≤ n ∧ n ≤ 60) {s0 : Option Int} (hs0 : okn s0) :
    ∀ (r i fuel : Nat) (s : Int), r < fuel → i + r = n.toNat → oD k n s0 i = some s → ∃ (t' : Int32) (v : Int64) (f : Int), jloop (f_X12_traceOf_L157 m (ii k) (ii n)) fuel (ll s, ii ((i + 1 : Nat) : Int)) (mz S (fl A m 0) B c) = some ((v, t'), mz S (fl A m f) B c) ∧ ((f = 0 ∧ ∃ z, oD k n s0 n.toNat = some z ∧ v = ll z) ∨ (f = 1 ∧ oD k n s0 n.toNat = none)) := by
  intro r
  induction r with
  | zero =>
    intro i fuel s hf hi h1
    obtain ⟨fu, rfl⟩ : ∃ q, fuel = q + 1 := ⟨fuel - 1, by omega⟩
    refine ⟨ii ((i + 1 : Nat) : Int), ll s, 0, jloop_end ?_, Or.inl ⟨rfl, s, ?_, rfl⟩⟩
    · unfold f_X12_traceOf_L157
      simp only []
      rw [if_pos (by rw [ii_lt (r31_of (by omega) (by omega)) (r31_of (by omega) (by omega))]; omega)]
    · rw [← hi]; exact h1
  | succ r ih =>
    intro i fuel s hfu hi h1
    obtain ⟨fu, rfl⟩ : ∃ q, fuel = q + 1 := ⟨fuel - 1, by omega⟩
    obtain ⟨fu2, rfl⟩ : ∃ q, fu = q + 1 := ⟨fu - 1, by omega⟩
    have hs : -LIM ≤ s ∧ s ≤ LIM := oD_ok k n hs0 i s h1
    have hd31 : r31 (((i + 1 : Nat) : Int)) := r31_of (by omega) (by omega)
    have hl := oL_r hn (d := ((i + 1 : Nat) : Int)) ⟨by omega, by omega⟩
    have hrz := rem_zero (a := n) (z := ((i + 1 : Nat) : Int)) (r31_of (by omega) (by omega)) hd31 (by omega)
    have hsucc : ii (((i + 1 : Nat) : Int)) + (1 : Int32) = ii (((i + 1 + 1 : Nat) : Int)) := by
      rw [show (1 : Int32) = ii 1 from rfl, ii_add]
      congr 1
    have hdv : ii n / ii (((i + 1 : Nat) : Int)) = ii (n / ((i + 1 : Nat) : Int)) := by
      rw [ii_div (r31_of (by omega) (by omega)) hd31 (by omega), Int.tdiv_eq_ediv_of_nonneg (by omega)]
    have hq0 : 0 ≤ n / ((i + 1 : Nat) : Int) := Int.ediv_nonneg (by omega) (by omega)
    have hq1 : n / ((i + 1 : Nat) : Int) ≤ n := Int.ediv_le_self _ (by omega)
    have hle : ii (n / ((i + 1 : Nat) : Int)) ≤ ii (((i + 1 : Nat) : Int)) ↔ n / ((i + 1 : Nat) : Int) ≤ ((i + 1 : Nat) : Int) := ii_le (r31_of (by omega) (by omega)) hd31
    have hng : ¬ (ii n < ii (((i + 1 : Nat) : Int))) := by rw [ii_lt (r31_of (by omega) (by omega)) hd31]; omega
    by_cases q : ((i + 1 : Nat) : Int) ∣ n
    · have hO : oD k n s0 (i + 1) = oadd (some s) (omul (opw (oL n ((i + 1 : Nat) : Int)) (k - 1).toNat) (some 12)) := by
        show (if ((i + 1 : Nat) : Int) ∣ n then oadd (oD k n s0 i) _ else _) = _
        rw [if_pos q, h1]
      obtain ⟨v, f, e1, e2⟩ := m_D1 (A := A) (B := B) (c := c) hM hr hk hl hs (ii n) (ii (((i + 1 : Nat) : Int))) (ii (((i + 1 + 1 : Nat) : Int)))
      have hstep : f_X12_traceOf_L157 m (ii k) (ii n) (ll s, ii (((i + 1 : Nat) : Int))) (mz S (fl A m 0) B c) = some (.inl (v, ii (((i + 1 + 1 : Nat) : Int))), mz S (fl A m f) B c) := by
        rw [← e1]
        unfold f_X12_traceOf_L157
        simp only []
        rw [if_neg hng, g33 hM hr]
        simp only [Option.bind_some]
        rw [if_pos (by rfl), jnz_ii hd31 (by omega)]
        simp only [Option.bind_some]
        rw [if_pos (hrz.mpr q), hdv, hsucc]
        unfold oL
        by_cases g : n / ((i + 1 : Nat) : Int) ≤ ((i + 1 : Nat) : Int)
        · rw [if_pos (hle.mpr g)]
          by_cases g2 : n / ((i + 1 : Nat) : Int) < ((i + 1 : Nat) : Int)
          · rw [if_pos g2]
          · rw [if_neg g2, show n / ((i + 1 : Nat) : Int) = ((i + 1 : Nat) : Int) by omega]
        · rw [if_neg (fun z => g (hle.mp z)), if_neg (by omega)]
      rcases e2 with ⟨rfl, z, hz, rfl⟩ | ⟨rfl, hz⟩
      · obtain ⟨t', v, f, g1, g2⟩ := ih (i + 1) (fu2 + 1) z (by omega) (by omega) (by rw [hO, hz])
        exact ⟨t', v, f, by rw [← g1]; exact jloop_go hstep, g2⟩
      · have hend := oD_none (k := k) (n := n) (s := s0) (i := i + 1) (by rw [hO, hz]) r
        rw [show i + 1 + r = n.toNat by omega] at hend
        refine ⟨ii (((i + 1 + 1 : Nat) : Int)), v, 1, ?_, Or.inr ⟨rfl, hend⟩⟩
        rw [jloop_go hstep]
        refine jloop_end ?_
        unfold f_X12_traceOf_L157
        simp only []
        by_cases hlast : ii n < ii (((i + 1 + 1 : Nat) : Int))
        · rw [if_pos hlast]
        · rw [if_neg hlast, g33 hM hr]
          simp only [Option.bind_some]
          rw [if_neg (by decide)]
    · obtain ⟨t', v, f, g1, g2⟩ := ih (i + 1) (fu2 + 1) s (by omega) (by omega) (by
        show (if ((i + 1 : Nat) : Int) ∣ n then oadd (oD k n s0 i) _ else oD k n s0 i) = _
        rw [if_neg q, h1])
      refine ⟨t', v, f, ?_, g2⟩
      rw [← g1]
      refine jloop_go ?_
      unfold f_X12_traceOf_L157
      simp only []
      rw [if_neg hng, g33 hM hr]
      simp only [Option.bind_some]
      rw [if_pos (by rfl), jnz_ii hd31 (by omega)]
      simp only [Option.bind_some]
      rw [if_neg (fun z => q (hrz.mp z)), hsucc]
/-- the reference's trace: the value with the flag 0, or the flag 1 -/
theorem m_trace {S : SS} {A B : ZA} {c} {m : Nat} {rf} (hM : S m = some (.inl (9, 51, rf))) (hr : rf 33 = none) {k n : Int} (hk : 4 ≤ k ∧ k ≤ 60) (hn : 1 ≤ n ∧ n ≤ 60) : ∃ (v : Int64) (f : Int), f_X12_traceOf m (ii k) (ii n) (mz S A B c) = some (v, mz S (fl A m f) B c) ∧ ((f = 0 ∧ ∃ s, trO k n = some s ∧ v = ll (-s) / (24 : Int64)) ∨ (f = 1 ∧ trO k n = none)) := by
  have r1 := (rc_r hn).1
  unfold f_X12_traceOf
  rw [show (0 : Int32) = ii 0 from rfl, jput_z hM (by decide) hr]
  simp only [Option.bind_some]
  have k0 := jloop_run (f := f_X12_traceOf_L10 m (ii k) (ii n) (0 : Int64)) (fun i => ii (i : Int)) (fun _ => mz S (fl A m 0) B c) (rc n) (fun i hi => by
    unfold f_X12_traceOf_L10
    rw [show (1 : Int32) = ii 1 from rfl, ii_add, if_neg (rc_go hn hi)]
    rfl) (t := ii (rc n : Int)) (h1 := mz S (fl A m 0) B c) (by
    unfold f_X12_traceOf_L10
    rw [show (1 : Int32) = ii 1 from rfl, ii_add, if_pos (rc_end hn)]) (jF_big (by omega))
  have k0' : jloop (f_X12_traceOf_L10 m (ii k) (ii n) (0 : Int64)) jF (ii 0) (mz S (za A m (up (A m) 33 0)) B c) = some (ii (rc n : Int), mz S (fl A m 0) B c) := k0
  rw [k0']
  simp only [Option.bind_some]
  obtain ⟨t', v, f, e1, e2⟩ := m_S (A := A) (B := B) (c := c) hM hr hk hn (2 * rc n + 1) 0 jF 0 (jF_big (by omega)) (by omega) rfl
  have e1' : jloop (f_X12_traceOf_L36 m (ii k) (ii n) (ii (rc n : Int))) jF ((0 : Int64), -ii (rc n : Int)) (mz S (fl A m 0) B c) = some ((v, t'), mz S (fl A m f) B c) := by
    rw [ii_neg, ← e1]
    simp only [Int.natCast_zero, Int.add_zero]
    rfl
  rw [e1']
  simp only [Option.bind_some]
  rcases e2 with ⟨rfl, z, hz, rfl⟩ | ⟨rfl, hz⟩
  · obtain ⟨t2, v2, f2, g1, g2⟩ := m_D (A := A) (B := B) (c := c) hM hr hk hn (oS_ok k n (2 * rc n + 1)) n.toNat 0 jF z (jF_big (by omega)) (by omega) hz
    have g1' : jloop (f_X12_traceOf_L157 m (ii k) (ii n)) jF (ll z, (1 : Int32)) (mz S (fl A m 0) B c) = some ((v2, t2), mz S (fl A m f2) B c) := g1
    rw [g1']
    refine ⟨-v2 / (24 : Int64), f2, rfl, ?_⟩
    rcases g2 with ⟨q1, y, q2, rfl⟩ | ⟨q1, q2⟩
    · exact Or.inl ⟨q1, y, q2, by rw [ll_neg]⟩
    · exact Or.inr ⟨q1, q2⟩
  · have hT : trO k n = none := by
      have := oD_none (k := k) (n := n) (s := oS k n (2 * rc n + 1)) (i := 0) hz n.toNat
      rw [Nat.zero_add] at this
      exact this
    have g1 : jloop (f_X12_traceOf_L157 m (ii k) (ii n)) jF (v, (1 : Int32)) (mz S (fl A m 1) B c) = some ((v, (1 : Int32)), mz S (fl A m 1) B c) := by
      refine jloop_end (n := 19999) ?_
      unfold f_X12_traceOf_L157
      simp only []
      by_cases hlast : ii n < (1 : Int32)
      · rw [if_pos hlast]
      · rw [if_neg hlast, g33 hM hr]
        simp only [Option.bind_some]
        rw [if_neg (by decide)]
    rw [g1]
    exact ⟨-v / (24 : Int64), 1, rfl, Or.inr ⟨rfl, hT⟩⟩
