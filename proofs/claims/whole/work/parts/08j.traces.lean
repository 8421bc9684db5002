theorem oS_none {k n : Int} {i : Nat} (h : oS k n i = none) (j : Nat) : oS k n (i + j) = none := by
  induction j with
  | zero => exact h
  | succ j ih =>
    show oadd (oS k n (i + j)) _ = none
    rw [ih]
    rfl
theorem m_S {S : SS} {A B : ZA} {c} {m : Nat} {rf} (hM : S m = some (.inl (9, 51, rf))) (hr : rf 33 = none) {k n : Int} (hk : 4 ≤ k ∧ k ≤ 60) (hn : 1 ≤ n ∧ n ≤ 60) :
    ∀ (r i fuel : Nat) (s : Int), r < fuel → i + r = 2 * rc n + 1 → oS k n i = some s → ∃ (t' : Int32) (v : Int64) (f : Int), jloop (f_X12_traceOf_L36 m (ii k) (ii n) (ii (rc n : Int))) fuel (ll s, ii (-(rc n : Int) + (i : Int))) (mz S (fl A m 0) B c) = some ((v, t'), mz S (fl A m f) B c) ∧ ((f = 0 ∧ ∃ z, oS k n (2 * rc n + 1) = some z ∧ v = ll z) ∨ (f = 1 ∧ oS k n (2 * rc n + 1) = none)) := by
  have r1 := (rc_r hn).1
  intro r
  induction r with
  | zero =>
    intro i fuel s hf hi h1
    obtain ⟨fu, rfl⟩ : ∃ q, fuel = q + 1 := ⟨fuel - 1, by omega⟩
    refine ⟨ii (-(rc n : Int) + (i : Int)), ll s, 0, jloop_end ?_, Or.inl ⟨rfl, s, ?_, rfl⟩⟩
    · unfold f_X12_traceOf_L36
      simp only []
      rw [if_pos (by rw [ii_lt (r31_of (by omega) (by omega)) (r31_of (by omega) (by omega))]; omega)]
    · rw [← hi]; exact h1
  | succ r ih =>
    intro i fuel s hfu hi h1
    obtain ⟨fu, rfl⟩ : ∃ q, fuel = q + 1 := ⟨fuel - 1, by omega⟩
    obtain ⟨fu2, rfl⟩ : ∃ q, fu = q + 1 := ⟨fu - 1, by omega⟩
    have hs : -LIM ≤ s ∧ s ≤ LIM := oS_ok k n i s h1
    generalize ht : -(rc n : Int) + (i : Int) = t at *
    have htr : -16 ≤ t ∧ t ≤ 16 := by omega
    have hsq := t_sq htr
    have hO : oS k n (i + 1) = oadd (some s) (oT k n t) := by
      show oadd (oS k n i) (oT k n (-(rc n : Int) + (i : Int))) = _
      rw [h1, ht]
    have hnext : ii t + (1 : Int32) = ii (-(rc n : Int) + ((i + 1 : Nat) : Int)) := by
      rw [show (1 : Int32) = ii 1 from rfl, ii_add]; congr 1; omega
    -- the end once the flag stands
    have stop : ∀ (x : Int64) (y : Int32), ∃ q : Int64 × Int32, q = (x, y) ∧ jloop (f_X12_traceOf_L36 m (ii k) (ii n) (ii (rc n : Int))) (fu2 + 1) (x, y) (mz S (fl A m 1) B c) = some (q, mz S (fl A m 1) B c) := by
      intro x y
      refine ⟨(x, y), rfl, jloop_end ?_⟩
      unfold f_X12_traceOf_L36
      simp only []
      by_cases q : ii (rc n : Int) < y
      · rw [if_pos q]
      · rw [if_neg q, g33 hM hr]
        simp only [Option.bind_some]
        rw [if_neg (by decide)]
    obtain ⟨b', i', v, f, e1, e2⟩ := m_Q (A := A) (B := B) (c := c) hM hr (k := k) (t := t) (n := n) ⟨by omega, hk.2⟩ ⟨by omega, by omega⟩ ⟨by omega, by omega⟩ (ll s) (ii (rc n : Int)) (k - 3).toNat 0 jF 1 t (jF_big (by omega)) (by omega) rfl rfl
    have e1' : jloop (f_X12_traceOf_L61 m (ii k) (ii n) (ll s) (ii (rc n : Int)) (ii t)) jF ((1 : Int64), ll t, (4 : Int32)) (mz S (fl A m 0) B c) = some ((b', v, i'), mz S (fl A m f) B c) := e1
    have hw := cnW_r (4 * n - t * t)
    have hwl : -LIM ≤ cnW (4 * n - t * t) ∧ cnW (4 * n - t * t) ≤ LIM := by unfold LIM; omega
    rcases e2 with ⟨rfl, z, hz, rfl⟩ | ⟨rfl, hz⟩
    · have hzl : -LIM ≤ z ∧ z ≤ LIM := (oQ_ok (n := n) (show -LIM ≤ t ∧ t ≤ LIM by unfold LIM; omega) _).2 z hz
      have hT : oT k n t = cut (z * cnW (4 * n - t * t)) := by unfold oT; rw [hz]; rfl
      have hstep : f_X12_traceOf_L36 m (ii k) (ii n) (ii (rc n : Int)) (ll s, ii t) (mz S (fl A m 0) B c) = some (.inl (ll s + ll (z * cnW (4 * n - t * t)), ii (-(rc n : Int) + ((i + 1 : Nat) : Int))), mz S (fl A m (if hf (z * cnW (4 * n - t * t)) = 0 then hf (s + z * cnW (4 * n - t * t)) else 1)) B c) := by
        unfold f_X12_traceOf_L36
        simp only []
        rw [if_neg (by rw [ii_lt (r31_of (by omega) (by omega)) (r31_of (by omega) (by omega))]; omega), g33 hM hr]
        simp only [Option.bind_some]
        rw [if_pos (by rfl), ii_l (r31_of (by omega) (by omega)), e1']
        simp only [Option.bind_some]
        rw [g33 hM hr]
        simp only [Option.bind_some]
        rw [if_pos (by rfl), show (4 : Int32) = ii 4 from rfl, ii_mul, ii_mul, ii_sub, (cn_whole _ (r31_of (by omega) (by omega))).2]
        simp only [Option.bind_some]
        rw [jrecv_z hM]
        simp only [Option.bind_some]
        rw [ii_l (r31_of (by omega) (by omega)), m_times0 hM hr hzl hwl]
        simp only [Option.bind_some]
        rw [jrecv_z hM]
        simp only [Option.bind_some]
        rw [hnext]
        rcases hf_01 (z * cnW (4 * n - t * t)) with q1 | q1
        · rw [q1, m_plus0 hM hr hs (hf_ok q1), if_pos (by simp), ll_add]
          rfl
        · rw [q1, m_plus1 hM hr, if_neg (by decide)]
          rfl
      by_cases good : hf (z * cnW (4 * n - t * t)) = 0 ∧ hf (s + z * cnW (4 * n - t * t)) = 0
      · have hO2 : oS k n (i + 1) = some (s + z * cnW (4 * n - t * t)) := by
          rw [hO, hT, cut0 good.1]
          exact cut0 good.2
        obtain ⟨t', v, f, g1, g2⟩ := ih (i + 1) (fu2 + 1) (s + z * cnW (4 * n - t * t)) (by omega) (by omega) hO2
        refine ⟨t', v, f, ?_, g2⟩
        rw [← g1]
        refine jloop_go ?_
        rw [hstep, if_pos good.1, good.2, ll_add]
      · have hbad : (if hf (z * cnW (4 * n - t * t)) = 0 then hf (s + z * cnW (4 * n - t * t)) else 1) = 1 := by
          by_cases q : hf (z * cnW (4 * n - t * t)) = 0
          · rw [if_pos q]
            rcases hf_01 (s + z * cnW (4 * n - t * t)) with y | y
            · exact absurd ⟨q, y⟩ good
            · exact y
          · rw [if_neg q]
        have hO2 : oS k n (i + 1) = none := by
          rw [hO, hT]
          rcases hf_01 (z * cnW (4 * n - t * t)) with q1 | q1
          · rcases hf_01 (s + z * cnW (4 * n - t * t)) with q2 | q2
            · exact absurd ⟨q1, q2⟩ good
            · rw [cut0 q1]; exact cut1 q2
          · rw [cut1 q1]; rfl
        have hend := oS_none hO2 r
        rw [show i + 1 + r = 2 * rc n + 1 by omega] at hend
        rw [hbad] at hstep
        obtain ⟨q, rfl, hq⟩ := stop (ll s + ll (z * cnW (4 * n - t * t))) (ii (-(rc n : Int) + ((i + 1 : Nat) : Int)))
        exact ⟨_, _, 1, by rw [jloop_go hstep]; exact hq, Or.inr ⟨rfl, hend⟩⟩
    · have hO2 : oS k n (i + 1) = none := by
        rw [hO]
        unfold oT
        rw [hz]
        rfl
      have hend := oS_none hO2 r
      rw [show i + 1 + r = 2 * rc n + 1 by omega] at hend
      have hstep : f_X12_traceOf_L36 m (ii k) (ii n) (ii (rc n : Int)) (ll s, ii t) (mz S (fl A m 0) B c) = some (.inl (ll s, ii (-(rc n : Int) + ((i + 1 : Nat) : Int))), mz S (fl A m 1) B c) := by
        unfold f_X12_traceOf_L36
        simp only []
        rw [if_neg (by rw [ii_lt (r31_of (by omega) (by omega)) (r31_of (by omega) (by omega))]; omega), g33 hM hr]
        simp only [Option.bind_some]
        rw [if_pos (by rfl), ii_l (r31_of (by omega) (by omega)), e1']
        simp only [Option.bind_some]
        rw [g33 hM hr]
        simp only [Option.bind_some]
        rw [if_neg (by decide), hnext]
      obtain ⟨q, rfl, hq⟩ := stop (ll s) (ii (-(rc n : Int) + ((i + 1 : Nat) : Int)))
      exact ⟨_, _, 1, by rw [jloop_go hstep]; exact hq, Or.inr ⟨rfl, hend⟩⟩
