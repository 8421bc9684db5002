theorem opw_none {b : Int} {i : Nat} (h : opw b i = none) (j : Nat) : opw b (i + j) = none := by
  induction j with
  | zero => exact h
  | succ j ih =>
    show omul (opw b (i + j)) _ = none
    rw [ih]
    rfl
theorem m_P {S : SS} {A B : ZA} {c} {m : Nat} {rf} (hM : S m = some (.inl (9, 51, rf))) (hr : rf 33 = none) {k b : Int} (hk : 4 ≤ k ∧ k ≤ 60) (hb : 0 ≤ b ∧ b ≤ 60) (a2 : Int32) (a3 : Int64) (a6 : Int32) :
    ∀ (r j fuel : Nat) (x : Int), r < fuel → j + r = (k - 1).toNat → opw b j = some x → ∃ (i' : Int32) (v : Int64) (f : Int), jloop (f_X12_traceOf_L203 m (ii k) a2 a3 a6 (ii b)) fuel (ll x, ii (1 + (j : Int))) (mz S (fl A m 0) B c) = some ((v, i'), mz S (fl A m f) B c) ∧ ((f = 0 ∧ ∃ z, opw b (k - 1).toNat = some z ∧ v = ll z) ∨ (f = 1 ∧ opw b (k - 1).toNat = none)) := by
  have hbl : -LIM ≤ b ∧ b ≤ LIM := by unfold LIM; omega
  intro r
  induction r with
  | zero =>
    intro j fuel x hf hj h1
    obtain ⟨fu, rfl⟩ : ∃ q, fuel = q + 1 := ⟨fuel - 1, by omega⟩
    refine ⟨ii (1 + (j : Int)), ll x, 0, jloop_end ?_, Or.inl ⟨rfl, x, ?_, rfl⟩⟩
    · unfold f_X12_traceOf_L203
      simp only []
      rw [if_pos (by rw [ii_le (r31_of (by omega) (by omega)) (r31_of (by omega) (by omega))]; omega)]
    · rw [← hj]; exact h1
  | succ r ih =>
    intro j fuel x hfu hj h1
    obtain ⟨fu, rfl⟩ : ∃ q, fuel = q + 1 := ⟨fuel - 1, by omega⟩
    obtain ⟨fu2, rfl⟩ : ∃ q, fu = q + 1 := ⟨fu - 1, by omega⟩
    have hx : -LIM ≤ x ∧ x ≤ LIM := opw_ok b j x h1
    have hO : opw b (j + 1) = cut (x * b) := by
      show omul (opw b j) (some b) = _
      rw [h1]; rfl
    have hstep : f_X12_traceOf_L203 m (ii k) a2 a3 a6 (ii b) (ll x, ii (1 + (j : Int))) (mz S (fl A m 0) B c) = some (.inl (ll (x * b), ii (1 + ((j + 1 : Nat) : Int))), mz S (fl A m (hf (x * b))) B c) := by
      unfold f_X12_traceOf_L203
      simp only []
      rw [if_neg (by rw [ii_le (r31_of (by omega) (by omega)) (r31_of (by omega) (by omega))]; omega), g33 hM hr]
      simp only [Option.bind_some]
      rw [if_pos (by rfl), jrecv_z hM]
      simp only [Option.bind_some]
      rw [ii_l (r31_of (by omega) (by omega)), m_times0 hM hr hx hbl, show (1 : Int32) = ii 1 from rfl, ii_add, show (1 : Int) + (j : Int) + 1 = 1 + ((j + 1 : Nat) : Int) by omega]
      rfl
    rcases hf_01 (x * b) with q1 | q1
    · obtain ⟨i', v, f, g1, g2⟩ := ih (j + 1) (fu2 + 1) (x * b) (by omega) (by omega) (by rw [hO, cut0 q1])
      refine ⟨i', v, f, ?_, g2⟩
      rw [← g1]
      refine jloop_go ?_
      rw [hstep, q1]
    · have hend := opw_none (b := b) (i := j + 1) (by rw [hO, cut1 q1]) r
      rw [show j + 1 + r = (k - 1).toNat by omega] at hend
      rw [q1] at hstep
      refine ⟨ii (1 + ((j + 1 : Nat) : Int)), ll (x * b), 1, ?_, Or.inr ⟨rfl, hend⟩⟩
      rw [jloop_go hstep]
      refine jloop_end ?_
      unfold f_X12_traceOf_L203
      simp only []
      by_cases hlast : ii k ≤ ii (1 + ((j + 1 : Nat) : Int))
      · rw [if_pos hlast]
      · rw [if_neg hlast, g33 hM hr]
        simp only [Option.bind_some]
        rw [if_neg (by decide)]
/-- what one divisor adds, with the flag -/
theorem m_D1 {S : SS} {A B : ZA} {c} {m : Nat} {rf} (hM : S m = some (.inl (9, 51, rf))) (hr : rf 33 = none) {k b s : Int} (hk : 4 ≤ k ∧ k ≤ 60) (hb : 0 ≤ b ∧ b ≤ 60) (hs : -LIM ≤ s ∧ s ≤ LIM) (a2 : Int32) (a6 nx : Int32) :
    ∃ (v : Int64) (f : Int), ((jloop (f_X12_traceOf_L203 m (ii k) a2 (ll s) a6 (ii b)) jF ((1 : Int64), (1 : Int32)) (mz S (fl A m 0) B c)).bind fun q35 =>
          (jgI q35.2 m 9 33).bind fun v37 =>
          if v37 = (0 : Int32) then
            (jrecv q35.2 m 9).bind fun u47 =>
            (f_X12_times m q35.1.1 (12 : Int64) q35.2).bind fun q39 =>
            (jgI q39.2 m 9 33).bind fun v41 =>
            if v41 = (0 : Int32) then
              (jrecv q39.2 m 9).bind fun u45 =>
              (f_X12_plus m (ll s) q39.1 q39.2).bind fun q43 =>
              some ((Sum.inl (q43.1, nx) : (Int64 × Int32) ⊕ (Int64 × Int32)), q43.2)
            else
              some (.inl (ll s, nx), q39.2)
          else
            (jgI q35.2 m 9 33).bind fun v49 =>
            if v49 = (0 : Int32) then
              (jrecv q35.2 m 9).bind fun u53 =>
              (f_X12_plus m (ll s) q35.1.1 q35.2).bind fun q51 =>
              some (.inl (q51.1, nx), q51.2)
            else
              some (.inl (ll s, nx), q35.2)) = some (.inl (v, nx), mz S (fl A m f) B c) ∧ ((f = 0 ∧ ∃ z, oadd (some s) (omul (opw b (k - 1).toNat) (some 12)) = some z ∧ v = ll z) ∨ (f = 1 ∧ oadd (some s) (omul (opw b (k - 1).toNat) (some 12)) = none)) := by
  obtain ⟨i', v, f, e1, e2⟩ := m_P (A := A) (B := B) (c := c) hM hr hk hb a2 (ll s) a6 (k - 1).toNat 0 jF 1 (jF_big (by omega)) (by omega) rfl
  have e1' : jloop (f_X12_traceOf_L203 m (ii k) a2 (ll s) a6 (ii b)) jF ((1 : Int64), (1 : Int32)) (mz S (fl A m 0) B c) = some ((v, i'), mz S (fl A m f) B c) := e1
  rw [e1']
  simp only [Option.bind_some, g33 hM hr, jrecv_z hM]
  rcases e2 with ⟨rfl, z, hz, rfl⟩ | ⟨rfl, hz⟩
  · have hzl : -LIM ≤ z ∧ z ≤ LIM := opw_ok b _ z hz
    have h12 : -LIM ≤ (12 : Int) ∧ (12 : Int) ≤ LIM := by decide
    rw [if_pos (by rfl), show (12 : Int64) = ll 12 from rfl, m_times0 hM hr hzl h12]
    simp only [Option.bind_some, g33 hM hr, jrecv_z hM, hz]
    show ∃ v f, _ ∧ ((f = 0 ∧ ∃ y, oadd (some s) (cut (z * 12)) = some y ∧ v = ll y) ∨ (f = 1 ∧ oadd (some s) (cut (z * 12)) = none))
    rcases hf_01 (z * 12) with q1 | q1
    · rw [q1, if_pos (by rfl), m_plus0 hM hr hs (hf_ok q1), cut0 q1]
      refine ⟨ll (s + z * 12), hf (s + z * 12), rfl, ?_⟩
      rcases hf_01 (s + z * 12) with q2 | q2
      · exact Or.inl ⟨q2, _, cut0 q2, rfl⟩
      · exact Or.inr ⟨q2, cut1 q2⟩
    · rw [q1, if_neg (by decide), cut1 q1]
      exact ⟨ll s, 1, rfl, Or.inr ⟨rfl, rfl⟩⟩
  · rw [if_neg (by decide), if_neg (by decide), hz]
    exact ⟨ll s, 1, rfl, Or.inr ⟨rfl, rfl⟩⟩
