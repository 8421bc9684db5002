theorem hf_01 (x : Int) : hf x = 0 ∨ hf x = 1 := by unfold hf; split <;> simp
theorem hf_neg (x : Int) : hf (-x) = hf x := by
  unfold hf
  by_cases h : -LIM ≤ x ∧ x ≤ LIM
  · rw [if_pos h, if_pos (by omega)]
  · rw [if_neg h, if_neg (by omega)]
theorem hf_ok {x : Int} (h : hf x = 0) : -LIM ≤ x ∧ x ≤ LIM := by
  unfold hf at h
  by_cases q : -LIM ≤ x ∧ x ≤ LIM
  · exact q
  · rw [if_neg q] at h; cases h
theorem cut0 {x : Int} (h : hf x = 0) : cut x = some x := by rw [hf_cut, if_pos h]
theorem cut1 {x : Int} (h : hf x = 1) : cut x = none := by rw [hf_cut, if_neg (by rw [h]; decide)]
theorem oQ_none {t n : Int} {i : Nat} (h : (oQ t n i).2 = none) (j : Nat) : (oQ t n (i + j)).2 = none := by
  induction j with
  | zero => exact h
  | succ j ih =>
    show oadd (omul (some t) (oQ t n (i + j)).2) _ = none
    rw [ih]
    rfl
theorem m_Q {S : SS} {A B : ZA} {c} {m : Nat} {rf} (hM : S m = some (.inl (9, 51, rf))) (hr : rf 33 = none) {k t n : Int} (hk : 3 ≤ k ∧ k ≤ 60) (ht : -1000 ≤ t ∧ t ≤ 1000) (hn : 0 ≤ n ∧ n ≤ 1000) (a3 : Int64) (a5 : Int32) :
    ∀ (r j fuel : Nat) (w x : Int), r < fuel → j + r = (k - 3).toNat → (oQ t n j).1 = some w → (oQ t n j).2 = some x → ∃ (b' : Int64) (i' : Int32) (v : Int64) (f : Int), jloop (f_X12_traceOf_L61 m (ii k) (ii n) a3 a5 (ii t)) fuel (ll w, ll x, ii (4 + (j : Int))) (mz S (fl A m 0) B c) = some ((b', v, i'), mz S (fl A m f) B c) ∧ ((f = 0 ∧ ∃ z, (oQ t n (k - 3).toNat).2 = some z ∧ v = ll z) ∨ (f = 1 ∧ (oQ t n (k - 3).toNat).2 = none)) := by
  have ht2 : -LIM ≤ t ∧ t ≤ LIM := by unfold LIM; omega
  have hn2 : -LIM ≤ n ∧ n ≤ LIM := by unfold LIM; omega
  intro r
  induction r with
  | zero =>
    intro j fuel w x hf hj h1 h2
    obtain ⟨fu, rfl⟩ : ∃ q, fuel = q + 1 := ⟨fuel - 1, by omega⟩
    refine ⟨ll w, ii (4 + (j : Int)), ll x, 0, jloop_end ?_, Or.inl ⟨rfl, x, ?_, rfl⟩⟩
    · unfold f_X12_traceOf_L61
      simp only []
      rw [if_pos (by rw [ii_lt (r31_of (by omega) (by omega)) (r31_of (by omega) (by omega))]; omega)]
    · rw [← hj]; exact h2
  | succ r ih =>
    intro j fuel w x hfu hj h1 h2
    obtain ⟨fu, rfl⟩ : ∃ q, fuel = q + 1 := ⟨fuel - 1, by omega⟩
    have hw : -LIM ≤ w ∧ w ≤ LIM := (oQ_ok (n := n) ht2 j).1 w h1
    have hx : -LIM ≤ x ∧ x ≤ LIM := (oQ_ok (n := n) ht2 j).2 x h2
    have hQ : (oQ t n (j + 1)).2 = oadd (cut (t * x)) (cut (-n * w)) := by
      show oadd (omul (some t) (oQ t n j).2) (omul (some (-n)) (oQ t n j).1) = _
      rw [h1, h2]; rfl
    have hnz : hf (-n * w) = hf (n * w) := by rw [Int.neg_mul, hf_neg]
    have hstep : f_X12_traceOf_L61 m (ii k) (ii n) a3 a5 (ii t) (ll w, ll x, ii (4 + (j : Int))) (mz S (fl A m 0) B c) =
        some (.inl (ll x, ll (t * x) + -(ll n * ll w), ii (4 + ((j + 1 : Nat) : Int))), mz S (fl A m (if hf (t * x) = 0 ∧ hf (n * w) = 0 then hf (t * x - n * w) else 1)) B c) := by
      unfold f_X12_traceOf_L61
      simp only []
      rw [if_neg (by rw [ii_lt (r31_of (by omega) (by omega)) (r31_of (by omega) (by omega))]; omega), g33 hM hr]
      simp only [Option.bind_some]
      rw [if_pos (by rfl), jrecv_z hM]
      simp only [Option.bind_some]
      rw [ii_l (r31_of (by omega) (by omega)), m_times0 hM hr ht2 hx]
      simp only [Option.bind_some]
      rw [jrecv_z hM]
      simp only [Option.bind_some]
      rw [ii_l (r31_of (by omega) (by omega)), show (1 : Int32) = ii 1 from rfl, ii_add, show (4 : Int) + (j : Int) + 1 = 4 + ((j + 1 : Nat) : Int) by omega]
      rcases hf_01 (t * x) with q1 | q1
      · rw [q1, m_times0 hM hr hn2 hw]
        simp only [Option.bind_some]
        rw [jrecv_z hM]
        simp only [Option.bind_some]
        rcases hf_01 (n * w) with q2 | q2
        · rw [q2, ll_neg, m_plus0 hM hr (hf_ok q1) (by have := hf_ok q2; omega), if_pos (by simp), ll_mul, ll_neg, ll_add]
          rfl
        · rw [q2, m_plus1 hM hr, if_neg (by intro z; cases z.2), ll_mul]
          rfl
      · rw [q1, m_times1 hM hr hn2]
        simp only [Option.bind_some]
        rw [jrecv_z hM]
        simp only [Option.bind_some]
        rw [m_plus1 hM hr, if_neg (by intro z; cases z.1)]
        rfl
    by_cases good : hf (t * x) = 0 ∧ hf (n * w) = 0 ∧ hf (t * x - n * w) = 0
    · obtain ⟨q1, q2, q3⟩ := good
      have hQ2 : (oQ t n (j + 1)).2 = some (t * x - n * w) := by
        rw [hQ, cut0 q1, cut0 (by rw [hnz]; exact q2)]
        show cut (t * x + -n * w) = _
        rw [Int.neg_mul, ← Int.sub_eq_add_neg, cut0 q3]
      obtain ⟨b', i', v, f, e1, e2⟩ := ih (j + 1) fu x (t * x - n * w) (by omega) (by omega) h2 hQ2
      refine ⟨b', i', v, f, ?_, e2⟩
      rw [← e1]
      refine jloop_go ?_
      rw [hstep, if_pos ⟨q1, q2⟩, q3, ll_mul, ll_neg, ll_add, ← Int.sub_eq_add_neg]
    · have hbad : (if hf (t * x) = 0 ∧ hf (n * w) = 0 then hf (t * x - n * w) else 1) = 1 := by
        by_cases q : hf (t * x) = 0 ∧ hf (n * w) = 0
        · rw [if_pos q]
          rcases hf_01 (t * x - n * w) with z | z
          · exact absurd ⟨q.1, q.2, z⟩ good
          · exact z
        · rw [if_neg q]
      have hQ2 : (oQ t n (j + 1)).2 = none := by
        rw [hQ]
        rcases hf_01 (t * x) with q1 | q1
        · rcases hf_01 (n * w) with q2 | q2
          · rcases hf_01 (t * x - n * w) with q3 | q3
            · exact absurd ⟨q1, q2, q3⟩ good
            · rw [cut0 q1, cut0 (by rw [hnz]; exact q2)]
              show cut (t * x + -n * w) = _
              rw [Int.neg_mul, ← Int.sub_eq_add_neg, cut1 q3]
          · rw [cut1 (x := -n * w) (by rw [hnz]; exact q2)]
            cases cut (t * x) <;> rfl
        · rw [cut1 q1]; rfl
      have hend : (oQ t n (k - 3).toNat).2 = none := by
        have := oQ_none hQ2 r
        rw [show j + 1 + r = (k - 3).toNat by omega] at this
        exact this
      obtain ⟨fu2, rfl⟩ : ∃ q, fu = q + 1 := ⟨fu - 1, by omega⟩
      refine ⟨ll x, ii (4 + ((j + 1 : Nat) : Int)), ll (t * x) + -(ll n * ll w), 1, ?_, Or.inr ⟨rfl, hend⟩⟩
      rw [hbad] at hstep
      rw [jloop_go hstep]
      refine jloop_end ?_
      unfold f_X12_traceOf_L61
      simp only []
      by_cases hlast : ii k < ii (4 + ((j + 1 : Nat) : Int))
      · rw [if_pos hlast]
      · rw [if_neg hlast, g33 hM hr]
        simp only [Option.bind_some]
        rw [if_neg (by decide)]
