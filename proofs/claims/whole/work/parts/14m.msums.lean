/-! The reference reads a product, a sum. -/
section rd
variable {S : SS} {A B : ZA} {c : (Nat × Nat) × (Nat → Nat)} {m n nl : Nat} {T : Nat → Int} {p : Int} {L : LT} {q d t : Nat} {re : Nat → JH → Option (Int32 × JH)} {rc : Nat → Nat → PRs}
theorem m_joins (hM : LM S m) (hP : PR p) (hB : A m 1 = p) (ht : t + 2 ≤ 30) (h27 : A m 27 = ((t + 2 : Nat) : Int)) {w v : Nat} {R Q : Nat → Int} (h1 : A (m + 16) t = (w : Int)) (h2 : A (m + 16) (t + 1) = (v : Int)) (hw : w ≤ 60) (hv : v ≤ 60) (h3 : ∀ k, k < 181 → A (m + 17) (181 * t + k) = R k) (h4 : ∀ k, k < 181 → A (m + 17) (181 * (t + 1) + k) = Q k) (r1 : ∀ k, 0 ≤ R k ∧ R k < p) (r2 : ∀ k, 0 ≤ Q k ∧ Q k < p) :
    ∃ A' : ZA, f_X12_joins m (mz S A B c) = some ((), mz S A' B c) ∧ A' m 27 = ((t + 1 : Nat) : Int) ∧ (∀ k, k ≠ 27 → A' m k = A m k) ∧ A' (m + 16) t = ((w + v : Nat) : Int) ∧ (∀ k, k < 181 → A' (m + 17) (181 * t + k) = ml p R Q k) ∧ MF m A A' t := by
  have hp := PR_p hP
  obtain ⟨A1, A2, e1, e2, v1, v2, v3, v4⟩ := m_mulS (A := A) (B := B) (c := c) (i := t) (j := t + 1) (k := t) hM (show 0 < p by omega) hp.2 hB (by omega) (by omega) (by omega) h3 h4 r1 r2
  have a27 : A1 m 27 = ((t + 2 : Nat) : Int) := by rw [v3 _ (by omega)]; exact h27
  have b27 : A2 m 27 = ((t + 2 : Nat) : Int) := by rw [v4 _ (by omega) (by omega)]; exact h27
  have b16 : A2 (m + 16) t = (w : Int) := by rw [v4 _ (by omega) (by omega)]; exact h1
  have b16' : A2 (m + 16) (t + 1) = (v : Int) := by rw [v4 _ (by omega) (by omega)]; exact h2
  unfold f_X12_joins
  simp (disch := omega) only [MR29 hM, MI27 hM, h27, MR6 hM, Mv hM, Option.bind_some, k2, k1, n_sub, show t + 2 - 2 = t by omega, show t + 2 - 1 = t + 1 by omega, k181, n_mul, e1, a27, k0, e2, MR28 hM, b27, Ma16 hM, b16, b16', n_add, Ms16 hM, za_ne, MP27 hM]
  refine ⟨_, rfl, by rw [za_at, up_at], fun k hk => by rw [za_at, up_ne _ _ hk, v4 _ (by omega) (by omega)], by rw [za_ne _ _ (by omega), za_at, up_at], fun k hk => by rw [za_ne _ _ (by omega), za_ne _ _ (by omega)]; exact v1 k hk, ⟨fun x a b c' d' e' => by rw [za_ne _ _ a, za_ne _ _ d', v4 x c' e'], fun k _ hk _ => by rw [za_at, up_ne _ _ hk, v4 _ (by omega) (by omega)], fun i hi => by rw [za_ne _ _ (by omega), za_at, up_ne _ _ (by omega), v4 _ (by omega) (by omega)], fun i hi => by rw [za_ne _ _ (by omega), za_ne _ _ (by omega)]; exact v2 i (by omega)⟩⟩
theorem m_prodL (hM : LM S m) (hP : PR p) (hd : d ≤ 8) (htd : t ≤ 2 * d + 1) (hw : ∀ (A : ZA) (q : Nat), MS A m T n p nl L → ST A m T n q d (t + 1) → q ≤ n → tok T n q → MOK S B c m T n (ppow T n p (FL T n nl L) rc d q) A d (t + 1) (f_X12_power_ re m (mz S A B c))) (hg : ∀ q, q ≤ n → tok T n q → GR T n p q (ppow T n p (FL T n nl L) rc d q)) :
    ∀ (mm : Nat) (s : Nat × Nat × (Nat → Int)) (A : ZA), n < s.1 + mm → s.1 ≤ n → tok T n s.1 → isF p s.2.1 s.2.2 → MS A m T n p nl L → ST A m T n s.1 d (t + 1) → A (m + 16) t = ((s.2.1 : Nat) : Int) → (∀ k, k < 181 → A (m + 17) (181 * t + k) = s.2.2 k) → ∀ fuel, mm + 1 < fuel →
    ∃ A' : ZA, jloop (f_X12_product_L5 re m) fuel (ii ((1 : Nat) : Int)) (mz S A B c) = some (ii ((rb (pprl T n p (ppow T n p (FL T n nl L) rc d) mm s) : Nat) : Int), mz S A' B c) ∧ MF m A A' t ∧ RM A' m T n d t (pprl T n p (ppow T n p (FL T n nl L) rc d) mm s) := by
  have hp := PR_p hP
  intro mm
  induction mm with
  | zero => intro s A h1 h2; omega
  | succ mm ih =>
    intro s A h1 h2 h3 h4 hS hs hA hR fuel hfu
    obtain ⟨fu, rfl⟩ : ∃ x, fuel = x + 1 := ⟨fuel - 1, by omega⟩
    have hi := m_is (A := A) (B := B) (c := c) (s := 42) hM hs.1 (by omega) (by omega) (fun h => (hS.2.1.2.2 s.1 h).2)
    unfold pprl
    by_cases c42 : kdx T n s.1 = 42
    · rw [if_pos c42]
      have hsn := kdx_n (T := T) (n := n) (q := s.1) (by omega)
      obtain ⟨x1, x2, x3, x4⟩ := nxt_ok hsn (tok_t h3 hsn)
      obtain ⟨A1, e1, g1, g2, g3⟩ := m_next (B := B) (c := c) hM hS.2.1 hs.1 hsn
      generalize nxt T n s.1 = q2 at x1 x2 x3 x4 g1 ⊢
      have f1 : MF m A A1 (t + 1) := MF_k g2 (fun k h1 _ _ => g3 k (by omega))
      have s1 : ST A1 m T n q2 d (t + 1) := ⟨g1, by rw [g3 18 (by omega)]; exact hs.2.1, by rw [g3 30 (by omega)]; exact hs.2.2.1, by rw [g3 27 (by omega)]; exact hs.2.2.2⟩
      obtain ⟨A2, e2, f2, r2⟩ := hw A1 q2 (MS_MF hS f1) s1 x2 x3
      have f12 := MF_trans f1 f2 (Nat.le_refl _)
      have f12' : MF m A A2 t := MF_trans (MF_refl m A t) f12 (by omega)
      have hgr := hg q2 x2 x3
      have a16 : A2 (m + 16) t = ((s.2.1 : Nat) : Int) := by rw [f12.2.2.1 t (by omega)]; exact hA
      have a17 : ∀ k, k < 181 → A2 (m + 17) (181 * t + k) = s.2.2 k := fun k hk => by rw [f12.2.2.2 _ (by omega)]; exact hR k hk
      have st : f_X12_product_L5 re m (ii ((1 : Nat) : Int)) (mz S A B c) = (if ii ((rb (ppow T n p (FL T n nl L) rc d q2) : Nat) : Int) = (0 : Int32) then
        if ii ((rb (ppow T n p (FL T n nl L) rc d q2) : Nat) : Int) = (0 : Int32) then
          some (.inl (ii ((rb (ppow T n p (FL T n nl L) rc d q2) : Nat) : Int)), mz S A2 B c)
        else
          (jrecv (mz S A2 B c) m 9).bind fun _ =>
          (f_X12_joins m (mz S A2 B c)).bind fun q11 =>
          some (.inl (ii ((rb (ppow T n p (FL T n nl L) rc d q2) : Nat) : Int)), q11.2)
      else
        (jgR (mz S A2 B c) m 9 28).bind fun v15 =>
        (jgI (mz S A2 B c) m 9 27).bind fun v17 =>
        (jaI (mz S A2 B c) v15 (v17 - (2 : Int32))).bind fun v19 =>
        (jgR (mz S A2 B c) m 9 28).bind fun v21 =>
        (jgI (mz S A2 B c) m 9 27).bind fun v23 =>
        (jaI (mz S A2 B c) v21 (v23 - (1 : Int32))).bind fun v25 =>
        if (v19 + v25) ≤ (60 : Int32) then
          if ii ((rb (ppow T n p (FL T n nl L) rc d q2) : Nat) : Int) = (0 : Int32) then
            some (.inl (ii ((rb (ppow T n p (FL T n nl L) rc d q2) : Nat) : Int)), mz S A2 B c)
          else
            (jrecv (mz S A2 B c) m 9).bind fun _ =>
            (f_X12_joins m (mz S A2 B c)).bind fun q27 =>
            some (.inl (ii ((rb (ppow T n p (FL T n nl L) rc d q2) : Nat) : Int)), q27.2)
        else
          (jrecv (mz S A2 B c) m 9).bind fun _ =>
          (f_X12_badAt m (ii (q2 : Int)) (7 : Int32) (mz S A2 B c)).bind fun q31 =>
          if q31.1 = (0 : Int32) then
            some (.inl q31.1, q31.2)
          else
            (jrecv q31.2 m 9).bind fun _ =>
            (f_X12_joins m q31.2).bind fun q33 =>
            some (.inl q31.1, q33.2)) := by
        unfold f_X12_product_L5
        rw [if_neg (show ¬ ii ((1 : Nat) : Int) = (0 : Int32) by decide)]
        simp only [Mv hM, Option.bind_some, k42, hi]
        rw [bitY (show kdx T n s.1 = ((42 : Nat) : Int) by omega), if_neg (show ¬ ii ((1 : Nat) : Int) = (0 : Int32) by decide), e1]
        simp only [Option.bind_some]
        rw [MI14 hM, g1.1]
        simp only [Option.bind_some, Mv hM]
        rw [e2]
        simp only [Option.bind_some, Mv hM]
      cases e : ppow T n p (FL T n nl L) rc d q2 with
      | inl f =>
        rw [e] at st r2
        rw [if_pos (show ii ((rb (Sum.inl f) : Nat) : Int) = (0 : Int32) from rfl), if_pos (show ii ((rb (Sum.inl f) : Nat) : Int) = (0 : Int32) from rfl)] at st
        obtain ⟨fv, rfl⟩ : ∃ x, fu = x + 1 := ⟨fu - 1, by omega⟩
        refine ⟨A2, ?_, f12', r2⟩
        rw [jloop_go st]
        refine jloop_end ?_
        unfold f_X12_product_L5
        rw [if_pos (show ii ((rb (Sum.inl f) : Nat) : Int) = (0 : Int32) from rfl)]
        rfl
      | inr sx =>
        rw [e] at st r2 hgr
        obtain ⟨⟨z1, z2, z3, z4⟩, z5, z6⟩ := r2
        obtain ⟨w1, w2, w3, w4⟩ := hgr
        have u1 := h4.2.1
        have u2 := w4.2.1
        rw [if_neg (show ¬ ii ((rb (Sum.inr sx) : Nat) : Int) = (0 : Int32) from (show ¬ ii ((1 : Nat) : Int) = (0 : Int32) by decide)), if_neg (show ¬ ii ((rb (Sum.inr sx) : Nat) : Int) = (0 : Int32) from (show ¬ ii ((1 : Nat) : Int) = (0 : Int32) by decide))] at st
        simp (disch := omega) only [MR28 hM, MI27 hM, z4, Option.bind_some, k2, k1, n_sub, show t + 1 + 1 - 2 = t by omega, show t + 1 + 1 - 1 = t + 1 by omega, Ma16 hM, a16, z5, n_add, k60, n_le, Mv hM] at st
        simp only [Sum.elim_inr]
        by_cases g6 : s.2.1 + sx.2.1 ≤ 60
        · obtain ⟨A3, e3, y1, y2, y3, y4, y5⟩ := m_joins (A := A2) (B := B) (c := c) (t := t) hM hP (MS_MF hS f12).1.1 (by omega) z4 a16 z5 u1 u2 a17 z6 (fun k => isF_r hP h4 k) (fun k => isF_r hP w4 k)
          rw [if_pos g6] at st ⊢
          rw [e3] at st
          have f13 := MF_trans f12' y5 (Nat.le_refl _)
          obtain ⟨A', j1, j2, j3⟩ := ih (sx.1, s.2.1 + sx.2.1, ml p s.2.2 sx.2.2) A3 (show n < sx.1 + mm by omega) w2 w3 (isF_ml hP h4 w4 g6) (MS_MF hS f13) ⟨TM_of z1 (fun k hk => y2 k (by omega)), by rw [y2 18 (by omega)]; exact z2, by rw [y2 30 (by omega)]; exact z3, y1⟩ y3 y4 fu (by omega)
          exact ⟨A', by rw [jloop_go st]; exact j1, MF_trans f13 j2 (Nat.le_refl _), j3⟩
        · rw [if_neg g6] at st ⊢
          rw [k7, m_badAt hM z2] at st
          simp only [Option.bind_some] at st
          rw [if_pos (show ii ((0 : Nat) : Int) = (0 : Int32) from rfl)] at st
          obtain ⟨fv, rfl⟩ : ∃ x, fu = x + 1 := ⟨fu - 1, by omega⟩
          refine ⟨_, ?_, MF_trans f12' (MF_up (t := t) (k := 18) (v := ((8 * q2 + 7 : Nat) : Int)) (by omega)) (Nat.le_refl _), by show za A2 m _ m 18 = _; rw [za_at, up_at]⟩
          rw [jloop_go st]
          refine jloop_end ?_
          unfold f_X12_product_L5
          rw [if_pos (show ii ((0 : Nat) : Int) = (0 : Int32) from rfl)]
          rfl
    · rw [if_neg c42]
      refine ⟨A, jloop_end ?_, MF_refl m A t, hs, hA, hR⟩
      unfold f_X12_product_L5
      rw [if_neg (show ¬ ii ((1 : Nat) : Int) = (0 : Int32) by decide)]
      simp only [Mv hM, Option.bind_some, k42, hi]
      rw [bitN (show ¬ kdx T n s.1 = ((42 : Nat) : Int) by omega), if_pos (show ii ((0 : Nat) : Int) = (0 : Int32) from rfl)]
      rfl
theorem m_prod (hM : LM S m) (hP : PR p) (hd : d ≤ 8) (htd : t ≤ 2 * d + 1) (hw : ∀ (A : ZA) (q t : Nat), t ≤ 2 * d + 2 → MS A m T n p nl L → ST A m T n q d t → q ≤ n → tok T n q → MOK S B c m T n (ppow T n p (FL T n nl L) rc d q) A d t (f_X12_power_ re m (mz S A B c))) (hg : ∀ q, q ≤ n → tok T n q → GR T n p q (ppow T n p (FL T n nl L) rc d q)) (hS : MS A m T n p nl L) (hs : ST A m T n q d t) (hq : q ≤ n) (ht : tok T n q) :
    MOK S B c m T n (pprod T n p (FL T n nl L) rc d q) A d t (f_X12_product re m (mz S A B c)) := by
  obtain ⟨A1, e1, f1, r1⟩ := hw A q t (by omega) hS hs hq ht
  have hgr := hg q hq ht
  have hn := hS.2.1.2.1
  unfold f_X12_product pprod
  simp only [Mv hM, Option.bind_some, e1]
  cases e : ppow T n p (FL T n nl L) rc d q with
  | inl f =>
    rw [e] at r1
    have j : jloop (f_X12_product_L5 re m) jF (ii ((rb (Sum.inl f) : Nat) : Int)) (mz S A1 B c) = some (ii ((0 : Nat) : Int), mz S A1 B c) := by
      refine jloop_end (n := 19999) ?_
      unfold f_X12_product_L5
      rw [if_pos (show ii ((rb (Sum.inl f) : Nat) : Int) = (0 : Int32) from rfl)]
      rfl
    rw [j]
    exact ⟨A1, rfl, f1, r1⟩
  | inr s =>
    rw [e] at r1 hgr
    obtain ⟨s1, z2, z3⟩ := r1
    obtain ⟨w1, w2, w3, w4⟩ := hgr
    obtain ⟨A', j1, j2, j3⟩ := m_prodL (B := B) (c := c) hM hP hd htd (fun A q => hw A q (t + 1) (by omega)) hg 700 s A1 (by omega) w2 w3 w4 (MS_MF hS f1) s1 z2 z3 jF (by decide)
    have j1' : jloop (f_X12_product_L5 re m) jF (ii ((rb (Sum.inr s) : Nat) : Int)) (mz S A1 B c) = _ := j1
    rw [j1']
    simp only [Option.bind_some, Sum.elim_inr]
    rw [jzb_n (by unfold rb; cases pprl T n p (ppow T n p (FL T n nl L) rc d) 700 s <;> simp)]
    exact ⟨A', rfl, MF_trans f1 j2 (Nat.le_refl _), j3⟩
end rd
