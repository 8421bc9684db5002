/-! The reference reads a sum. -/
/-- a step of the sum, behind what it looks at -/
def mst (re : Nat → JH → Option (Int32 × JH)) (m : Nat) (by1 : Int32) (h : JH) : Option ((Int32 ⊕ Int32) × JH) :=
  (f_X12_go m h).bind fun q101 =>
  (jgI q101.2 m 9 14).bind fun v103 =>
  (jrecv q101.2 m 9).bind fun _ =>
  (f_X12_product re m q101.2).bind fun q105 =>
  if q105.1 = (0 : Int32) then
    if q105.1 = (0 : Int32) then
      some (.inl q105.1, q105.2)
    else
      (jloop (f_X12_sum_L100 re m q105.1 by1) jF (0 : Int32) q105.2).bind fun q107 =>
      (jgI q107.2 m 9 27).bind fun v109 =>
      (jput q107.2 m 9 27 (.int (v109 - (1 : Int32)))).bind fun h111 =>
      some (.inl q105.1, h111)
  else
    (jgR q105.2 m 9 28).bind fun v113 =>
    (jgI q105.2 m 9 27).bind fun v115 =>
    (jaI q105.2 v113 (v115 - (2 : Int32))).bind fun v117 =>
    (jgR q105.2 m 9 28).bind fun v119 =>
    (jgI q105.2 m 9 27).bind fun v121 =>
    (jaI q105.2 v119 (v121 - (1 : Int32))).bind fun v123 =>
    if v117 = v123 then
      if q105.1 = (0 : Int32) then
        some (.inl q105.1, q105.2)
      else
        (jloop (f_X12_sum_L100 re m q105.1 by1) jF (0 : Int32) q105.2).bind fun q125 =>
        (jgI q125.2 m 9 27).bind fun v127 =>
        (jput q125.2 m 9 27 (.int (v127 - (1 : Int32)))).bind fun h129 =>
        some (.inl q105.1, h129)
    else
      (jrecv q105.2 m 9).bind fun _ =>
      (f_X12_badAt m v103 (6 : Int32) q105.2).bind fun q131 =>
      if q131.1 = (0 : Int32) then
        some (.inl q131.1, q131.2)
      else
        (jloop (f_X12_sum_L100 re m q131.1 by1) jF (0 : Int32) q131.2).bind fun q133 =>
        (jgI q133.2 m 9 27).bind fun v135 =>
        (jput q133.2 m 9 27 (.int (v135 - (1 : Int32)))).bind fun h137 =>
        some (.inl q131.1, h137)

section rd
variable {S : SS} {A B : ZA} {c : (Nat × Nat) × (Nat → Nat)} {m n nl : Nat} {T : Nat → Int} {p : Int} {L : LT} {q d t : Nat} {re : Nat → JH → Option (Int32 × JH)} {rc : Nat → Nat → PRs}
def psgn (k : Int) : Int := if k = 43 then 1 else -1
theorem m_mst (hM : LM S m) (hT : TM A m T n q) (hr : q < n → -128 ≤ T q ∧ T q < 128) (hk : kdx T n q = 43 ∨ kdx T n q = 45) : f_X12_sum_L5 re m (ii ((1 : Nat) : Int)) (mz S A B c) = mst re m (ii (psgn (kdx T n q))) (mz S A B c) := by
  have h1 := m_is (A := A) (B := B) (c := c) (s := 43) hM hT (by omega) (by omega) hr
  have h2 := m_is (A := A) (B := B) (c := c) (s := 45) hM hT (by omega) (by omega) hr
  unfold f_X12_sum_L5
  rw [if_neg (show ¬ ii ((1 : Nat) : Int) = (0 : Int32) by decide), Mv hM, Option.bind_some, k43, h1, Option.bind_some]
  rcases hk with hk | hk
  · rw [bitY (show kdx T n q = ((43 : Nat) : Int) by omega)]
    rw [if_neg (show ¬ (ii ((1 : Nat) : Int), mz S A B c).1 = (0 : Int32) from (show ¬ ii ((1 : Nat) : Int) = (0 : Int32) by decide))]
    simp only [Mv hM, Option.bind_some, h1]
    rw [bitY (show kdx T n q = ((43 : Nat) : Int) by omega), if_neg (show ¬ ii ((1 : Nat) : Int) = (0 : Int32) by decide), hk]
    rfl
  · rw [bitN (show ¬ kdx T n q = ((43 : Nat) : Int) by omega)]
    rw [if_pos (show (ii ((0 : Nat) : Int), mz S A B c).1 = (0 : Int32) from rfl)]
    simp only [Mv hM, Option.bind_some, k45, h2, h1]
    rw [bitY (show kdx T n q = ((45 : Nat) : Int) by omega), if_neg (show ¬ ii ((1 : Nat) : Int) = (0 : Int32) by decide), bitN (show ¬ kdx T n q = ((43 : Nat) : Int) by omega), if_pos (show ii ((0 : Nat) : Int) = (0 : Int32) from rfl), hk]
    rfl
theorem sgn_em (p x y k : Int) : (x + psgn k * y) % p = (x + sgn p k * y) % p := by
  unfold psgn sgn
  by_cases g : k = 43
  · rw [if_pos g, if_pos g]
  · rw [if_neg g, if_neg g]
    have e : x + (p - 1) * y = (x + -1 * y) + p * y := by rw [Int.sub_mul]; omega
    rw [e, Int.add_mul_emod_self_left]
theorem m_adds (hM : LM S m) (hP : PR p) (hB : A m 1 = p) (ht : t + 2 ≤ 30) (h27 : A m 27 = ((t + 2 : Nat) : Int)) {R Q : Nat → Int} (h3 : ∀ k, k < 181 → A (m + 17) (181 * t + k) = R k) (h4 : ∀ k, k < 181 → A (m + 17) (181 * (t + 1) + k) = Q k) (r1 : ∀ k, 0 ≤ R k ∧ R k < p) (r2 : ∀ k, 0 ≤ Q k ∧ Q k < p) (k : Int) (g : Int32) :
    jloop (f_X12_sum_L100 re m g (ii (psgn k))) jF (ii ((0 : Nat) : Int)) (mz S A B c) = some (ii ((181 : Nat) : Int), mz S (za A (m + 17) (mo (ad p R (sc p (sgn p k) Q)) (A (m + 17)) (181 * t) 181)) B c) := by
  have hp := PR_p hP
  have hs : psgn k = 1 ∨ psgn k = -1 := by unfold psgn; split <;> omega
  exact fill_run (S := S) (A := A) (B := B) (c := c) (a := m + 17) (o := 181 * t) (f := f_X12_sum_L100 re m g (ii (psgn k))) (ad p R (sc p (sgn p k) Q)) 181 (by decide) (fun i hi => by
    have a1 := r1 i
    have a2 := r2 i
    have e1 : za A (m + 17) (mo (ad p R (sc p (sgn p k) Q)) (A (m + 17)) (181 * t) i) (m + 17) (181 * t + i) = R i := by rw [za_at, mo_out _ _ (by omega)]; exact h3 i hi
    have e2 : za A (m + 17) (mo (ad p R (sc p (sgn p k) Q)) (A (m + 17)) (181 * t) i) (m + 17) (181 * (t + 1) + i) = Q i := by rw [za_at, mo_out _ _ (by omega)]; exact h4 i hi
    have e3 : psgn k * Q i = Q i ∨ psgn k * Q i = -Q i := by rcases hs with h | h <;> rw [h] <;> omega
    have e4 : ad p R (sc p (sgn p k) Q) i = (R i + psgn k * Q i) % p := by
      rw [sgn_em]
      unfold ad sc
      rw [ser_at (by omega), ser_at (by omega), em_add_r]
    unfold f_X12_sum_L100
    simp (disch := omega) only [k181, n_le, show ¬ (181 ≤ i) by omega, ↓reduceIte, MR29 hM, MI27 hM, za_ne, h27, Option.bind_some, k2, k1, n_sub, show t + 2 - 2 = t by omega, show t + 2 - 1 = t + 1 by omega, n_mul, n_add, Ma17 hM, e1, e2, Mv hM]
    rw [ii_mul, ii_add, i_l (by omega) (by omega), m_left' (p := p) hM (by rw [za_ne _ _ (by omega)]; exact hB) (by omega) hp.2 (by omega) (by omega)]
    simp only [Option.bind_some]
    rw [jsI_m (MS17 hM) (by omega) (by omega) e4.symm]
    simp only [Option.bind_some]) (by
    unfold f_X12_sum_L100
    simp (disch := omega) only [k181, n_le, Nat.le_refl, ↓reduceIte])
theorem m_sumL (hM : LM S m) (hP : PR p) (hd : d ≤ 8) (htd : t ≤ 2 * d) (hw : ∀ (A : ZA) (q : Nat), MS A m T n p nl L → ST A m T n q d (t + 1) → q ≤ n → tok T n q → MOK S B c m T n (pprod T n p (FL T n nl L) rc d q) A d (t + 1) (f_X12_product re m (mz S A B c))) (hg : ∀ q, q ≤ n → tok T n q → GR T n p q (pprod T n p (FL T n nl L) rc d q)) :
    ∀ (mm : Nat) (s : Nat × Nat × (Nat → Int)) (A : ZA), n < s.1 + mm → s.1 ≤ n → tok T n s.1 → isF p s.2.1 s.2.2 → MS A m T n p nl L → ST A m T n s.1 d (t + 1) → A (m + 16) t = ((s.2.1 : Nat) : Int) → (∀ k, k < 181 → A (m + 17) (181 * t + k) = s.2.2 k) → ∀ fuel, mm + 1 < fuel →
    ∃ A' : ZA, jloop (f_X12_sum_L5 re m) fuel (ii ((1 : Nat) : Int)) (mz S A B c) = some (ii ((rb (psul T n p (pprod T n p (FL T n nl L) rc d) mm s) : Nat) : Int), mz S A' B c) ∧ MF m A A' t ∧ RM A' m T n d t (psul T n p (pprod T n p (FL T n nl L) rc d) mm s) := by
  have hp := PR_p hP
  intro mm
  induction mm with
  | zero => intro s A h1 h2; omega
  | succ mm ih =>
    intro s A h1 h2 h3 h4 hS hs hA hR fuel hfu
    obtain ⟨fu, rfl⟩ : ∃ x, fuel = x + 1 := ⟨fuel - 1, by omega⟩
    have hrng : s.1 < n → -128 ≤ T s.1 ∧ T s.1 < 128 := fun h => (hS.2.1.2.2 s.1 h).2
    unfold psul
    by_cases c42 : kdx T n s.1 = 43 ∨ kdx T n s.1 = 45
    · rw [if_pos c42]
      have hsn := kdx_n (T := T) (n := n) (q := s.1) (by omega)
      obtain ⟨x1, x2, x3, x4⟩ := nxt_ok hsn (tok_t h3 hsn)
      have st := m_mst (A := A) (B := B) (c := c) (re := re) hM hs.1 hrng c42
      generalize kdx T n s.1 = kk at st ⊢
      obtain ⟨A1, e1, g1, g2, g3⟩ := m_next (B := B) (c := c) hM hS.2.1 hs.1 hsn
      generalize nxt T n s.1 = q2 at x1 x2 x3 x4 g1 ⊢
      have f1 : MF m A A1 (t + 1) := MF_k g2 (fun k h1 _ _ => g3 k (by omega))
      have s1 : ST A1 m T n q2 d (t + 1) := ⟨g1, by rw [g3 18 (by omega)]; exact hs.2.1, by rw [g3 30 (by omega)]; exact hs.2.2.1, by rw [g3 27 (by omega)]; exact hs.2.2.2⟩
      obtain ⟨A2, e2, f2, r2⟩ := hw A1 q2 (MS_MF hS f1) s1 x2 x3
      have f12 := MF_trans f1 f2 (Nat.le_refl _)
      have f12' : MF m A A2 t := MF_trans (MF_refl m A t) f12 (by omega)
      have hgr := hg q2 x2 x3
      have a16 : A2 (m + 16) t = ((s.2.1 : Nat) : Int) := by rw [f12.2.2.1 t (by omega)]; exact hA
      have a17 : ∀ k, k < 181 → A2 (m + 17) (181 * t + k) = s.2.2 k := fun k hk => by rw [f12.2.2.2 _ (by omega)]; exact hR k hk
      unfold mst at st
      rw [e1] at st
      simp only [Option.bind_some] at st
      rw [MI14 hM, g1.1] at st
      simp only [Option.bind_some, Mv hM] at st
      rw [e2] at st
      simp only [Option.bind_some] at st
      cases e : pprod T n p (FL T n nl L) rc d q2 with
      | inl f =>
        rw [e] at st r2
        rw [if_pos (show ii ((rb (Sum.inl f) : Nat) : Int) = (0 : Int32) from rfl), if_pos (show ii ((rb (Sum.inl f) : Nat) : Int) = (0 : Int32) from rfl)] at st
        obtain ⟨fv, rfl⟩ : ∃ x, fu = x + 1 := ⟨fu - 1, by omega⟩
        refine ⟨A2, ?_, f12', r2⟩
        rw [jloop_go st]
        refine jloop_end ?_
        unfold f_X12_sum_L5
        rw [if_pos (show ii ((rb (Sum.inl f) : Nat) : Int) = (0 : Int32) from rfl)]
        rfl
      | inr sx =>
        rw [e] at st r2 hgr
        obtain ⟨⟨z1, z2, z3, z4⟩, z5, z6⟩ := r2
        obtain ⟨w1, w2, w3, w4⟩ := hgr
        have u1 := h4.2.1
        have u2 := w4.2.1
        have nz : ¬ ii ((rb (Sum.inr sx) : Nat) : Int) = (0 : Int32) := (show ¬ ii ((1 : Nat) : Int) = (0 : Int32) by decide)
        rw [if_neg nz] at st
        simp (disch := omega) only [MR28 hM, MI27 hM, z4, Option.bind_some, k2, k1, n_sub, show t + 1 + 1 - 2 = t by omega, show t + 1 + 1 - 1 = t + 1 by omega, Ma16 hM, a16, z5, n_eq, Mv hM] at st
        simp only [Sum.elim_inr]
        by_cases g6 : sx.2.1 = s.2.1
        · have w4' : isF p s.2.1 sx.2.2 := by rw [← g6]; exact w4
          have ea := m_adds (A := A2) (B := B) (c := c) (re := re) (t := t) hM hP (MS_MF hS f12).1.1 (by omega) z4 a17 z6 (fun k => isF_r hP h4 k) (fun k => isF_r hP w4 k) kk (ii ((rb (Sum.inr sx) : Nat) : Int))
          generalize hA3 : za A2 (m + 17) (mo (ad p s.2.2 (sc p (sgn p kk) sx.2.2)) (A2 (m + 17)) (181 * t) 181) = A3 at ea
          have b1 : ∀ x, x ≠ m + 17 → A3 x = A2 x := fun x hx => by rw [← hA3, za_ne _ _ hx]
          have b27 : A3 m 27 = ((t + 1 + 1 : Nat) : Int) := by rw [b1 _ (by omega)]; exact z4
          have ea' : jloop (f_X12_sum_L100 re m (ii ((rb (Sum.inr sx) : Nat) : Int)) (ii (psgn kk))) jF (0 : Int32) (mz S A2 B c) = some (ii ((181 : Nat) : Int), mz S A3 B c) := ea
          rw [if_pos g6]
          rw [if_pos (show s.2.1 = sx.2.1 from g6.symm), if_neg nz, ea'] at st
          simp (disch := omega) only [Option.bind_some, MI27 hM, b27, n_sub, show t + 1 + 1 - 1 = t + 1 by omega, MP27 hM] at st
          generalize hA4 : za A3 m (up (A3 m) 27 ((t + 1 : Nat) : Int)) = A4 at st
          have y2 : ∀ k, k ≠ 27 → A4 m k = A2 m k := fun k hk => by rw [← hA4, za_at, up_ne _ _ hk, b1 _ (by omega)]
          have y3 : ∀ x, x ≠ m → x ≠ m + 17 → A4 x = A2 x := fun x h h' => by rw [← hA4, za_ne _ _ h, b1 x h']
          have y4 : ∀ x, A4 (m + 17) x = A3 (m + 17) x := fun x => by rw [← hA4, za_ne _ _ (by omega)]
          have f4 : MF m A2 A4 t := ⟨fun x a _ _ _ e' => y3 x a e', fun k _ hk _ => y2 k hk, fun i hi => by rw [y3 _ (by omega) (by omega)], fun i hi => by rw [y4, ← hA3, za_at, mo_out _ _ (by omega)]⟩
          have f14 := MF_trans f12' f4 (Nat.le_refl _)
          obtain ⟨A', j1, j2, j3⟩ := ih (sx.1, s.2.1, ad p s.2.2 (sc p (sgn p kk) sx.2.2)) A4 (show n < sx.1 + mm by omega) w2 w3 (isF_ad h4 w4' _) (MS_MF hS f14) ⟨TM_of z1 (fun k hk => y2 k (by omega)), by rw [y2 18 (by omega)]; exact z2, by rw [y2 30 (by omega)]; exact z3, by rw [← hA4, za_at, up_at]⟩ (by rw [y3 _ (by omega) (by omega)]; exact a16) (fun k hk => by rw [y4, ← hA3, za_at, mo_in _ _ hk]) fu (by omega)
          exact ⟨A', by rw [jloop_go st]; exact j1, MF_trans f14 j2 (Nat.le_refl _), j3⟩
        · rw [if_neg g6]
          rw [if_neg (show ¬ s.2.1 = sx.2.1 from fun h => g6 h.symm), k6, m_badAt hM z2] at st
          simp only [Option.bind_some] at st
          rw [if_pos (show ii ((0 : Nat) : Int) = (0 : Int32) from rfl)] at st
          obtain ⟨fv, rfl⟩ : ∃ x, fu = x + 1 := ⟨fu - 1, by omega⟩
          refine ⟨_, ?_, MF_trans f12' (MF_up (t := t) (k := 18) (v := ((8 * q2 + 6 : Nat) : Int)) (by omega)) (Nat.le_refl _), by show za A2 m _ m 18 = _; rw [za_at, up_at]⟩
          rw [jloop_go st]
          refine jloop_end ?_
          unfold f_X12_sum_L5
          rw [if_pos (show ii ((0 : Nat) : Int) = (0 : Int32) from rfl)]
          rfl
    · rw [if_neg c42]
      refine ⟨A, jloop_end ?_, MF_refl m A t, hs, hA, hR⟩
      have i1 := m_is (A := A) (B := B) (c := c) (s := 43) hM hs.1 (by omega) (by omega) hrng
      have i2 := m_is (A := A) (B := B) (c := c) (s := 45) hM hs.1 (by omega) (by omega) hrng
      rw [bitN (show ¬ kdx T n s.1 = ((43 : Nat) : Int) by omega)] at i1
      rw [bitN (show ¬ kdx T n s.1 = ((45 : Nat) : Int) by omega)] at i2
      unfold f_X12_sum_L5
      rw [if_neg (show ¬ ii ((1 : Nat) : Int) = (0 : Int32) by decide), Mv hM, Option.bind_some, k43, i1, Option.bind_some]
      rw [if_pos (show (ii ((0 : Nat) : Int), mz S A B c).1 = (0 : Int32) from rfl)]
      rw [Mv hM, Option.bind_some, k45, i2, Option.bind_some]
      rw [if_pos (show (ii ((0 : Nat) : Int), mz S A B c).1 = (0 : Int32) from rfl)]
      rfl
theorem m_sum (hM : LM S m) (hP : PR p) (hd : d ≤ 8) (htd : t ≤ 2 * d) (hw : ∀ (A : ZA) (q t : Nat), t ≤ 2 * d + 1 → MS A m T n p nl L → ST A m T n q d t → q ≤ n → tok T n q → MOK S B c m T n (pprod T n p (FL T n nl L) rc d q) A d t (f_X12_product re m (mz S A B c))) (hg : ∀ q, q ≤ n → tok T n q → GR T n p q (pprod T n p (FL T n nl L) rc d q)) (hS : MS A m T n p nl L) (hs : ST A m T n q d t) (hq : q ≤ n) (ht : tok T n q) :
    MOK S B c m T n (Sum.elim Sum.inl (fun s => psul T n p (pprod T n p (FL T n nl L) rc d) 700 s) (pprod T n p (FL T n nl L) rc d q)) A d t (f_X12_sum re m (mz S A B c)) := by
  obtain ⟨A1, e1, f1, r1⟩ := hw A q t (by omega) hS hs hq ht
  have hgr := hg q hq ht
  have hn := hS.2.1.2.1
  unfold f_X12_sum
  simp only [Mv hM, Option.bind_some, e1]
  cases e : pprod T n p (FL T n nl L) rc d q with
  | inl f =>
    rw [e] at r1
    have j : jloop (f_X12_sum_L5 re m) jF (ii ((rb (Sum.inl f) : Nat) : Int)) (mz S A1 B c) = some (ii ((0 : Nat) : Int), mz S A1 B c) := by
      refine jloop_end (n := 19999) ?_
      unfold f_X12_sum_L5
      rw [if_pos (show ii ((rb (Sum.inl f) : Nat) : Int) = (0 : Int32) from rfl)]
      rfl
    rw [j]
    exact ⟨A1, rfl, f1, r1⟩
  | inr s =>
    rw [e] at r1 hgr
    obtain ⟨s1, z2, z3⟩ := r1
    obtain ⟨w1, w2, w3, w4⟩ := hgr
    obtain ⟨A', j1, j2, j3⟩ := m_sumL (B := B) (c := c) hM hP hd htd (fun A q => hw A q (t + 1) (by omega)) hg 700 s A1 (by omega) w2 w3 w4 (MS_MF hS f1) s1 z2 z3 jF (by decide)
    have j1' : jloop (f_X12_sum_L5 re m) jF (ii ((rb (Sum.inr s) : Nat) : Int)) (mz S A1 B c) = _ := j1
    rw [j1']
    simp only [Option.bind_some, Sum.elim_inr]
    rw [jzb_n (by unfold rb; cases psul T n p (pprod T n p (FL T n nl L) rc d) 700 s <;> simp)]
    exact ⟨A', rfl, MF_trans f1 j2 (Nat.le_refl _), j3⟩
/-- the reference reads a sum -/
theorem m_reads (hM : LM S m) (hP : PR p) (hF : ∀ i, i < nl → isF p (L i).2.1 (L i).2.2) : ∀ (k d : Nat), d + k = 10 → d ≤ 8 → MRec S B c m T n p nl L (n_X12_sum k) (psum T n p (FL T n nl L) k) d := by
  intro k
  induction k with
  | zero => intro d h1 h2; omega
  | succ k ih =>
    intro d h1 h2 A q t hS hs hq ht htd
    have hFL := FL_ok (T := T) (n := n) hF
    have gs : ∀ d q, q ≤ n → tok T n q → GR T n p q (psum T n p (FL T n nl L) k d q) := fun d q => psum_ok hP hFL k d q
    have ga : ∀ q, q ≤ n → tok T n q → GR T n p q (patom T n p (FL T n nl L) (psum T n p (FL T n nl L) k) d q) := fun q hq ht => patom_ok hP hFL (fun _ => gs (d + 1)) hq ht
    have gp : ∀ q, q ≤ n → tok T n q → GR T n p q (ppow T n p (FL T n nl L) (psum T n p (FL T n nl L) k) d q) := fun q hq ht => ppow_ok hP (ga q hq ht) hq
    have gr : ∀ q, q ≤ n → tok T n q → GR T n p q (pprod T n p (FL T n nl L) (psum T n p (FL T n nl L) k) d q) := fun q hq ht => pprod_ok hP gp hq ht
    exact m_sum (re := n_X12_sum k) hM hP h2 htd (fun A q t htd hS hs hq ht => m_prod hM hP h2 htd (fun A q t htd hS hs hq ht => m_pow hM hP hS hs hq ht h2 htd (m_atom hM hP hS hs hq ht h2 htd (fun g => ih (d + 1) (by omega) (by omega)) (fun _ => gs (d + 1))) (ga q hq ht)) gp hS hs hq ht) gr hS hs hq ht
end rd
