/-! The class reads a product, a sum. -/
section rd
variable {S : SS} {A B : ZA} {c : (Nat × Nat) × (Nat → Nat)} {b n nl : Nat} {T : Nat → Int} {p : Int} {L : LT} {q d : Nat} {re : Nat → Int32 → JH → Option (Int32 × JH)} {rc : Nat → Nat → PRs}
/-- how a loop of the reader ends -/
def LE (t : Int32 ⊕ Int32) (r : PRs) : Prop := Sum.elim (fun x => x) (fun _ => ii ((1 : Nat) : Int)) t = ii ((rb r : Nat) : Int)
theorem x_prodL (hX : LX S b) (hP : PR p) (hd : d ≤ 8) (hw : ∀ (A : ZA) (q : Nat), CS S A c b T n p nl L → A (b + 155) 6 = ((tcn T q : Nat) : Int) → q ≤ n → tok T n q → COK S B c b T (ppow T n p (FL T n nl L) rc d q) A (d + 1) (d + 1) d (b + 212 + 1 + 2 * d) (f_X0_readPower re (b + 155) (ii (d : Int)) (mz S A B c))) (hg : ∀ q, q ≤ n → tok T n q → GR T n p q (ppow T n p (FL T n nl L) rc d q)) :
    ∀ (m : Nat) (s : Nat × Nat × (Nat → Int)) (A : ZA) (i : Nat), n < s.1 + m → s.1 ≤ n → tok T n s.1 → isF p s.2.1 s.2.2 → CS S A c b T n p nl L → A (b + 155) 6 = ((tcn T s.1 : Nat) : Int) → A (b + 193 + 1 + 2 * d) 0 = ((s.2.1 : Nat) : Int) → (∀ k, k < 6 → A (b + 193 + 1 + 2 * d + 1) k = s.2.2 k) → i ≤ tcn T s.1 → ∀ fuel, m < fuel →
    ∃ (A' : ZA) (t : Int32 ⊕ Int32), jloop (f_X0_readProduct_L32 re (b + 155) (ii (d : Int)) (b + 193 + 1 + 2 * d) (b + 212 + 1 + 2 * d)) fuel (ii (i : Int)) (mz S A B c) = some (t, mz S A' B c) ∧ PF b A A' (d + 1) d d ∧ RX A' b T (b + 193 + 1 + 2 * d) (pprl T n p (ppow T n p (FL T n nl L) rc d) m s) ∧ LE t (pprl T n p (ppow T n p (FL T n nl L) rc d) m s) := by
  have hfm := fgF (L_pro hX) (show d < 9 by omega)
  have hfw := fgF (L_pow hX) (show d < 9 by omega)
  have hp := PR_p hP
  intro m
  induction m with
  | zero => intro s A i h1 h2; omega
  | succ m ih =>
    intro s A i h1 h2 h3 h4 hC hi hA hR hil fuel hfu
    obtain ⟨fu, rfl⟩ : ∃ q, fuel = q + 1 := ⟨fuel - 1, by omega⟩
    have hn := hC.2.2.1
    have hc1 := tcn_le T s.1
    have hc2 := tcn_le T n
    have hc3 := tcn_m (T := T) h2
    have hkr := kdx_r T n s.1
    have h31 := hC.2.1.1
    unfold pprl
    by_cases g : tcn T n ≤ i
    · have e : s.1 = n := by
        rcases h3 with h | h
        · exact h
        · have := tcn_lt (T := T) h.1 h.2
          omega
      rw [if_neg (by rw [e, kdx_end]; decide)]
      refine ⟨A, .inr (ii (i : Int)), jloop_end ?_, PF_refl _ _ _ _ _, ⟨hi, hA, hR⟩, rfl⟩
      unfold f_X0_readProduct_L32
      simp (disch := omega) only [DR5 hX, KI3 hX, h31, Option.bind_some, n_le, g, ↓reduceIte]
    · by_cases c42 : kdx T n s.1 = 42
      · rw [if_pos c42]
        have hsn := kdx_n (T := T) (n := n) (q := s.1) (by omega)
        obtain ⟨x1, x2, x3, x4⟩ := nxt_ok hsn (tok_t h3 hsn)
        have f1 : PF b A (za A (b + 155) (up (A (b + 155)) 6 ((tcn T (nxt T n s.1) : Nat) : Int))) (d + 1) d d := PF_k (Or.inr rfl)
        have hgo := x_goOn (B := B) hX hC hi hsn h3
        generalize nxt T n s.1 = q2 at x1 x2 x3 x4 f1 hgo ⊢
        generalize hA1 : za A (b + 155) (up (A (b + 155)) 6 ((tcn T q2 : Nat) : Int)) = A1 at f1 hgo
        have i1 : A1 (b + 155) 6 = ((tcn T q2 : Nat) : Int) := by rw [← hA1, za_at, up_at]
        have g1 : ∀ x, x ≠ b + 155 → A1 x = A x := fun x hx => by rw [← hA1, za_ne _ _ hx]
        have hC1 := CS_PF hC f1
        obtain ⟨A2, e2, f2, r2⟩ := hw A1 q2 hC1 i1 x2 x3
        have f12 : PF b A A2 (d + 1) d d := PF_trans f1 f2 (by omega) (by omega) (by omega)
        have hC2 := CS_PF hC f12
        have hgr := hg q2 x2 x3
        have st : f_X0_readProduct_L32 re (b + 155) (ii (d : Int)) (b + 193 + 1 + 2 * d) (b + 212 + 1 + 2 * d) (ii (i : Int)) (mz S A B c) = (if ii ((rb (ppow T n p (FL T n nl L) rc d q2) : Nat) : Int) = (0 : Int32) then some (.inr (.inl (0 : Int32)), mz S A2 B c) else (jgI (mz S A2 B c) (b + 193 + 1 + 2 * d) 1 0).bind fun v25 => (jgI (mz S A2 B c) (b + 212 + 1 + 2 * d) 1 0).bind fun v27 => if (v25 + v27) ≤ (60 : Int32) then (jgI (mz S A2 B c) (b + 155) 0 1).bind fun v29 => (jrecv (mz S A2 B c) (b + 193 + 1 + 2 * d) 1).bind fun _ => (f_X2_multiplyBy (b + 193 + 1 + 2 * d) (b + 212 + 1 + 2 * d) v29 (mz S A2 B c)).bind fun q31 => some (.inl (ii (i : Int) + (1 : Int32)), q31.2) else (jrecv (mz S A2 B c) (b + 155) 0).bind fun _ => (f_X0_fail (b + 155) (7 : Int32) (ii ((tcn T q2 : Nat) : Int)) (mz S A2 B c)).bind fun q35 => (jzb q35.1).bind fun _ => some (.inr (.inl q35.1), q35.2)) := by
          unfold f_X0_readProduct_L32
          simp (disch := omega) only [DR5 hX, KI3 hX, h31, Option.bind_some, n_le, g, ↓reduceIte, Dv hX, x_kind hX hC hi h2 h3, k42, i_eq, show kdx T n s.1 = ((42 : Nat) : Int) by omega, hgo, DI6 hX, i1, e2]
        cases e : ppow T n p (FL T n nl L) rc d q2 with
        | inl f =>
          rw [e] at st r2
          refine ⟨A2, .inl (0 : Int32), jloop_end ?_, f12, r2, rfl⟩
          rw [st, if_pos (show ii ((rb (Sum.inl f) : Nat) : Int) = (0 : Int32) from rfl)]
        | inr s1 =>
          rw [e] at st r2 hgr
          obtain ⟨z1, z2, z3⟩ := r2
          obtain ⟨w1, w2, w3, w4⟩ := hgr
          have hA2 : A2 (b + 193 + 1 + 2 * d) 0 = ((s.2.1 : Nat) : Int) := by rw [f2.2.2.2.1 _ (by omega) (by omega), g1 _ (by omega)]; exact hA
          have hR2 : ∀ k, k < 6 → A2 (b + 193 + 1 + 2 * d + 1) k = s.2.2 k := fun k hk => by rw [f2.2.2.2.1 _ (by omega) (by omega), g1 _ (by omega)]; exact hR k hk
          have u1 := h4.2.1
          have u2 := w4.2.1
          rw [if_neg (show ¬ ii ((rb (Sum.inr s1) : Nat) : Int) = (0 : Int32) from (show ¬ ii ((1 : Nat) : Int) = (0 : Int32) by decide))] at st
          simp (disch := omega) only [FI hfm, FI hfw, hA2, z2, Option.bind_some, n_add, k60, n_le] at st
          simp only [Sum.elim_inr]
          by_cases g6 : s.2.1 + s1.2.1 ≤ 60
          · obtain ⟨A3, e3, y1, y2, y3⟩ := x_mulf (A := A2) (B := B) (c := c) (p := p) hfm hfw (by omega) hp.2 (fun k hk => by rw [hR2 k hk]; exact isF_r hP h4 k) (fun k hk => by rw [z3 k hk]; exact isF_r hP w4 k)
            have f3 : PF b A2 A3 (d + 1) d d := PF_f y3 (by omega) (by omega) (by omega) (by omega)
            have f13 : PF b A A3 (d + 1) d d := PF_trans f12 f3 (by omega) (by omega) (by omega)
            rw [if_pos g6] at st ⊢
            simp (disch := omega) only [DI1 hX, hC2.2.2.2.1, Option.bind_some, FV hfm, e3, k1, n_add] at st
            obtain ⟨A', t, j1, j2, j3, j4⟩ := ih (s1.1, s.2.1 + s1.2.1, ml p s.2.2 s1.2.2) A3 (i + 1) (show n < s1.1 + m by omega) w2 w3 (isF_ml hP h4 w4 g6) (CS_PF hC f13) (by rw [y3 _ (by omega) (by omega)]; exact z1) (by rw [y1, hA2, z2]; rfl) (fun k hk => by
              rw [y2 k hk]
              show _ = ml p s.2.2 s1.2.2 k
              unfold ml
              rw [ser_at (by omega)]
              exact congrArg (· % p) (sm_congr fun i hi => by rw [hR2 i (by omega), z3 (k - i) (by omega)])) (show i + 1 ≤ tcn T s1.1 by have := tcn_m (T := T) (show q2 ≤ s1.1 by omega); omega) fu (by omega)
            exact ⟨A', t, by rw [jloop_go st, j1], PF_trans f13 j2 (by omega) (by omega) (by omega), j3, j4⟩
          · rw [if_neg g6] at st ⊢
            simp only [Dv hX, Option.bind_some, k7, x_fail hX hC2 x2 x3, jzb_n (Or.inl rfl)] at st
            exact ⟨_, .inl (ii ((0 : Nat) : Int)), jloop_end st, PF_trans f12 (PF_k (s := d + 1) (r := d) (w := d) (Or.inl rfl)) (by omega) (by omega) (by omega), by show za A2 (b + 155) _ (b + 155) 0 = _; rw [za_at, up_at], rfl⟩
      · rw [if_neg c42]
        refine ⟨A, .inr (ii (i : Int)), jloop_end ?_, PF_refl _ _ _ _ _, ⟨hi, hA, hR⟩, rfl⟩
        unfold f_X0_readProduct_L32
        simp (disch := omega) only [DR5 hX, KI3 hX, h31, Option.bind_some, n_le, g, ↓reduceIte, Dv hX, x_kind hX hC hi h2 h3, k42, i_eq, show ¬ kdx T n s.1 = ((42 : Nat) : Int) by omega]
theorem x_prod (hX : LX S b) (hP : PR p) (hd : d ≤ 8) (hw : ∀ (A : ZA) (q : Nat), CS S A c b T n p nl L → A (b + 155) 6 = ((tcn T q : Nat) : Int) → q ≤ n → tok T n q → COK S B c b T (ppow T n p (FL T n nl L) rc d q) A (d + 1) (d + 1) d (b + 212 + 1 + 2 * d) (f_X0_readPower re (b + 155) (ii (d : Int)) (mz S A B c))) (hg : ∀ q, q ≤ n → tok T n q → GR T n p q (ppow T n p (FL T n nl L) rc d q))
    (hC : CS S A c b T n p nl L) (hi : A (b + 155) 6 = ((tcn T q : Nat) : Int)) (hq : q ≤ n) (ht : tok T n q) :
    COK S B c b T (pprod T n p (FL T n nl L) rc d q) A (d + 1) d d (b + 193 + 1 + 2 * d) (f_X0_readProduct re (b + 155) (ii (d : Int)) (mz S A B c)) := by
  have hfm := fgF (L_pro hX) (show d < 9 by omega)
  have hfw := fgF (L_pow hX) (show d < 9 by omega)
  obtain ⟨A1, e1, f1, r1⟩ := hw A q hC hi hq ht
  have hgr := hg q hq ht
  have hn := hC.2.2.1
  have hC1 := CS_PF hC f1
  unfold f_X0_readProduct pprod
  simp only [Dv hX, Option.bind_some, e1]
  cases e : ppow T n p (FL T n nl L) rc d q with
  | inl f =>
    rw [e] at r1
    rw [if_pos (show ii ((rb (Sum.inl f) : Nat) : Int) = (0 : Int32) from rfl)]
    exact ⟨A1, rfl, PF_mono f1 (by omega) (by omega) (by omega), r1⟩
  | inr s =>
    rw [e] at r1 hgr
    obtain ⟨z1, z2, z3⟩ := r1
    obtain ⟨w1, w2, w3, w4⟩ := hgr
    rw [if_neg (show ¬ ii ((rb (Sum.inr s) : Nat) : Int) = (0 : Int32) from (show ¬ ii ((1 : Nat) : Int) = (0 : Int32) by decide))]
    obtain ⟨A2, e2, y1, y2, y3⟩ := x_copy (A := A1) (B := B) (c := c) hfm hfw
    have f2 : PF b A1 A2 (d + 1) d d := PF_f y3 (by omega) (by omega) (by omega) (by omega)
    have f12 : PF b A A2 (d + 1) d d := PF_trans (PF_mono f1 (by omega) (by omega) (by omega)) f2 (by omega) (by omega) (by omega)
    simp (disch := omega) only [DR8 hX, DR9 hX, Option.bind_some, fgR (L_pro hX), fgR (L_pow hX), FV hfm, e2]
    obtain ⟨A', t, j1, j2, j3, j4⟩ := x_prodL (B := B) hX hP hd hw hg 700 s A2 0 (by omega) w2 w3 w4 (CS_PF hC f12) (by rw [y3 _ (by omega) (by omega)]; exact z1) (by rw [y1]; exact z2) (fun k hk => by rw [y2 k hk]; exact z3 k hk) (Nat.zero_le _) jF (by decide)
    have j1' : jloop (f_X0_readProduct_L32 re (b + 155) (ii (d : Int)) (b + 193 + 1 + 2 * d) (b + 212 + 1 + 2 * d)) jF (0 : Int32) (mz S A2 B c) = some (t, mz S A' B c) := j1
    rw [j1']
    refine ⟨A', ?_, PF_trans f12 j2 (by omega) (by omega) (by omega), j3⟩
    cases t with
    | inl x => exact congrArg (fun z => some (z, mz S A' B c)) j4
    | inr x => exact congrArg (fun z => some (z, mz S A' B c)) j4
/-- a step of the sum, behind what it looks at -/
def smt (re : Nat → Int32 → JH → Option (Int32 × JH)) (a0 : Nat) (a1 : Int32) (a2 a3 : Nat) (z fac : Int32) (h : JH) : Option ((Int32 ⊕ (Int32 ⊕ Int32)) × JH) :=
  (f_X0_goOn a0 h).bind fun q49 =>
  (jgI q49.2 a0 0 6).bind fun v51 =>
  (jrecv q49.2 a0 0).bind fun _ =>
  (f_X0_readProduct re a0 a1 q49.2).bind fun q53 =>
  if q53.1 = (0 : Int32) then
    some (.inr (.inl (0 : Int32)), q53.2)
  else
    (jgI q53.2 a3 1 0).bind fun v55 =>
    (jgI q53.2 a2 1 0).bind fun v57 =>
    if v55 = v57 then
      (jgI q53.2 a0 0 1).bind fun v59 =>
      (jrecv q53.2 a2 1).bind fun _ =>
      (f_X2_add a2 a3 fac v59 q53.2).bind fun q61 =>
      some (.inl (z + (1 : Int32)), q61.2)
    else
      (jrecv q53.2 a0 0).bind fun _ =>
      (f_X0_fail a0 (6 : Int32) v51 q53.2).bind fun q65 =>
      (jzb q65.1).bind fun _ =>
      some (.inr (.inl q65.1), q65.2)
theorem x_smt (hX : LX S b) (hP : PR p) (hC : CS S A c b T n p nl L) (hi : A (b + 155) 6 = ((tcn T q : Nat) : Int)) (hq : q ≤ n) (ht : tok T n q) (hk : kdx T n q = 43 ∨ kdx T n q = 45) {i : Nat} (hil : i < tcn T n) {f g : Nat} : f_X0_readSum_L32 re (b + 155) (ii (d : Int)) f g (ii (i : Int)) (mz S A B c) = smt re (b + 155) (ii (d : Int)) f g (ii (i : Int)) (ii (sgn p (kdx T n q))) (mz S A B c) := by
  have hn := hC.2.2.1
  have hc2 := tcn_le T n
  have hp := PR_p hP
  have h31 := hC.2.1.1
  have hD1 := hC.2.2.2.1
  unfold f_X0_readSum_L32 sgn
  rcases hk with hk | hk
  · simp (config := { maxSteps := 2000000 }) (disch := omega) only [DR5 hX, KI3 hX, h31, Option.bind_some, n_le, show ¬ (tcn T n ≤ i) by omega, ↓reduceIte, Dv hX, x_kind hX hC hi hq ht, k43, i_eq, hk]
    rw [if_pos (show (43 : Int) = ((43 : Nat) : Int) from rfl), if_pos (show (43 : Int) = ((43 : Nat) : Int) from rfl)]
    rfl
  · simp (config := { maxSteps := 2000000 }) (disch := omega) only [DR5 hX, KI3 hX, h31, Option.bind_some, n_le, show ¬ (tcn T n ≤ i) by omega, ↓reduceIte, Dv hX, x_kind hX hC hi hq ht, k43, k45, i_eq, hk, DI1 hX, hD1]
    rw [if_neg (by decide), if_pos (by decide), if_neg (by decide), show (1 : Int32) = ii 1 from rfl, ii_sub]
    rfl
theorem x_sumL (hX : LX S b) (hP : PR p) (hd : d ≤ 8) (hw : ∀ (A : ZA) (q : Nat), CS S A c b T n p nl L → A (b + 155) 6 = ((tcn T q : Nat) : Int) → q ≤ n → tok T n q → COK S B c b T (pprod T n p (FL T n nl L) rc d q) A (d + 1) d d (b + 193 + 1 + 2 * d) (f_X0_readProduct re (b + 155) (ii (d : Int)) (mz S A B c))) (hg : ∀ q, q ≤ n → tok T n q → GR T n p q (pprod T n p (FL T n nl L) rc d q)) :
    ∀ (m : Nat) (s : Nat × Nat × (Nat → Int)) (A : ZA) (i : Nat), n < s.1 + m → s.1 ≤ n → tok T n s.1 → isF p s.2.1 s.2.2 → CS S A c b T n p nl L → A (b + 155) 6 = ((tcn T s.1 : Nat) : Int) → A (b + 174 + 1 + 2 * d) 0 = ((s.2.1 : Nat) : Int) → (∀ k, k < 6 → A (b + 174 + 1 + 2 * d + 1) k = s.2.2 k) → i ≤ tcn T s.1 → ∀ fuel, m < fuel →
    ∃ (A' : ZA) (t : Int32 ⊕ Int32), jloop (f_X0_readSum_L32 re (b + 155) (ii (d : Int)) (b + 174 + 1 + 2 * d) (b + 193 + 1 + 2 * d)) fuel (ii (i : Int)) (mz S A B c) = some (t, mz S A' B c) ∧ PF b A A' d d d ∧ RX A' b T (b + 174 + 1 + 2 * d) (psul T n p (pprod T n p (FL T n nl L) rc d) m s) ∧ LE t (psul T n p (pprod T n p (FL T n nl L) rc d) m s) := by
  have hfm := fgF (L_sum hX) (show d < 9 by omega)
  have hfw := fgF (L_pro hX) (show d < 9 by omega)
  have hp := PR_p hP
  intro m
  induction m with
  | zero => intro s A i h1 h2; omega
  | succ m ih =>
    intro s A i h1 h2 h3 h4 hC hi hA hR hil fuel hfu
    obtain ⟨fu, rfl⟩ : ∃ q, fuel = q + 1 := ⟨fuel - 1, by omega⟩
    have hn := hC.2.2.1
    have hc1 := tcn_le T s.1
    have hc2 := tcn_le T n
    have hc3 := tcn_m (T := T) h2
    have hkr := kdx_r T n s.1
    have h31 := hC.2.1.1
    unfold psul
    by_cases g : tcn T n ≤ i
    · have e : s.1 = n := by
        rcases h3 with h | h
        · exact h
        · have := tcn_lt (T := T) h.1 h.2
          omega
      rw [if_neg (by rw [e, kdx_end]; decide)]
      refine ⟨A, .inr (ii (i : Int)), jloop_end ?_, PF_refl _ _ _ _ _, ⟨hi, hA, hR⟩, rfl⟩
      unfold f_X0_readSum_L32
      simp (disch := omega) only [DR5 hX, KI3 hX, h31, Option.bind_some, n_le, g, ↓reduceIte]
    · by_cases c42 : kdx T n s.1 = 43 ∨ kdx T n s.1 = 45
      · rw [if_pos c42]
        have hsn := kdx_n (T := T) (n := n) (q := s.1) (by omega)
        obtain ⟨x1, x2, x3, x4⟩ := nxt_ok hsn (tok_t h3 hsn)
        have st := x_smt (B := B) (re := re) (d := d) (f := b + 174 + 1 + 2 * d) (g := b + 193 + 1 + 2 * d) hX hP hC hi h2 h3 c42 (show i < tcn T n by omega)
        have hsg : 0 ≤ sgn p (kdx T n s.1) ∧ sgn p (kdx T n s.1) < p := by unfold sgn; split <;> omega
        generalize sgn p (kdx T n s.1) = fa at st hsg ⊢
        have f1 : PF b A (za A (b + 155) (up (A (b + 155)) 6 ((tcn T (nxt T n s.1) : Nat) : Int))) (d + 1) d d := PF_k (Or.inr rfl)
        have hgo := x_goOn (B := B) hX hC hi hsn h3
        generalize nxt T n s.1 = q2 at x1 x2 x3 x4 f1 hgo ⊢
        generalize hA1 : za A (b + 155) (up (A (b + 155)) 6 ((tcn T q2 : Nat) : Int)) = A1 at f1 hgo
        have i1 : A1 (b + 155) 6 = ((tcn T q2 : Nat) : Int) := by rw [← hA1, za_at, up_at]
        have g1 : ∀ x, x ≠ b + 155 → A1 x = A x := fun x hx => by rw [← hA1, za_ne _ _ hx]
        have hC1 := CS_PF hC f1
        obtain ⟨A2, e2, f2, r2⟩ := hw A1 q2 hC1 i1 x2 x3
        have f12 : PF b A A2 d d d := PF_trans (PF_mono f1 (by omega) (by omega) (by omega)) f2 (by omega) (by omega) (by omega)
        have hC2 := CS_PF hC f12
        have hgr := hg q2 x2 x3
        unfold smt at st
        simp only [hgo, Option.bind_some, DI6 hX, i1, Dv hX, e2] at st
        cases e : pprod T n p (FL T n nl L) rc d q2 with
        | inl f =>
          rw [e] at st r2
          rw [if_pos (show ii ((rb (Sum.inl f) : Nat) : Int) = (0 : Int32) from rfl)] at st
          exact ⟨A2, .inl (0 : Int32), jloop_end st, f12, r2, rfl⟩
        | inr s1 =>
          rw [e] at st r2 hgr
          obtain ⟨z1, z2, z3⟩ := r2
          obtain ⟨w1, w2, w3, w4⟩ := hgr
          have hA2 : A2 (b + 174 + 1 + 2 * d) 0 = ((s.2.1 : Nat) : Int) := by rw [f2.2.2.1 _ (by omega) (by omega), g1 _ (by omega)]; exact hA
          have hR2 : ∀ k, k < 6 → A2 (b + 174 + 1 + 2 * d + 1) k = s.2.2 k := fun k hk => by rw [f2.2.2.1 _ (by omega) (by omega), g1 _ (by omega)]; exact hR k hk
          have u1 := h4.2.1
          have u2 := w4.2.1
          rw [if_neg (show ¬ ii ((rb (Sum.inr s1) : Nat) : Int) = (0 : Int32) from (show ¬ ii ((1 : Nat) : Int) = (0 : Int32) by decide))] at st
          simp (disch := omega) only [FI hfm, FI hfw, hA2, z2, Option.bind_some, n_eq] at st
          simp only [Sum.elim_inr]
          by_cases g6 : s1.2.1 = s.2.1
          · obtain ⟨A3, e3, y2, y3⟩ := x_addf (A := A2) (B := B) (c := c) (v := fa) (p := p) hfm hfw (by omega) hp.2 hsg (fun k hk => by rw [hR2 k hk]; exact isF_r hP h4 k) (fun k hk => by rw [z3 k hk]; exact isF_r hP w4 k)
            have f3 : PF b A2 A3 d d d := PF_f (f := b + 174 + 1 + 2 * d) (fun x _ hx => y3 x hx) (by omega) (by omega) (by omega) (by omega)
            have f13 : PF b A A3 d d d := PF_trans f12 f3 (by omega) (by omega) (by omega)
            rw [if_pos g6] at st ⊢
            simp (disch := omega) only [DI1 hX, hC2.2.2.2.1, Option.bind_some, FV hfm, e3, k1, n_add] at st
            have w4' : isF p s.2.1 s1.2.2 := by rw [← g6]; exact w4
            obtain ⟨A', t, j1, j2, j3, j4⟩ := ih (s1.1, s.2.1, ad p s.2.2 (sc p fa s1.2.2)) A3 (i + 1) (show n < s1.1 + m by omega) w2 w3 (isF_ad h4 w4' _) (CS_PF hC f13) (by rw [y3 _ (by omega)]; exact z1) (by rw [y3 _ (by omega), hA2]) (fun k hk => by
              rw [y2 k hk, hR2 k hk, z3 k hk]
              show _ = ad p s.2.2 (sc p fa s1.2.2) k
              unfold ad sc
              rw [ser_at (by omega), ser_at (by omega), em_add_r]) (show i + 1 ≤ tcn T s1.1 by have := tcn_m (T := T) (show q2 ≤ s1.1 by omega); omega) fu (by omega)
            exact ⟨A', t, by rw [jloop_go st, j1], PF_trans f13 j2 (by omega) (by omega) (by omega), j3, j4⟩
          · rw [if_neg g6] at st ⊢
            simp only [Dv hX, Option.bind_some, k6, x_fail hX hC2 x2 x3, jzb_n (Or.inl rfl)] at st
            exact ⟨_, .inl (ii ((0 : Nat) : Int)), jloop_end st, PF_trans f12 (PF_k (s := d) (r := d) (w := d) (Or.inl rfl)) (by omega) (by omega) (by omega), by show za A2 (b + 155) _ (b + 155) 0 = _; rw [za_at, up_at], rfl⟩
      · rw [if_neg c42]
        refine ⟨A, .inr (ii (i : Int)), jloop_end ?_, PF_refl _ _ _ _ _, ⟨hi, hA, hR⟩, rfl⟩
        unfold f_X0_readSum_L32
        simp (disch := omega) only [DR5 hX, KI3 hX, h31, Option.bind_some, n_le, g, ↓reduceIte, Dv hX, x_kind hX hC hi h2 h3, k43, k45, i_eq, show ¬ kdx T n s.1 = ((43 : Nat) : Int) by omega, show ¬ kdx T n s.1 = ((45 : Nat) : Int) by omega]
theorem x_sum (hX : LX S b) (hP : PR p) (hd : d ≤ 8) (hw : ∀ (A : ZA) (q : Nat), CS S A c b T n p nl L → A (b + 155) 6 = ((tcn T q : Nat) : Int) → q ≤ n → tok T n q → COK S B c b T (pprod T n p (FL T n nl L) rc d q) A (d + 1) d d (b + 193 + 1 + 2 * d) (f_X0_readProduct re (b + 155) (ii (d : Int)) (mz S A B c))) (hg : ∀ q, q ≤ n → tok T n q → GR T n p q (pprod T n p (FL T n nl L) rc d q))
    (hC : CS S A c b T n p nl L) (hi : A (b + 155) 6 = ((tcn T q : Nat) : Int)) (hq : q ≤ n) (ht : tok T n q) :
    COK S B c b T (Sum.elim Sum.inl (fun s => psul T n p (pprod T n p (FL T n nl L) rc d) 700 s) (pprod T n p (FL T n nl L) rc d q)) A d d d (b + 174 + 1 + 2 * d) (f_X0_readSum re (b + 155) (ii (d : Int)) (mz S A B c)) := by
  have hfm := fgF (L_sum hX) (show d < 9 by omega)
  have hfw := fgF (L_pro hX) (show d < 9 by omega)
  obtain ⟨A1, e1, f1, r1⟩ := hw A q hC hi hq ht
  have hgr := hg q hq ht
  have hn := hC.2.2.1
  have hC1 := CS_PF hC f1
  unfold f_X0_readSum
  simp only [Dv hX, Option.bind_some, e1]
  cases e : pprod T n p (FL T n nl L) rc d q with
  | inl f =>
    rw [e] at r1
    rw [if_pos (show ii ((rb (Sum.inl f) : Nat) : Int) = (0 : Int32) from rfl)]
    exact ⟨A1, rfl, PF_mono f1 (by omega) (by omega) (by omega), r1⟩
  | inr s =>
    rw [e] at r1 hgr
    obtain ⟨z1, z2, z3⟩ := r1
    obtain ⟨w1, w2, w3, w4⟩ := hgr
    rw [if_neg (show ¬ ii ((rb (Sum.inr s) : Nat) : Int) = (0 : Int32) from (show ¬ ii ((1 : Nat) : Int) = (0 : Int32) by decide))]
    obtain ⟨A2, e2, y1, y2, y3⟩ := x_copy (A := A1) (B := B) (c := c) hfm hfw
    have f2 : PF b A1 A2 d d d := PF_f y3 (by omega) (by omega) (by omega) (by omega)
    have f12 : PF b A A2 d d d := PF_trans (PF_mono f1 (by omega) (by omega) (by omega)) f2 (by omega) (by omega) (by omega)
    simp (disch := omega) only [DR7 hX, DR8 hX, Option.bind_some, fgR (L_sum hX), fgR (L_pro hX), FV hfm, e2]
    obtain ⟨A', t, j1, j2, j3, j4⟩ := x_sumL (B := B) hX hP hd hw hg 700 s A2 0 (by omega) w2 w3 w4 (CS_PF hC f12) (by rw [y3 _ (by omega) (by omega)]; exact z1) (by rw [y1]; exact z2) (fun k hk => by rw [y2 k hk]; exact z3 k hk) (Nat.zero_le _) jF (by decide)
    have j1' : jloop (f_X0_readSum_L32 re (b + 155) (ii (d : Int)) (b + 174 + 1 + 2 * d) (b + 193 + 1 + 2 * d)) jF (0 : Int32) (mz S A2 B c) = some (t, mz S A' B c) := j1
    rw [j1']
    refine ⟨A', ?_, PF_trans f12 j2 (by omega) (by omega) (by omega), j3⟩
    cases t with
    | inl x => exact congrArg (fun z => some (z, mz S A' B c)) j4
    | inr x => exact congrArg (fun z => some (z, mz S A' B c)) j4
theorem FL_ok {T : Nat → Int} {n nl : Nat} {L : LT} {p : Int} (h : ∀ i, i < nl → isF p (L i).2.1 (L i).2.2) : ∀ v s, FL T n nl L v = some s → isF p s.1 s.2 := by
  intro v s hs
  unfold FL at hs
  by_cases g : fnd (fun i => vlx T n (L i).1 = v) nl 0 < nl
  · rw [if_pos g] at hs
    cases hs
    exact h _ g
  · rw [if_neg g] at hs
    cases hs
/-- the class reads a sum -/
theorem x_reads (hX : LX S b) (hP : PR p) (hF : ∀ i, i < nl → isF p (L i).2.1 (L i).2.2) : ∀ (m d : Nat), d + m = 10 → d ≤ 8 → CRec S B c b T n p nl L (n_X0_readSum m) (psum T n p (FL T n nl L) m) d := by
  intro m
  induction m with
  | zero => intro d h1 h2; omega
  | succ m ih =>
    intro d h1 h2 A q hC hi hq ht
    have hFL := FL_ok (T := T) (n := n) hF
    have gs : ∀ d q, q ≤ n → tok T n q → GR T n p q (psum T n p (FL T n nl L) m d q) := fun d q => psum_ok hP hFL m d q
    have ga : ∀ q, q ≤ n → tok T n q → GR T n p q (patom T n p (FL T n nl L) (psum T n p (FL T n nl L) m) d q) := fun q hq ht => patom_ok hP hFL (fun _ => gs (d + 1)) hq ht
    have gp : ∀ q, q ≤ n → tok T n q → GR T n p q (ppow T n p (FL T n nl L) (psum T n p (FL T n nl L) m) d q) := fun q hq ht => ppow_ok hP (ga q hq ht) hq
    have gr : ∀ q, q ≤ n → tok T n q → GR T n p q (pprod T n p (FL T n nl L) (psum T n p (FL T n nl L) m) d q) := fun q hq ht => pprod_ok hP gp hq ht
    exact x_sum (re := n_X0_readSum m) hX hP h2 (fun A q hC hi hq ht => x_prod hX hP h2 (fun A q hC hi hq ht => x_pow hX hP hC hi hq ht h2 (x_atom hX hP hC hi hq ht h2 (fun g => ih (d + 1) (by omega) (by omega)) (fun _ => gs (d + 1))) (ga q hq ht)) gp hC hi hq ht) gr hC hi hq ht
end rd
