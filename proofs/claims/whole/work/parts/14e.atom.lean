/-! The class reads an atom, a power. -/
theorem fgF {S : SS} {G N i : Nat} (h : fg S G N) (hi : i < N) : fm S (G + 1 + 2 * i) (G + 1 + 2 * i + 1) := by
  have := h.2 i hi
  rw [show G + 2 + 2 * i = G + 1 + 2 * i + 1 by omega] at this
  exact this
def CRec (S : SS) (B : ZA) (c : (Nat × Nat) × (Nat → Nat)) (b : Nat) (T : Nat → Int) (n : Nat) (p : Int) (nl : Nat) (L : LT) (re : Nat → Int32 → JH → Option (Int32 × JH)) (rc : Nat → Nat → PRs) (d : Nat) : Prop :=
  ∀ (A : ZA) (q : Nat), CS S A c b T n p nl L → A (b + 155) 6 = ((tcn T q : Nat) : Int) → q ≤ n → tok T n q → COK S B c b T (rc d q) A d d d (b + 174 + 1 + 2 * d) (re (b + 155) (ii (d : Int)) (mz S A B c))
section rd
variable {S : SS} {A B : ZA} {c : (Nat × Nat) × (Nat → Nat)} {b n nl : Nat} {T : Nat → Int} {p : Int} {L : LT} {q d : Nat} {re : Nat → Int32 → JH → Option (Int32 × JH)} {rc : Nat → Nat → PRs}
/-- the atom is there: on to the next token -/
theorem COK_go {A1 : ZA} (hX : LX S b) (hC : CS S A1 c b T n p nl L) (hi : A1 (b + 155) 6 = ((tcn T q : Nat) : Int)) (hq : q < n) (ht : tok T n q) {s t w f v : Nat} {R : Nat → Int} (hf : f ≠ b + 155) (hf' : f + 1 ≠ b + 155) (h1 : PF b A A1 s t w) (h2 : A1 f 0 = (v : Int)) (h3 : ∀ k, k < 6 → A1 (f + 1) k = R k) :
    COK S B c b T (.inr (nxt T n q, v, R)) A s t w f ((f_X0_goOn (b + 155) (mz S A1 B c)).bind fun q => some (ii ((1 : Nat) : Int), q.2)) := by
  rw [x_goOn hX hC hi hq ht]
  refine ⟨_, rfl, PF_trans h1 (PF_k (s := s) (r := t) (w := w) (Or.inr rfl)) (Nat.le_refl _) (Nat.le_refl _) (Nat.le_refl _), ?_, ?_, fun k hk => ?_⟩
  · show za A1 (b + 155) _ (b + 155) 6 = _
    rw [za_at, up_at]
  · show za A1 (b + 155) _ f 0 = _
    rw [za_ne _ _ hf]; exact h2
  · show za A1 (b + 155) _ (f + 1) k = _
    rw [za_ne _ _ hf']; exact h3 k hk
theorem x_atom (hX : LX S b) (hP : PR p) (hC : CS S A c b T n p nl L) (hi : A (b + 155) 6 = ((tcn T q : Nat) : Int)) (hq : q ≤ n) (ht : tok T n q) (hd : d ≤ 8) (hr : d < 8 → CRec S B c b T n p nl L re rc (d + 1)) (hg : d < 8 → ∀ q, q ≤ n → tok T n q → GR T n p q (rc (d + 1) q)) :
    COK S B c b T (patom T n p (FL T n nl L) rc d q) A (d + 1) (d + 1) d (b + 212 + 1 + 2 * d) (f_X0_readAtom re (b + 155) (ii (d : Int)) (mz S A B c)) := by
  have hkr := kdx_r T n q
  have hp := PR_p hP
  have hK := x_kind (B := B) hX hC hi hq ht
  have hfm := fgF (L_pow hX) (show d < 9 by omega)
  have hD1 : A (b + 155) 1 = p := hC.2.2.2.1
  unfold f_X0_readAtom patom
  simp (config := { maxSteps := 2000000 }) (disch := omega) only [DR9 hX, Option.bind_some, fgR (L_pow hX), Dv hX, hK, k2, k3, k7, k8, k9, k40, i_eq]
  by_cases c2 : kdx T n q = 2
  · rw [if_pos (show kdx T n q = ((2 : Nat) : Int) by omega), if_pos c2]
    have hqn := kdx_n (T := T) (n := n) (q := q) (by omega)
    have hv := vlx_r (T := T) hqn
    have hF := x_find (B := B) hX hC hv.1 hv.2
    simp only [x_value hX hC hi hqn ht, Option.bind_some, hF]
    unfold FL
    have h6 := hC.2.2.2.2.2.1
    by_cases g : fnd (fun i => vlx T n (L i).1 = vlx T n q) nl 0 < nl
    · rw [if_pos g, if_pos g]
      generalize fnd (fun i => vlx T n (L i).1 = vlx T n q) nl 0 = r at g
      obtain ⟨-, g1, g2, g3⟩ := hC.2.2.2.2.2.2 r g
      obtain ⟨A1, e1, y1, y2, y3⟩ := x_copy (A := A) (B := B) (c := c) hfm ((L_rl hX).2 r (by omega))
      have f1 : PF b A A1 (d + 1) (d + 1) d := PF_f y3 (by omega) (by omega) (by omega) (by omega)
      rw [if_neg (show ¬ ii (r : Int) = (-1 : Int32) by rw [show (-1 : Int32) = ii (-1) from rfl, i_eq (by omega) (by omega) (by omega) (by omega)]; omega)]
      simp (disch := omega) only [DR3 hX, Option.bind_some, fgR (L_rl hX), FV hfm, e1, k1, Dv hX]
      exact COK_go hX (CS_PF hC f1) (by rw [y3 _ (by omega) (by omega)]; exact hi) hqn ht (by omega) (by omega) f1 (by rw [y1]; exact g2) (fun k hk => by rw [y2 k hk]; exact g3 k hk)
    · rw [if_neg g, if_neg g, if_pos (show ii (-1) = (-1 : Int32) from rfl)]
      simp only [DI6 hX, hi, Option.bind_some, x_fail hX hC hq ht, jzb_n (Or.inl rfl), Dv hX]
      exact COK_fail rfl
  rw [if_neg (show ¬ kdx T n q = ((2 : Nat) : Int) by omega), if_neg c2]
  by_cases c3 : kdx T n q = 3
  · rw [if_pos (show kdx T n q = ((3 : Nat) : Int) by omega), if_pos c3]
    have hqn := kdx_n (T := T) (n := n) (q := q) (by omega)
    have hv := vlx_r (T := T) hqn
    simp (disch := omega) only [x_value hX hC hi hqn ht, Option.bind_some, k0, i_le]
    by_cases g : 0 ≤ vlx T n q
    · rw [if_pos (show ((0 : Nat) : Int) ≤ vlx T n q by omega), if_pos g]
      obtain ⟨A1, e1, y1, y2, y3⟩ := x_setNum (A := A) (B := B) (c := c) (v := vlx T n q % p) hfm
      have f1 : PF b A A1 (d + 1) (d + 1) d := PF_f y3 (by omega) (by omega) (by omega) (by omega)
      simp (disch := omega) only [DI1 hX, hD1, Option.bind_some, i_l, f_of', FV hfm, e1, k1, Dv hX]
      exact COK_go hX (CS_PF hC f1) (by rw [y3 _ (by omega) (by omega)]; exact hi) hqn ht (by omega) (by omega) f1 y1 (fun k hk => by
        rw [y2 k hk]
        unfold nrow
        rw [ser_at (by omega)]
        by_cases h0 : k = 0
        · rw [if_pos h0, if_pos h0]
        · rw [if_neg h0, if_neg h0, Int.zero_emod])
    · rw [if_neg (show ¬ ((0 : Nat) : Int) ≤ vlx T n q by omega), if_neg g]
      simp only [DI6 hX, hi, Option.bind_some, x_fail hX hC hq ht, k4, jzb_n (Or.inl rfl), Dv hX]
      exact COK_fail rfl
  rw [if_neg (show ¬ kdx T n q = ((3 : Nat) : Int) by omega), if_neg c3]
  have known : ∀ (i w : Nat) (R : Nat → Int), i < 3 → kdx T n q ≠ 0 → (∀ k, k < 6 → R k = kn i k % p) → COK S B c b T (.inr (nxt T n q, w, R)) A (d + 1) (d + 1) d (b + 212 + 1 + 2 * d) ((f_X0_setKnown (b + 155) (b + 212 + 1 + 2 * d) (ii (w : Int)) (c.2 i) (mz S A B c)).bind fun q71 => (jrecv q71.2 (b + 155) 0).bind fun _ => (f_X0_goOn (b + 155) q71.2).bind fun q73 => some (ii ((1 : Nat) : Int), q73.2)) := by
    intro i w R hi3 hk0 hR
    have hqn := kdx_n hk0
    obtain ⟨k1, k2, k3⟩ := hC.1 i hi3
    obtain ⟨A1, e1, y1, y2, y3⟩ := x_known (A := A) (B := B) (c := c) (w := w) hX (by omega) hp.2 hD1 hfm k2 (fun k hk => by rw [k3 k hk]; exact kn_r i hi3 k hk)
    have f1 : PF b A A1 (d + 1) (d + 1) d := PF_f y3 (by omega) (by omega) (by omega) (by omega)
    rw [e1]
    simp only [Option.bind_some, Dv hX]
    exact COK_go hX (CS_PF hC f1) (by rw [y3 _ (by omega) (by omega)]; exact hi) hqn ht (by omega) (by omega) f1 y1 (fun k hk => by rw [y2 k hk, k3 k hk, hR k hk])
  by_cases c7 : kdx T n q = 7
  · rw [if_pos (show kdx T n q = ((7 : Nat) : Int) by omega), if_pos c7]
    have := known 0 4 (e4 p) (by omega) (by omega) (fun k hk => ser_at (by omega))
    rw [k4, k1]
    exact this
  rw [if_neg (show ¬ kdx T n q = ((7 : Nat) : Int) by omega), if_neg c7]
  by_cases c8 : kdx T n q = 8
  · rw [if_pos (show kdx T n q = ((8 : Nat) : Int) by omega), if_pos c8]
    have := known 1 6 (e6 p) (by omega) (by omega) (fun k hk => ser_at (by omega))
    rw [k6, k1]
    exact this
  rw [if_neg (show ¬ kdx T n q = ((8 : Nat) : Int) by omega), if_neg c8]
  by_cases c9 : kdx T n q = 9
  · rw [if_pos (show kdx T n q = ((9 : Nat) : Int) by omega), if_pos c9]
    have := known 2 12 (dt p) (by omega) (by omega) (fun k hk => dt_head hP hk)
    rw [k12, k1]
    exact this
  rw [if_neg (show ¬ kdx T n q = ((9 : Nat) : Int) by omega), if_neg c9]
  by_cases c40 : kdx T n q = 40
  · rw [if_pos (show kdx T n q = ((40 : Nat) : Int) by omega), if_pos c40]
    have hqn := kdx_n (T := T) (n := n) (q := q) (by omega)
    obtain ⟨x1, x2, x3, x4⟩ := nxt_ok hqn (tok_t ht hqn)
    by_cases g : d < 8
    · rw [if_pos g]
      have f1 : PF b A (za A (b + 155) (up (A (b + 155)) 6 ((tcn T (nxt T n q) : Nat) : Int))) (d + 1) (d + 1) (d + 1) := PF_k (Or.inr rfl)
      obtain ⟨A2, e2, f2, r2⟩ := hr g _ (nxt T n q) (CS_PF hC f1) (by rw [za_at, up_at]) x2 x3
      have f12 := PF_trans f1 f2 (Nat.le_refl _) (Nat.le_refl _) (Nat.le_refl _)
      simp (disch := omega) only [n_lt, g, ↓reduceIte, x_goOn hX hC hi hqn ht, Option.bind_some, k1, n_add, Dv hX, e2]
      cases e : rc (d + 1) (nxt T n q) with
      | inl f =>
        rw [e] at r2
        simp only [show rb (Sum.inl f) = 0 from rfl, k0, ↓reduceIte]
        exact ⟨A2, rfl, PF_mono f12 (by omega) (by omega) (by omega), r2⟩
      | inr s =>
        rw [e] at r2
        obtain ⟨z1, z2, z3⟩ := r2
        have y := hg g _ x2 x3
        rw [e] at y
        obtain ⟨w1, w2, w3, w4⟩ := y
        have hC2 := CS_PF hC f12
        have hkr2 := kdx_r T n s.1
        simp (disch := omega) only [Sum.elim_inr, show rb (Sum.inr s) = 1 from rfl, k0, show ¬ (((1 : Nat) : Int) = ((0 : Nat) : Int)) by omega, ↓reduceIte, x_kind hX hC2 z1 w2 w3, Option.bind_some, k41, i_eq]
        by_cases c41 : kdx T n s.1 = 41
        · rw [if_pos (show kdx T n s.1 = ((41 : Nat) : Int) by omega), if_pos c41]
          have hsn := kdx_n (T := T) (n := n) (q := s.1) (by omega)
          obtain ⟨A3, e3, y1, y2, y3⟩ := x_copy (A := A2) (B := B) (c := c) hfm (fgF (L_sum hX) (show d + 1 < 9 by omega))
          have f3 : PF b A2 A3 (d + 1) (d + 1) d := PF_f y3 (by omega) (by omega) (by omega) (by omega)
          have f13 : PF b A A3 (d + 1) (d + 1) d := PF_trans (PF_mono f12 (by omega) (by omega) (by omega)) f3 (by omega) (by omega) (by omega)
          simp (disch := omega) only [DR7 hX, Option.bind_some, fgR (L_sum hX), FV hfm, e3, Dv hX]
          exact COK_go hX (CS_PF hC f13) (by rw [y3 _ (by omega) (by omega)]; exact z1) hsn w3 (by omega) (by omega) f13 (by rw [y1]; exact z2) (fun k hk => by rw [y2 k hk]; exact z3 k hk)
        · rw [if_neg (show ¬ kdx T n s.1 = ((41 : Nat) : Int) by omega), if_neg c41]
          simp only [DI6 hX, z1, Option.bind_some, x_fail hX hC2 w2 w3, jzb_n (Or.inl rfl), Dv hX]
          exact COK_from (PF_mono f12 (by omega) (by omega) (by omega)) (COK_fail (s := d + 1) (t := d + 1) (w := d) rfl) (by omega) (by omega) (by omega)
    · rw [if_neg g]
      simp (disch := omega) only [n_lt, g, ↓reduceIte, DI6 hX, hi, Option.bind_some, x_fail hX hC hq ht, k5, jzb_n (Or.inl rfl)]
      exact COK_fail rfl
  rw [if_neg (show ¬ kdx T n q = ((40 : Nat) : Int) by omega), if_neg c40]
  simp only [DI6 hX, hi, Option.bind_some, x_fail hX hC hq ht, k1, jzb_n (Or.inl rfl)]
  exact COK_fail rfl
end rd
