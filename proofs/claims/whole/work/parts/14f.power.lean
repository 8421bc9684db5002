/-! The class reads a power. -/
section rd
variable {S : SS} {A B : ZA} {c : (Nat × Nat) × (Nat → Nat)} {b n nl : Nat} {T : Nat → Int} {p : Int} {L : LT} {q d : Nat} {re : Nat → Int32 → JH → Option (Int32 × JH)} {rc : Nat → Nat → PRs}
theorem pn_r {p : Int} (hp : 1 < p) (R : Nat → Int) (e k : Nat) : 0 ≤ pn p R e k ∧ pn p R e k < p := by
  rw [← pn_ser hp R e]
  exact ser_r (by omega) _ k
theorem x_raise (hX : LX S b) (hP : PR p) (hD : A (b + 155) 1 = p) {f w e : Nat} {R : Nat → Int} (hf : fm S f (f + 1)) (hf2 : b + 213 ≤ f ∧ f + 1 < b + 231) (he : e < 100) (h1 : A f 0 = (w : Int)) (h2 : ∀ k, k < 6 → A (f + 1) k = R k) (hR : ∀ k, 0 ≤ R k ∧ R k < p) :
    ∃ A' : ZA, f_X0_raise (b + 155) f (ii (e : Int)) (mz S A B c) = some ((), mz S A' B c) ∧ A' f 0 = ((w * e : Nat) : Int) ∧ (∀ k, k < 6 → A' (f + 1) k = pn p R e k) ∧ (∀ x, x ≠ f → x ≠ f + 1 → x ≠ b + 231 → x ≠ b + 232 → A' x = A x) := by
  have hp := PR_p hP
  obtain ⟨A1, e1, y1, y2, y3⟩ := x_copy (A := A) (B := B) (c := c) (L_bas hX) hf
  obtain ⟨A2, e2, z1, z2, z3⟩ := x_setNum (A := A1) (B := B) (c := c) (v := ((1 : Nat) : Int)) hf
  have key := z_run (S := S) (B := B) (c := c) (f := f_X0_raise_L15 (b + 155) f (ii (e : Int))) (fun t => ii (t : Int)) (fun t A' => A' f 0 = ((w * t : Nat) : Int) ∧ (∀ k, k < 6 → A' (f + 1) k = pn p R t k) ∧ (∀ x, x ≠ f → x ≠ f + 1 → A' x = A2 x)) e (t := ii (e : Int)) (by omega) (fun t ht A3 ⟨u1, u2, u3⟩ => by
    have b1 : A3 (b + 231) 0 = (w : Int) := by rw [u3 _ (by omega) (by omega), z3 _ (by omega) (by omega), y1, h1]
    have b2 : ∀ k, k < 6 → A3 (b + 232) k = R k := fun k hk => by rw [u3 _ (by omega) (by omega), z3 _ (by omega) (by omega), y2 k hk, h2 k hk]
    obtain ⟨A4, e4, v1, v2, v3⟩ := x_mulf (A := A3) (B := B) (c := c) (p := p) hf (L_bas hX) (by omega) hp.2 (fun k hk => by rw [u2 k hk]; exact pn_r (by omega) R t k) (fun k hk => by rw [b2 k hk]; exact hR k)
    have hD3 : A3 (b + 155) 1 = p := by rw [u3 _ (by omega) (by omega), z3 _ (by omega) (by omega), y3 _ (by omega) (by omega)]; exact hD
    refine ⟨A4, ?_, ?_, fun k hk => ?_, fun x x1 x2 => by rw [v3 x x1 x2]; exact u3 x x1 x2⟩
    · unfold f_X0_raise_L15
      simp (disch := omega) only [n_le, show ¬ (e ≤ t) by omega, ↓reduceIte, DR10 hX, DI1 hX, hD3, Option.bind_some, FV hf, e4, k1, n_add]
    · rw [v1, u1, b1, Nat.mul_succ]; rfl
    · rw [v2 k hk]
      show _ = ml p (pn p R t) R k
      unfold ml
      rw [ser_at (by omega)]
      exact congrArg (· % p) (sm_congr fun i hi => by rw [u2 i (by omega), b2 (k - i) (by omega)])) (fun A3 _ => by
    unfold f_X0_raise_L15
    rw [if_pos (by rw [n_le (by omega) (by omega)]; exact Nat.le_refl e)]) (A0 := A2) ⟨by rw [z1]; rfl, fun k hk => by rw [z2 k hk]; rfl, fun _ _ _ => rfl⟩
  obtain ⟨A3, e3, u1, u2, u3⟩ := key
  have e3' : jloop (f_X0_raise_L15 (b + 155) f (ii (e : Int))) jF (0 : Int32) (mz S A2 B c) = some (ii (e : Int), mz S A3 B c) := e3
  refine ⟨A3, ?_, u1, u2, fun x x1 x2 x3 x4 => by rw [u3 x x1 x2, z3 x x1 x2, y3 x x3 x4]⟩
  unfold f_X0_raise
  simp only [DR10 hX, Option.bind_some, FV (L_bas hX), e1, FV hf, k1, e2]
  rw [e3']
  rfl
theorem x_pow (hX : LX S b) (hP : PR p) (hC : CS S A c b T n p nl L) (hi : A (b + 155) 6 = ((tcn T q : Nat) : Int)) (hq : q ≤ n) (ht : tok T n q) (hd : d ≤ 8)
    (ha : COK S B c b T (patom T n p (FL T n nl L) rc d q) A (d + 1) (d + 1) d (b + 212 + 1 + 2 * d) (f_X0_readAtom re (b + 155) (ii (d : Int)) (mz S A B c))) (hg : GR T n p q (patom T n p (FL T n nl L) rc d q)) :
    COK S B c b T (ppow T n p (FL T n nl L) rc d q) A (d + 1) (d + 1) d (b + 212 + 1 + 2 * d) (f_X0_readPower re (b + 155) (ii (d : Int)) (mz S A B c)) := by
  have hfm := fgF (L_pow hX) (show d < 9 by omega)
  obtain ⟨A1, e1, f1, r1⟩ := ha
  have hC1 := CS_PF hC f1
  unfold f_X0_readPower ppow
  simp only [DI6 hX, hi, Option.bind_some, Dv hX, e1]
  cases e : patom T n p (FL T n nl L) rc d q with
  | inl f =>
    rw [e] at r1
    simp only [show rb (Sum.inl f) = 0 from rfl, k0, ↓reduceIte]
    exact ⟨A1, rfl, f1, r1⟩
  | inr s =>
    rw [e] at r1 hg
    obtain ⟨z1, z2, z3⟩ := r1
    obtain ⟨w1, w2, w3, w4⟩ := hg
    have hkr := kdx_r T n s.1
    simp (disch := omega) only [Sum.elim_inr, show rb (Sum.inr s) = 1 from rfl, k0, show ¬ (((1 : Nat) : Int) = ((0 : Nat) : Int)) by omega, ↓reduceIte, x_kind hX hC1 z1 w2 w3, Option.bind_some, k94, i_eq]
    by_cases c94 : kdx T n s.1 = 94
    · rw [if_pos (show kdx T n s.1 = ((94 : Nat) : Int) by omega), if_pos c94]
      have hsn := kdx_n (T := T) (n := n) (q := s.1) (by omega)
      obtain ⟨x1, x2, x3, x4⟩ := nxt_ok hsn (tok_t w3 hsn)
      have f2 : PF b A1 (za A1 (b + 155) (up (A1 (b + 155)) 6 ((tcn T (nxt T n s.1) : Nat) : Int))) (d + 1) (d + 1) d := PF_k (Or.inr rfl)
      rw [x_goOn hX hC1 z1 hsn w3]
      generalize nxt T n s.1 = q2 at x1 x2 x3 x4 f2 ⊢
      generalize hA2 : za A1 (b + 155) (up (A1 (b + 155)) 6 ((tcn T q2 : Nat) : Int)) = A2 at f2
      have i2 : A2 (b + 155) 6 = ((tcn T q2 : Nat) : Int) := by rw [← hA2, za_at, up_at]
      have g2 : ∀ x, x ≠ b + 155 → A2 x = A1 x := fun x hx => by rw [← hA2, za_ne _ _ hx]
      have f12 := PF_trans f1 f2 (Nat.le_refl _) (Nat.le_refl _) (Nat.le_refl _)
      have hC2 := CS_PF hC f12
      have hkr2 := kdx_r T n q2
      simp (disch := omega) only [Option.bind_some, x_kind hX hC2 i2 x2 x3, k3, i_eq, Dv hX]
      by_cases c3 : kdx T n q2 = 3
      · rw [if_pos (show kdx T n q2 = ((3 : Nat) : Int) by omega), if_pos c3]
        have hqn := kdx_n (T := T) (n := n) (q := q2) (by omega)
        obtain ⟨y1, y2, y3, y4⟩ := nxt_ok hqn (tok_t x3 hqn)
        have hv := vlx_r (T := T) hqn
        simp (disch := omega) only [x_value hX hC2 i2 hqn x3, Option.bind_some, k15, i_lt, i_le]
        by_cases g : vlx T n q2 < 0 ∨ 15 < vlx T n q2
        · rw [if_pos g]
          have fin : COK S B c b T (.inl (8 * q2 + 4)) A (d + 1) (d + 1) d (b + 212 + 1 + 2 * d) (some (ii ((0 : Nat) : Int), mz S (za A2 (b + 155) (up (A2 (b + 155)) 0 ((8 * q2 + 4 : Nat) : Int))) B c)) := COK_from f12 (COK_fail (s := d + 1) (t := d + 1) (w := d) rfl) (by omega) (by omega) (by omega)
          by_cases g1 : vlx T n q2 < 0
          · rw [if_pos (show vlx T n q2 < ((0 : Nat) : Int) by omega)]
            simp only [DI6 hX, i2, Option.bind_some, k4, x_fail hX hC2 x2 x3, jzb_n (Or.inl rfl), Dv hX]
            exact fin
          · rw [if_neg (show ¬ vlx T n q2 < ((0 : Nat) : Int) by omega), if_neg (show ¬ vlx T n q2 ≤ ((15 : Nat) : Int) by omega)]
            simp only [DI6 hX, i2, Option.bind_some, k4, x_fail hX hC2 x2 x3, jzb_n (Or.inl rfl), Dv hX]
            exact fin
        · rw [if_neg g, if_neg (show ¬ vlx T n q2 < ((0 : Nat) : Int) by omega), if_pos (show vlx T n q2 ≤ ((15 : Nat) : Int) by omega)]
          obtain ⟨ex, hex⟩ : ∃ ex : Nat, vlx T n q2 = (ex : Int) := ⟨(vlx T n q2).toNat, by omega⟩
          rw [x_goOn hX hC2 i2 hqn x3, hex]
          have f3 : PF b A2 (za A2 (b + 155) (up (A2 (b + 155)) 6 ((tcn T (nxt T n q2) : Nat) : Int))) (d + 1) (d + 1) d := PF_k (Or.inr rfl)
          generalize nxt T n q2 = q3 at y1 y2 y3 y4 f3 ⊢
          generalize hA3 : za A2 (b + 155) (up (A2 (b + 155)) 6 ((tcn T q3 : Nat) : Int)) = A3 at f3
          have i3 : A3 (b + 155) 6 = ((tcn T q3 : Nat) : Int) := by rw [← hA3, za_at, up_at]
          have g3 : ∀ x, x ≠ b + 155 → A3 x = A1 x := fun x hx => by rw [← hA3, za_ne _ _ hx, g2 x hx]
          have f13 := PF_trans f12 f3 (Nat.le_refl _) (Nat.le_refl _) (Nat.le_refl _)
          have hC3 := CS_PF hC f13
          have hw : A3 (b + 212 + 1 + 2 * d) 0 = ((s.2.1 : Nat) : Int) := by rw [g3 _ (by omega)]; exact z2
          have hh : ∀ k, k < 6 → A3 (b + 212 + 1 + 2 * d + 1) k = s.2.2 k := fun k hk => by rw [g3 _ (by omega)]; exact z3 k hk
          have hw60 := w4.2.1
          have hm : s.2.1 * ex ≤ 60 * 15 := Nat.mul_le_mul hw60 (by omega)
          simp (disch := omega) only [Option.bind_some, DR9 hX, fgR (L_pow hX), FI hfm, hw, n_mul, k60, n_le, Int.toNat_natCast, Dv hX]
          by_cases g4 : s.2.1 * ex ≤ 60
          · rw [if_pos g4, if_pos g4]
            obtain ⟨A4, e4, u1, u2, u3⟩ := x_raise (A := A3) (B := B) (c := c) (e := ex) hX hP hC3.2.2.2.1 hfm (by omega) (by omega) hw hh (fun k => isF_r hP w4 k)
            simp only [Option.bind_some, e4, k1]
            refine ⟨A4, rfl, PF_trans f13 (s' := d + 1) (r' := d + 1) (w' := d) ⟨fun x hx => u3 x (by omega) (by omega) (by omega) (by omega), fun k h1 h2 => by rw [u3 _ (by omega) (by omega) (by omega) (by omega)], fun x h1 h2 => u3 x (by omega) (by omega) (by omega) (by omega), fun x h1 h2 => u3 x (by omega) (by omega) (by omega) (by omega), fun x h1 h2 => u3 x (by omega) (by omega) (by omega) (by omega)⟩ (by omega) (by omega) (by omega), ?_, u1, u2⟩
            rw [u3 _ (by omega) (by omega) (by omega) (by omega)]
            exact i3
          · rw [if_neg g4, if_neg g4]
            simp only [k7, x_fail hX hC3 hq ht, Option.bind_some, jzb_n (Or.inl rfl), Dv hX]
            exact COK_from f13 (COK_fail (s := d + 1) (t := d + 1) (w := d) rfl) (by omega) (by omega) (by omega)
      · rw [if_neg (show ¬ kdx T n q2 = ((3 : Nat) : Int) by omega), if_neg c3]
        simp only [DI6 hX, i2, Option.bind_some, k1, x_fail hX hC2 x2 x3, jzb_n (Or.inl rfl), Dv hX]
        exact COK_from f12 (COK_fail (s := d + 1) (t := d + 1) (w := d) rfl) (by omega) (by omega) (by omega)
    · rw [if_neg (show ¬ kdx T n s.1 = ((94 : Nat) : Int) by omega), if_neg c94]
      exact ⟨A1, rfl, f1, z1, z2, z3⟩
end rd
