/-! Calls that change a register: take, plus, times. -/
section ops
variable {b : Nat} {S0 : SS} {A0 : ZA} {cc : Nat → Nat} {e : Nat}
theorem IH_regs {S : SS} {A B : ZA} {c : (Nat × Nat) × (Nat → Nat)} {p : Int} {bs nb : Nat → Nat} (h1 : CORE A B b p) (h2 : DYN b S0 A0 cc e S A B c p bs nb) {r : Nat} (hr : r < 4) {A2 : ZA}
    (k1 : ∀ x, (x < b + 135 ∨ (b + 236 ≤ x ∧ x < b + 286) ∨ b + 321 ≤ x) → x ≠ b + 15 + 1 + 2 * r → x ≠ b + 15 + 2 + 2 * r → A2 x = A x)
    (k2 : ∀ k, k = 1 ∨ k = 12 ∨ k = 19 ∨ k = 42 → A2 (b + 286) k = A (b + 286) k)
    (k3 : ∀ o, (1 ≤ o ∧ o ≤ 3) ∨ (9 ≤ o ∧ o ≤ 11) ∨ (26 ≤ o ∧ o ≤ 33) → A2 (b + 286 + o) = A (b + 286 + o))
    (k4 : ∀ i, i < 4 → i ≠ r → A2 (b + 286 + 18) i = A (b + 286 + 18) i)
    (k5 : ∀ i, i < 4 → i ≠ r → ∀ n, n < 181 → A2 (b + 286 + 19) (181 * i + n) = A (b + 286 + 19) (181 * i + n))
    (hq : FQ A2 p (b + 15 + 1 + 2 * r) (b + 15 + 2 + 2 * r) (b + 286 + 18) r (b + 286 + 19) (181 * r)) (hR : RC A2 (b + 286) p) : IH b S0 A0 cc e (mz S A2 B c) := by
  obtain ⟨d1, d2, d3, d4, d5, d6, d7⟩ := h2
  obtain ⟨h1, h2, h3, h4, h5, h6, h7, h8⟩ := h1
  refine ⟨S, A2, B, c, p, bs, nb, rfl, ⟨h1, ?_, ⟨?_, fun n hn => ?_⟩, ?_, ?_, fun i hi => ?_, ?_, fun k hk => ?_⟩, d1, SG_of d2 (fun x hx => k1 x (by omega) (by omega) (by omega)) (fun i hi k _ => by rw [k1 _ (by omega) (by omega) (by omega)]) (fun _ _ => rfl), d3, hR, ROOTS_of d5 (fun i hi => ⟨by rw [k1 _ (by omega) (by omega) (by omega)], by rw [k1 _ (by omega) (by omega) (by omega)], k1 _ (by omega) (by omega) (by omega)⟩), fun x hx => ⟨(d6 x hx).1, by rw [k1 x (by omega) (by omega) (by omega)]; exact (d6 x hx).2⟩, d7⟩
  · rw [k1 b (by omega) (by omega) (by omega)]; exact h2
  · rw [k2 1 (by omega)]; exact h3.1
  · rw [k3 1 (by omega), k3 2 (by omega), k3 3 (by omega)]; exact h3.2 n hn
  · obtain ⟨t, a, b1, c1, d⟩ := h4
    exact ⟨t, a, by rw [k1 _ (by omega) (by omega) (by omega)]; exact b1, by rw [k2 12 (by omega)]; exact c1, fun k hk => by rw [k1 _ (by omega) (by omega) (by omega), k3 9 (by omega)]; exact d k hk⟩
  · obtain ⟨t, a, b1, c1, d⟩ := h5
    exact ⟨t, a, by rw [k1 _ (by omega) (by omega) (by omega)]; exact b1, by rw [k2 19 (by omega)]; exact c1, fun i hi => FQ_of (d i hi) (by rw [k1 _ (by omega) (by omega) (by omega)]) (fun n _ => by rw [k1 _ (by omega) (by omega) (by omega)]) (by rw [k3 10 (by omega)]) (fun n _ => by rw [k3 11 (by omega)])⟩
  · by_cases q : i = r
    · rw [q]; exact hq
    · exact FQ_of (h6 i hi) (by rw [k1 _ (by omega) (by omega) (by omega)]) (fun n _ => by rw [k1 _ (by omega) (by omega) (by omega)]) (k4 i hi q) (k5 i hi q)
  · unfold SHV
    rw [k2 42 (by omega)]
    exact SHQ_of h7 (fun s hs => by rw [k1 _ (by omega) (by omega) (by omega)]) (fun s hs r hr => by rw [k1 _ (by omega) (by omega) (by omega)]) (fun s hs r hr => by rw [k3 26 (by omega)]) (fun s hs r hr i hi => rfl) (fun s hs r hr i hi => rfl)
  · obtain ⟨a, b1, c1⟩ := h8 k hk
    rw [k1 _ (by omega) (by omega) (by omega), k3 28 (by omega), k3 29 (by omega)]
    exact ⟨a, b1, fun q => ⟨fun r hr => FQ_of ((c1 q).1 r hr) (by rw [k1 _ (by omega) (by omega) (by omega)]) (fun n _ => by rw [k1 _ (by omega) (by omega) (by omega)]) (by rw [k3 30 (by omega)]) (fun n _ => by rw [k3 31 (by omega)]), SHQ_of (c1 q).2 (fun s hs => by rw [k1 _ (by omega) (by omega) (by omega)]) (fun s hs r hr => by rw [k1 _ (by omega) (by omega) (by omega)]) (fun s hs r hr => by rw [k3 32 (by omega)]) (fun s hs r hr i hi => rfl) (fun s hs r hr i hi => rfl)⟩⟩
theorem op_take (v w : Int32) : OPS b S0 A0 cc e (f_X11_take b v w) (f_X12_take (b + 286) v w) := by
  rintro h ⟨S, A, B, c, p, bs, nb, rfl, h1, h2⟩
  have hX := h2.1
  have hM := L_mod hX
  have fin : IH b S0 A0 cc e (mz S (za A (b + 286) (up (A (b + 286)) 0 ((0 : Nat) : Int))) B c) := by
    obtain ⟨g1, g2⟩ := IH_thrown (v := ((0 : Nat) : Int)) h1 h2
    exact ⟨S, _, B, c, p, bs, nb, rfl, g1, g2⟩
  obtain ⟨n, n1, n2, n3, n4⟩ := h1.2.2.2.2.1
  have hu : za A (b + 286) (up (A (b + 286)) 0 ((0 : Nat) : Int)) (b + 286) 19 = (n : Int) := by rw [za_at, up_ne _ _ (by omega)]; exact n3
  rcases rng_cases v 4 with ⟨r, hr, rfl⟩ | ⟨z, rfl, a1, a2, a3⟩
  · rcases let_cases (B := B) (c := c) hX n1 n2 w with ⟨i, hi, rfl, e1, e2⟩ | ⟨e1, e2⟩
    · obtain ⟨wt, R, q1, q2, q3, q4, q5⟩ := n4 i hi
      obtain ⟨A1, c1, c2, c3, c4⟩ := x_copy (A := A) (B := B) (c := c) ((L_regs hX).2 r hr) ((L_lets hX).2 i (by omega))
      rw [q2] at c2
      have hu1 : za A1 (b + 286) (up (A1 (b + 286)) 0 ((0 : Nat) : Int)) (b + 286) 19 = (n : Int) := by rw [za_at, up_ne _ _ (by omega), c4 _ (by omega) (by omega)]; exact n3
      have q4' : A1 (b + 286 + 10) i = (wt : Int) := by rw [c4 _ (by omega) (by omega)]; exact q4
      have q5' : ∀ n, n < 181 → A1 (b + 286 + 11) (181 * i + n) = R n := fun n hn => by rw [c4 _ (by omega) (by omega)]; exact q5 n hn
      refine ⟨ii (wt : Int), mz S A1 B c, mz S (za (za (za A1 (b + 286) (up (A1 (b + 286)) 0 ((0 : Nat) : Int))) (b + 286 + 18) (up (A1 (b + 286 + 18)) r (wt : Int))) (b + 286 + 19) (mo R (A1 (b + 286 + 19)) (181 * r) 181)) B c, ?_, ?_, ?_⟩
      · unfold f_X11_take
        simp (disch := omega) only [k0, x_reg_y _ hr, Option.bind_some, n_eq, show ¬ (1 = 0) by omega, ↓reduceIte, Xv hX, e1, XR5 hX, XR4 hX, fgR (L_regs hX), fgR (L_lets hX), FV ((L_regs hX).2 r hr), c1, FI ((L_regs hX).2 r hr), c2]
      · unfold f_X12_take
        simp (disch := omega) only [k0, k1, k181, MP0 hM, Mv hM, m_reg_y _ _ hr, Option.bind_some, n_eq, show ¬ (1 = 0) by omega, ↓reduceIte, MI19 hM, hu1, ii_sub, e2, MR31 hM, MR20 hM, MR21 hM, MR32 hM, Ma10 hM, za_ne, q4', Ms18 hM, n_mul]
        rw [m_copies (MS11 hM) (MS19 hM) (by omega) (by omega) (by omega) (by omega) (by omega)]
        simp (disch := omega) only [Option.bind_some, MR31 hM, Ma18 hM, za_ne, za_at, up_at]
        refine congrArg some (Prod.ext rfl (congrArg (fun F => mz S (za _ (b + 286 + 19) F) B c) (funext fun j => ?_)))
        unfold mo
        by_cases q : 181 * r ≤ j ∧ j < 181 * r + 181
        · rw [if_pos q, if_pos q]; exact q5' _ (by omega)
        · rw [if_neg q, if_neg q]
      · refine IH_regs h1 h2 hr (fun x x1 x2 x3 => ?_) (fun k hk => ?_) (fun o ho => ?_) (fun j hj hne => ?_) (fun j hj hne n hn => ?_) ⟨wt, R, q1, ?_, fun n hn => ?_, ?_, fun n hn => ?_⟩ (RC_of h2.2.2.2.1 ?_ ?_)
        · rw [za_ne _ _ (by omega), za_ne _ _ (by omega), za_ne _ _ (by omega)]; exact c4 x x2 x3
        · rw [za_ne _ _ (by omega), za_ne _ _ (by omega), za_at, up_ne _ _ (by omega), c4 _ (by omega) (by omega)]
        · rw [za_ne _ _ (by omega), za_ne _ _ (by omega), za_ne _ _ (by omega)]; exact c4 _ (by omega) (by omega)
        · rw [za_ne _ _ (by omega), za_at, up_ne _ _ hne, c4 _ (by omega) (by omega)]
        · rw [za_at, mo_out _ _ (by omega), c4 _ (by omega) (by omega)]
        · rw [za_ne _ _ (by omega), za_ne _ _ (by omega), za_ne _ _ (by omega)]; exact c2
        · rw [za_ne _ _ (by omega), za_ne _ _ (by omega), za_ne _ _ (by omega), c3 n hn]; exact q3 n hn
        · rw [za_ne _ _ (by omega), za_at, up_at]
        · rw [za_at, mo_in _ _ hn]
        · rw [za_ne _ _ (by omega), za_ne _ _ (by omega), za_at, up_ne _ _ (by omega), c4 _ (by omega) (by omega)]
        · rw [za_ne _ _ (by omega), za_ne _ _ (by omega), za_ne _ _ (by omega)]; exact c4 _ (by omega) (by omega)
    · refine ⟨-ii ((1 : Nat) : Int), mz S A B c, _, ?_, ?_, fin⟩
      · unfold f_X11_take
        simp (disch := omega) only [k0, k1, x_reg_y _ hr, Option.bind_some, n_eq, show ¬ (1 = 0) by omega, ↓reduceIte, Xv hX, e1]
      · unfold f_X12_take
        simp (disch := omega) only [k0, k1, MP0 hM, Mv hM, m_reg_y _ _ hr, Option.bind_some, n_eq, show ¬ (1 = 0) by omega, ↓reduceIte, MI19 hM, hu, ii_sub, e2]
  · refine ⟨-1, mz S A B c, _, ?_, ?_, fin⟩
    · unfold f_X11_take
      simp only [k0, x_reg_n _ a1 a2 a3, Option.bind_some, eq_self, ↓reduceIte]
    · unfold f_X12_take
      simp only [k0, MP0 hM, Mv hM, m_reg_n _ _ a1 a2 a3, Option.bind_some, eq_self, ↓reduceIte]
theorem op_plus (v w u : Int32) : OPS b S0 A0 cc e (f_X11_plus b v w u) (f_X12_plus_ (b + 286) v w u) := by
  rintro h ⟨S, A, B, c, p, bs, nb, rfl, h1, h2⟩
  have hX := h2.1
  have hM := L_mod hX
  have fin : IH b S0 A0 cc e (mz S (za A (b + 286) (up (A (b + 286)) 0 ((0 : Nat) : Int))) B c) := by
    obtain ⟨g1, g2⟩ := IH_thrown (v := ((0 : Nat) : Int)) h1 h2
    exact ⟨S, _, B, c, p, bs, nb, rfl, g1, g2⟩
  rcases reg2_n v w with ⟨r, s, hr, hs, rfl, rfl⟩ | hn | ⟨r, hr, rfl, hn⟩
  · obtain ⟨wr, R, q1, q2, q3, q4, q5⟩ := h1.2.2.2.2.2.1 r hr
    obtain ⟨ws, Q, p1, p2, p3, p4, p5⟩ := h1.2.2.2.2.2.1 s hs
    have hP := h1.1
    have hp := PR_p hP
    have w1 := q1.2.1
    have w2 := p1.2.1
    have rR := isF_r hP q1
    have rQ := isF_r hP p1
    by_cases ew : wr = ws
    · subst ew
      obtain ⟨z, rfl, z1, z2⟩ := any_int u
      have zr := emod_r (x := z) (p := p) (by omega)
      obtain ⟨A1, c1, c2, c3⟩ := x_addf (A := A) (B := B) (c := c) (v := z % p) (p := p) ((L_regs hX).2 r hr) ((L_regs hX).2 s hs) (by omega) hp.2 zr (fun n hn => by rw [q3 n hn]; exact rR n) (fun n hn => by rw [p3 n hn]; exact rQ n)
      have x1 : A1 (b + 286) = A (b + 286) := c3 _ (by omega)
      have x19 : A1 (b + 286 + 19) = A (b + 286 + 19) := c3 _ (by omega)
      have x18 : A1 (b + 286 + 18) = A (b + 286 + 18) := c3 _ (by omega)
      have key := fill_run (S := S) (A := za A1 (b + 286) (up (A1 (b + 286)) 0 ((0 : Nat) : Int))) (B := B) (c := c) (a := b + 286 + 4) (o := 0) (f := f_X12_plus__L50 (b + 286) (ii (r : Int)) (ii (s : Int)) (ll (z % p))) (ad p R (sc p (z % p) Q)) 181 (by decide) (fun i hi => by
        have e1 := q5 i (by omega)
        have e2 := p5 i (by omega)
        have r1 := rR i
        have r2 := rQ i
        have r3 := pr_r (x := z % p) (y := Q i) ⟨zr.1, by omega⟩ ⟨r2.1, by omega⟩
        unfold f_X12_plus__L50
        simp (disch := omega) only [k181, n_le, show ¬ (181 ≤ i) by omega, ↓reduceIte, MR5 hM, MR32 hM, Mv hM, Option.bind_some, n_mul, n_add, Ma19 hM, za_ne, x19, e1, e2, i_l, ll_mul, ll_add]
        rw [m_left' (p := p) hM (by rw [za_ne _ _ (by omega), za_at, up_ne _ _ (by omega), x1]; exact h1.2.2.1.1) (by omega) hp.2 (by omega) (by omega)]
        simp only [Option.bind_some]
        rw [jsI_m0 (MS4 hM) hi (by omega) (by unfold ad sc; rw [ser_at (by omega), ser_at (by omega), em_add_r])]
        simp only [Option.bind_some, k1, n_add]) (by
        unfold f_X12_plus__L50
        simp (disch := omega) only [k181, n_le, Nat.le_refl, ↓reduceIte])
      refine ⟨ii ((1 : Nat) : Int), mz S A1 B c, mz S (za (za (za A1 (b + 286) (up (A1 (b + 286)) 0 ((0 : Nat) : Int))) (b + 286 + 4) (mo (ad p R (sc p (z % p) Q)) (A1 (b + 286 + 4)) 0 181)) (b + 286 + 19) (mo (fun k => za (za A1 (b + 286) (up (A1 (b + 286)) 0 ((0 : Nat) : Int))) (b + 286 + 4) (mo (ad p R (sc p (z % p) Q)) (A1 (b + 286 + 4)) 0 181) (b + 286 + 4) (0 + k)) (A1 (b + 286 + 19)) (181 * r) 181)) B c, ?_, ?_, ?_⟩
      · unfold f_X11_plus
        simp (disch := omega) only [k0, k1, x_reg_y _ hr, x_reg_y _ hs, Option.bind_some, n_eq, show ¬ (1 = 0) by omega, ↓reduceIte, XR5 hX, fgR (L_regs hX), FI ((L_regs hX).2 r hr), FI ((L_regs hX).2 s hs), q2, p2, XI2 hX, h1.2.1, i_l, f_of', FV ((L_regs hX).2 r hr), c1]
      · unfold f_X12_plus_
        simp (disch := omega) only [k0, k1, k181, MP0 hM, Mv hM, m_reg_y _ _ hr, m_reg_y _ _ hs, Option.bind_some, n_eq, show ¬ (1 = 0) by omega, ↓reduceIte, MR31 hM, Ma18 hM, za_ne, x18, q4, p4, i_l]
        rw [m_left' (p := p) hM (by rw [za_at, up_ne _ _ (by omega), x1]; exact h1.2.2.1.1) (by omega) hp.2 (by omega) (by omega)]
        simp (disch := omega) only [Option.bind_some, i_l, key, MR5 hM, MR32 hM, n_mul]
        rw [m_copies (MS4 hM) (MS19 hM) (by omega) (by omega) (by omega) (by omega) (by omega)]
        simp (disch := omega) only [Option.bind_some, za_ne]
      · refine IH_regs h1 h2 hr (fun x x1 x2 x3 => ?_) (fun k hk => ?_) (fun o ho => ?_) (fun j hj hne => ?_) (fun j hj hne n hn => ?_) ⟨wr, ad p R (sc p (z % p) Q), ⟨q1.1, w1, q1.2.2.1, VV_ad q1.2.2.2 (VV_sc _ p1.2.2.2)⟩, ?_, fun n hn => ?_, ?_, fun n hn => ?_⟩ (RC_of h2.2.2.2.1 ?_ ?_)
        · rw [za_ne _ _ (by omega), za_ne _ _ (by omega), za_ne _ _ (by omega)]; exact c3 x x3
        · rw [za_ne _ _ (by omega), za_ne _ _ (by omega), za_at, up_ne _ _ (by omega), x1]
        · rw [za_ne _ _ (by omega), za_ne _ _ (by omega), za_ne _ _ (by omega)]; exact c3 _ (by omega)
        · rw [za_ne _ _ (by omega), za_ne _ _ (by omega), za_ne _ _ (by omega), x18]
        · rw [za_at, mo_out _ _ (by omega), x19]
        · rw [za_ne _ _ (by omega), za_ne _ _ (by omega), za_ne _ _ (by omega), c3 _ (by omega)]; exact q2
        · rw [za_ne _ _ (by omega), za_ne _ _ (by omega), za_ne _ _ (by omega), c2 n hn, q3 n hn, p3 n hn]
          unfold ad sc
          rw [ser_at (by omega), ser_at (by omega), em_add_r]
        · rw [za_ne _ _ (by omega), za_ne _ _ (by omega), za_ne _ _ (by omega), x18]; exact q4
        · rw [za_at, mo_in _ _ hn, za_at, mo_in _ _ hn]
        · rw [za_ne _ _ (by omega), za_ne _ _ (by omega), za_at, up_ne _ _ (by omega), x1]
        · rw [za_ne _ _ (by omega), za_ne _ _ (by omega), za_ne _ _ (by omega)]; exact c3 _ (by omega)
    · refine ⟨ii ((0 : Nat) : Int), mz S A B c, _, ?_, ?_, fin⟩
      · unfold f_X11_plus
        simp (disch := omega) only [k0, x_reg_y _ hr, x_reg_y _ hs, Option.bind_some, n_eq, show ¬ (1 = 0) by omega, ↓reduceIte, XR5 hX, fgR (L_regs hX), FI ((L_regs hX).2 r hr), FI ((L_regs hX).2 s hs), q2, p2, ew]
      · unfold f_X12_plus_
        simp (disch := omega) only [k0, MP0 hM, Mv hM, m_reg_y _ _ hr, m_reg_y _ _ hs, Option.bind_some, n_eq, show ¬ (1 = 0) by omega, ↓reduceIte, MR31 hM, Ma18 hM, za_ne, q4, p4, ew]
  · refine ⟨ii ((0 : Nat) : Int), mz S A B c, _, ?_, ?_, fin⟩
    · unfold f_X11_plus
      simp only [k0, (hn _).1, Option.bind_some, eq_self, ↓reduceIte]
    · unfold f_X12_plus_
      simp only [k0, MP0 hM, Mv hM, (hn _).2, Option.bind_some, eq_self, ↓reduceIte]
  · refine ⟨ii ((0 : Nat) : Int), mz S A B c, _, ?_, ?_, fin⟩
    · unfold f_X11_plus
      simp (disch := omega) only [k0, x_reg_y _ hr, (hn _).1, Option.bind_some, eq_self, n_eq, show ¬ (1 = 0) by omega, ↓reduceIte]
    · unfold f_X12_plus_
      simp (disch := omega) only [k0, MP0 hM, Mv hM, m_reg_y _ _ hr, (hn _).2, Option.bind_some, eq_self, n_eq, show ¬ (1 = 0) by omega, ↓reduceIte]
theorem op_times (v w : Int32) : OPS b S0 A0 cc e (f_X11_times b v w) (f_X12_times_ (b + 286) v w) := by
  rintro h ⟨S, A, B, c, p, bs, nb, rfl, h1, h2⟩
  have hX := h2.1
  have hM := L_mod hX
  have fin : IH b S0 A0 cc e (mz S (za A (b + 286) (up (A (b + 286)) 0 ((0 : Nat) : Int))) B c) := by
    obtain ⟨g1, g2⟩ := IH_thrown (v := ((0 : Nat) : Int)) h1 h2
    exact ⟨S, _, B, c, p, bs, nb, rfl, g1, g2⟩
  rcases reg2_n v w with ⟨r, s, hr, hs, rfl, rfl⟩ | hn | ⟨r, hr, rfl, hn⟩
  · obtain ⟨wr, R, q1, q2, q3, q4, q5⟩ := h1.2.2.2.2.2.1 r hr
    obtain ⟨ws, Q, p1, p2, p3, p4, p5⟩ := h1.2.2.2.2.2.1 s hs
    have hP := h1.1
    have hp := PR_p hP
    have w1 := q1.2.1
    have w2 := p1.2.1
    have rR := isF_r hP q1
    have rQ := isF_r hP p1
    by_cases ew : wr + ws ≤ 60
    · obtain ⟨A1, c1, c2, c3, c4⟩ := x_mulf (A := A) (B := B) (c := c) (p := p) ((L_regs hX).2 r hr) ((L_regs hX).2 s hs) (by omega) hp.2 (fun n hn => by rw [q3 n hn]; exact rR n) (fun n hn => by rw [p3 n hn]; exact rQ n)
      rw [q2, p2] at c2
      have x1 : A1 (b + 286) = A (b + 286) := c4 _ (by omega) (by omega)
      have x19 : A1 (b + 286 + 19) = A (b + 286 + 19) := c4 _ (by omega) (by omega)
      have x18 : A1 (b + 286 + 18) = A (b + 286 + 18) := c4 _ (by omega) (by omega)
      have hF : isF p (wr + ws) (ml p R Q) := ⟨by have := q1.1; have := p1.1; omega, ew, by have := q1.1; have := p1.1; have := q1.2.2.1; have := p1.2.2.1; omega, VV_ml (EH_of hP) q1.1 p1.1 q1.2.2.2 p1.2.2.2⟩
      have em := m_mul (A := za A1 (b + 286) (up (A1 (b + 286)) 0 ((0 : Nat) : Int))) (B := B) (c := c) (p := p) (o := 181 * r) (o' := 181 * s) hM (by rw [za_at, up_ne _ _ (by omega), x1]; exact h1.2.2.1.1) (by omega) hp.2 (MS19 hM) (MS19 hM) (MS5 hM) (by omega) (by omega) (by omega) (by omega) (by omega) (by omega) (fun k hk => by rw [za_ne _ _ (by omega), x19, q5 k hk]; exact rR k) (fun k hk => by rw [za_ne _ _ (by omega), x19, p5 k hk]; exact rQ k)
      generalize hA2 : za (za A1 (b + 286) (up (A1 (b + 286)) 0 ((0 : Nat) : Int))) (b + 286 + 5) _ = A2 at em
      have y1 : ∀ n, n < 181 → A2 (b + 286 + 5) (0 + n) = ml p R Q n := fun n hn => by
        rw [← hA2, za_at, mo_in _ _ hn]
        exact cv_ser (by omega) (fun k hk => by rw [za_ne _ _ (by omega), x19]; exact q5 k hk) (fun k hk => by rw [za_ne _ _ (by omega), x19]; exact p5 k hk)
      have y2 : ∀ x, x ≠ b + 286 → x ≠ b + 286 + 5 → A2 x = A1 x := fun x h3 h4 => by rw [← hA2, za_ne _ _ h4, za_ne _ _ h3]
      have y3 : ∀ k, k ≠ 0 → A2 (b + 286) k = A1 (b + 286) k := fun k hk => by rw [← hA2, za_ne _ _ (by omega), za_at, up_ne _ _ hk]
      have z18r : A2 (b + 286 + 18) r = (wr : Int) := by rw [y2 _ (by omega) (by omega), x18]; exact q4
      have z18s : A2 (b + 286 + 18) s = (ws : Int) := by rw [y2 _ (by omega) (by omega), x18]; exact p4
      refine ⟨ii ((wr + ws : Nat) : Int), mz S A1 B c, mz S (za (za A2 (b + 286 + 19) (mo (fun k => A2 (b + 286 + 5) (0 + k)) (A2 (b + 286 + 19)) (181 * r) 181)) (b + 286 + 18) (up (A2 (b + 286 + 18)) r ((wr + ws : Nat) : Int))) B c, ?_, ?_, ?_⟩
      · unfold f_X11_times
        simp (disch := omega) only [k0, k60, x_reg_y _ hr, x_reg_y _ hs, Option.bind_some, n_eq, n_le, n_add, show ¬ (1 = 0) by omega, ew, ↓reduceIte, XR5 hX, fgR (L_regs hX), FI ((L_regs hX).2 r hr), FI ((L_regs hX).2 s hs), q2, p2, XI2 hX, h1.2.1, FV ((L_regs hX).2 r hr), c1, c2]
        rfl
      · unfold f_X12_times_
        simp (disch := omega) only [k0, k60, k181, MP0 hM, Mv hM, m_reg_y _ _ hr, m_reg_y _ _ hs, Option.bind_some, n_eq, n_le, n_add, n_mul, show ¬ (1 = 0) by omega, ew, ↓reduceIte, MR31 hM, MR32 hM, MR6 hM, Ma18 hM, za_ne, x18, q4, p4, em]
        rw [m_copies (MS5 hM) (MS19 hM) (by omega) (by omega) (by omega) (by omega) (by omega)]
        simp (disch := omega) only [Option.bind_some, MR31 hM, Ma18 hM, za_ne, z18r, z18s, n_add, Ms18 hM, za_at, up_at]
      · refine IH_regs h1 h2 hr (fun x x1 x2 x3 => ?_) (fun k hk => ?_) (fun o ho => ?_) (fun j hj hne => ?_) (fun j hj hne n hn => ?_) ⟨wr + ws, ml p R Q, hF, ?_, fun n hn => ?_, ?_, fun n hn => ?_⟩ (RC_of h2.2.2.2.1 ?_ ?_)
        · rw [za_ne _ _ (by omega), za_ne _ _ (by omega), y2 _ (by omega) (by omega)]; exact c4 x x2 x3
        · rw [za_ne _ _ (by omega), za_ne _ _ (by omega), y3 _ (by omega), x1]
        · rw [za_ne _ _ (by omega), za_ne _ _ (by omega), y2 _ (by omega) (by omega)]; exact c4 _ (by omega) (by omega)
        · rw [za_at, up_ne _ _ hne, y2 _ (by omega) (by omega), x18]
        · rw [za_ne _ _ (by omega), za_at, mo_out _ _ (by omega), y2 _ (by omega) (by omega), x19]
        · rw [za_ne _ _ (by omega), za_ne _ _ (by omega), y2 _ (by omega) (by omega), c2]; rfl
        · rw [za_ne _ _ (by omega), za_ne _ _ (by omega), y2 _ (by omega) (by omega), c3 n hn]
          unfold ml
          rw [ser_at (by omega)]
          exact congrArg (· % p) (sm_congr fun i hi => by rw [q3 i (by omega), p3 (n - i) (by omega)])
        · rw [za_at, up_at]
        · rw [za_ne _ _ (by omega), za_at, mo_in _ _ hn, y1 n hn]
        · rw [za_ne _ _ (by omega), za_ne _ _ (by omega), y3 _ (by omega), x1]
        · rw [za_ne _ _ (by omega), za_ne _ _ (by omega), y2 _ (by omega) (by omega)]; exact c4 _ (by omega) (by omega)
    · refine ⟨-1, mz S A B c, _, ?_, ?_, fin⟩
      · unfold f_X11_times
        simp (disch := omega) only [k0, k60, x_reg_y _ hr, x_reg_y _ hs, Option.bind_some, n_eq, n_le, n_add, show ¬ (1 = 0) by omega, ↓reduceIte, XR5 hX, fgR (L_regs hX), FI ((L_regs hX).2 r hr), FI ((L_regs hX).2 s hs), q2, p2, ew]
      · unfold f_X12_times_
        simp (disch := omega) only [k0, k60, MP0 hM, Mv hM, m_reg_y _ _ hr, m_reg_y _ _ hs, Option.bind_some, n_eq, n_le, n_add, show ¬ (1 = 0) by omega, ↓reduceIte, MR31 hM, Ma18 hM, za_ne, q4, p4, ew]
  · refine ⟨-1, mz S A B c, _, ?_, ?_, fin⟩
    · unfold f_X11_times
      simp only [k0, (hn _).1, Option.bind_some, eq_self, ↓reduceIte]
    · unfold f_X12_times_
      simp only [k0, MP0 hM, Mv hM, (hn _).2, Option.bind_some, eq_self, ↓reduceIte]
  · refine ⟨-1, mz S A B c, _, ?_, ?_, fin⟩
    · unfold f_X11_times
      simp (disch := omega) only [k0, x_reg_y _ hr, (hn _).1, Option.bind_some, eq_self, n_eq, show ¬ (1 = 0) by omega, ↓reduceIte]
    · unfold f_X12_times_
      simp (disch := omega) only [k0, MP0 hM, Mv hM, m_reg_y _ _ hr, (hn _).2, Option.bind_some, eq_self, n_eq, show ¬ (1 = 0) by omega, ↓reduceIte]
end ops
