/-! Call own, joined. -/
theorem ov_r {p : Int} (hp : 1 < p) (V : Nat → Nat → Int) (j : Nat) : 0 ≤ ov p V j ∧ ov p V j < p := by
  unfold ov
  split
  · omega
  · split
    · omega
    · exact emr hp _
section ops
variable {b : Nat} {S0 : SS} {A0 : ZA} {cc : Nat → Nat} {e : Nat}
theorem op_own (v w x : Int32) : OPS b S0 A0 cc e (f_X11_own b v w x) (f_X12_own (b + 286) v w x) := by
  rintro h ⟨S, A, B, c, p, bs, nb, rfl, h1, h2⟩
  have hX := h2.1
  have hM := L_mod hX
  have fin : IH b S0 A0 cc e (mz S (za A (b + 286) (up (A (b + 286)) 0 ((0 : Nat) : Int))) B c) := by
    obtain ⟨g1, g2⟩ := IH_thrown (v := ((0 : Nat) : Int)) h1 h2
    exact ⟨S, _, B, c, p, bs, nb, rfl, g1, g2⟩
  have hP := h1.1
  have hp := PR_p hP
  rcases rng_cases v 4 with ⟨r, hr, rfl⟩ | ⟨z, rfl, a1, a2, a3⟩
  · rcases wt_cases w with ⟨k, hk, hk2, rfl, e1, e2⟩ | ⟨e1, e2⟩
    · obtain ⟨q, rfl⟩ : ∃ q, k = 2 * q := ⟨k / 2, by omega⟩
      have hL := Lk_r hk
      obtain ⟨S', A', c', bs', nb', er, t1, t2, t3, t4, t5⟩ := x_swr h1 h2 (i := q) (by omega)
      have hl := rtl_len hP (2 * q)
      have hX' := t2.1
      have hM' := L_mod hX'
      have hSG := t2.2.1
      have hs := (hSG.1.1 q (by omega)).1
      rcases rng_cases x ((rtl p (2 * q)).length) with ⟨i, hi, rfl⟩ | ⟨y, rfl, y1, y2, y3⟩
      · have pi := t4 i hi
        have lr := rtl_mem hP (2 * q) hi
        have q1 : q ≠ 1 := fun z => by
          subst z
          have : Lk (2 * 1) = 0 := rfl
          omega
        obtain ⟨rd, rd36⟩ := t5 q1
        generalize hlam : (rtl p (2 * q)).getD i 0 = lam at *
        generalize hs0 : Lk (2 * q) - 1 = s at *
        have Ls : Lk (2 * q) = s + 1 := by omega
        have Tr := TT_r (p := p) (by omega) (2 * q) 2
        obtain ⟨A1, f1, a1, a2, a3, a4⟩ := x_load (n := 2) (B := B) (c := c') hX' hSG hP (show q < 31 by omega) (by omega) (fun _ => by rw [hs0]; exact rd)
        rw [hs0] at a1 a3
        obtain ⟨A2, f2, b1, b2, b3⟩ := x_setNum (S := S') (A := A1) (B := B) (c := c') (v := ((0 : Nat) : Int)) (L_scr hX')
        have g12 : ∀ x, x < b + 135 ∨ b + 235 ≤ x → A2 x = A' x := fun x hx => by rw [b3 x (by omega) (by omega), a4 x (by omega) (fun r _ => by omega)]
        have ot : OTab A2 b s p (TT p (2 * q) 2) := ⟨by rw [b3 _ (by omega) (by omega)]; exact a1, fun _ => by rw [b3 _ (by omega) (by omega), a2]; exact rd.1, fun r hr j hj => by rw [b3 _ (by omega) (by omega)]; exact a3 r hr j hj⟩
        have rt2 : jaI (mz S' A2 B c') (b + 44 + 3 * q) (ii (i : Int)) = some (ii ((lam : Nat) : Int)) := by
          rw [jaI_n (L_rts hX' q (by omega)) (by omega) (by omega), g12 _ (by omega), pi]
        obtain ⟨A3, fr3, alt⟩ := x_findOwn (A := A2) (B := B) (c := c') (l := ((lam : Nat) : Int)) hX' (by omega) (by omega) (show (1 : Int) < p by omega) hp.2 ot Tr ⟨by omega, lr⟩ (by rw [b2 0 (by omega)]; rfl)
        have g13 : ∀ x, x < b + 135 ∨ b + 235 ≤ x → A3 x = A' x := fun x hx => by rw [fr3 x (fun i _ => by omega) (by omega), g12 x hx]
        rcases alt with ⟨f3, no⟩ | ⟨V, yes, f3, hd⟩
        · -- no own form: only scratch has changed
          obtain ⟨s1, s2⟩ := IH_scr t1 t2 (A2 := A3) (fun x hx => g13 x (by omega)) (fun k' hk' => by rw [g13 _ (by omega)]) (fun o ho => g13 _ (by omega)) (RC_of t2.2.2.2.1 (by rw [g13 _ (by omega)]) (g13 _ (by omega)))
          obtain ⟨g1, g2⟩ := IH_thrown (v := ((0 : Nat) : Int)) s1 s2
          obtain ⟨A4, e3, z1, z2, z3, z4, z5, z6, z7⟩ := m_roots (A := za A3 (b + 286) (up (A3 (b + 286)) 0 ((0 : Nat) : Int))) (B := B) (c := c') (w := 2 * q) hM' g1.2.2.1 g2.2.2.2.1 hP (by omega) (by omega)
          rw [hs0] at z3 z4
          obtain ⟨g3, g4⟩ := IH_scr g1 g2 (A2 := A4) (fun x hx => z7 x (by omega) (by omega) (by omega)) (fun k' hk' => z6 k' (by omega) (by omega) (by omega)) (fun o ho => z7 _ (by omega) (by omega) (by omega)) z5
          have pm := z2 i hi
          rw [hlam] at pm
          obtain ⟨A5, fr5, alt5⟩ := m_solves (A := A4) (B := B) (c := c') (l := ((lam : Nat) : Int)) (T := TT p (2 * q) 2) hM' (by omega) (by omega) (show (1 : Int) < p by omega) hp.2 g3.2.2.1.1 z3 z4 Tr ⟨by omega, lr⟩
          obtain ⟨g5, g6⟩ := IH_scr g3 g4 (A2 := A5) (fun x hx => fr5 x (by omega) (by omega)) (fun k' hk' => by rw [fr5 _ (by omega) (by omega)]) (fun o ho => fr5 _ (by omega) (by omega)) (RC_of z5 (by rw [fr5 _ (by omega) (by omega)]) (fr5 _ (by omega) (by omega)))
          rcases alt5 with ⟨f5, _⟩ | ⟨V, yes, _⟩
          · have mwi : ∀ h, f_X12_within (ii (i : Int)) (ii ((0 : Nat) : Int)) (ii (((rtl p (2 * q)).length - 1 : Nat) : Int)) h = some (ii ((1 : Nat) : Int), h) := fun h => by
              rw [m_win h (by omega) (by omega) (by omega) (by omega) (by omega) (by omega), if_pos (by omega)]
            refine ⟨-2, mz S' A3 B c', mz S' A5 B c', ?_, ?_, ⟨S', A5, B, c', p, bs', nb', rfl, g5, g6⟩⟩
            · unfold f_X11_own
              simp (disch := omega) only [k0, x_reg_y _ hr, e1, Option.bind_some, n_eq, show ¬ (1 = 0) by omega, ↓reduceIte, Xv hX, er, n_lt, show ¬ (i < 0) by omega, PI6 hs.1, t3, hi, XR9 hX', Ov hX', k2, f1, XR11 hX', FV (L_scr hX'), f2, PR5 hs.1, rt2, FR (L_scr hX'), f3, eq_self]
            · unfold f_X12_own
              rw [k0, MP0 hM']
              simp (disch := omega) only [Option.bind_some, Mv hM', m_reg_y _ _ hr, e2, n_eq, show ¬ (1 = 0) by omega, ↓reduceIte, e3, MI39 hM', z1, k1, n_sub, mwi, MR40 hM', Ma24 hM', pm, f5, eq_self]
          · exact absurd yes (no V)
        · -- an own form
          have sg3 : SG B b S' A3 c' bs' nb' := SG_of hSG (fun x hx => g13 x (by omega)) (fun i hi k _ => by rw [g13 _ (by omega)]) (fun _ _ => rfl)
          obtain ⟨A4, f4, sg4, c1, c2, c3⟩ := x_complete (C := ov p V) sg3 hP (show q < 31 by omega) (by obtain ⟨x1, l', x2, x3⟩ := Rdy_of (g13 _ (by omega)) rd36; exact ⟨x1, l', x2, by omega⟩) (L_scr hX') ⟨by omega, fun k _ => by omega⟩ ⟨by omega, fun k _ => by omega⟩ (fun j hj => ⟨hd j (by omega), ov_r (show (1 : Int) < p by omega) _ _⟩)
          obtain ⟨A5, f5, d1, d2, d3⟩ := x_copy (A := A4) (B := B) (c := c') ((L_regs hX').2 r hr) (L_scr hX')
          have g15 : ∀ x, x < b + 135 ∨ b + 235 ≤ x → x ≠ b + 15 + 1 + 2 * r → x ≠ b + 15 + 2 + 2 * r → A5 x = A' x := fun x hx h1 h2 => by rw [d3 x h1 h2, c3 x (by omega) (by omega), g13 x hx]
          have b6 : Bas (za A5 (b + 286) (up (A5 (b + 286)) 0 ((0 : Nat) : Int))) (b + 286) p := ⟨by rw [za_at, up_ne _ _ (by omega), g15 _ (by omega) (by omega) (by omega)]; exact t1.2.2.1.1, fun n hn => by rw [za_ne _ _ (by omega), za_ne _ _ (by omega), za_ne _ _ (by omega), g15 _ (by omega) (by omega) (by omega), g15 _ (by omega) (by omega) (by omega), g15 _ (by omega) (by omega) (by omega)]; exact t1.2.2.1.2 n hn⟩
          have rc6 : RC (za A5 (b + 286) (up (A5 (b + 286)) 0 ((0 : Nat) : Int))) (b + 286) p := RC_of t2.2.2.2.1 (by rw [za_at, up_ne _ _ (by omega), g15 _ (by omega) (by omega) (by omega)]) (by rw [za_ne _ _ (by omega), g15 _ (by omega) (by omega) (by omega)])
          have g16 : ∀ x, x ≠ b + 286 → x < b + 135 ∨ b + 235 ≤ x → x ≠ b + 15 + 1 + 2 * r → x ≠ b + 15 + 2 + 2 * r → za A5 (b + 286) (up (A5 (b + 286)) 0 ((0 : Nat) : Int)) x = A' x := fun x h0 hx h1 h2 => by rw [za_ne _ _ h0]; exact g15 x hx h1 h2
          have m6 : ∀ k, k ≠ 0 → za A5 (b + 286) (up (A5 (b + 286)) 0 ((0 : Nat) : Int)) (b + 286) k = A' (b + 286) k := fun k hk => by rw [za_at, up_ne _ _ hk, g15 _ (by omega) (by omega) (by omega)]
          have cr6 : za A5 (b + 286) (up (A5 (b + 286)) 0 ((0 : Nat) : Int)) (b + 15 + 1 + 2 * r) 0 = ((2 * q : Nat) : Int) := by rw [za_ne _ _ (by omega), d1, c1]
          have ch6 : ∀ n', n' < 6 → za A5 (b + 286) (up (A5 (b + 286)) 0 ((0 : Nat) : Int)) (b + 15 + 2 + 2 * r) n' = ex p (2 * q) (ov p V) n' := fun n' hn' => by rw [za_ne _ _ (by omega), d2 n' hn', c2 n' hn']
          have rt5 : jaI (mz S' A5 B c') (b + 44 + 3 * q) (ii (i : Int)) = some (ii ((lam : Nat) : Int)) := by
            rw [jaI_n (L_rts hX' q (by omega)) (by omega) (by omega), g15 _ (by omega) (by omega) (by omega), pi]
          have ex5 : f_X11_own b (ii (r : Int)) (ii ((2 * q : Nat) : Int)) (ii (i : Int)) (mz S A B c) = some (ii ((lam : Nat) : Int), mz S' A5 B c') := by
            unfold f_X11_own
            simp (disch := omega) only [k0, x_reg_y _ hr, e1, Option.bind_some, n_eq, show ¬ (1 = 0) by omega, ↓reduceIte, Xv hX, er, n_lt, show ¬ (i < 0) by omega, PI6 hs.1, t3, hi, XR9 hX', Ov hX', k2, f1, XR11 hX', FV (L_scr hX'), f2, PR5 hs.1, rt2, FR (L_scr hX'), f3, Pv hs.1, f4, XR5 hX', fgR (L_regs hX'), FV ((L_regs hX').2 r hr), f5, rt5]
          generalize hA6 : za A5 (b + 286) (up (A5 (b + 286)) 0 ((0 : Nat) : Int)) = A6 at b6 rc6 g16 m6 cr6 ch6
          obtain ⟨A7, e7, z1, z2, z3, z4, z5, z6, z7⟩ := m_roots (A := A6) (B := B) (c := c') (w := 2 * q) hM' b6 rc6 hP (by omega) (by omega)
          rw [hs0] at z3 z4
          have pm := z2 i hi
          rw [hlam] at pm
          have b7 : Bas A7 (b + 286) p := ⟨by rw [z6 _ (by omega) (by omega) (by omega)]; exact b6.1, fun n hn => by rw [z7 _ (by omega) (by omega) (by omega), z7 _ (by omega) (by omega) (by omega), z7 _ (by omega) (by omega) (by omega)]; exact b6.2 n hn⟩
          obtain ⟨A8, fr8, alt8⟩ := m_solves (A := A7) (B := B) (c := c') (l := ((lam : Nat) : Int)) (T := TT p (2 * q) 2) hM' (by omega) (by omega) (show (1 : Int) < p by omega) hp.2 b7.1 z3 z4 Tr ⟨by omega, lr⟩
          rcases alt8 with ⟨_, no⟩ | ⟨U, yes', f8, hd8⟩
          · exact absurd yes (no V)
          · have eU : U = V := by
              have := yes'.1
              rw [yes.1, Option.some.injEq] at this
              exact this.symm
            subst eU
            have b8 : Bas A8 (b + 286) p := ⟨by rw [fr8 _ (by omega) (by omega)]; exact b7.1, fun n hn => by rw [fr8 _ (by omega) (by omega), fr8 _ (by omega) (by omega), fr8 _ (by omega) (by omega)]; exact b7.2 n hn⟩
            obtain ⟨A9, e9, v1, v2, v3, v4⟩ := m_builds (A := A8) (B := B) (c := c') (C := ov p U) (k := 2 * q) hM' b8 (RC_of z5 (by rw [fr8 _ (by omega) (by omega)]) (fr8 _ (by omega) (by omega))) (EH_of hP) hp.2 hk hk2 (fun j hj => ⟨hd8 j (by omega), ov_r (show (1 : Int) < p by omega) _ _⟩)
            have g9 : ∀ x, x < b + 286 ∨ (b + 286 + 9 ≤ x ∧ x ≤ b + 286 + 19) ∨ b + 286 + 26 ≤ x ∨ (b + 286 + 1 ≤ x ∧ x ≤ b + 286 + 3) → A9 x = A6 x := fun x hx => by rw [v4 x (by omega) (by omega) (by omega) (by omega) (by omega), fr8 x (by omega) (by omega), z7 x (by omega) (by omega) (by omega)]
            have m24 : A9 (b + 286 + 24) i = ((lam : Nat) : Int) := by rw [v4 _ (by omega) (by omega) (by omega) (by omega) (by omega), fr8 _ (by omega) (by omega)]; exact pm
            generalize hA10 : za A9 (b + 286 + 19) (mo (fun k => A9 (b + 286 + 8) (0 + k)) (A9 (b + 286 + 19)) (181 * r) 181) = A10
            have g10 : ∀ x, x ≠ b + 286 + 19 → A10 x = A9 x := fun x hx => by rw [← hA10, za_ne _ _ hx]
            have mwi : ∀ h, f_X12_within (ii (i : Int)) (ii ((0 : Nat) : Int)) (ii (((rtl p (2 * q)).length - 1 : Nat) : Int)) h = some (ii ((1 : Nat) : Int), h) := fun h => by
              rw [m_win h (by omega) (by omega) (by omega) (by omega) (by omega) (by omega), if_pos (by omega)]
            refine ⟨ii ((lam : Nat) : Int), mz S' A5 B c', mz S' (za A10 (b + 286 + 18) (up (A10 (b + 286 + 18)) r ((2 * q : Nat) : Int))) B c', ex5, ?_, ?_⟩
            · unfold f_X12_own
              rw [k0, MP0 hM']
              simp (disch := omega) only [Option.bind_some, hA6, Mv hM', m_reg_y _ _ hr, e2, n_eq, show ¬ (1 = 0) by omega, ↓reduceIte, e7, MI39 hM', z1, k1, n_sub, mwi, MR40 hM', Ma24 hM', pm, f8, e9, MR10 hM', MR32 hM', k181, n_mul]
              rw [m_copies (MS8 hM') (MS19 hM') (by omega) (by omega) (by omega) (by omega) (by omega), hA10]
              simp (disch := omega) only [Option.bind_some, MR31 hM', Ms18 hM', MR40 hM', Ma24 hM', za_ne _ _ (show b + 286 + 24 ≠ b + 286 + 18 by omega), g10 _ (show b + 286 + 24 ≠ b + 286 + 19 by omega), m24]
            · refine IH_regs t1 t2 hr (fun x x1 x2 x3 => ?_) (fun k hk9 => ?_) (fun o ho => ?_) (fun j hj hne => ?_) (fun j hj hne n hn => ?_) ⟨2 * q, ex p (2 * q) (ov p U), ⟨hk2, hk, by omega, ex_V _ _ _⟩, ?_, fun n hn => ?_, ?_, fun n hn => ?_⟩ (RC_of v2 ?_ ?_)
              · rw [za_ne _ _ (by omega), g10 _ (by omega), g9 x (by omega), g16 x (by omega) (by omega) x2 x3]
              · rw [za_ne _ _ (by omega), g10 _ (by omega), v3 k (by omega), fr8 _ (by omega) (by omega), z6 k (by omega) (by omega) (by omega), m6 k (by omega)]
              · rw [za_ne _ _ (by omega), g10 _ (by omega), g9 _ (by omega), g16 _ (by omega) (by omega) (by omega) (by omega)]
              · rw [za_at, up_ne _ _ hne, g10 _ (by omega), g9 _ (by omega), g16 _ (by omega) (by omega) (by omega) (by omega)]
              · rw [za_ne _ _ (by omega), ← hA10, za_at, mo_out _ _ (by omega), g9 _ (by omega), g16 _ (by omega) (by omega) (by omega) (by omega)]
              · rw [za_ne _ _ (by omega), g10 _ (by omega), g9 _ (by omega), cr6]
              · rw [za_ne _ _ (by omega), g10 _ (by omega), g9 _ (by omega), ch6 n hn]
              · rw [za_at, up_at]
              · rw [za_ne _ _ (by omega), ← hA10, za_at, mo_in _ _ hn, Nat.zero_add, v1 n hn]
              · rw [za_ne _ _ (by omega), g10 _ (by omega)]
              · rw [za_ne _ _ (by omega), g10 _ (by omega)]
      · -- no such root
        obtain ⟨g1, g2⟩ := IH_thrown (v := ((0 : Nat) : Int)) t1 t2
        obtain ⟨A3, e3, z1, z2, z3, z4, z5, z6, z7⟩ := m_roots (A := za A' (b + 286) (up (A' (b + 286)) 0 ((0 : Nat) : Int))) (B := B) (c := c') (w := 2 * q) hM' g1.2.2.1 g2.2.2.2.1 hP (by omega) (by omega)
        obtain ⟨g3, g4⟩ := IH_scr g1 g2 (A2 := A3) (fun x hx => z7 x (by omega) (by omega) (by omega)) (fun k' hk' => z6 k' (by omega) (by omega) (by omega)) (fun o ho => z7 _ (by omega) (by omega) (by omega)) z5
        refine ⟨-1, mz S' A' B c', mz S' A3 B c', ?_, ?_, ⟨S', A3, B, c', p, bs', nb', rfl, g3, g4⟩⟩
        · unfold f_X11_own
          simp (disch := omega) only [k0, x_reg_y _ hr, e1, Option.bind_some, n_eq, show ¬ (1 = 0) by omega, ↓reduceIte, Xv hX, er, PI6 hs.1, t3]
          by_cases z : y < 0
          · rw [if_pos (by rw [i_lt (by omega) (by omega) (by omega) (by omega)]; omega)]
          · rw [if_neg (by rw [i_lt (by omega) (by omega) (by omega) (by omega)]; omega), if_neg (by rw [i_lt (by omega) (by omega) (by omega) (by omega)]; omega)]
        · unfold f_X12_own
          rw [k0, MP0 hM']
          simp (disch := omega) only [Option.bind_some, Mv hM', m_reg_y _ _ hr, e2, n_eq, show ¬ (1 = 0) by omega, ↓reduceIte, e3, MI39 hM', z1, k1]
          rw [ii_sub, m_win _ (by omega) (by omega) (by omega) (by omega) (by omega) (by omega), if_neg (by omega)]
          rfl
    · refine ⟨-1, mz S A B c, _, ?_, ?_, fin⟩
      · unfold f_X11_own
        simp (disch := omega) only [k0, x_reg_y _ hr, e1, Option.bind_some, n_eq, show ¬ (1 = 0) by omega, eq_self, ↓reduceIte]
      · unfold f_X12_own
        simp (disch := omega) only [k0, MP0 hM, Mv hM, m_reg_y _ _ hr, e2, Option.bind_some, n_eq, show ¬ (1 = 0) by omega, eq_self, ↓reduceIte]
  · refine ⟨-1, mz S A B c, _, ?_, ?_, fin⟩
    · unfold f_X11_own
      simp only [k0, x_reg_n _ a1 a2 a3, Option.bind_some, eq_self, ↓reduceIte]
    · unfold f_X12_own
      simp only [k0, MP0 hM, Mv hM, m_reg_n _ _ a1 a2 a3, Option.bind_some, eq_self, ↓reduceIte]
end ops
