/-! Shelves: put. -/
section ops
variable {b : Nat} {S0 : SS} {A0 : ZA} {cc : Nat → Nat} {e : Nat}
theorem x_coef' {S : SS} {A B B1 : ZA} {c : (Nat × Nat) × (Nat → Nat)} {p : Int} {bs nb : Nat → Nat} (h1 : CORE A B b p) (h2 : DYN b S0 A0 cc e S A B1 c p bs nb) {f g w n : Nat} {R : Nat → Int} (hf : fm S f g) (hfb : f < b + 321 ∧ ∀ i, i < 31 → f ≠ b + 42 + 3 * i) (hgb : g < b + 321 ∧ ∀ i, i < 31 → g ≠ b + 42 + 3 * i) (hF : isF p w R) (hw : A f 0 = (w : Int)) (hh : ∀ n, n < 6 → A g n = R n) (hn : n ≤ 180) :
    ∃ S' A' c' bs' nb', f_X11_coefficientOf b f (ii (n : Int)) (mz S A B1 c) = some (ii (R n), mz S' A' B1 c') ∧ CORE A' B b p ∧ DYN b S0 A0 cc e S' A' B1 c' p bs' nb' ∧ SR b S A c nb S' A' c' nb' := by
  have hX := h2.1
  have hP := h1.1
  have hw60 := hF.2.1
  have hw2 := hF.1
  unfold f_X11_coefficientOf
  simp (disch := omega) only [k6, n_le]
  by_cases q : 6 ≤ n
  · rw [if_pos q]
    simp only [XR8 hX, FI hf, hw, XI2 hX, h1.2.1, Option.bind_some, LSp_v (L_sps hX)]
    have ew : w = 2 * (w / 2) := by omega
    obtain ⟨h', e1, S', A', c', bs', nb', rfl, g1, g2, g3⟩ := x_ready (n := n) (i := w / 2) h2.2.1 (L_sps hX) hP (by omega) hn
    rw [← ew] at e1
    rw [e1]
    have rd := g3 (by have := hF.2.2.1; omega)
    have t0 : CORE A' B b p := CORE_frame h1 ⟨fun x hx => (g2.1 x (by omega) (fun i _ => by omega)).2, fun x _ _ => (g2.1 x (by omega) (fun i _ => by omega)).2, fun k hk => by rw [(g2.1 (b + 286) (by omega) (fun i _ => by omega)).2], fun o ho => (g2.1 _ (by omega) (fun i _ => by omega)).2⟩ (FRB_refl b B)
    have t2 : DYN b S0 A0 cc e S' A' B1 c' p bs' nb' := by
      obtain ⟨d1, d2, d3, d4, d5, d6, d7⟩ := h2
      obtain ⟨r1, r2, r3, r4, r5⟩ := g2
      refine ⟨LX_of d1 (fun x _ hx hn => (r1 x hx hn).1), g1, ⟨by have := d3.1; omega, by have := d3.2; omega⟩, RC_of d4 (by rw [(r1 (b + 286) (by omega) (fun i _ => by omega)).2]) ((r1 _ (by omega) (fun i _ => by omega)).2), ROOTS_of d5 (fun i hi => ⟨r2 i hi 6 (by omega) (by omega), r2 i hi 7 (by omega) (by omega), (r1 _ (by omega) (fun j _ => by omega)).2⟩), fun x hx => ?_, by rw [r5, d7]⟩
      have := r1 x (by omega) (fun i _ => by omega)
      rw [this.1, this.2]
      exact d6 x hx
    have hf' : fm S' f g := ⟨by rw [(g2.1 f hfb.1 hfb.2).1]; exact hf.1, by rw [(g2.1 g hgb.1 hgb.2).1]; exact hf.2⟩
    simp only [Option.bind_some, FR hf', Pv (g1.1.1 _ (show w / 2 < 31 by omega)).1.1]
    have hL := Lk_r (k := 2 * (w / 2)) (by omega)
    rw [x_expand (C := R) g1 hP (by omega) hn rd hf'.2 (by omega) (by omega) (fun j hj => ⟨by rw [(g2.1 g hgb.1 hgb.2).2]; exact hh j (by omega), isF_r hP hF j⟩), ← ew, isF_ex hP hF (fun _ _ => rfl)]
    exact ⟨S', A', c', bs', nb', rfl, t0, t2, g2⟩
  · rw [if_neg q]
    have := hh n (by omega)
    simp (disch := omega) only [FR hf, FA hf, this, Option.bind_some]
    exact ⟨S, A, c, bs, nb, rfl, h1, h2, SR_refl _ _ _ _ _⟩
theorem DYN_B {S : SS} {A B B1 : ZA} {c : (Nat × Nat) × (Nat → Nat)} {p : Int} {bs nb : Nat → Nat} (h2 : DYN b S0 A0 cc e S A B c p bs nb) (hB : ∀ x, b + 321 ≤ x → B1 x = B x) : DYN b S0 A0 cc e S A B1 c p bs nb := by
  obtain ⟨d1, d2, d3, d4, d5, d6, d7⟩ := h2
  exact ⟨d1, SG_of d2 (fun _ _ => rfl) (fun _ _ _ _ => rfl) hB, d3, d4, d5, d6, d7⟩
/-- the reference's last steps: a filled row stays filled -/
theorem put_tail {S : SS} {A B : ZA} {c : (Nat × Nat) × (Nat → Nat)} {m at' φ q : Nat} (hM : LM S m) (hat : at' < 8) (hφ : φ < 2) (hA : A (m + 26) at' = (φ : Int)) (hq : q < 2) : ((jgR (mz S A B c) m 9 43).bind fun v128 => (jgR (mz S A B c) m 9 43).bind fun v130 => (jaB (mz S A B c) v130 (ii (at' : Int))).bind fun v132 => if v132 = ii ((0 : Nat) : Int) then (if ii (q : Int) = ii ((0 : Nat) : Int) then (jsB (mz S A B c) v128 (ii (at' : Int)) (ii ((0 : Nat) : Int))).bind fun h138 => (jzb (ii (q : Int))).bind fun _ => some (ii (q : Int), h138) else (jsB (mz S A B c) v128 (ii (at' : Int)) (ii ((1 : Nat) : Int))).bind fun h142 => (jzb (ii (q : Int))).bind fun _ => some (ii (q : Int), h142)) else (jsB (mz S A B c) v128 (ii (at' : Int)) (ii ((1 : Nat) : Int))).bind fun h134 => (jzb (ii (q : Int))).bind fun _ => some (ii (q : Int), h134)) = some (ii (q : Int), mz S (za A (m + 26) (up (A (m + 26)) at' ((if q = 1 then 1 else φ : Nat) : Int))) B c) := by
  have w0 : jsB (mz S A B c) (m + 26) (ii (at' : Int)) (ii ((0 : Nat) : Int)) = some (mz S (za A (m + 26) (up (A (m + 26)) at' ((0 : Nat) : Int))) B c) := Ms26 hM hat (Or.inl rfl)
  have w1 : jsB (mz S A B c) (m + 26) (ii (at' : Int)) (ii ((1 : Nat) : Int)) = some (mz S (za A (m + 26) (up (A (m + 26)) at' ((1 : Nat) : Int))) B c) := Ms26 hM hat (Or.inr rfl)
  simp (disch := omega) only [MR43 hM, Option.bind_some, Ma26 hM, hA, n_eq, w0, w1, jzb_n (show q = 0 ∨ q = 1 by omega)]
  by_cases f0 : φ = 0
  · subst f0
    by_cases q0 : q = 0
    · subst q0; rfl
    · have : q = 1 := by omega
      subst this; rfl
  · have f1 : φ = 1 := by omega
    subst f1
    rw [if_neg (by omega)]
    by_cases q0 : q = 1
    · rw [if_pos q0]
    · rw [if_neg q0]
theorem up_self {F : Nat → Int} {k : Nat} {v : Int} (h : F k = v) : up F k v = F := by
  funext j
  by_cases q : j = k
  · rw [q, up_at, h]
  · rw [up_ne _ _ q]
theorem op_put (v w : Int32) (u : Nat) (hu : u < 2) (x : Int32) : OPS b S0 A0 cc e (f_X11_put b v w (ii (u : Int)) x) (f_X12_put (b + 286) v w (ii (u : Int)) x) := by
  rintro h ⟨S, A, B, c, p, bs, nb, rfl, h1, h2⟩
  have hX := h2.1
  have hM := L_mod hX
  have hV := h1.2.2.2.2.2.2.1
  have fin : IH b S0 A0 cc e (mz S (za A (b + 286) (up (A (b + 286)) 0 ((0 : Nat) : Int))) B c) := by
    obtain ⟨g1, g2⟩ := IH_thrown (v := ((0 : Nat) : Int)) h1 h2
    exact ⟨S, _, B, c, p, bs, nb, rfl, g1, g2⟩
  rcases row_cases v w with ⟨s, r, hs, hr, rfl, rfl, w1, w2⟩ | ⟨n1, n2⟩
  · obtain ⟨f1, f2, f3⟩ := hV.2.2.2 s hs r hr
    rw [Nat.zero_add] at f1
    obtain ⟨σ, σ1, σ2, σ3⟩ := sh_sort hV hs
    obtain ⟨φ, φ1, φ2⟩ : ∃ φ : Nat, φ < 2 ∧ A (b + 286 + 26) (4 * s + r) = (φ : Int) := by
      rw [← f1]
      exact f2.elim (fun h => ⟨0, by omega, h⟩) (fun h => ⟨1, by omega, h⟩)
    have hat : 4 * s + r < 8 := by omega
    -- nothing is put: what the reference leaves
    have none' : ∀ (A3 B3 : ZA), (∀ y, y ≠ b + 286 → A3 y = A y) → (∀ k, k = 1 ∨ k = 7 ∨ k = 12 ∨ k = 19 ∨ k = 42 → A3 (b + 286) k = A (b + 286) k) → (∀ y, y ≠ b + 235 → B3 y = B y) → IH b S0 A0 cc e (mz S (za A3 (b + 286 + 26) (up (A3 (b + 286 + 26)) (4 * s + r) ((if (0 : Nat) = 1 then 1 else φ : Nat) : Int))) B3 c) := by
      intro A3 B3 a1 a2 a3
      have e26 : za A3 (b + 286 + 26) (up (A3 (b + 286 + 26)) (4 * s + r) ((if (0 : Nat) = 1 then 1 else φ : Nat) : Int)) = A3 := by
        rw [if_neg (by omega), up_self (by rw [a1 _ (by omega)]; exact φ2), za_self]
      rw [e26]
      refine IH_shelf h1 h2 (fun y _ y2 _ => a1 y y2) (fun k hk => a2 k (by omega)) (fun y _ y2 _ _ => a3 y y2) ?_
      unfold SHV
      rw [a2 42 (by omega)]
      exact SHQ_of hV (fun s hs => by rw [a1 _ (by omega)]) (fun s hs r hr => by rw [a1 _ (by omega)]) (fun s hs r hr => by rw [a1 _ (by omega)]) (fun s hs r hr i hi => by rw [a3 _ (by omega)]) (fun s hs r hr i hi => by rw [a3 _ (by omega)])
    have Af : ∀ A' : ZA, A' (b + 286 + 26) = A (b + 286 + 26) → A' (b + 286 + 26) (4 * s + r) = (φ : Int) := fun A' h => by rw [h]; exact φ2
    by_cases u0 : u = 0
    · subst u0
      by_cases s0 : σ = 0
      · -- coefficients
        subst s0
        obtain ⟨wt, R, q1, q2, q3, q4, q5⟩ := h1.2.2.2.2.2.1 0 (by omega)
        have rR := isF_r h1.1 q1
        have hp := PR_p h1.1
        obtain ⟨h', e1, S', A', c', bs', nb', rfl, t1, t2, t3⟩ := j_run (f := f_X11_put_L83 b (ii (s : Int)) (ii (r : Int)) (b + 24 + 3 + 7 * s + 1 + r)) (fun t => ii (t : Int)) (fun t h' => ∃ S' A' c' bs' nb', h' = mz S' A' (za B (b + 24 + 3 + 7 * s + 1 + r) (mo R (B (b + 24 + 3 + 7 * s + 1 + r)) 0 t)) c' ∧ CORE A' B b p ∧ DYN b S0 A0 cc e S' A' (za B (b + 24 + 3 + 7 * s + 1 + r) (mo R (B (b + 24 + 3 + 7 * s + 1 + r)) 0 t)) c' p bs' nb' ∧ SR b S A c nb S' A' c' nb') 13 (t := ii ((13 : Nat) : Int)) (by omega) (fun t ht h' hq => by
          obtain ⟨S1, A1, c1, bs1, nb1, rfl, t1, t2, t3⟩ := hq
          have hX1 := t2.1
          have uu : ∀ x, x < b + 321 → (∀ i, i < 31 → x ≠ b + 42 + 3 * i) → A1 x = A x := fun x h3 h4 => (t3.1 x h3 h4).2
          obtain ⟨S2, A2, c2, bs2, nb2, e2, y1, y2, y3⟩ := x_coef' t1 t2 ((L_regs hX1).2 0 (by omega)) ⟨by omega, fun i _ => by omega⟩ ⟨by omega, fun i _ => by omega⟩ q1 (by rw [uu _ (by omega) (fun k _ => by omega)]; exact q2) (fun n hn => by rw [uu _ (by omega) (fun k _ => by omega)]; exact q3 n hn) (show t ≤ 180 by omega)
          have hX2 := y2.1
          have rt := rR t
          refine ⟨mz S2 A2 (za B (b + 24 + 3 + 7 * s + 1 + r) (mo R (B (b + 24 + 3 + 7 * s + 1 + r)) 0 (t + 1))) c2, ?_, S2, A2, c2, bs2, nb2, rfl, y1, DYN_B y2 (fun x hx => by rw [za_ne _ _ (by omega), za_ne _ _ (by omega)]), SR_trans t3 y3⟩
          unfold f_X11_put_L83
          have hr0 : jaR (mz S1 A1 (za B (b + 24 + 3 + 7 * s + 1 + r) (mo R (B (b + 24 + 3 + 7 * s + 1 + r)) 0 t)) c1) (b + 15) (ii ((0 : Nat) : Int)) = some (b + 15 + 1 + 2 * 0) := fgR (L_regs hX1) (by omega) (by omega)
          simp (disch := omega) only [k13, k0, k1, n_le, n_add, show ¬ (13 ≤ t) by omega, ↓reduceIte, XR5 hX1, Option.bind_some, hr0, Xv hX1, e2, i_l]
          have := jsJ_m (A := A2) (B := B) (c := c2) (o := 0) (i := t) (G := R) (F := B (b + 24 + 3 + 7 * s + 1 + r)) (v := R t) ((L_shv hX2).2 s hs |>.2.2.2 r hr) (by omega) (by omega) rfl
          rw [Nat.zero_add] at this
          rw [this]
          rfl) (fun h' hq => by
          obtain ⟨S1, A1, c1, bs1, nb1, rfl, t1, t2, t3⟩ := hq
          unfold f_X11_put_L83
          simp (disch := omega) only [k13, n_le, Nat.le_refl, ↓reduceIte]) (h0 := mz S A B c) ⟨S, A, c, bs, nb, by rw [mo_0, za_self], h1, by rw [mo_0, za_self]; exact h2, SR_refl _ _ _ _ _⟩
        have hX' := t2.1
        have hM' := L_mod hX'
        have uu : ∀ x, x < b + 321 → (∀ i, i < 31 → x ≠ b + 42 + 3 * i) → A' x = A x := fun x h3 h4 => (t3.1 x h3 h4).2
        have e1' : jloop (f_X11_put_L83 b (ii (s : Int)) (ii (r : Int)) (b + 24 + 3 + 7 * s + 1 + r)) jF (ii ((0 : Nat) : Int)) (mz S A B c) = some (ii ((13 : Nat) : Int), mz S' A' (za B (b + 24 + 3 + 7 * s + 1 + r) (mo R (B (b + 24 + 3 + 7 * s + 1 + r)) 0 13)) c') := e1
        generalize hB1 : za B (b + 24 + 3 + 7 * s + 1 + r) (mo R (B (b + 24 + 3 + 7 * s + 1 + r)) 0 13) = B1 at e1' t2
        have b1 : ∀ x, x ≠ b + 24 + 3 + 7 * s + 1 + r → B1 x = B x := fun x hx => by rw [← hB1, za_ne _ _ hx]
        have b1r : ∀ i, i < 13 → B1 (b + 24 + 3 + 7 * s + 1 + r) i = R i := fun i hi => by rw [← hB1, za_at, mo_0in _ _ hi]
        have wF : jsB (mz S' A' B1 c') (b + 24 + 2 + 7 * s) (ii (r : Int)) (ii ((1 : Nat) : Int)) = some (mz S' (za A' (b + 24 + 2 + 7 * s) (up (A' (b + 24 + 2 + 7 * s)) r ((1 : Nat) : Int))) B1 c') := sgFs (L_shv hX') hs hr (Or.inr rfl)
        have ex1 : f_X11_put b (ii (s : Int)) (ii (r : Int)) (ii ((0 : Nat) : Int)) x (mz S A B c) = some (ii ((1 : Nat) : Int), mz S' (za A' (b + 24 + 2 + 7 * s) (up (A' (b + 24 + 2 + 7 * s)) r ((1 : Nat) : Int))) B1 c') := by
          unfold f_X11_put
          simp (disch := omega) only [k0, k1, x_row_y _ hs hr, Option.bind_some, n_eq, show ¬ (1 = 0) by omega, eq_self, ↓reduceIte, XR6 hX, sgR (L_shv hX), sgI (L_shv hX), σ2, sgR2 (L_shv hX), sgRR (L_shv hX), e1', XR6 hX', sgR (L_shv hX'), sgR1 (L_shv hX'), wF]
        -- the reference
        generalize hA3 : za A' (b + 24 + 2 + 7 * s) (up (A' (b + 24 + 2 + 7 * s)) r ((1 : Nat) : Int)) = A3 at ex1
        have a3 : ∀ y, y ≠ b + 24 + 2 + 7 * s → A3 y = A' y := fun y hy => by rw [← hA3, za_ne _ _ hy]
        generalize hA4 : za A3 (b + 286) (up (A3 (b + 286)) 0 ((0 : Nat) : Int)) = A4
        have a4 : ∀ y, y ≠ b + 286 → A4 y = A3 y := fun y hy => by rw [← hA4, za_ne _ _ hy]
        have a4m : ∀ k, k ≠ 0 → A4 (b + 286) k = A (b + 286) k := fun k hk => by rw [← hA4, za_at, up_ne _ _ hk, a3 _ (by omega), uu _ (by omega) (fun i _ => by omega)]
        have a419 : A4 (b + 286 + 19) = A (b + 286 + 19) := by rw [a4 _ (by omega), a3 _ (by omega), uu _ (by omega) (fun i _ => by omega)]
        have r19 : ∀ i, i < 13 → A (b + 286 + 19) i = R i := fun i hi => by have := q5 i (by omega); rw [show 181 * 0 + i = i by omega] at this; exact this
        have pl := put_left (A := A4) (B := B1) (c := c') hM' x hat (by rw [a419]; intro i hi; rw [r19 i hi]; have := rR i; omega)
        have so := σ3 S' A4 B1 c' hM' (a4m 42 (by omega))
        have a426 : A4 (b + 286 + 26) = A (b + 286 + 26) := by rw [a4 _ (by omega), a3 _ (by omega), uu _ (by omega) (fun i _ => by omega)]
        have pt := put_tail (S := S') (A := A4) (B := za B1 (b + 286 + 27) (mo (fun i => A4 (b + 286 + 19) i) (B1 (b + 286 + 27)) (13 * (4 * s + r)) 13)) (c := c') (q := 1) hM' hat φ1 (Af A4 a426) (by omega)
        refine ⟨_, _, mz S' (za A4 (b + 286 + 26) (up (A4 (b + 286 + 26)) (4 * s + r) ((1 : Nat) : Int))) (za B1 (b + 286 + 27) (mo (fun i => A4 (b + 286 + 19) i) (B1 (b + 286 + 27)) (13 * (4 * s + r)) 13)) c', ex1, ?_, ?_⟩
        · unfold f_X12_put
          rw [k0, MP0 hM']
          simp (disch := omega) only [Option.bind_some, hA4, k1, k3, k4, w1, w2, n_eq, show ¬ (1 = 0) by omega, ↓reduceIte, Mv hM', so, eq_self, n_mul, n_add, pl]
          simp (disch := omega) only [n_eq, show ¬ (1 = 0) by omega, ↓reduceIte] at pt
          exact pt
        · refine IH_shelf (A := A') (B := B) t1 (DYN_B t2 (fun y hy => (b1 y (by omega)).symm)) (fun y y1 y2 y3 => ?_) (fun k hk => ?_) (fun y y1 y2 y3 y4 => ?_) ⟨?_, ?_, ?_, fun s' hs' r' hr' => ?_⟩
          · rw [za_ne _ _ y3, a4 y y2, a3 y (by omega)]
          · rw [za_ne _ _ (by omega), a4m k (by omega), uu _ (by omega) (fun i _ => by omega)]
          · rw [za_ne _ _ y4, b1 y (by omega)]
          · rw [za_ne _ _ (by omega), a4m 42 (by omega)]; exact hV.1
          · rw [za_ne _ _ (by omega), za_ne _ _ (by omega), a4m 42 (by omega), a4 _ (by omega), a3 _ (by omega), uu _ (by omega) (fun i _ => by omega)]; exact hV.2.1
          · rw [za_ne _ _ (by omega), za_ne _ _ (by omega), a4m 42 (by omega), a4 _ (by omega), a3 _ (by omega), uu _ (by omega) (fun i _ => by omega)]; exact hV.2.2.1
          · obtain ⟨o1, o2, o3⟩ := hV.2.2.2 s' hs' r' hr'
            have sh : za A4 (b + 286 + 26) (up (A4 (b + 286 + 26)) (4 * s + r) ((1 : Nat) : Int)) (b + 24 + 1 + 7 * s') 0 = A (b + 24 + 1 + 7 * s') 0 := by rw [za_ne _ _ (by omega), a4 _ (by omega), a3 _ (by omega), uu _ (by omega) (fun i _ => by omega)]
            rw [sh]
            by_cases me : s' = s ∧ r' = r
            · obtain ⟨rfl, rfl⟩ := me
              have fl : za A4 (b + 286 + 26) (up (A4 (b + 286 + 26)) (4 * s' + r') ((1 : Nat) : Int)) (b + 24 + 2 + 7 * s') r' = 1 := by rw [za_ne _ _ (by omega), a4 _ (by omega), ← hA3, za_at, up_at]; rfl
              rw [fl]
              refine ⟨?_, Or.inr rfl, fun _ i hi => ?_⟩
              · rw [za_at, show 0 + 4 * s' + r' = 4 * s' + r' by omega, up_at]; rfl
              · rw [za_ne _ _ (by omega), b1r i (by omega), za_at, show 0 + 13 * (4 * s' + r') + i = 13 * (4 * s' + r') + i by omega, mo_in _ _ (show i < 13 by omega), a419, r19 i (by omega)]
            · have fl : za A4 (b + 286 + 26) (up (A4 (b + 286 + 26)) (4 * s + r) ((1 : Nat) : Int)) (b + 24 + 2 + 7 * s') r' = A (b + 24 + 2 + 7 * s') r' := by
                rw [za_ne _ _ (by omega), a4 _ (by omega)]
                by_cases es : s' = s
                · subst es; rw [← hA3, za_at, up_ne _ _ (fun x => me ⟨rfl, x⟩), uu _ (by omega) (fun i _ => by omega)]
                · rw [a3 _ (by omega), uu _ (by omega) (fun i _ => by omega)]
              rw [fl]
              refine ⟨?_, o2, fun qq i hi => ?_⟩
              · rw [za_at, up_ne _ _ (by omega), a426]; exact o1
              · rw [za_ne _ _ (by omega), b1 _ (by omega), o3 qq i hi, za_at, mo_out _ _ (by omega), b1 _ (by omega)]
      · -- another sort
        have s1 : σ = 1 := by omega
        subst s1
        refine ⟨ii ((0 : Nat) : Int), mz S A B c, _, ?_, ?_, none' (za A (b + 286) (up (A (b + 286)) 0 ((0 : Nat) : Int))) B (fun y hy => za_ne _ _ hy) (fun k hk => by rw [za_at, up_ne _ _ (by omega)]) (fun _ _ => rfl)⟩
        · unfold f_X11_put
          simp (disch := omega) only [k0, x_row_y _ hs hr, Option.bind_some, n_eq, show ¬ (1 = 0) by omega, eq_self, ↓reduceIte, XR6 hX, sgR (L_shv hX), sgI (L_shv hX), σ2]
        · have so := σ3 S (za A (b + 286) (up (A (b + 286)) 0 ((0 : Nat) : Int))) B c hM (by rw [za_at, up_ne _ _ (by omega)])
          have pt := put_tail (S := S) (A := za A (b + 286) (up (A (b + 286)) 0 ((0 : Nat) : Int))) (B := B) (c := c) (q := 0) hM hat φ1 (Af _ (za_ne _ _ (by omega))) (by omega)
          unfold f_X12_put
          rw [k0, MP0 hM]
          simp (disch := omega) only [Option.bind_some, k1, k3, k4, w1, w2, n_eq, show ¬ (1 = 0) by omega, ↓reduceIte, Mv hM, so, eq_self, n_mul, n_add, put_out]
          simp (disch := omega) only [n_eq, eq_self, ↓reduceIte] at pt
          exact pt
    · have u1 : u = 1 := by omega
      subst u1
      have so := fun (A' B' : ZA) (h42 : A' (b + 286) 42 = A (b + 286) 42) => σ3 S A' B' c hM h42
      have nomem : ∀ q, (∀ (A3 : ZA), (∀ y, y ≠ b + 286 → A3 y = A y) → (∀ k, k = 1 ∨ k = 7 ∨ k = 12 ∨ k = 19 ∨ k = 42 → A3 (b + 286) k = A (b + 286) k) → q = mz S A3 B c → True) → True := fun _ _ => trivial
      by_cases s1 : σ = 1
      · subst s1
        rcases ask_cases x (ii ((1 : Nat) : Int)) with ⟨k, n, b1, b2, b3, b4, b5, rfl, hn, hh⟩ | hh
        · obtain ⟨B1, c1, c2⟩ := x_fresh (A := A) (B := B) (c := c) hX (w := (k : Int)) (by omega)
          have lk := m_look (A := za A (b + 286) (up (A (b + 286)) 0 ((0 : Nat) : Int))) (B := B1) (c := c) hM (ii (s : Int)) (ii (r : Int)) (ii ((1 : Nat) : Int)) (w := (k : Int)) (by omega) 12 0 (by omega) jF (za A (b + 286) (up (A (b + 286)) 0 ((0 : Nat) : Int)) (b + 286) 33) (jF_big (by omega))
          have fself : fl (za A (b + 286) (up (A (b + 286)) 0 ((0 : Nat) : Int))) (b + 286) (za A (b + 286) (up (A (b + 286)) 0 ((0 : Nat) : Int)) (b + 286) 33) = za A (b + 286) (up (A (b + 286)) 0 ((0 : Nat) : Int)) := by unfold fl; rw [up_self rfl, za_self]
          rw [fself] at lk
          have so' := so (za A (b + 286) (up (A (b + 286)) 0 ((0 : Nat) : Int))) B1 (by rw [za_at, up_ne _ _ (by omega)])
          have fl1 : ∀ f y, y ≠ b + 286 → fl (za A (b + 286) (up (A (b + 286)) 0 ((0 : Nat) : Int))) (b + 286) f y = A y := fun f y hy => by unfold fl; rw [za_ne _ _ hy, za_ne _ _ hy]
          have fl2 : ∀ f k', k' ≠ 0 → k' ≠ 33 → fl (za A (b + 286) (up (A (b + 286)) 0 ((0 : Nat) : Int))) (b + 286) f (b + 286) k' = A (b + 286) k' := fun f k' h1 h2 => by unfold fl; rw [za_at, up_ne _ _ h2, za_at, up_ne _ _ h1]
          obtain ⟨t, f, lk⟩ := lk
          rcases c2 with ⟨c3, c4⟩ | ⟨c3, c4⟩
          · -- all are there
            obtain ⟨_, lk⟩ : (∀ j, 0 ≤ j → j < 12 → trO (k : Int) ((j + 1 : Nat) : Int) ≠ none) ∧ _ := by
              rcases lk with l | ⟨⟨j, _, j2, j3⟩, _⟩
              · exact l
              · exact absurd j3 (c4 j j2).1
            have lk' : jloop (f_X12_put_L77 (b + 286) (ii (s : Int)) (ii (r : Int)) (ii ((1 : Nat) : Int)) (ii (k : Int))) jF (ii ((1 : Nat) : Int), ii ((1 : Nat) : Int)) (mz S (za A (b + 286) (up (A (b + 286)) 0 ((0 : Nat) : Int))) B1 c) = some ((ii ((1 : Nat) : Int), t), mz S (fl (za A (b + 286) (up (A (b + 286)) 0 ((0 : Nat) : Int))) (b + 286) f) B1 c) := lk
            have cj := jcJ_z (A := A) (B := B1) (n := c) (L_frt hX) ((L_shv hX).2 s hs |>.2.2.2 r hr) (x := ((0 : Nat) : Int)) (y := ((0 : Nat) : Int)) (w := ((12 : Nat) : Int)) (i := 0) (j := 0) (k := 12) rfl rfl rfl (by omega) (by omega) (by omega) (by omega)
            generalize hB2 : za B1 (b + 24 + 3 + 7 * s + 1 + r) _ = B2 at cj
            have b2 : ∀ y, y ≠ b + 24 + 3 + 7 * s + 1 + r → y ≠ b + 235 → B2 y = B y := fun y h3 h4 => by rw [← hB2, za_ne _ _ h3, c1 y h4]
            have b2r : ∀ i, i < 12 → B2 (b + 24 + 3 + 7 * s + 1 + r) i = trV (k : Int) ((i + 1 : Nat) : Int) := fun i hi => by
              rw [← hB2, za_at]
              unfold va_cpy
              rw [if_pos (by omega), show 0 + (i - 0) = i by omega]
              exact (c4 i hi).2
            have wF : jsB (mz S A B2 c) (b + 24 + 2 + 7 * s) (ii (r : Int)) (ii ((1 : Nat) : Int)) = some (mz S (za A (b + 24 + 2 + 7 * s) (up (A (b + 24 + 2 + 7 * s)) r ((1 : Nat) : Int))) B2 c) := sgFs (L_shv hX) hs hr (Or.inr rfl)
            have ex1 : f_X11_put b (ii (s : Int)) (ii (r : Int)) (ii ((1 : Nat) : Int)) (ii (k : Int)) (mz S A B c) = some (ii ((1 : Nat) : Int), mz S (za A (b + 24 + 2 + 7 * s) (up (A (b + 24 + 2 + 7 * s)) r ((1 : Nat) : Int))) B2 c) := by
              unfold f_X11_put
              simp (disch := omega) only [k0, k1, k12, x_row_y _ hs hr, Option.bind_some, n_eq, show ¬ (1 = 0) by omega, eq_self, ↓reduceIte, (hh _).1, XR6 hX, sgR (L_shv hX), sgI (L_shv hX), σ2, sgR2 (L_shv hX), sgRR (L_shv hX), Xv hX, c3, XR12 hX, cj, sgR1 (L_shv hX), wF]
            generalize hA3 : za A (b + 24 + 2 + 7 * s) (up (A (b + 24 + 2 + 7 * s)) r ((1 : Nat) : Int)) = A3 at ex1
            have a3 : ∀ y, y ≠ b + 24 + 2 + 7 * s → A3 y = A y := fun y hy => by rw [← hA3, za_ne _ _ hy]
            have lk3 := m_look (A := za A3 (b + 286) (up (A3 (b + 286)) 0 ((0 : Nat) : Int))) (B := B2) (c := c) hM (ii (s : Int)) (ii (r : Int)) (ii ((1 : Nat) : Int)) (w := (k : Int)) (by omega) 12 0 (by omega) jF (za A3 (b + 286) (up (A3 (b + 286)) 0 ((0 : Nat) : Int)) (b + 286) 33) (jF_big (by omega))
            have fself3 : fl (za A3 (b + 286) (up (A3 (b + 286)) 0 ((0 : Nat) : Int))) (b + 286) (za A3 (b + 286) (up (A3 (b + 286)) 0 ((0 : Nat) : Int)) (b + 286) 33) = za A3 (b + 286) (up (A3 (b + 286)) 0 ((0 : Nat) : Int)) := by unfold fl; rw [up_self rfl, za_self]
            rw [fself3] at lk3
            obtain ⟨t3, f3', lk3⟩ := lk3
            obtain ⟨_, lk3⟩ : (∀ j, 0 ≤ j → j < 12 → trO (k : Int) ((j + 1 : Nat) : Int) ≠ none) ∧ _ := by
              rcases lk3 with l | ⟨⟨j, _, j2, j3⟩, _⟩
              · exact l
              · exact absurd j3 (c4 j j2).1
            have lk3' : jloop (f_X12_put_L77 (b + 286) (ii (s : Int)) (ii (r : Int)) (ii ((1 : Nat) : Int)) (ii (k : Int))) jF (ii ((1 : Nat) : Int), ii ((1 : Nat) : Int)) (mz S (za A3 (b + 286) (up (A3 (b + 286)) 0 ((0 : Nat) : Int))) B2 c) = some ((ii ((1 : Nat) : Int), t3), mz S (fl (za A3 (b + 286) (up (A3 (b + 286)) 0 ((0 : Nat) : Int))) (b + 286) f3') B2 c) := lk3
            obtain ⟨f4, B3, e4, z1, z2, z3⟩ := put_traces (A := za A3 (b + 286) (up (A3 (b + 286)) 0 ((0 : Nat) : Int))) (B := B2) (c := c) hM (w := (k : Int)) (by omega) hat (fun j hj => (c4 j hj).1) f3'
            generalize hA4 : fl (za A3 (b + 286) (up (A3 (b + 286)) 0 ((0 : Nat) : Int))) (b + 286) f4 = A4 at e4
            have a4 : ∀ y, y ≠ b + 286 → A4 y = A3 y := fun y hy => by rw [← hA4]; unfold fl; rw [za_ne _ _ hy, za_ne _ _ hy]
            have a4m : ∀ k', k' ≠ 0 → k' ≠ 33 → A4 (b + 286) k' = A (b + 286) k' := fun k' h1 h2 => by rw [← hA4]; unfold fl; rw [za_at, up_ne _ _ h2, za_at, up_ne _ _ h1, a3 _ (by omega)]
            have a426 : A4 (b + 286 + 26) = A (b + 286 + 26) := by rw [a4 _ (by omega), a3 _ (by omega)]
            have so3 := so (za A3 (b + 286) (up (A3 (b + 286)) 0 ((0 : Nat) : Int))) B2 (by rw [za_at, up_ne _ _ (by omega), a3 _ (by omega)])
            have pt := put_tail (S := S) (A := A4) (B := B3) (c := c) (q := 1) hM hat φ1 (Af A4 a426) (by omega)
            refine ⟨_, _, mz S (za A4 (b + 286 + 26) (up (A4 (b + 286 + 26)) (4 * s + r) ((1 : Nat) : Int))) B3 c, ex1, ?_, ?_⟩
            · unfold f_X12_put
              rw [k0, MP0 hM]
              simp (disch := omega) only [Option.bind_some, k1, k3, k4, w1, w2, n_eq, show ¬ (1 = 0) by omega, ↓reduceIte, Mv hM, so3, eq_self, (hh _).2, lk3', n_mul, n_add, e4]
              simp (disch := omega) only [n_eq, show ¬ (1 = 0) by omega, ↓reduceIte] at pt
              exact pt
            · refine IH_shelf h1 h2 (fun y y1 y2 y3 => ?_) (fun k' hk' => ?_) (fun y y1 y2 y3 y4 => ?_) ⟨?_, ?_, ?_, fun s' hs' r' hr' => ?_⟩
              · rw [za_ne _ _ y3, a4 y y2, a3 y (by omega)]
              · rw [za_ne _ _ (by omega), a4m k' (by omega) (by omega)]
              · rw [z3 y y4, b2 y (by omega) y2]
              · rw [za_ne _ _ (by omega), a4m 42 (by omega) (by omega)]; exact hV.1
              · rw [za_ne _ _ (by omega), za_ne _ _ (by omega), a4m 42 (by omega) (by omega), a4 _ (by omega), a3 _ (by omega)]; exact hV.2.1
              · rw [za_ne _ _ (by omega), za_ne _ _ (by omega), a4m 42 (by omega) (by omega), a4 _ (by omega), a3 _ (by omega)]; exact hV.2.2.1
              · obtain ⟨o1, o2, o3⟩ := hV.2.2.2 s' hs' r' hr'
                have sh : za A4 (b + 286 + 26) (up (A4 (b + 286 + 26)) (4 * s + r) ((1 : Nat) : Int)) (b + 24 + 1 + 7 * s') 0 = A (b + 24 + 1 + 7 * s') 0 := by rw [za_ne _ _ (by omega), a4 _ (by omega), a3 _ (by omega)]
                rw [sh]
                by_cases me : s' = s ∧ r' = r
                · obtain ⟨rfl, rfl⟩ := me
                  have fl : za A4 (b + 286 + 26) (up (A4 (b + 286 + 26)) (4 * s' + r') ((1 : Nat) : Int)) (b + 24 + 2 + 7 * s') r' = 1 := by rw [za_ne _ _ (by omega), a4 _ (by omega), ← hA3, za_at, up_at]; rfl
                  rw [fl]
                  refine ⟨?_, Or.inr rfl, fun _ i hi => ?_⟩
                  · rw [za_at, show 0 + 4 * s' + r' = 4 * s' + r' by omega, up_at]; rfl
                  · have hi12 : i < 12 := by
                      rcases hi with hi | ⟨_, hi⟩
                      · exact hi
                      · rw [σ2] at hi; omega
                    rw [z3 _ (by omega), b2r i hi12, show 0 + 13 * (4 * s' + r') + i = 13 * (4 * s' + r') + i by omega, z1 i hi12]
                · have fl : za A4 (b + 286 + 26) (up (A4 (b + 286 + 26)) (4 * s + r) ((1 : Nat) : Int)) (b + 24 + 2 + 7 * s') r' = A (b + 24 + 2 + 7 * s') r' := by
                    rw [za_ne _ _ (by omega), a4 _ (by omega)]
                    by_cases es : s' = s
                    · subst es; rw [← hA3, za_at, up_ne _ _ (fun x => me ⟨rfl, x⟩)]
                    · rw [a3 _ (by omega)]
                  rw [fl]
                  refine ⟨?_, o2, fun qq i hi => ?_⟩
                  · rw [za_at, up_ne _ _ (by omega), a426]; exact o1
                  · rw [z3 _ (by omega), b2 _ (by omega) (by omega), o3 qq i hi, z2 _ (by omega), b2 _ (by omega) (by omega)]
          · -- one is huge
            obtain ⟨_, lk⟩ : (∃ j, 0 ≤ j ∧ j < 12 ∧ trO (k : Int) ((j + 1 : Nat) : Int) = none) ∧ _ := by
              obtain ⟨j, j1, j2⟩ := c4
              rcases lk with ⟨l, _⟩ | l
              · exact absurd j2 (l j (by omega) j1)
              · exact l
            have lk' : jloop (f_X12_put_L77 (b + 286) (ii (s : Int)) (ii (r : Int)) (ii ((1 : Nat) : Int)) (ii (k : Int))) jF (ii ((1 : Nat) : Int), ii ((1 : Nat) : Int)) (mz S (za A (b + 286) (up (A (b + 286)) 0 ((0 : Nat) : Int))) B1 c) = some ((ii ((0 : Nat) : Int), t), mz S (fl (za A (b + 286) (up (A (b + 286)) 0 ((0 : Nat) : Int))) (b + 286) f) B1 c) := lk
            have pt := put_tail (S := S) (A := fl (za A (b + 286) (up (A (b + 286)) 0 ((0 : Nat) : Int))) (b + 286) f) (B := B1) (c := c) (q := 0) hM hat φ1 (Af _ (fl1 f _ (by omega))) (by omega)
            refine ⟨ii ((0 : Nat) : Int), mz S A B1 c, _, ?_, ?_, none' (fl (za A (b + 286) (up (A (b + 286)) 0 ((0 : Nat) : Int))) (b + 286) f) B1 (fun y hy => fl1 f y hy) (fun k' hk' => fl2 f k' (by omega) (by omega)) c1⟩
            · unfold f_X11_put
              simp (disch := omega) only [k0, k1, x_row_y _ hs hr, Option.bind_some, n_eq, show ¬ (1 = 0) by omega, eq_self, ↓reduceIte, (hh _).1, XR6 hX, sgR (L_shv hX), sgI (L_shv hX), σ2, sgR2 (L_shv hX), sgRR (L_shv hX), Xv hX, c3]
            · unfold f_X12_put
              rw [k0, MP0 hM]
              simp (disch := omega) only [Option.bind_some, k1, k3, k4, w1, w2, n_eq, show ¬ (1 = 0) by omega, ↓reduceIte, Mv hM, so', eq_self, (hh _).2, lk', n_mul, n_add, put_out]
              simp (disch := omega) only [n_eq, eq_self, ↓reduceIte] at pt
              exact pt
        · -- not asked
          have so' := so (za A (b + 286) (up (A (b + 286)) 0 ((0 : Nat) : Int))) B (by rw [za_at, up_ne _ _ (by omega)])
          have pt := put_tail (S := S) (A := za A (b + 286) (up (A (b + 286)) 0 ((0 : Nat) : Int))) (B := B) (c := c) (q := 0) hM hat φ1 (Af _ (za_ne _ _ (by omega))) (by omega)
          refine ⟨ii ((0 : Nat) : Int), mz S A B c, _, ?_, ?_, none' (za A (b + 286) (up (A (b + 286)) 0 ((0 : Nat) : Int))) B (fun y hy => za_ne _ _ hy) (fun k hk => by rw [za_at, up_ne _ _ (by omega)]) (fun _ _ => rfl)⟩
          · unfold f_X11_put
            simp (disch := omega) only [k0, k1, x_row_y _ hs hr, Option.bind_some, n_eq, show ¬ (1 = 0) by omega, eq_self, ↓reduceIte, (hh _).1]
          · unfold f_X12_put
            rw [k0, MP0 hM]
            simp (disch := omega) only [Option.bind_some, k1, k3, k4, w1, w2, n_eq, show ¬ (1 = 0) by omega, ↓reduceIte, Mv hM, so', eq_self, (hh _).2, look_out, n_mul, n_add, put_out]
            simp (disch := omega) only [n_eq, eq_self, ↓reduceIte] at pt
            exact pt
      · have s0 : σ = 0 := by omega
        subst s0
        have so' := so (za A (b + 286) (up (A (b + 286)) 0 ((0 : Nat) : Int))) B (by rw [za_at, up_ne _ _ (by omega)])
        have pt := put_tail (S := S) (A := za A (b + 286) (up (A (b + 286)) 0 ((0 : Nat) : Int))) (B := B) (c := c) (q := 0) hM hat φ1 (Af _ (za_ne _ _ (by omega))) (by omega)
        refine ⟨ii ((0 : Nat) : Int), mz S A B c, _, ?_, ?_, none' (za A (b + 286) (up (A (b + 286)) 0 ((0 : Nat) : Int))) B (fun y hy => za_ne _ _ hy) (fun k hk => by rw [za_at, up_ne _ _ (by omega)]) (fun _ _ => rfl)⟩
        · unfold f_X11_put
          rcases ask_cases x (ii ((1 : Nat) : Int)) with ⟨k, n, b1, b2, b3, b4, b5, rfl, hn, hh⟩ | hh
          · simp (disch := omega) only [k0, k1, x_row_y _ hs hr, Option.bind_some, n_eq, show ¬ (1 = 0) by omega, show ¬ (0 = 1) by omega, eq_self, ↓reduceIte, (hh _).1, XR6 hX, sgR (L_shv hX), sgI (L_shv hX), σ2]
          · simp (disch := omega) only [k0, k1, x_row_y _ hs hr, Option.bind_some, n_eq, show ¬ (1 = 0) by omega, eq_self, ↓reduceIte, (hh _).1]
        · unfold f_X12_put
          rw [k0, MP0 hM]
          simp (disch := omega) only [Option.bind_some, k1, k3, k4, w1, w2, n_eq, show ¬ (1 = 0) by omega, show ¬ (0 = 1) by omega, ↓reduceIte, Mv hM, so', eq_self, look_out, n_mul, n_add, put_out]
          simp (disch := omega) only [n_eq, eq_self, ↓reduceIte] at pt
          exact pt
  · refine ⟨ii ((0 : Nat) : Int), mz S A B c, _, ?_, ?_, fin⟩
    · unfold f_X11_put
      simp only [n1, Option.bind_some, k0, eq_self, ↓reduceIte]
    · unfold f_X12_put
      rw [k0, MP0 hM]
      rcases n2 with n3 | ⟨n3, n4⟩
      · simp only [Option.bind_some, k1, n3, eq_self, ↓reduceIte]
      · simp only [Option.bind_some]
        rw [k1, n3]
        simp only [Option.bind_some]
        rw [if_neg n10, k3, n4]
        simp only [Option.bind_some]
        rw [if_pos trivial]
end ops
