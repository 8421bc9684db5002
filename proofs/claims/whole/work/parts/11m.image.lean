/-! Images. -/
theorem IH_gen {b : Nat} {S0 : SS} {A0 : ZA} {cc : Nat → Nat} {e : Nat} {S : SS} {A B A2 B2 : ZA} {c : (Nat × Nat) × (Nat → Nat)} {p : Int} {bs nb : Nat → Nat} (h1 : CORE A B b p) (h2 : DYN b S0 A0 cc e S A B c p bs nb)
    (k1 : ∀ x, x < b + 15 ∨ (b + 40 ≤ x ∧ x < b + 135) ∨ b + 321 ≤ x → A2 x = A x) (k3 : ∀ o, (1 ≤ o ∧ o ≤ 3) ∨ o = 6 ∨ (9 ≤ o ∧ o ≤ 11) → A2 (b + 286 + o) = A (b + 286 + o)) (k2 : ∀ k, k = 1 ∨ k = 7 ∨ k = 12 ∨ k = 19 → A2 (b + 286) k = A (b + 286) k) (kb : ∀ x, b + 321 ≤ x → B2 x = B x) (hr : REGS A2 b p) (hs : SHV A2 B2 b) (hi : IMG A2 B2 b p) : IH b S0 A0 cc e (mz S A2 B2 c) := by
  obtain ⟨d1, d2, d3, d4, d5, d6, d7⟩ := h2
  obtain ⟨h1, h2, h3, h4, h5, h6, h7, h8⟩ := h1
  refine ⟨S, A2, B2, c, p, bs, nb, rfl, ⟨h1, ?_, ⟨?_, fun n hn => ?_⟩, ?_, ?_, hr, hs, hi⟩, d1, SG_of d2 (fun x hx => k1 x (by omega)) (fun i hi k _ => by rw [k1 _ (by omega)]) kb, d3, RC_of d4 (k2 7 (by omega)) (k3 6 (by omega)), ROOTS_of d5 (fun i hi => ⟨by rw [k1 _ (by omega)], by rw [k1 _ (by omega)], k1 _ (by omega)⟩), fun x hx => ⟨(d6 x hx).1, by rw [k1 x (by omega)]; exact (d6 x hx).2⟩, d7⟩
  · rw [k1 b (by omega)]; exact h2
  · rw [k2 1 (by omega)]; exact h3.1
  · rw [k3 1 (by omega), k3 2 (by omega), k3 3 (by omega)]; exact h3.2 n hn
  · obtain ⟨t, a, b1, c1, d⟩ := h4
    exact ⟨t, a, by rw [k1 _ (by omega)]; exact b1, by rw [k2 12 (by omega)]; exact c1, fun k hk => by rw [k1 _ (by omega), k3 9 (by omega)]; exact d k hk⟩
  · obtain ⟨t, a, b1, c1, d⟩ := h5
    exact ⟨t, a, by rw [k1 _ (by omega)]; exact b1, by rw [k2 19 (by omega)]; exact c1, fun i hi => FQ_of (d i hi) (by rw [k1 _ (by omega)]) (fun n _ => by rw [k1 _ (by omega)]) (by rw [k3 10 (by omega)]) (fun n _ => by rw [k3 11 (by omega)])⟩
section im
variable {S : SS} {A B : ZA} {c : (Nat × Nat) × (Nat → Nat)} {m k : Nat}
theorem im_W0 (hM : LM S m) (hk : k < 2) : jloop (f_X12_image_L44 m (ii (k : Int)) (ii ((0 : Nat) : Int))) jF (ii ((0 : Nat) : Int)) (mz S A B c) = some (ii ((4 : Nat) : Int), mz S (za A (m + 30) (mo (fun i => A (m + 18) i) (A (m + 30)) (4 * k) 4)) B c) :=
  fill_run _ 4 (by decide) (fun i hi => by
    unfold f_X12_image_L44
    simp (disch := omega) only [k4, k0, k1, n_le, show ¬ (4 ≤ i) by omega, eq_self, ↓reduceIte, MR47 hM, MR31 hM, Option.bind_some, Ma18 hM, za_ne, n_mul, n_add]
    rw [jsI_m (G := fun i => A (m + 18) i) (MS30 hM) (by omega) (by omega) rfl]
    rfl) (by
    unfold f_X12_image_L44
    simp (disch := omega) only [k4, n_le, Nat.le_refl, ↓reduceIte])
theorem im_R0 (hM : LM S m) (hk : k < 2) : jloop (f_X12_image_L96 m (ii (k : Int)) (ii ((0 : Nat) : Int))) jF (ii ((0 : Nat) : Int)) (mz S A B c) = some (ii ((724 : Nat) : Int), mz S (za A (m + 31) (mo (fun i => A (m + 19) i) (A (m + 31)) (724 * k) 724)) B c) :=
  fill_run _ 724 (by decide) (fun i hi => by
    unfold f_X12_image_L96
    simp (disch := omega) only [k724, k0, k1, n_le, show ¬ (724 ≤ i) by omega, eq_self, ↓reduceIte, MR48 hM, MR32 hM, Option.bind_some, Ma19 hM, za_ne, n_mul, n_add]
    rw [jsI_m (G := fun i => A (m + 19) i) (MS31 hM) (by omega) (by omega) rfl]
    rfl) (by
    unfold f_X12_image_L96
    simp (disch := omega) only [k724, n_le, Nat.le_refl, ↓reduceIte])
theorem im_F0 (hM : LM S m) (hk : k < 2) (h01 : ∀ i, i < 8 → A (m + 26) i = 0 ∨ A (m + 26) i = 1) : jloop (f_X12_image_L154 m (ii (k : Int)) (ii ((0 : Nat) : Int))) jF (ii ((0 : Nat) : Int)) (mz S A B c) = some (ii ((8 : Nat) : Int), mz S (za A (m + 32) (mo (fun i => A (m + 26) i) (A (m + 32)) (8 * k) 8)) B c) :=
  fill_run _ 8 (by decide) (fun i hi => by
    unfold f_X12_image_L154
    simp (disch := omega) only [k8, k0, k1, n_le, show ¬ (8 ≤ i) by omega, eq_self, ↓reduceIte, MR49 hM, MR43 hM, Option.bind_some, Ma26 hM, za_ne, n_mul, n_add]
    rw [jsB_m (G := fun i => A (m + 26) i) (MS32 hM) (by omega) (by omega) rfl (h01 i hi)]
    rfl) (by
    unfold f_X12_image_L154
    simp (disch := omega) only [k8, n_le, Nat.le_refl, ↓reduceIte])
theorem im_N0 (hM : LM S m) (hk : k < 2) : jloop (f_X12_image_L209 m (ii (k : Int)) (ii ((0 : Nat) : Int))) jF (ii ((0 : Nat) : Int)) (mz S A B c) = some (ii ((104 : Nat) : Int), mz S A (za B (m + 33) (mo (fun i => B (m + 27) i) (B (m + 33)) (104 * k) 104)) c) :=
  fill_runJ _ 104 (by decide) (fun i hi => by
    unfold f_X12_image_L209
    simp (disch := omega) only [k104, k0, k1, n_le, show ¬ (104 ≤ i) by omega, eq_self, ↓reduceIte, MR50 hM, MR44 hM, Option.bind_some, Ma27 hM, za_ne, n_mul, n_add]
    rw [jsJ_m (G := fun i => B (m + 27) i) (MS33 hM) (by omega) (by omega) rfl]
    rfl) (by
    unfold f_X12_image_L209
    simp (disch := omega) only [k104, n_le, Nat.le_refl, ↓reduceIte])
theorem n10 : ¬ (ii ((1 : Nat) : Int) = ii ((0 : Nat) : Int)) := by decide
theorem im_W1 (hM : LM S m) (hk : k < 2) : jloop (f_X12_image_L44 m (ii (k : Int)) (ii ((1 : Nat) : Int))) jF (ii ((0 : Nat) : Int)) (mz S A B c) = some (ii ((4 : Nat) : Int), mz S (za A (m + 18) (mo (fun i => A (m + 30) (4 * k + i)) (A (m + 18)) 0 4)) B c) :=
  fill_run _ 4 (by decide) (fun i hi => by
    unfold f_X12_image_L44
    simp (disch := omega) only [k4, k0, k1, n_le, show ¬ (4 ≤ i) by omega, n10, ↓reduceIte, MR47 hM, MR31 hM, Option.bind_some, n_mul, n_add, Ma30 hM, za_ne]
    rw [jsI_m0 (G := fun i => A (m + 30) (4 * k + i)) (MS18 hM) (by omega) (by omega) rfl]
    rfl) (by
    unfold f_X12_image_L44
    simp (disch := omega) only [k4, n_le, Nat.le_refl, ↓reduceIte])
theorem im_R1 (hM : LM S m) (hk : k < 2) : jloop (f_X12_image_L96 m (ii (k : Int)) (ii ((1 : Nat) : Int))) jF (ii ((0 : Nat) : Int)) (mz S A B c) = some (ii ((724 : Nat) : Int), mz S (za A (m + 19) (mo (fun i => A (m + 31) (724 * k + i)) (A (m + 19)) 0 724)) B c) :=
  fill_run _ 724 (by decide) (fun i hi => by
    unfold f_X12_image_L96
    simp (disch := omega) only [k724, k0, k1, n_le, show ¬ (724 ≤ i) by omega, n10, ↓reduceIte, MR48 hM, MR32 hM, Option.bind_some, n_mul, n_add, Ma31 hM, za_ne]
    rw [jsI_m0 (G := fun i => A (m + 31) (724 * k + i)) (MS19 hM) (by omega) (by omega) rfl]
    rfl) (by
    unfold f_X12_image_L96
    simp (disch := omega) only [k724, n_le, Nat.le_refl, ↓reduceIte])
theorem im_F1 (hM : LM S m) (hk : k < 2) (h01 : ∀ i, i < 8 → A (m + 32) (8 * k + i) = 0 ∨ A (m + 32) (8 * k + i) = 1) : jloop (f_X12_image_L154 m (ii (k : Int)) (ii ((1 : Nat) : Int))) jF (ii ((0 : Nat) : Int)) (mz S A B c) = some (ii ((8 : Nat) : Int), mz S (za A (m + 26) (mo (fun i => A (m + 32) (8 * k + i)) (A (m + 26)) 0 8)) B c) :=
  fill_run _ 8 (by decide) (fun i hi => by
    unfold f_X12_image_L154
    simp (disch := omega) only [k8, k0, k1, n_le, show ¬ (8 ≤ i) by omega, n10, ↓reduceIte, MR49 hM, MR43 hM, Option.bind_some, n_mul, n_add, Ma32 hM, za_ne]
    have := jsB_m (A := A) (B := B) (c := c) (o := 0) (i := i) (G := fun i => A (m + 32) (8 * k + i)) (F := A (m + 26)) (MS26 hM) (by omega) (by omega) rfl (h01 i hi)
    rw [Nat.zero_add] at this
    rw [this]
    rfl) (by
    unfold f_X12_image_L154
    simp (disch := omega) only [k8, n_le, Nat.le_refl, ↓reduceIte])
theorem im_N1 (hM : LM S m) (hk : k < 2) : jloop (f_X12_image_L209 m (ii (k : Int)) (ii ((1 : Nat) : Int))) jF (ii ((0 : Nat) : Int)) (mz S A B c) = some (ii ((104 : Nat) : Int), mz S A (za B (m + 27) (mo (fun i => B (m + 33) (104 * k + i)) (B (m + 27)) 0 104)) c) :=
  fill_runJ _ 104 (by decide) (fun i hi => by
    unfold f_X12_image_L209
    simp (disch := omega) only [k104, k0, k1, n_le, show ¬ (104 ≤ i) by omega, n10, ↓reduceIte, MR50 hM, MR44 hM, Option.bind_some, n_mul, n_add, Ma33 hM, za_ne]
    have := jsJ_m (A := A) (B := B) (c := c) (o := 0) (i := i) (G := fun i => B (m + 33) (104 * k + i)) (F := B (m + 27)) (MS27 hM) (by omega) (by omega) rfl
    rw [Nat.zero_add] at this
    rw [this]
    rfl) (by
    unfold f_X12_image_L209
    simp (disch := omega) only [k104, n_le, Nat.le_refl, ↓reduceIte])
end im
section ops
variable {b : Nat} {S0 : SS} {A0 : ZA} {cc : Nat → Nat} {e : Nat}
theorem SHQ_01 {A B : ZA} {G : Nat} {st : Int} {fa fo na no : Nat} (h : SHQ A B G st fa fo na no) : (∀ s, s < 2 → A (G + 1 + 7 * s) 0 = 0 ∨ A (G + 1 + 7 * s) 0 = 1) ∧ (∀ s, s < 2 → ∀ r, r < 4 → A (G + 2 + 7 * s) r = 0 ∨ A (G + 2 + 7 * s) r = 1) ∧ (∀ i, i < 8 → A fa (fo + i) = 0 ∨ A fa (fo + i) = 1) := by
  obtain ⟨a, b1, c1, d⟩ := h
  refine ⟨fun s hs => ?_, fun s hs r hr => (d s hs r hr).2.1, fun i hi => ?_⟩
  · by_cases q : s = 0
    · subst q; rw [b1]; exact a
    · have : s = 1 := by omega
      subst this; rw [c1]; omega
  · have := d (i / 4) (by omega) (i % 4) (by omega)
    rw [show fo + 4 * (i / 4) + i % 4 = fo + i by omega] at this
    rw [← this.1]
    exact this.2.1
theorem op_image (v : Int32) (w : Nat) (hw : w < 2) : OPS b S0 A0 cc e (f_X11_image b v (ii (w : Int))) (f_X12_image (b + 286) v (ii (w : Int))) := by
  rintro h ⟨S, A, B, c, p, bs, nb, rfl, h1, h2⟩
  have hX := h2.1
  have hM := L_mod hX
  have fin : IH b S0 A0 cc e (mz S (za A (b + 286) (up (A (b + 286)) 0 ((0 : Nat) : Int))) B c) := by
    obtain ⟨g1, g2⟩ := IH_thrown (v := ((0 : Nat) : Int)) h1 h2
    exact ⟨S, _, B, c, p, bs, nb, rfl, g1, g2⟩
  have hRG := h1.2.2.2.2.2.1
  have hV := h1.2.2.2.2.2.2.1
  have hI := h1.2.2.2.2.2.2.2
  rcases rng_cases v 2 with ⟨k, hk, rfl⟩ | ⟨z, rfl, a1, a2, a3⟩
  · have mw : ∀ h, f_X12_within (ii (k : Int)) (ii ((0 : Nat) : Int)) (ii ((1 : Nat) : Int)) h = some (ii ((1 : Nat) : Int), h) := fun h => by
      rw [m_win _ (by omega) (by omega) (by omega) (by omega) (by omega) (by omega), if_pos (by omega)]
    obtain ⟨i1, i2, i3⟩ := hI k hk
    obtain ⟨hS1, hF1, hG1⟩ := L_img hX k hk
    by_cases w0 : w = 0
    · subst w0
      obtain ⟨v1, v2, v3⟩ := SHQ_01 hV
      obtain ⟨A1, B1, e1, y1, y2, y3, y4⟩ := x_copyAll (A := A) (B := B) (c := c) hF1 (L_regs hX) hG1 (L_shv hX) (by omega) (by omega) (by omega) (by omega) (by omega) v1 v2
      have f26 : A1 (b + 286 + 26) = A (b + 286 + 26) := y3 _ (by omega) (by omega)
      have ex1 : f_X11_image b (ii (k : Int)) (ii ((0 : Nat) : Int)) (mz S A B c) = some (ii ((1 : Nat) : Int), mz S (za A1 (b + 236 + 25 * k) (up (A1 (b + 236 + 25 * k)) 0 ((1 : Nat) : Int))) B1 c) := by
        unfold f_X11_image f_X3_lay
        simp (disch := omega) only [k0, k2, k1, n_lt, show ¬ (k < 0) by omega, hk, eq_self, ↓reduceIte, XR7 hX, XR5 hX, XR6 hX, imR hX, imv hX, imR1 hX, imR2 hX, Option.bind_some, e1, imP hX]
      generalize hA2 : za A1 (b + 236 + 25 * k) (up (A1 (b + 236 + 25 * k)) 0 ((1 : Nat) : Int)) = A2 at ex1
      have x2 : ∀ x, x ≠ b + 236 + 25 * k → A2 x = A1 x := fun x hx => by rw [← hA2, za_ne _ _ hx]
      have l2 : A2 (b + 236 + 25 * k) 0 = 1 := by rw [← hA2, za_at, up_at]; rfl
      have q2 : ∀ x, x < b + 237 + 25 * k ∨ b + 237 + 25 * k + 9 ≤ x → x < b + 246 + 25 * k ∨ b + 246 + 25 * k + 15 ≤ x → x ≠ b + 236 + 25 * k → A2 x = A x := fun x c1 c2 c3 => by rw [x2 x c3, y3 x c1 c2]
      have h01 : ∀ i, i < 8 → A (b + 286 + 26) i = 0 ∨ A (b + 286 + 26) i = 1 := fun i hi => by have := v3 i hi; rw [Nat.zero_add] at this; exact this
      -- the reference's steps
      generalize hA3 : za A2 (b + 286) (up (A2 (b + 286)) 0 ((0 : Nat) : Int)) = A3
      have r3 : ∀ x, x ≠ b + 286 → A3 x = A2 x := fun x hx => by rw [← hA3, za_ne _ _ hx]
      have r3m : ∀ j, j ≠ 0 → A3 (b + 286) j = A (b + 286) j := fun j hj => by rw [← hA3, za_at, up_ne _ _ hj, q2 _ (by omega) (by omega) (by omega)]
      have t1 := im_W0 (A := A3) (B := B1) (c := c) hM hk
      generalize hA4 : za A3 (b + 286 + 30) _ = A4 at t1
      have t2 := im_R0 (A := A4) (B := B1) (c := c) hM hk
      generalize hA5 : za A4 (b + 286 + 31) _ = A5 at t2
      have s26 : A5 (b + 286 + 26) = A (b + 286 + 26) := by rw [← hA5, za_ne _ _ (by omega), ← hA4, za_ne _ _ (by omega), r3 _ (by omega), q2 _ (by omega) (by omega) (by omega)]
      have t3 := im_F0 (A := A5) (B := B1) (c := c) hM hk (by rw [s26]; exact h01)
      generalize hA6 : za A5 (b + 286 + 32) _ = A6 at t3
      have t4 := im_N0 (A := A6) (B := B1) (c := c) hM hk
      generalize hB2 : za B1 (b + 286 + 33) _ = B2 at t4
      have g6 : ∀ x, x ≠ b + 286 → x ≠ b + 286 + 30 → x ≠ b + 286 + 31 → x ≠ b + 286 + 32 → A6 x = A2 x := fun x c1 c2 c3 c4 => by rw [← hA6, za_ne _ _ c4, ← hA5, za_ne _ _ c3, ← hA4, za_ne _ _ c2, r3 x c1]
      have g6m : ∀ j, j ≠ 0 → A6 (b + 286) j = A (b + 286) j := fun j hj => by rw [← hA6, za_ne _ _ (by omega), ← hA5, za_ne _ _ (by omega), ← hA4, za_ne _ _ (by omega), r3m j hj]
      have gB : ∀ x, x ≠ b + 286 + 33 → B2 x = B1 x := fun x hx => by rw [← hB2, za_ne _ _ hx]
      have hst : A6 (b + 286) 42 = A (b + 286) 42 := g6m 42 (by omega)
      have W30 : ∀ j, A6 (b + 286 + 30) j = if 4 * k ≤ j ∧ j < 4 * k + 4 then A (b + 286 + 18) (j - 4 * k) else A (b + 286 + 30) j := fun j => by
        rw [← hA6, za_ne _ _ (by omega), ← hA5, za_ne _ _ (by omega), ← hA4, za_at]
        unfold mo
        rw [r3 _ (by omega), r3 _ (by omega), q2 _ (by omega) (by omega) (by omega), q2 _ (by omega) (by omega) (by omega)]
      have W31 : ∀ j, A6 (b + 286 + 31) j = if 724 * k ≤ j ∧ j < 724 * k + 724 then A (b + 286 + 19) (j - 724 * k) else A (b + 286 + 31) j := fun j => by
        rw [← hA6, za_ne _ _ (by omega), ← hA5, za_at]
        unfold mo
        rw [← hA4, za_ne _ _ (by omega), za_ne _ _ (by omega), r3 _ (by omega), r3 _ (by omega), q2 _ (by omega) (by omega) (by omega), q2 _ (by omega) (by omega) (by omega)]
      have W32 : ∀ j, A6 (b + 286 + 32) j = if 8 * k ≤ j ∧ j < 8 * k + 8 then A (b + 286 + 26) (j - 8 * k) else A (b + 286 + 32) j := fun j => by
        rw [← hA6, za_at]
        unfold mo
        rw [s26, ← hA5, za_ne _ _ (by omega), ← hA4, za_ne _ _ (by omega), r3 _ (by omega), q2 _ (by omega) (by omega) (by omega)]
      have W33 : ∀ j, B2 (b + 286 + 33) j = if 104 * k ≤ j ∧ j < 104 * k + 104 then B (b + 286 + 27) (j - 104 * k) else B (b + 286 + 33) j := fun j => by
        rw [← hB2, za_at]
        unfold mo
        rw [y4 _ (by omega), y4 _ (by omega)]
      refine ⟨_, _, mz S (za (za A6 (b + 286 + 28) (up (A6 (b + 286 + 28)) k ((1 : Nat) : Int))) (b + 286 + 29) (up (A6 (b + 286 + 29)) k (A (b + 286) 42))) B2 c, ex1, ?_, ?_⟩
      · unfold f_X12_image
        rw [k0, MP0 hM]
        simp only [Option.bind_some, hA3, k1, mw, n10, ↓reduceIte, eq_self, t1, t2, t3, t4, MR45 hM]
        rw [Ms28 (v := ((1 : Nat) : Int)) hM hk (Or.inr rfl)]
        simp only [Option.bind_some, MR46 hM, MI42 hM]
        rw [za_ne _ _ (by omega), hst, Ms29 hM hk, za_ne _ _ (by omega)]
        rfl
      · generalize hA7 : za (za A6 (b + 286 + 28) (up (A6 (b + 286 + 28)) k ((1 : Nat) : Int))) (b + 286 + 29) (up (A6 (b + 286 + 29)) k (A (b + 286) 42)) = A7
        have g7 : ∀ x, x ≠ b + 286 + 28 → x ≠ b + 286 + 29 → A7 x = A6 x := fun x c1 c2 => by rw [← hA7, za_ne _ _ c2, za_ne _ _ c1]
        have W28 : ∀ j, A7 (b + 286 + 28) j = if j = k then 1 else A (b + 286 + 28) j := fun j => by
          rw [← hA7, za_ne _ _ (by omega), za_at]
          unfold up
          rw [g6 _ (by omega) (by omega) (by omega) (by omega), q2 _ (by omega) (by omega) (by omega)]
          rfl
        have W29 : ∀ j, A7 (b + 286 + 29) j = if j = k then A (b + 286) 42 else A (b + 286 + 29) j := fun j => by
          rw [← hA7, za_at]
          unfold up
          rw [g6 _ (by omega) (by omega) (by omega) (by omega), q2 _ (by omega) (by omega) (by omega)]
        have far : ∀ x, x < b + 236 ∨ (b + 286 < x ∧ x ≤ b + 286 + 27) ∨ b + 321 ≤ x → A7 x = A x := fun x hx => by rw [g7 x (by omega) (by omega), g6 x (by omega) (by omega) (by omega) (by omega), q2 x (by omega) (by omega) (by omega)]
        have fB : ∀ x, x < b + 236 ∨ (b + 286 ≤ x ∧ x ≠ b + 286 + 33) → B2 x = B x := fun x hx => by rw [gB x (by omega), y4 x (by omega)]
        refine IH_gen h1 h2 (fun x hx => far x (by omega)) (fun o ho => far _ (by omega)) (fun j hj => by rw [g7 _ (by omega) (by omega), g6m j (by omega)]) (fun x hx => fB x (by omega)) (fun r hr => FQ_of (hRG r hr) (by rw [far _ (by omega)]) (fun n _ => by rw [far _ (by omega)]) (by rw [far _ (by omega)]) (fun n _ => by rw [far _ (by omega)])) ?_ (fun j hj => ?_)
        · unfold SHV
          rw [g7 _ (by omega) (by omega), hst]
          exact SHQ_of hV (fun s hs => by rw [far _ (by omega)]) (fun s hs r hr => by rw [far _ (by omega)]) (fun s hs r hr => by rw [far _ (by omega)]) (fun s hs r hr i hi => by rw [fB _ (by omega)]) (fun s hs r hr i hi => by rw [fB _ (by omega)])
        · by_cases q : j = k
          · subst q
            have lj : A7 (b + 236 + 25 * j) 0 = 1 := by rw [g7 _ (by omega) (by omega), g6 _ (by omega) (by omega) (by omega) (by omega)]; exact l2
            refine ⟨by rw [lj, W28, if_pos rfl], Or.inr lj, fun _ => ⟨fun r hr => ?_, ?_⟩⟩
            · obtain ⟨wt, R, c1, c2, c3, c4, c5⟩ := hRG r hr
              refine ⟨wt, R, c1, ?_, fun n hn => ?_, ?_, fun n hn => ?_⟩
              · rw [g7 _ (by omega) (by omega), g6 _ (by omega) (by omega) (by omega) (by omega), x2 _ (by omega), (y1 r hr).1]; exact c2
              · rw [g7 _ (by omega) (by omega), g6 _ (by omega) (by omega) (by omega) (by omega), x2 _ (by omega), (y1 r hr).2 n hn]; exact c3 n hn
              · rw [g7 _ (by omega) (by omega), W30, if_pos (by omega), show 4 * j + r - 4 * j = r by omega]; exact c4
              · rw [g7 _ (by omega) (by omega), W31, if_pos (by omega), show 724 * j + 181 * r + n - 724 * j = 181 * r + n by omega]; exact c5 n hn
            · rw [W29, if_pos rfl]
              obtain ⟨d1, d2, d3, d4⟩ := hV
              have sh : ∀ s, s < 2 → A7 (b + 246 + 25 * j + 1 + 7 * s) 0 = A (b + 24 + 1 + 7 * s) 0 := fun s hs => by rw [g7 _ (by omega) (by omega), g6 _ (by omega) (by omega) (by omega) (by omega), x2 _ (by omega), (y2 s hs).1]
              refine ⟨d1, by rw [sh 0 (by omega)]; exact d2, by rw [sh 1 (by omega)]; exact d3, fun s hs r hr => ?_⟩
              obtain ⟨o1, o2, o3⟩ := d4 s hs r hr
              have fl : A7 (b + 246 + 25 * j + 2 + 7 * s) r = A (b + 24 + 2 + 7 * s) r := by rw [g7 _ (by omega) (by omega), g6 _ (by omega) (by omega) (by omega) (by omega), x2 _ (by omega), (y2 s hs).2.1 r hr]
              rw [fl, sh s hs]
              refine ⟨?_, o2, fun qq i hi => ?_⟩
              · rw [o1, g7 _ (by omega) (by omega), W32, if_pos (by omega)]; congr 1; omega
              · rw [gB _ (by omega), (y2 s hs).2.2 r hr i (by omega), o3 qq i hi, W33, if_pos (by omega)]; congr 1; omega
          · have ne : ∀ x, b + 236 + 25 * j ≤ x → x < b + 236 + 25 * j + 25 → A7 x = A x := fun x c1 c2 => by rw [g7 x (by omega) (by omega), g6 x (by omega) (by omega) (by omega) (by omega), q2 x (by omega) (by omega) (by omega)]
            obtain ⟨j1, j2, j3⟩ := hI j hj
            rw [ne _ (by omega) (by omega), W28, if_neg q, W29, if_neg q]
            refine ⟨j1, j2, fun qq => ⟨fun r hr => FQ_of ((j3 qq).1 r hr) (by rw [ne _ (by omega) (by omega)]) (fun n _ => by rw [ne _ (by omega) (by omega)]) (by rw [g7 _ (by omega) (by omega), W30, if_neg (by omega)]) (fun n _ => by rw [g7 _ (by omega) (by omega), W31, if_neg (by omega)]), SHQ_of (j3 qq).2 (fun s hs => by rw [ne _ (by omega) (by omega)]) (fun s hs r hr => by rw [ne _ (by omega) (by omega)]) (fun s hs r hr => by rw [g7 _ (by omega) (by omega), W32, if_neg (by omega)]) (fun s hs r hr i hi => by rw [gB _ (by omega), y4 _ (by omega)]) (fun s hs r hr i hi => by rw [W33, if_neg (by omega)])⟩⟩
    · have w1 : w = 1 := by omega
      subst w1
      have m28 : za A (b + 286) (up (A (b + 286)) 0 ((0 : Nat) : Int)) (b + 286 + 28) k = A (b + 236 + 25 * k) 0 := by rw [za_ne _ _ (by omega), i1]
      rcases i2 with i0 | i0
      · refine ⟨ii ((0 : Nat) : Int), mz S A B c, _, ?_, ?_, fin⟩
        · unfold f_X11_image f_X3_bringBack
          simp (disch := omega) only [k0, k2, n_lt, show ¬ (k < 0) by omega, hk, n10, ↓reduceIte, XR7 hX, XR5 hX, XR6 hX, imR hX, imv hX, imI hX, Option.bind_some, i0]
          rw [if_pos (show ii 0 = ii ((0 : Nat) : Int) from rfl)]
          rfl
        · unfold f_X12_image
          rw [k0, MP0 hM]
          simp (disch := omega) only [Option.bind_some, k1, mw, n10, ↓reduceIte, MR45 hM, Ma28 hM, m28, i0]
          rw [if_pos (show ii 0 = ii ((0 : Nat) : Int) from rfl)]
      · obtain ⟨f1, f2⟩ := i3 i0
        obtain ⟨v1, v2, v3⟩ := SHQ_01 f2
        have V1 := SHQ_01 hV
        have hst1 := hV.1
        have hst2 := f2.1
        have m29 : za A (b + 286) (up (A (b + 286)) 0 ((0 : Nat) : Int)) (b + 286 + 29) k = A (b + 286 + 29) k := by rw [za_ne _ _ (by omega)]
        have m42 : za A (b + 286) (up (A (b + 286)) 0 ((0 : Nat) : Int)) (b + 286) 42 = A (b + 286) 42 := by rw [za_at, up_ne _ _ (by omega)]
        have srt : ∀ t, t < 2 → (A (b + 24 + 1 + 7 * t) 0 = A (b + 246 + 25 * k + 1 + 7 * t) 0 ↔ A (b + 286 + 29) k = A (b + 286) 42) := fun t ht => by
          by_cases q : t = 0
          · subst q; rw [hV.2.1, f2.2.1]; omega
          · have : t = 1 := by omega
            subst this; rw [hV.2.2.1, f2.2.2.1]; omega
        have hcl := find_run (h := mz S A B c) (f := f_X3_bringBack_L11 (b + 236 + 25 * k) (b + 15) (b + 24)) 2 (by omega) (fun _ => ¬ (A (b + 286 + 29) k = A (b + 286) 42)) (fun _ => .inl (ii ((0 : Nat) : Int))) (.inr (ii ((2 : Nat) : Int))) (fun t ht hP => by
          have e1 := (srt t ht).mpr (Decidable.not_not.mp hP)
          have r1 := V1.1 t ht
          have r2 := v1 t ht
          unfold f_X3_bringBack_L11
          simp (disch := omega) only [k2, n_le, show ¬ (2 ≤ t) by omega, ↓reduceIte, sgR (L_shv hX), sgI (L_shv hX), imR2 hX, sgR hG1, sgI hG1, Option.bind_some, e1, k1, n_add]) (fun t ht hP => by
          have e1 : ¬ (A (b + 24 + 1 + 7 * t) 0 = A (b + 246 + 25 * k + 1 + 7 * t) 0) := fun x => hP ((srt t ht).mp x)
          have r1 := V1.1 t ht
          have r2 := v1 t ht
          unfold f_X3_bringBack_L11
          simp (disch := omega) only [k2, n_le, show ¬ (2 ≤ t) by omega, ↓reduceIte, sgR (L_shv hX), sgI (L_shv hX), imR2 hX, sgR hG1, sgI hG1, Option.bind_some, i_eq, e1, k0]) (by
          unfold f_X3_bringBack_L11
          simp (disch := omega) only [k2, n_le, Nat.le_refl, ↓reduceIte])
        by_cases eq : A (b + 286 + 29) k = A (b + 286) 42
        · rcases hcl with ⟨t, _, t2, _⟩ | ⟨_, hcl⟩
          · exact absurd eq t2
          obtain ⟨A1, B1, e1, y1, y2, y3, y4⟩ := x_copyAll (A := A) (B := B) (c := c) (L_regs hX) hF1 (L_shv hX) hG1 (by omega) (by omega) (by omega) (by omega) (by omega) v1 v2
          have ex1 : f_X11_image b (ii (k : Int)) (ii ((1 : Nat) : Int)) (mz S A B c) = some (ii ((1 : Nat) : Int), mz S A1 B1 c) := by
            unfold f_X11_image f_X3_bringBack
            simp (disch := omega) only [k0, k2, n_lt, show ¬ (k < 0) by omega, hk, n10, ↓reduceIte, XR7 hX, XR5 hX, XR6 hX, imR hX, imv hX, imI hX, Option.bind_some, i0]
            rw [if_neg (show ¬ (ii 1 = ii ((0 : Nat) : Int)) by decide), hcl]
            simp (disch := omega) only [Option.bind_some, Sum.elim_inr, imR1 hX, imR2 hX, e1]
            rfl
          have q2 : ∀ x, x < b + 15 ∨ b + 39 ≤ x → A1 x = A x := fun x hx => y3 x (by omega) (by omega)
          generalize hA3 : za A1 (b + 286) (up (A1 (b + 286)) 0 ((0 : Nat) : Int)) = A3
          have r3 : ∀ x, x ≠ b + 286 → A3 x = A1 x := fun x hx => by rw [← hA3, za_ne _ _ hx]
          have r3m : ∀ j, j ≠ 0 → A3 (b + 286) j = A (b + 286) j := fun j hj => by rw [← hA3, za_at, up_ne _ _ hj, q2 _ (by omega)]
          have t1 := im_W1 (A := A3) (B := B1) (c := c) hM hk
          generalize hA4 : za A3 (b + 286 + 18) _ = A4 at t1
          have t2 := im_R1 (A := A4) (B := B1) (c := c) hM hk
          generalize hA5 : za A4 (b + 286 + 19) _ = A5 at t2
          have s32 : A5 (b + 286 + 32) = A (b + 286 + 32) := by rw [← hA5, za_ne _ _ (by omega), ← hA4, za_ne _ _ (by omega), r3 _ (by omega), q2 _ (by omega)]
          have t3 := im_F1 (A := A5) (B := B1) (c := c) hM hk (by rw [s32]; exact v3)
          generalize hA6 : za A5 (b + 286 + 26) _ = A6 at t3
          have t4 := im_N1 (A := A6) (B := B1) (c := c) hM hk
          generalize hB2 : za B1 (b + 286 + 27) _ = B2 at t4
          have g6 : ∀ x, x ≠ b + 286 → x ≠ b + 286 + 18 → x ≠ b + 286 + 19 → x ≠ b + 286 + 26 → A6 x = A1 x := fun x c1 c2 c3 c4 => by rw [← hA6, za_ne _ _ c4, ← hA5, za_ne _ _ c3, ← hA4, za_ne _ _ c2, r3 x c1]
          have g6m : ∀ j, j ≠ 0 → A6 (b + 286) j = A (b + 286) j := fun j hj => by rw [← hA6, za_ne _ _ (by omega), ← hA5, za_ne _ _ (by omega), ← hA4, za_ne _ _ (by omega), r3m j hj]
          have gB : ∀ x, x ≠ b + 286 + 27 → B2 x = B1 x := fun x hx => by rw [← hB2, za_ne _ _ hx]
          have W18 : ∀ r, r < 4 → A6 (b + 286 + 18) r = A (b + 286 + 30) (4 * k + r) := fun r hr => by
            rw [← hA6, za_ne _ _ (by omega), ← hA5, za_ne _ _ (by omega), ← hA4, za_at, mo_0in _ _ hr, r3 _ (by omega), q2 _ (by omega)]
          have W19 : ∀ j, j < 724 → A6 (b + 286 + 19) j = A (b + 286 + 31) (724 * k + j) := fun j hj => by
            rw [← hA6, za_ne _ _ (by omega), ← hA5, za_at, mo_0in _ _ hj, ← hA4, za_ne _ _ (by omega), r3 _ (by omega), q2 _ (by omega)]
          have W26 : ∀ j, j < 8 → A6 (b + 286 + 26) j = A (b + 286 + 32) (8 * k + j) := fun j hj => by
            rw [← hA6, za_at, mo_0in _ _ hj, s32]
          have W27 : ∀ j, j < 104 → B2 (b + 286 + 27) j = B (b + 286 + 33) (104 * k + j) := fun j hj => by
            rw [← hB2, za_at, mo_0in _ _ hj, y4 _ (by omega)]
          have far : ∀ x, x < b + 15 ∨ b + 39 ≤ x → x ≠ b + 286 → x ≠ b + 286 + 18 → x ≠ b + 286 + 19 → x ≠ b + 286 + 26 → A6 x = A x := fun x c1 c2 c3 c4 c5 => by rw [g6 x c2 c3 c4 c5, q2 x c1]
          refine ⟨_, _, mz S A6 B2 c, ex1, ?_, IH_gen h1 h2 (fun x hx => far x (by omega) (by omega) (by omega) (by omega) (by omega)) (fun o ho => far _ (by omega) (by omega) (by omega) (by omega) (by omega)) (fun j hj => g6m j (by omega)) (fun x hx => by rw [gB x (by omega), y4 x (by omega)]) (fun r hr => ?_) ⟨?_, ?_, ?_, fun s hs r hr => ?_⟩ (fun j hj => ?_)⟩
          · have m28' : A3 (b + 286 + 28) k = 1 := by rw [r3 _ (by omega), q2 _ (by omega), ← i1]; exact i0
            have m29' : A3 (b + 286 + 29) k = A (b + 286 + 29) k := by rw [r3 _ (by omega), q2 _ (by omega)]
            unfold f_X12_image
            rw [k0, MP0 hM]
            simp (disch := omega) only [Option.bind_some, hA3, k1, mw, n10, ↓reduceIte, MR45 hM, Ma28 hM, m28', MR46 hM, Ma29 hM, m29', MI42 hM, r3m 42 (by omega), eq]
            rw [if_neg (show ¬ (ii 1 = ii ((0 : Nat) : Int)) by decide)]
            simp only [t1, t2, t3, t4, Option.bind_some]
          · obtain ⟨wt, R, c1, c2, c3, c4, c5⟩ := f1 r hr
            refine ⟨wt, R, c1, ?_, fun n hn => ?_, ?_, fun n hn => ?_⟩
            · rw [g6 _ (by omega) (by omega) (by omega) (by omega), (y1 r hr).1]; exact c2
            · rw [g6 _ (by omega) (by omega) (by omega) (by omega), (y1 r hr).2 n hn]; exact c3 n hn
            · rw [W18 r hr]; exact c4
            · rw [W19 _ (by omega), ← Nat.add_assoc]; exact c5 n hn
          · rw [g6m 42 (by omega)]; exact hst1
          · rw [g6m 42 (by omega), g6 _ (by omega) (by omega) (by omega) (by omega), (y2 0 (by omega)).1, f2.2.1]; exact eq
          · rw [g6m 42 (by omega), g6 _ (by omega) (by omega) (by omega) (by omega), (y2 1 (by omega)).1, f2.2.2.1, eq]
          · obtain ⟨o1, o2, o3⟩ := f2.2.2.2 s hs r hr
            have fl : A6 (b + 24 + 2 + 7 * s) r = A (b + 246 + 25 * k + 2 + 7 * s) r := by rw [g6 _ (by omega) (by omega) (by omega) (by omega), (y2 s hs).2.1 r hr]
            have sh : A6 (b + 24 + 1 + 7 * s) 0 = A (b + 246 + 25 * k + 1 + 7 * s) 0 := by rw [g6 _ (by omega) (by omega) (by omega) (by omega), (y2 s hs).1]
            rw [fl, sh]
            refine ⟨?_, o2, fun qq i hi => ?_⟩
            · rw [o1, W26 _ (by omega)]; congr 1; omega
            · rw [gB _ (by omega), (y2 s hs).2.2 r hr i (by omega), o3 qq i hi, W27 _ (by omega)]; congr 1; omega
          · obtain ⟨j1, j2, j3⟩ := hI j hj
            rw [far _ (by omega) (by omega) (by omega) (by omega) (by omega), far (b + 286 + 28) (by omega) (by omega) (by omega) (by omega) (by omega), far (b + 286 + 29) (by omega) (by omega) (by omega) (by omega) (by omega)]
            exact ⟨j1, j2, fun qq => ⟨fun r hr => FQ_of ((j3 qq).1 r hr) (by rw [far _ (by omega) (by omega) (by omega) (by omega) (by omega)]) (fun n _ => by rw [far _ (by omega) (by omega) (by omega) (by omega) (by omega)]) (by rw [far _ (by omega) (by omega) (by omega) (by omega) (by omega)]) (fun n _ => by rw [far _ (by omega) (by omega) (by omega) (by omega) (by omega)]), SHQ_of (j3 qq).2 (fun s hs => by rw [far _ (by omega) (by omega) (by omega) (by omega) (by omega)]) (fun s hs r hr => by rw [far _ (by omega) (by omega) (by omega) (by omega) (by omega)]) (fun s hs r hr => by rw [far _ (by omega) (by omega) (by omega) (by omega) (by omega)]) (fun s hs r hr i hi => by rw [gB _ (by omega), y4 _ (by omega)]) (fun s hs r hr i hi => by rw [gB _ (by omega), y4 _ (by omega)])⟩⟩
        · rcases hcl with ⟨t, _, _, _, hcl⟩ | ⟨t, _⟩
          · refine ⟨ii ((0 : Nat) : Int), mz S A B c, _, ?_, ?_, fin⟩
            · unfold f_X11_image f_X3_bringBack
              simp (disch := omega) only [k0, k2, n_lt, show ¬ (k < 0) by omega, hk, n10, ↓reduceIte, XR7 hX, XR5 hX, XR6 hX, imR hX, imv hX, imI hX, Option.bind_some, i0]
              rw [if_neg (show ¬ (ii 1 = ii ((0 : Nat) : Int)) by decide), hcl]
              rfl
            · unfold f_X12_image
              rw [k0, MP0 hM]
              simp (disch := omega) only [Option.bind_some, k1, mw, n10, ↓reduceIte, MR45 hM, Ma28 hM, m28, i0, MR46 hM, Ma29 hM, m29, MI42 hM, m42]
              rw [if_neg (show ¬ (ii 1 = ii ((0 : Nat) : Int)) by decide), if_neg (by rw [i_eq (by omega) (by omega) (by omega) (by omega)]; exact eq)]
          · exact absurd eq (t 0 (by omega))
  · refine ⟨ii ((0 : Nat) : Int), mz S A B c, _, ?_, ?_, fin⟩
    · unfold f_X11_image
      simp (disch := omega) only [k0, k2, i_lt]
      by_cases q : z < 0
      · rw [if_pos (by omega)]
      · rw [if_neg (by omega), if_neg (by omega)]
    · unfold f_X12_image
      rw [k0, MP0 hM]
      simp only [Option.bind_some, k1]
      rw [m_win _ (by omega) (by omega) (by omega) (by omega) (by omega) (by omega), if_neg (by omega)]
      simp only [Option.bind_some, eq_self, ↓reduceIte]
end ops
