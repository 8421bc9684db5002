/-! Shelves: swap. -/
section ops
variable {b : Nat} {S0 : SS} {A0 : ZA} {cc : Nat → Nat} {e : Nat}
theorem IH_shelf {S : SS} {A B A2 B2 : ZA} {c : (Nat × Nat) × (Nat → Nat)} {p : Int} {bs nb : Nat → Nat} (h1 : CORE A B b p) (h2 : DYN b S0 A0 cc e S A B c p bs nb)
    (k1 : ∀ x, x < b + 24 ∨ b + 39 ≤ x → x ≠ b + 286 → x ≠ b + 286 + 26 → A2 x = A x) (k2 : ∀ k, k = 1 ∨ k = 7 ∨ k = 12 ∨ k = 19 → A2 (b + 286) k = A (b + 286) k) (kb : ∀ x, x < b + 24 ∨ b + 39 ≤ x → x ≠ b + 235 → x ≠ b + 320 → x ≠ b + 286 + 27 → B2 x = B x) (hs : SHV A2 B2 b) : IH b S0 A0 cc e (mz S A2 B2 c) := by
  obtain ⟨d1, d2, d3, d4, d5, d6, d7⟩ := h2
  obtain ⟨h1, h2, h3, h4, h5, h6, h7, h8⟩ := h1
  refine ⟨S, A2, B2, c, p, bs, nb, rfl, ⟨h1, ?_, ⟨?_, fun n hn => ?_⟩, ?_, ?_, fun i hi => ?_, hs, fun k hk => ?_⟩, d1, SG_of d2 (fun x hx => k1 x (by omega) (by omega) (by omega)) (fun i hi k _ => by rw [k1 _ (by omega) (by omega) (by omega)]) (fun x hx => kb x (by omega) (by omega) (by omega) (by omega)), d3, RC_of d4 (k2 7 (by omega)) (k1 _ (by omega) (by omega) (by omega)), ROOTS_of d5 (fun i hi => ⟨by rw [k1 _ (by omega) (by omega) (by omega)], by rw [k1 _ (by omega) (by omega) (by omega)], k1 _ (by omega) (by omega) (by omega)⟩), fun x hx => ⟨(d6 x hx).1, by rw [k1 x (by omega) (by omega) (by omega)]; exact (d6 x hx).2⟩, d7⟩
  · rw [k1 b (by omega) (by omega) (by omega)]; exact h2
  · rw [k2 1 (by omega)]; exact h3.1
  · rw [k1 _ (by omega) (by omega) (by omega), k1 _ (by omega) (by omega) (by omega), k1 _ (by omega) (by omega) (by omega)]; exact h3.2 n hn
  · obtain ⟨t, a, b1, c1, d⟩ := h4
    exact ⟨t, a, by rw [k1 _ (by omega) (by omega) (by omega)]; exact b1, by rw [k2 12 (by omega)]; exact c1, fun k hk => by rw [k1 _ (by omega) (by omega) (by omega), k1 _ (by omega) (by omega) (by omega)]; exact d k hk⟩
  · obtain ⟨t, a, b1, c1, d⟩ := h5
    exact ⟨t, a, by rw [k1 _ (by omega) (by omega) (by omega)]; exact b1, by rw [k2 19 (by omega)]; exact c1, fun i hi => FQ_of (d i hi) (by rw [k1 _ (by omega) (by omega) (by omega)]) (fun n _ => by rw [k1 _ (by omega) (by omega) (by omega)]) (by rw [k1 _ (by omega) (by omega) (by omega)]) (fun n _ => by rw [k1 _ (by omega) (by omega) (by omega)])⟩
  · exact FQ_of (h6 i hi) (by rw [k1 _ (by omega) (by omega) (by omega)]) (fun n _ => by rw [k1 _ (by omega) (by omega) (by omega)]) (by rw [k1 _ (by omega) (by omega) (by omega)]) (fun n _ => by rw [k1 _ (by omega) (by omega) (by omega)])
  · obtain ⟨a, b1, c1⟩ := h8 k hk
    rw [k1 _ (by omega) (by omega) (by omega), k1 (b + 286 + 28) (by omega) (by omega) (by omega), k1 (b + 286 + 29) (by omega) (by omega) (by omega)]
    exact ⟨a, b1, fun q => ⟨fun r hr => FQ_of ((c1 q).1 r hr) (by rw [k1 _ (by omega) (by omega) (by omega)]) (fun n _ => by rw [k1 _ (by omega) (by omega) (by omega)]) (by rw [k1 _ (by omega) (by omega) (by omega)]) (fun n _ => by rw [k1 _ (by omega) (by omega) (by omega)]), SHQ_of (c1 q).2 (fun s hs => by rw [k1 _ (by omega) (by omega) (by omega)]) (fun s hs r hr => by rw [k1 _ (by omega) (by omega) (by omega)]) (fun s hs r hr => by rw [k1 _ (by omega) (by omega) (by omega)]) (fun s hs r hr i hi => by rw [kb _ (by omega) (by omega) (by omega) (by omega)]) (fun s hs r hr i hi => by rw [kb _ (by omega) (by omega) (by omega) (by omega)])⟩⟩
theorem x_empty {S : SS} {A B : ZA} {c : (Nat × Nat) × (Nat → Nat)} {G s : Nat} (h : sg S G) (hs : s < 2) : ∃ A' : ZA, f_X6_empty (G + 1 + 7 * s) (mz S A B c) = some ((), mz S A' B c) ∧ (∀ r, r < 4 → A' (G + 2 + 7 * s) r = 0) ∧ (∀ x, x ≠ G + 2 + 7 * s → A' x = A x) := by
  have key := z_run (S := S) (B := B) (c := c) (f := f_X6_empty_L2 (G + 1 + 7 * s)) (fun t => ii (t : Int)) (fun t A' => (∀ r, r < t → A' (G + 2 + 7 * s) r = 0) ∧ ∀ x, x ≠ G + 2 + 7 * s → A' x = A x) 4 (t := ii ((4 : Nat) : Int)) (by omega) (fun t ht A1 ⟨y1, y2⟩ => by
    unfold f_X6_empty_L2
    simp (disch := omega) only [k4, n_le, show ¬ (4 ≤ t) by omega, ↓reduceIte, sgR1 h, Option.bind_some, k0, k1, n_add]
    rw [sgFs (v := ((0 : Nat) : Int)) h hs ht (Or.inl rfl)]
    refine ⟨_, rfl, fun r hr => ?_, fun x hx => by rw [za_ne _ _ hx, y2 x hx]⟩
    rw [za_at]
    by_cases q : r = t
    · subst q; rw [up_at]; rfl
    · rw [up_ne _ _ q]; exact y1 r (by omega)) (fun A1 _ => by
    unfold f_X6_empty_L2
    simp (disch := omega) only [k4, n_le, Nat.le_refl, ↓reduceIte]) (A0 := A) ⟨fun r hr => by omega, fun _ _ => rfl⟩
  obtain ⟨A', e1, y1, y2⟩ := key
  have e1' : jloop (f_X6_empty_L2 (G + 1 + 7 * s)) jF (0 : Int32) (mz S A B c) = some (ii ((4 : Nat) : Int), mz S A' B c) := e1
  unfold f_X6_empty
  rw [e1']
  exact ⟨A', rfl, y1, y2⟩
theorem x_swap {S : SS} {A B : ZA} {c : (Nat × Nat) × (Nat → Nat)} (hX : LX S b) {st : Int} (hst : st = 0 ∨ st = 1) (s0 : A (b + 24 + 1 + 7 * 0) 0 = st) (s1 : A (b + 24 + 1 + 7 * 1) 0 = 1 - st) : ∃ A' : ZA, f_X11_swap b (mz S A B c) = some (ii (1 - st), mz S A' B c) ∧ A' (b + 24 + 1 + 7 * 0) 0 = 1 - st ∧ A' (b + 24 + 1 + 7 * 1) 0 = st ∧ (∀ s, s < 2 → ∀ r, r < 4 → A' (b + 24 + 2 + 7 * s) r = 0) ∧ (∀ x, x < b + 24 ∨ b + 39 ≤ x → A' x = A x) := by
  have hv : ∀ s, s < 2 → A (b + 24 + 1 + 7 * s) 0 = if s = 0 then st else 1 - st := fun s hs => by
    by_cases q : s = 0
    · rw [if_pos q, q]; exact s0
    · have : s = 1 := by omega
      rw [if_neg q, this]; exact s1
  have key := z_run (S := S) (B := B) (c := c) (f := f_X11_swap_L2 b) (fun t => ii (t : Int)) (fun t A' => (∀ s, s < 2 → A' (b + 24 + 1 + 7 * s) 0 = if s < t then 1 - (if s = 0 then st else 1 - st) else (if s = 0 then st else 1 - st)) ∧ (∀ s, s < t → ∀ r, r < 4 → A' (b + 24 + 2 + 7 * s) r = 0) ∧ ∀ x, x < b + 24 ∨ b + 39 ≤ x → A' x = A x) 2 (t := ii ((2 : Nat) : Int)) (by omega) (fun t ht A1 ⟨y1, y2, y3⟩ => by
    have hval := y1 t ht
    rw [if_neg (by omega)] at hval
    have hnew : ∀ v : Int, v = 1 - (if t = 0 then st else 1 - st) → (∃ A', ((jput (mz S A1 B c) (b + 24 + 1 + 7 * t) 4 0 (.int (ii v))).bind fun h21 => (jgR h21 b 8 6).bind fun v23 => (jaR h21 v23 (ii (t : Int))).bind fun v25 => (jrecv h21 v25 4).bind fun _ => (f_X6_empty v25 h21).bind fun q27 => some ((Sum.inl (ii (t : Int) + (1 : Int32)) : Int32 ⊕ Int32), q27.2)) = some (.inl (ii ((t + 1 : Nat) : Int)), mz S A' B c) ∧ (∀ s, s < 2 → A' (b + 24 + 1 + 7 * s) 0 = if s < t + 1 then 1 - (if s = 0 then st else 1 - st) else (if s = 0 then st else 1 - st)) ∧ (∀ s, s < t + 1 → ∀ r, r < 4 → A' (b + 24 + 2 + 7 * s) r = 0) ∧ ∀ x, x < b + 24 ∨ b + 39 ≤ x → A' x = A x) := by
      intro v hvv
      obtain ⟨A3, e3, z1, z2⟩ := x_empty (A := za A1 (b + 24 + 1 + 7 * t) (up (A1 (b + 24 + 1 + 7 * t)) 0 v)) (B := B) (c := c) (L_shv hX) ht
      refine ⟨A3, ?_, fun s hs => ?_, fun s hs r hr => ?_, fun x hx => ?_⟩
      · rw [sgP (L_shv hX) ht]
        simp (disch := omega) only [Option.bind_some, XR6 hX, sgR (L_shv hX), sgv (L_shv hX), e3, k1, n_add]
      · rw [z2 _ (by omega)]
        by_cases q : s = t
        · subst q; rw [za_at, up_at, if_pos (by omega), hvv]
        · rw [za_ne _ _ (by omega), y1 s hs]
          generalize (if s = 0 then st else 1 - st) = σ'
          by_cases q2 : s < t
          · rw [if_pos q2, if_pos (by omega)]
          · rw [if_neg q2, if_neg (by omega)]
      · by_cases q : s = t
        · subst q; exact z1 r hr
        · rw [z2 _ (by omega), za_ne _ _ (by omega)]; exact y2 s (by omega) r hr
      · rw [z2 _ (by omega), za_ne _ _ (by omega)]; exact y3 x hx
    have hcond : ii (if t = 0 then st else 1 - st) = ii ((0 : Nat) : Int) ↔ (if t = 0 then st else 1 - st) = 0 := by
      rw [i_eq (by split <;> omega) (by split <;> omega) (by omega) (by omega)]; omega
    unfold f_X11_swap_L2
    simp (disch := omega) only [k2, n_le, show ¬ (2 ≤ t) by omega, ↓reduceIte, XR6 hX, Option.bind_some, sgR (L_shv hX), sgI (L_shv hX), hval, k0, hcond]
    by_cases q : (if t = 0 then st else 1 - st) = 0
    · rw [if_pos q]
      have := hnew (((1 : Nat) : Int)) (by rw [q]; rfl)
      exact this
    · rw [if_neg q]
      have := hnew (((0 : Nat) : Int)) (by by_cases t0 : t = 0 <;> simp only [t0, ↓reduceIte] at q ⊢ <;> omega)
      exact this) (fun A1 _ => by
    unfold f_X11_swap_L2
    simp (disch := omega) only [k2, n_le, Nat.le_refl, ↓reduceIte]) (A0 := A) ⟨fun s hs => by rw [if_neg (by omega)]; exact hv s hs, fun s hs => by omega, fun _ _ => rfl⟩
  obtain ⟨A', e1, y1, y2, y3⟩ := key
  have e1' : jloop (f_X11_swap_L2 b) jF (ii ((0 : Nat) : Int)) (mz S A B c) = some (ii ((2 : Nat) : Int), mz S A' B c) := e1
  have v0 : A' (b + 24 + 1 + 7 * 0) 0 = 1 - st := by have := y1 0 (by omega); simpa using this
  have v1 : A' (b + 24 + 1 + 7 * 1) 0 = st := by have := y1 1 (by omega); simp at this; rw [show b + 24 + 1 + 7 * 1 = b + 24 + 1 + 7 from rfl, this]; omega
  refine ⟨A', ?_, v0, v1, y2, y3⟩
  unfold f_X11_swap
  rw [k0, e1']
  simp only [Option.bind_some, XR6 hX]
  rw [sgR (L_shv hX) (show 0 < 2 by omega)]
  simp only [Option.bind_some]
  rw [sgI (L_shv hX) (show 0 < 2 by omega), v0]
  simp only [Option.bind_some]
  rcases hst with rfl | rfl
  · rw [if_neg (by decide)]; rfl
  · rw [if_pos (by decide)]; rfl
theorem op_swap : OPS b S0 A0 cc e (f_X11_swap b) (f_X12_swap (b + 286)) := by
  rintro h ⟨S, A, B, c, p, bs, nb, rfl, h1, h2⟩
  have hX := h2.1
  have hM := L_mod hX
  have hV := h1.2.2.2.2.2.2.1
  obtain ⟨st1, st2, st3, _⟩ := hV
  obtain ⟨A1, e1, u0, u1, u2, u3⟩ := x_swap (B := B) (c := c) hX st1 st2 st3
  have m1 : A1 (b + 286) = A (b + 286) := u3 _ (by omega)
  have key := z_run (S := S) (B := B) (c := c) (f := f_X12_swap_L17 (b + 286)) (fun t => ii (t : Int)) (fun t A' => (∀ r, r < t → A' (b + 286 + 26) r = 0) ∧ ∀ x, x ≠ b + 286 + 26 → A' x = za A1 (b + 286) (up (up (A1 (b + 286)) 0 ((0 : Nat) : Int)) 42 (1 - A (b + 286) 42)) x) 8 (t := ii ((8 : Nat) : Int)) (by omega) (fun t ht A3 ⟨y1, y2⟩ => by
    unfold f_X12_swap_L17
    simp (disch := omega) only [k8, n_le, show ¬ (8 ≤ t) by omega, ↓reduceIte, MR43 hM, Option.bind_some, k0, k1, n_add]
    rw [Ms26 (v := ((0 : Nat) : Int)) hM ht (Or.inl rfl)]
    refine ⟨_, rfl, fun r hr => ?_, fun x hx => by rw [za_ne _ _ hx, y2 x hx]⟩
    rw [za_at]
    by_cases q : r = t
    · subst q; rw [up_at]; rfl
    · rw [up_ne _ _ q]; exact y1 r (by omega)) (fun A3 _ => by
    unfold f_X12_swap_L17
    simp (disch := omega) only [k8, n_le, Nat.le_refl, ↓reduceIte]) (A0 := za A1 (b + 286) (up (up (A1 (b + 286)) 0 ((0 : Nat) : Int)) 42 (1 - A (b + 286) 42))) ⟨fun r hr => by omega, fun _ _ => rfl⟩
  obtain ⟨A3, e3, y1, y2⟩ := key
  have e3' : jloop (f_X12_swap_L17 (b + 286)) jF (ii ((0 : Nat) : Int)) (mz S (za A1 (b + 286) (up (up (A1 (b + 286)) 0 ((0 : Nat) : Int)) 42 (1 - A (b + 286) 42))) B c) = some (ii ((8 : Nat) : Int), mz S A3 B c) := e3
  have n42 : A3 (b + 286) 42 = 1 - A (b + 286) 42 := by rw [y2 _ (by omega), za_at, up_at]
  refine ⟨_, mz S A1 B c, mz S A3 B c, e1, ?_, IH_shelf h1 h2 (fun x x1 x2 x3 => by rw [y2 x x3, za_ne _ _ x2]; exact u3 x x1) (fun k hk => by rw [y2 _ (by omega), za_at, up_ne _ _ (by omega), up_ne _ _ (by omega), m1]) (fun _ _ _ _ _ => rfl) ⟨?_, ?_, ?_, fun s hs r hr => ⟨?_, Or.inl ?_, fun q => ?_⟩⟩⟩
  · unfold f_X12_swap
    rw [k0, MP0 hM]
    simp only [Option.bind_some, MI42 hM, za_at]
    rw [up_ne _ _ (show 42 ≠ 0 by omega), m1, show (1 : Int32) = ii 1 from rfl, ii_sub, MP42 hM]
    simp only [Option.bind_some, za_za, za_at]
    rw [← m1] at *
    rw [e3']
    simp only [Option.bind_some, MI42 hM, n42]
  · rw [n42]; omega
  · rw [y2 _ (by omega), za_ne _ _ (by omega), u0, n42]
  · rw [y2 _ (by omega), za_ne _ _ (by omega), u1, n42]; omega
  · rw [y2 _ (by omega), za_ne _ _ (by omega), u2 s hs r hr, y1 _ (by omega)]
  · rw [y2 _ (by omega), za_ne _ _ (by omega), u2 s hs r hr]
  · rw [y2 _ (by omega), za_ne _ _ (by omega), u2 s hs r hr] at q; omega
end ops
