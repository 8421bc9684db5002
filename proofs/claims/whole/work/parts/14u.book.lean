/-! Call book. -/
def KN0 (S0 : SS) (A0 : ZA) (cc : Nat → Nat) (b : Nat) : Prop := ∀ i, i < 3 → cc i < b ∧ S0 (cc i) = some (.inr (.inr (.inr 6))) ∧ ∀ k, k < 6 → A0 (cc i) k = kn i k
section ops
variable {b : Nat} {S0 : SS} {A0 : ZA} {cc : Nat → Nat} {e : Nat}
theorem IH_fail {S : SS} {A B A2 : ZA} {c : (Nat × Nat) × (Nat → Nat)} {p : Int} {bs nb : Nat → Nat} (h1 : CORE A B b p) (h2 : DYN b S0 A0 cc e S A B c p bs nb)
    (k0 : ∀ k, k ≠ 1 → A2 b k = A b k) (kt : A2 b 1 = 0) (k1 : ∀ x, x ≠ b → x ≠ b + 286 → x < b + 155 ∨ b + 232 < x → ¬ (b + 286 + 1 ≤ x ∧ x ≤ b + 286 + 5) → ¬ (b + 286 + 12 ≤ x ∧ x ≤ b + 286 + 17) → A2 x = A x) (k2 : ∀ k, k = 7 ∨ k = 19 ∨ k = 42 → A2 (b + 286) k = A (b + 286) k) (kt2 : A2 (b + 286) 12 = 0) (hB : Bas A2 (b + 286) p) : IH b S0 A0 cc e (mz S A2 B c) := by
  obtain ⟨d1, d2, d3, d4, d5, d6, d7⟩ := h2
  obtain ⟨h1, h2, h3, h4, h5, h6, h7, h8⟩ := h1
  refine ⟨S, A2, B, c, p, bs, nb, rfl, ⟨h1, by rw [k0 2 (by omega)]; exact h2, hB, ⟨0, by omega, kt, kt2, fun k hk => absurd hk (by omega)⟩, ?_, fun r hr => FQ_of (h6 r hr) (by rw [k1 _ (by omega) (by omega) (by omega) (by omega) (by omega)]) (fun n _ => by rw [k1 _ (by omega) (by omega) (by omega) (by omega) (by omega)]) (by rw [k1 _ (by omega) (by omega) (by omega) (by omega) (by omega)]) (fun n _ => by rw [k1 _ (by omega) (by omega) (by omega) (by omega) (by omega)]), ?_, fun k hk => ?_⟩, d1, SG_of d2 (fun x hx => k1 x (by omega) (by omega) (by omega) (by omega) (by omega)) (fun i hi k _ => by rw [k1 _ (by omega) (by omega) (by omega) (by omega) (by omega)]) (fun _ _ => rfl), d3, RC_of d4 (k2 7 (by omega)) (k1 _ (by omega) (by omega) (by omega) (by omega) (by omega)), ROOTS_of d5 (fun i hi => ⟨by rw [k1 _ (by omega) (by omega) (by omega) (by omega) (by omega)], by rw [k1 _ (by omega) (by omega) (by omega) (by omega) (by omega)], k1 _ (by omega) (by omega) (by omega) (by omega) (by omega)⟩), fun x hx => ⟨(d6 x hx).1, by rw [k1 x (by omega) (by omega) (by omega) (by omega) (by omega)]; exact (d6 x hx).2⟩, d7⟩
  · obtain ⟨t, a, b1, c, d⟩ := h5
    exact ⟨t, a, by rw [k0 3 (by omega)]; exact b1, by rw [k2 19 (by omega)]; exact c, fun i hi => FQ_of (d i hi) (by rw [k1 _ (by omega) (by omega) (by omega) (by omega) (by omega)]) (fun n _ => by rw [k1 _ (by omega) (by omega) (by omega) (by omega) (by omega)]) (by rw [k1 _ (by omega) (by omega) (by omega) (by omega) (by omega)]) (fun n _ => by rw [k1 _ (by omega) (by omega) (by omega) (by omega) (by omega)])⟩
  · unfold SHV
    rw [k2 42 (by omega)]
    exact SHQ_of h7 (fun s hs => by rw [k1 _ (by omega) (by omega) (by omega) (by omega) (by omega)]) (fun s hs r hr => by rw [k1 _ (by omega) (by omega) (by omega) (by omega) (by omega)]) (fun s hs r hr => by rw [k1 _ (by omega) (by omega) (by omega) (by omega) (by omega)]) (fun s hs r hr i hi => rfl) (fun s hs r hr i hi => rfl)
  · obtain ⟨a, b1, c⟩ := h8 k hk
    rw [k1 (b + 236 + 25 * k) (by omega) (by omega) (by omega) (by omega) (by omega), k1 (b + 286 + 28) (by omega) (by omega) (by omega) (by omega) (by omega), k1 (b + 286 + 29) (by omega) (by omega) (by omega) (by omega) (by omega)]
    exact ⟨a, b1, fun q => ⟨fun r hr => FQ_of ((c q).1 r hr) (by rw [k1 _ (by omega) (by omega) (by omega) (by omega) (by omega)]) (fun n _ => by rw [k1 _ (by omega) (by omega) (by omega) (by omega) (by omega)]) (by rw [k1 _ (by omega) (by omega) (by omega) (by omega) (by omega)]) (fun n _ => by rw [k1 _ (by omega) (by omega) (by omega) (by omega) (by omega)]), SHQ_of (c q).2 (fun s hs => by rw [k1 _ (by omega) (by omega) (by omega) (by omega) (by omega)]) (fun s hs r hr => by rw [k1 _ (by omega) (by omega) (by omega) (by omega) (by omega)]) (fun s hs r hr => by rw [k1 _ (by omega) (by omega) (by omega) (by omega) (by omega)]) (fun s hs r hr i hi => rfl) (fun s hs r hr i hi => rfl)⟩⟩
theorem SHV_0 {A2 B : ZA} {st : Int} (h0 : st = 0 ∨ st = 1) (h1 : A2 (b + 24 + 1 + 7 * 0) 0 = st) (h2 : A2 (b + 24 + 1 + 7 * 1) 0 = 1 - st) (h42 : A2 (b + 286) 42 = st) (ks : ∀ s, s < 2 → ∀ r, r < 4 → A2 (b + 24 + 2 + 7 * s) r = 0) (km : ∀ i, i < 8 → A2 (b + 286 + 26) i = 0) : SHV A2 B b := by
  unfold SHV
  rw [h42]
  refine ⟨h0, h1, h2, fun s hs r hr => ⟨?_, Or.inl (ks s hs r hr), fun q => ?_⟩⟩
  · rw [ks s hs r hr, km _ (by omega)]
  · rw [ks s hs r hr] at q; exact absurd q (by omega)
theorem IMG_0 {A2 B : ZA} {p : Int} (ki : ∀ k, k < 2 → A2 (b + 236 + 25 * k) 0 = 0) (km : ∀ i, i < 2 → A2 (b + 286 + 28) i = 0) : IMG A2 B b p := fun k hk => ⟨by rw [ki k hk, km k hk], Or.inl (ki k hk), fun q => by rw [ki k hk] at q; exact absurd q (by omega)⟩
theorem REGS_1 {A2 : ZA} {p : Int} (hP : PR p) (kr : ∀ r, r < 4 → A2 (b + 15 + 1 + 2 * r) 0 = 0 ∧ ∀ n, n < 6 → A2 (b + 15 + 2 + 2 * r) n = if n = 0 then 1 else 0) (m18 : ∀ r, r < 4 → A2 (b + 286 + 18) r = 0) (m19 : ∀ r, r < 4 → ∀ n, n < 181 → A2 (b + 286 + 19) (181 * r + n) = if n = 0 then 1 else 0) : REGS A2 b p := fun r hr => ⟨0, dl 0, ⟨by omega, by omega, by omega, VV_dl0 (PR_1 hP)⟩, (kr r hr).1, fun n hn => (kr r hr).2 n hn, m18 r hr, fun n hn => m19 r hr n hn⟩
theorem op_book (hK : KN0 S0 A0 cc b) (v : Int32) : OPS b S0 A0 cc e (f_X11_book b v) (f_X12_book (b + 286) v) := by
  rintro h ⟨S, A, B, c, p, bs, nb, rfl, h1, h2⟩
  have hX := h2.1
  have hM := L_mod hX
  have hc : c.2 = cc := h2.2.2.2.2.2.2
  obtain ⟨t, t1, t2, t3, t4⟩ := h1.2.2.2.1
  rcases rng_cases v (t + 1) with ⟨n, hn, rfl⟩ | ⟨z, rfl, a1, a2, a3⟩
  · have hK' : KN S A c b := fun i hi => by
      obtain ⟨k1, k2, k3⟩ := hK i hi
      obtain ⟨d1, d2⟩ := h2.2.2.2.2.2.1 (cc i) k1
      rw [hc]
      exact ⟨k1, by rw [d1]; exact k2, fun k hk => by rw [d2]; exact k3 k hk⟩
    have hT : TXT A (b + 1) (A (b + 1)) n := ⟨by omega, fun k hk => ⟨rfl, (t4 k (by omega)).2⟩⟩
    obtain ⟨A1, y1, y2⟩ := x_book (B := B) hX hK' hT t2 (by omega) t1
    have gm : ∀ x, b + 286 ≤ x → A1 x = A x := fun x hx => by
      cases er : pbk (A (b + 1)) n with
      | inl g =>
        rw [er] at y2
        exact y2.2.2 x (by omega) (by omega)
      | inr s =>
        rw [er] at y2
        exact y2.2.2.2.2.2.2.2.2 x (by omega) (by omega) (fun s hs => by omega) (fun k hk => by omega) (by omega)
    have hT' : TXT A1 (b + 286 + 9) (A (b + 1)) n := ⟨by omega, fun k hk => by
      obtain ⟨w1, w2, w3⟩ := t4 k (by omega)
      rw [gm _ (by omega)]
      exact ⟨w1.symm, w2, w3⟩⟩
    obtain ⟨A2, z1, z2, z3, A3, z4, z5⟩ := m_book (A := A1) (B := B) (c := c) hM hT' (by rw [gm _ (by omega)]; exact t3) (by omega) t1 h1.1 (by rw [gm _ (by omega)]; exact h1.2.2.1.1)
    have n12 : A3 (b + 286) 12 = 0 := by rw [z4 12 (by omega) (by omega) (by omega) (by omega) (by omega) (by omega) (by omega)]; exact z1
    have n42 : A3 (b + 286) 42 = A (b + 286) 42 := by rw [z4 42 (by omega) (by omega) (by omega) (by omega) (by omega) (by omega) (by omega), z2 42 (by omega) (by omega) (by omega) (by omega) (by omega) (by omega) (by omega), gm _ (by omega)]
    cases er : pbk (A (b + 1)) n with
    | inl g =>
      rw [er] at y2 z5
      obtain ⟨y2, y3, y4⟩ := y2
      obtain ⟨z5, z6, z7, z8, z9⟩ := z5
      have kx : ∀ x, x < b + 286 → A3 x = A1 x := fun x hx => by rw [z9 x (by omega) (by omega) (by omega), z3 x (by omega) (by omega)]
      refine ⟨_, _, _, y2, z5, IH_fail h1 h2 (fun k hk => by rw [kx b (by omega)]; exact y3 k hk) (by rw [kx b (by omega)]; exact y1) (fun x x1 x2 x3 x4 x5 => ?_) (fun k hk => ?_) n12 z6⟩
      · by_cases q : x < b + 286
        · rw [kx x q]; exact y4 x x1 x3
        · rw [z9 x x2 x4 x5, z3 x x2 (by omega), gm x (by omega)]
      · rcases hk with rfl | rfl | rfl
        · rw [z7, z2 7 (by omega) (by omega) (by omega) (by omega) (by omega) (by omega) (by omega), gm _ (by omega)]
        · rw [z8, z2 19 (by omega) (by omega) (by omega) (by omega) (by omega) (by omega) (by omega), gm _ (by omega)]
        · exact n42
    | inr s =>
      rw [er] at y2 z5
      obtain ⟨y2, b2, b3, y5, y6, y7, y8, y9, y10⟩ := y2
      obtain ⟨z5, z6, z7, z8, z9, z10, z11, z12, z13, z14⟩ := z5
      have hP : PR s.1 := by
        unfold pbk at er
        cases e1 : pprm (A (b + 1)) n (skp (A (b + 1)) n 0) with
        | inl g => rw [e1] at er; cases er
        | inr s' =>
          rw [e1] at er
          simp only [Sum.elim_inr] at er
          obtain ⟨q1, q2, q3⟩ := skp_0 (A (b + 1)) n
          cases e2 : plts (A (b + 1)) n s'.1 7 0 L00 s'.2 with
          | inl g => rw [e2] at er; cases er
          | inr r =>
            rw [e2] at er
            cases er
            exact (pprm_ok q1 q2 e1).1
      have kx : ∀ x, x < b + 286 → A3 x = A1 x := fun x hx => by rw [z14 x (by omega) (by omega) (by omega) (by omega) (by omega), z3 x (by omega) (by omega)]
      have ky : ∀ x, x ≠ b → ¬ (b + 2 ≤ x ∧ x < b + 24) → (∀ s, s < 2 → x ≠ b + 24 + 2 + 7 * s) → (∀ k, k < 2 → x ≠ b + 236 + 25 * k) → x < b + 155 ∨ b + 232 < x → x ≠ b + 286 → ¬ (b + 286 + 1 ≤ x ∧ x ≤ b + 286 + 5) → ¬ (b + 286 + 10 ≤ x ∧ x ≤ b + 286 + 19) → x ≠ b + 286 + 26 → x ≠ b + 286 + 28 → A3 x = A x := fun x x1 x2 x3 x4 x5 x6 x7 x8 x9 x10 => by
        by_cases q : x < b + 286
        · rw [kx x q, y10 x x1 x2 x3 x4 x5]
        · rw [z14 x x6 x7 x8 x9 x10, z3 x x6 (by omega), gm x (by omega)]
      obtain ⟨d1, d2, d3, d4, d5, d6, d7⟩ := h2
      obtain ⟨s0, s1, s2, -⟩ := h1.2.2.2.2.2.2.1
      refine ⟨_, _, _, y2, z5, S, A3, B, c, s.1, bs, nb, rfl, ⟨hP, by rw [kx b (by omega)]; exact b2, z6, ⟨0, by omega, by rw [kx b (by omega)]; exact y1, n12, fun k hk => absurd hk (by omega)⟩, ⟨s.2.1, y5, by rw [kx b (by omega)]; exact b3, z8, fun i hi => ?_⟩, REGS_1 hP (fun r hr => ?_) z10 z11, SHV_0 s0 ?_ ?_ n42 (fun s hs r hr => ?_) z12, IMG_0 (fun k hk => ?_) z13⟩, d1, SG_of d2 (fun x hx => ky x (by omega) (by omega) (fun s hs => by omega) (fun k hk => by omega) (by omega) (by omega) (by omega) (by omega) (by omega) (by omega)) (fun i hi k _ => by rw [ky _ (by omega) (by omega) (fun s hs => by omega) (fun k hk => by omega) (by omega) (by omega) (by omega) (by omega) (by omega) (by omega)]) (fun _ _ => rfl), d3, Or.inl z7, ROOTS_of d5 (fun i hi => ⟨?_, ?_, ?_⟩), fun x hx => ⟨(d6 x hx).1, ?_⟩, d7⟩
      · obtain ⟨i1, i2, i3⟩ := y6 i hi
        obtain ⟨i4, i5⟩ := z9 i hi
        exact ⟨_, _, i1, by rw [kx _ (by omega)]; exact i2, fun k hk => by rw [kx _ (by omega)]; exact i3 k hk, i4, i5⟩
      · rw [kx _ (by omega), kx _ (by omega)]; exact y7 r hr
      · rw [ky _ (by omega) (by omega) (fun s hs => by omega) (fun k hk => by omega) (by omega) (by omega) (by omega) (by omega) (by omega) (by omega)]; exact s1
      · rw [ky _ (by omega) (by omega) (fun s hs => by omega) (fun k hk => by omega) (by omega) (by omega) (by omega) (by omega) (by omega) (by omega)]; exact s2
      · rw [kx _ (by omega)]; exact y8 s hs r hr
      · rw [kx _ (by omega)]; exact y9 k hk
      · rw [ky _ (by omega) (by omega) (fun s hs => by omega) (fun k hk => by omega) (by omega) (by omega) (by omega) (by omega) (by omega) (by omega)]
      · rw [ky _ (by omega) (by omega) (fun s hs => by omega) (fun k hk => by omega) (by omega) (by omega) (by omega) (by omega) (by omega) (by omega)]
      · exact ky _ (by omega) (by omega) (fun s hs => by omega) (fun k hk => by omega) (by omega) (by omega) (by omega) (by omega) (by omega) (by omega)
      · rw [ky x (by omega) (by omega) (fun s hs => by omega) (fun k hk => by omega) (by omega) (by omega) (by omega) (by omega) (by omega) (by omega)]; exact (d6 x hx).2
  · obtain ⟨g1, g2⟩ := IH_thrown (v := ((0 : Nat) : Int)) h1 h2
    refine ⟨-1, mz S A B c, _, ?_, ?_, S, _, B, c, p, bs, nb, rfl, g1, g2⟩
    · unfold f_X11_book
      simp (disch := omega) only [k0, i_lt, XI1 hX, t2, Option.bind_some, i_le]
      by_cases q : z < 0
      · rw [if_pos (show z < ((0 : Nat) : Int) by omega)]
      · rw [if_neg (show ¬ z < ((0 : Nat) : Int) by omega), if_neg (show ¬ z ≤ (t : Int) by omega)]
    · unfold f_X12_book
      have r12 : za A (b + 286) (up (A (b + 286)) 0 ((0 : Nat) : Int)) (b + 286) 12 = (t : Int) := by rw [za_at, up_ne _ _ (by omega)]; exact t3
      rw [k0, MP0 hM]
      simp only [Option.bind_some, MI12 hM, r12]
      rw [m_win _ a1 a2 (by omega) (by omega) (by omega) (by omega), if_neg (by omega)]
      simp only [Option.bind_some, ↓reduceIte]
end ops
