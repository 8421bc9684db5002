/-! Calls of class numbers and traces: whole, trace, traceLeft. -/
section ops
variable {b : Nat} {S0 : SS} {A0 : ZA} {cc : Nat → Nat} {e : Nat}
theorem IH_mf {S : SS} {A B : ZA} {c : (Nat × Nat) × (Nat → Nat)} {p : Int} {bs nb : Nat → Nat} (j : Nat) (v : Int) (hj : j ≠ 1 ∧ j ≠ 7 ∧ j ≠ 12 ∧ j ≠ 19 ∧ j ≠ 42) (h1 : CORE A B b p) (h2 : DYN b S0 A0 cc e S A B c p bs nb) : CORE (za A (b + 286) (up (A (b + 286)) j v)) B b p ∧ DYN b S0 A0 cc e S (za A (b + 286) (up (A (b + 286)) j v)) B c p bs nb := by
  obtain ⟨d1, d2, d3, d4, d5, d6, d7⟩ := h2
  refine ⟨CORE_frame h1 ⟨fun x hx => za_ne _ _ (by omega), fun x _ _ => za_ne _ _ (by omega), fun k hk => by rw [za_at, up_ne _ _ (by omega)], fun o ho => za_ne _ _ (by omega)⟩ (FRB_refl b B), d1, SG_of d2 (fun x hx => za_ne _ _ (by omega)) (fun i hi k _ => by rw [za_ne _ _ (by omega)]) (fun _ _ => rfl), d3, RC_of d4 (by rw [za_at, up_ne _ _ (by omega)]) (za_ne _ _ (by omega)), ROOTS_of d5 (fun i hi => ⟨by rw [za_ne _ _ (by omega)], by rw [za_ne _ _ (by omega)], za_ne _ _ (by omega)⟩), fun x hx => ⟨(d6 x hx).1, by rw [za_ne _ _ (by omega)]; exact (d6 x hx).2⟩, d7⟩
theorem IH_B {S : SS} {A B : ZA} {c : (Nat × Nat) × (Nat → Nat)} {p : Int} {bs nb : Nat → Nat} {x : Nat} (F : Nat → Int) (hx : x = b + 235 ∨ x = b + 320) (h1 : CORE A B b p) (h2 : DYN b S0 A0 cc e S A B c p bs nb) : CORE A (za B x F) b p ∧ DYN b S0 A0 cc e S A (za B x F) c p bs nb := by
  obtain ⟨d1, d2, d3, d4, d5, d6, d7⟩ := h2
  exact ⟨CORE_frame h1 (FRM_refl b A) (fun y h1 h2 => za_ne _ _ (by omega)), d1, SG_of d2 (fun _ _ => rfl) (fun _ _ _ _ => rfl) (fun y hy => za_ne _ _ (by omega)), d3, d4, d5, d6, d7⟩
theorem IH_exc {S : SS} {A B : ZA} {c : (Nat × Nat) × (Nat → Nat)} {p : Int} {bs nb : Nat → Nat} (h2 : DYN b S0 A0 cc e S A B c p bs nb) : DYN b S0 A0 cc (e + 1) S A B ((c.1.1 + 1, c.1.2 + 6), c.2) p bs nb := by
  obtain ⟨d1, ⟨⟨I1, I2, I3, I4⟩, hF, hN⟩, d3, d4, d5, d6, d7⟩ := h2
  refine ⟨d1, ⟨⟨fun i hi => ?_, I2, I3, I4⟩, fun a ha k => hF a (by have : c.1.1 + 1 ≤ a := ha; omega) k, by show b + 321 ≤ c.1.1 + 1; omega⟩, ⟨?_, ?_⟩, d4, d5, d6, d7⟩
  · obtain ⟨a1, a2, a3, a4⟩ := I1 i hi
    exact ⟨a1, a2, by show bs i < c.1.1 + 1; omega, fun j hj => by have := a4 j hj; exact ⟨this.1, by show _ < c.1.1 + 1; omega⟩⟩
  · show c.1.1 + 1 ≤ _; have := d3.1; omega
  · show c.1.2 + 6 ≤ _; have := d3.2; omega
theorem IH_more {h : JH} (q : IH b S0 A0 cc e h) : IH b S0 A0 cc (e + 1) h := by
  obtain ⟨S, A, B, c, p, bs, nb, e1, h1, d1, d2, d3, d4⟩ := q
  exact ⟨S, A, B, c, p, bs, nb, e1, h1, d1, d2, ⟨by have := d3.1; omega, by have := d3.2; omega⟩, d4⟩
theorem lg_0 {x : Int64} : lg_cmp x x = (0 : Int32) := by
  unfold lg_cmp
  rw [if_neg (Int64.lt_irrefl), if_pos rfl]
theorem op_whole (v : Int32) : ∀ h, IH b S0 A0 cc e h → ∃ k h1 r h2, f_L_whole b v (b + 320) h = some (k, h1) ∧ f_X12_whole (b + 286) v h1 = some (r, h2) ∧ f_X12_thrown (b + 286) h2 = some (k, h2) ∧ (k = ii ((0 : Nat) : Int) → ∃ x, jaJ h2 (b + 320) (ii ((0 : Nat) : Int)) = some x ∧ lg_cmp x r.toInt64 = (0 : Int32)) ∧ IH b S0 A0 cc (e + 1) h2 := by
  rintro h ⟨S, A, B, c, p, bs, nb, rfl, h1, h2⟩
  have hX := h2.1
  have hM := L_mod hX
  have k2000 : (2000 : Int32) = ii ((2000 : Nat) : Int) := rfl
  obtain ⟨d, rfl, d1, d2⟩ := any_int v
  by_cases q : d ≤ 2000
  · have hw := cn_whole
    obtain ⟨g1, g2⟩ := IH_B (x := b + 320) (up (B (b + 320)) 0 (cnW d)) (Or.inr rfl) h1 h2
    obtain ⟨g3, g4⟩ := IH_mf 0 ((0 : Nat) : Int) (by omega) g1 g2
    have hwr := cnW_r d
    refine ⟨ii ((0 : Nat) : Int), mz S A (za B (b + 320) (up (B (b + 320)) 0 (cnW d))) c, ii (cnW d), _, ?_, ?_, ?_, fun _ => ⟨ll (cnW d), ?_, ?_⟩, IH_more ⟨S, _, _, c, p, bs, nb, rfl, g3, g4⟩⟩
    · unfold f_L_whole f_X11_whole
      rw [Xv hX, k2000]
      simp (disch := omega) only [Option.bind_some, i_le, show d ≤ ((2000 : Nat) : Int) by omega, ↓reduceIte, (hw _ ⟨d1, d2⟩).1, Option.elim]
      rw [k0, i_l (by omega) (by omega), jsJ_v (L_out hX) (by omega) (by omega)]
      rfl
    · unfold f_X12_whole
      rw [k2000]
      have e0 : za A (b + 286) (up (A (b + 286)) 0 ((0 : Nat) : Int)) (b + 286) 0 = ((0 : Nat) : Int) := by rw [za_at, up_at]
      simp (disch := omega) only [i_le, show d ≤ ((2000 : Nat) : Int) by omega, ↓reduceIte, k0, MP0 hM, Option.bind_some, MI0 hM, e0, Int.le_refl, (hw _ ⟨d1, d2⟩).2]
    · unfold f_X12_thrown
      rw [MI0 hM, za_at, up_at]; rfl
    · rw [jaJ_n (L_out hX) (by omega) (by omega), za_at, up_at]
    · rw [i_l (by omega) (by omega)]; exact lg_0
  · obtain ⟨g3, g4⟩ := IH_mf 0 ((1 : Nat) : Int) (by omega) h1 (IH_exc h2)
    refine ⟨ii ((1 : Nat) : Int), mz S A B ((c.1.1 + 1, c.1.2 + 6), c.2), ii ((0 : Nat) : Int), _, ?_, ?_, ?_, fun x => absurd x (by decide), ⟨S, _, _, _, p, bs, nb, rfl, g3, g4⟩⟩
    · unfold f_L_whole f_X11_whole
      rw [Xv hX, k2000]
      simp (disch := omega) only [Option.bind_some, i_le, show ¬ (d ≤ ((2000 : Nat) : Int)) by omega, ↓reduceIte, Option.elim]
      rfl
    · unfold f_X12_whole
      rw [k2000]
      have e0 : za A (b + 286) (up (A (b + 286)) 0 ((1 : Nat) : Int)) (b + 286) 0 = ((1 : Nat) : Int) := by rw [za_at, up_at]
      simp (disch := omega) only [i_le, show ¬ (d ≤ ((2000 : Nat) : Int)) by omega, ↓reduceIte, k1, k0, MP0 hM, Option.bind_some, MI0 hM, e0, show ¬ (((1 : Nat) : Int) ≤ ((0 : Nat) : Int)) by decide]
    · unfold f_X12_thrown
      rw [MI0 hM, za_at, up_at]; rfl
theorem ask_cases (v w : Int32) : (∃ k n : Nat, 4 ≤ k ∧ k ≤ 60 ∧ k % 2 = 0 ∧ 1 ≤ n ∧ n ≤ 60 ∧ v = ii (k : Int) ∧ w = ii (n : Int) ∧ ∀ h, f_X10_isAsked v w h = some (ii ((1 : Nat) : Int), h) ∧ f_X12_isTraced v w h = some (ii ((1 : Nat) : Int), h)) ∨ (∀ h, f_X10_isAsked v w h = some (ii ((0 : Nat) : Int), h) ∧ f_X12_isTraced v w h = some (ii ((0 : Nat) : Int), h)) := by
  obtain ⟨k, rfl, k1', k2'⟩ := any_int v
  obtain ⟨n, rfl, n1', n2'⟩ := any_int w
  have hm2 : 0 ≤ k → jrem (ii k) (ii ((2 : Nat) : Int)) = ii (k % 2) := fun h => i_rem h k2' (by omega) (by omega)
  have hX1 : ∀ h, f_X10_isAsked (ii k) (ii n) h = some (ii (((if 4 ≤ k ∧ k ≤ 60 ∧ k % 2 = 0 ∧ 1 ≤ n ∧ n ≤ 60 then 1 else 0 : Nat)) : Int), h) := fun h => by
    unfold f_X10_isAsked f_X11_isWeight
    simp (disch := omega) only [k0, k60, k2, k4, k1, i_lt]
    by_cases a : k < 0
    · rw [if_pos (by omega), if_neg (by omega)]
      simp only [Option.bind_some, eq_self, ↓reduceIte]
    · rw [if_neg (by omega)]
      by_cases a2 : 60 < k
      · rw [if_pos (by omega), if_neg (by omega)]
        simp only [Option.bind_some, eq_self, ↓reduceIte]
      · rw [if_neg (by omega), hm2 (by omega)]
        simp (disch := omega) only [i_eq]
        by_cases a3 : k % 2 = 0
        · rw [if_pos (by omega)]
          simp (disch := omega) only [Option.bind_some, n_eq, show ¬ (1 = 0) by omega, ↓reduceIte]
          by_cases a4 : k < 4
          · rw [if_pos (by omega), if_neg (by omega)]
          · rw [if_neg (by omega)]
            by_cases a5 : n < 1
            · rw [if_pos (by omega), if_neg (by omega)]
            · rw [if_neg (by omega)]
              by_cases a6 : 60 < n
              · rw [if_pos (by omega), if_neg (by omega)]
              · rw [if_neg (by omega), if_pos (by omega)]
        · rw [if_neg (by omega), if_neg (by omega)]
          simp only [Option.bind_some, eq_self, ↓reduceIte]
  have hM1 : ∀ h, f_X12_isTraced (ii k) (ii n) h = some (ii (((if 4 ≤ k ∧ k ≤ 60 ∧ k % 2 = 0 ∧ 1 ≤ n ∧ n ≤ 60 then 1 else 0 : Nat)) : Int), h) := fun h => by
    unfold f_X12_isTraced
    rw [k4, k60, m_win h (by omega) (by omega) (by omega) (by omega) (by omega) (by omega)]
    by_cases a : 4 ≤ k ∧ k ≤ 60
    · rw [if_pos (by omega)]
      simp only [Option.bind_some, k0, k2, k1]
      rw [if_neg (by decide), hm2 (by omega)]
      simp (disch := omega) only [i_eq]
      by_cases a3 : k % 2 = 0
      · rw [if_pos (by omega), m_win h (by omega) (by omega) (by omega) (by omega) (by omega) (by omega)]
        by_cases a4 : 1 ≤ n ∧ n ≤ 60
        · rw [if_pos (by omega), if_pos (by omega)]; rfl
        · rw [if_neg (by omega), if_neg (by omega)]; rfl
      · rw [if_neg (by omega), if_neg (by omega)]
    · rw [if_neg (by omega), if_neg (by omega)]; rfl
  by_cases a : 4 ≤ k ∧ k ≤ 60 ∧ k % 2 = 0 ∧ 1 ≤ n ∧ n ≤ 60
  · refine Or.inl ⟨k.toNat, n.toNat, by omega, by omega, by omega, by omega, by omega, by congr 1; omega, by congr 1; omega, fun h => ⟨?_, ?_⟩⟩
    · rw [hX1, if_pos a]
    · rw [hM1, if_pos a]
  · exact Or.inr fun h => ⟨by rw [hX1, if_neg a], by rw [hM1, if_neg a]⟩
def OPL (b : Nat) (S0 : SS) (A0 : ZA) (cc : Nat → Nat) (e : Nat) (fx fm : JH → Option (Int64 × JH)) : Prop := ∀ h, IH b S0 A0 cc e h → ∃ r h1 h2, fx h = some (r, h1) ∧ fm h1 = some (r, h2) ∧ IH b S0 A0 cc e h2
theorem op_trace (v w : Int32) : OPL b S0 A0 cc e (f_X11_trace b v w) (f_X12_trace (b + 286) v w) := by
  rintro h ⟨S, A, B, c, p, bs, nb, rfl, h1, h2⟩
  have hX := h2.1
  have hM := L_mod hX
  obtain ⟨g1, g2⟩ := IH_mf 0 ((0 : Nat) : Int) (by omega) h1 h2
  rcases ask_cases v w with ⟨k, n, b1, b2, b3, b4, b5, rfl, rfl, hh⟩ | hh
  · obtain ⟨x, f, e1, e2⟩ := m_trace (A := za A (b + 286) (up (A (b + 286)) 0 ((0 : Nat) : Int))) (B := B) (c := c) hM.1 rfl (k := (k : Int)) (n := (n : Int)) (by omega) (by omega)
    obtain ⟨g3, g4⟩ := IH_mf 33 f (by omega) g1 g2
    refine ⟨match trO k n with | none => (-9223372036854775808 : Int64) | some s => ll (-s) / (24 : Int64), mz S A B c, _, ?_, ?_, ⟨S, _, B, c, p, bs, nb, rfl, g3, g4⟩⟩
    · unfold f_X11_trace
      simp (disch := omega) only [(hh _).1, Option.bind_some, k0, n_eq, show ¬ (1 = 0) by omega, ↓reduceIte]
      rw [x_exact _ (by omega) (by omega)]
      rfl
    · unfold f_X12_trace
      rw [k0, MP0 hM]
      simp (disch := omega) only [(hh _).2, Option.bind_some, n_eq, show ¬ (1 = 0) by omega, ↓reduceIte, Mv hM]
      rw [e1]
      simp only [Option.bind_some]
      rw [g33 hM.1 rfl]
      simp only [Option.bind_some]
      rcases e2 with ⟨rfl, s, hs, rfl⟩ | ⟨rfl, hs⟩
      · rw [hs, if_pos (show ii 0 = ii ((0 : Nat) : Int) from rfl)]; rfl
      · rw [hs, if_neg (by decide)]; rfl
  · refine ⟨(-9223372036854775807 : Int64), mz S A B c, _, ?_, ?_, ⟨S, _, B, c, p, bs, nb, rfl, g1, g2⟩⟩
    · unfold f_X11_trace
      simp only [(hh _).1, Option.bind_some, k0, eq_self, ↓reduceIte]
    · unfold f_X12_trace
      simp only [k0, MP0 hM, (hh _).2, Option.bind_some, eq_self, ↓reduceIte]
theorem op_traceLeft (v w : Int32) : OPS b S0 A0 cc e (f_X11_traceLeft b v w) (f_X12_traceLeft (b + 286) v w) := by
  rintro h ⟨S, A, B, c, p, bs, nb, rfl, h1, h2⟩
  have hX := h2.1
  have hM := L_mod hX
  obtain ⟨g1, g2⟩ := IH_mf 0 ((0 : Nat) : Int) (by omega) h1 h2
  have hp := PR_p h1.1
  rcases ask_cases v w with ⟨k, n, b1, b2, b3, b4, b5, rfl, rfl, hh⟩ | hh
  · have hm1 : za A (b + 286) (up (A (b + 286)) 0 ((0 : Nat) : Int)) (b + 286) 1 = p := g1.2.2.1.1
    have hm : jgI (mz S (za A (b + 286) (up (A (b + 286)) 0 ((0 : Nat) : Int))) B c) (b + 286) 9 1 = some (ii p) := by rw [MI1 hM, hm1]
    have hv := Mv (A := za A (b + 286) (up (A (b + 286)) 0 ((0 : Nat) : Int))) (B := B) (n := c) hM
    have lr := emod_r (x := lSum k n p) (p := p) (by omega)
    have wr := pw_r (b := 24) (p := p) (by omega) (p - 2).toNat
    have br := mul_bd (M := 10000) (N := 10000) (a := -(lSum k n p % p)) ⟨by omega, by omega⟩ (b := pw 24 p (p - 2).toNat) ⟨wr.1, by omega⟩
    refine ⟨ii ((-(lSum k n p)) % p * pw 24 p (p - 2).toNat % p), mz S A B c, _, ?_, ?_, ⟨S, _, B, c, p, bs, nb, rfl, g1, g2⟩⟩
    · unfold f_X11_traceLeft
      simp (disch := omega) only [(hh _).1, Option.bind_some, k0, n_eq, show ¬ (1 = 0) by omega, ↓reduceIte, XI2 hX, h1.2.1]
      rw [x_left _ (by omega) (by omega) (by omega) (by omega)]
      rfl
    · unfold f_X12_traceLeft
      rw [k0, MP0 hM]
      simp (disch := omega) only [(hh _).2, Option.bind_some, n_eq, show ¬ (1 = 0) by omega, ↓reduceIte]
      rw [m_lS hm hv (by omega) (by omega) (by omega) (by omega)]
      simp only [Option.bind_some]
      rw [m_lD hm hv (by omega) (by omega) (by omega) (by omega)]
      simp only [Option.bind_some, hv]
      rw [show (24 : Int32) = ii 24 from rfl, m_inverse hm (by omega) (by omega) (by omega)]
      simp only [Option.bind_some, hv]
      rw [show lD (k : Int) (n : Int) p (lS k n p (2 * rc n + 1)) (n : Int).toNat = lSum k n p from rfl, ll_neg, i_l (by omega) (by omega), ll_mul, m_left' hM hm1 (by omega) hp.2 (by omega) (by omega)]
      refine congrArg some (Prod.ext (congrArg ii ?_) rfl)
      show (-(lSum k n p % p)) * pw 24 p (p - 2).toNat % p = (-(lSum k n p)) % p * pw 24 p (p - 2).toNat % p
      rw [em_mul_l, ← em_mul_l (-(lSum k n p % p)), ← em_mul_l (-(lSum k n p))]
      congr 2
      rw [show -(lSum k n p % p) = 0 - lSum k n p % p by omega, em_sub_r]
      congr 1
      omega
  · refine ⟨-1, mz S A B c, _, ?_, ?_, ⟨S, _, B, c, p, bs, nb, rfl, g1, g2⟩⟩
    · unfold f_X11_traceLeft
      simp only [(hh _).1, Option.bind_some, k0, eq_self, ↓reduceIte]
    · unfold f_X12_traceLeft
      simp only [k0, MP0 hM, (hh _).2, Option.bind_some, eq_self, ↓reduceIte]
end ops
