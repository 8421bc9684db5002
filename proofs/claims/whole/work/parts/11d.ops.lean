/-! Calls that only look: coefficient, alike, parts. -/
theorem IH_ready {b : Nat} {S0 : SS} {A0 : ZA} {cc : Nat → Nat} {e : Nat} {S S' : SS} {A A' B : ZA} {c c' : (Nat × Nat) × (Nat → Nat)} {p : Int} {bs nb bs' nb' : Nat → Nat} (h1 : CORE A B b p) (h2 : DYN b S0 A0 cc e S A B c p bs nb) (hg : SG B b S' A' c' bs' nb') (hr : SR b S A c nb S' A' c' nb') : CORE A' B b p ∧ DYN b S0 A0 cc e S' A' B c' p bs' nb' := by
  obtain ⟨d1, d2, d3, d4, d5, d6, d7⟩ := h2
  obtain ⟨r1, r2, r3, r4, r5⟩ := hr
  refine ⟨CORE_frame h1 ⟨fun x hx => (r1 x (by omega) (fun i _ => by omega)).2, fun x _ _ => (r1 x (by omega) (fun i _ => by omega)).2, fun k hk => by rw [(r1 (b + 286) (by omega) (fun i _ => by omega)).2], fun o ho => (r1 _ (by omega) (fun i _ => by omega)).2⟩ (FRB_refl b B), LX_of d1 (fun x _ hx hn => (r1 x hx hn).1), hg, ⟨by have := d3.1; omega, by have := d3.2; omega⟩, RC_of d4 (by rw [(r1 (b + 286) (by omega) (fun i _ => by omega)).2]) ((r1 _ (by omega) (fun i _ => by omega)).2), ROOTS_of d5 (fun i hi => ⟨r2 i hi 6 (by omega) (by omega), r2 i hi 7 (by omega) (by omega), (r1 _ (by omega) (fun j _ => by omega)).2⟩), fun x hx => ?_, by rw [r5, d7]⟩
  have := r1 x (by omega) (fun i _ => by omega)
  rw [this.1, this.2]
  exact d6 x hx
theorem isF_ex {p : Int} (hp : PR p) {w : Nat} {R : Nat → Int} (h : isF p w R) {C : Nat → Int} (hC : ∀ n, n < Lk w → C n = R n) : ex p w C = R :=
  ex_self (EH_of hp) h.2.1 h.2.2.2 fun n hn => by
    rw [hC n hn]
    have := isF_r hp h n
    exact Int.emod_eq_of_lt this.1 this.2
theorem x_coef {b : Nat} {S0 : SS} {A0 : ZA} {cc : Nat → Nat} {e : Nat} {S : SS} {A B : ZA} {c : (Nat × Nat) × (Nat → Nat)} {p : Int} {bs nb : Nat → Nat} (h1 : CORE A B b p) (h2 : DYN b S0 A0 cc e S A B c p bs nb) {f g w n : Nat} {R : Nat → Int} (hf : fm S f g) (hfb : f < b + 321 ∧ ∀ i, i < 31 → f ≠ b + 42 + 3 * i) (hgb : g < b + 321 ∧ ∀ i, i < 31 → g ≠ b + 42 + 3 * i) (hF : isF p w R) (hw : A f 0 = (w : Int)) (hh : ∀ n, n < 6 → A g n = R n) (hn : n ≤ 180) :
    ∃ S' A' c' bs' nb', f_X11_coefficientOf b f (ii (n : Int)) (mz S A B c) = some (ii (R n), mz S' A' B c') ∧ CORE A' B b p ∧ DYN b S0 A0 cc e S' A' B c' p bs' nb' ∧ SR b S A c nb S' A' c' nb' := by
  have hX := h2.1
  have hP := h1.1
  have hw60 := hF.2.1
  have hw2 := hF.1
  unfold f_X11_coefficientOf
  simp (disch := omega) only [k6, n_le]
  by_cases q : 6 ≤ n
  · rw [if_pos q]
    simp only [XR8 hX, FI hf, hw, XI2 hX, h1.2.1, Option.bind_some, LSp_v (L_sps hX)]
    have ew : w = 2 * (w / 2) := by omega
    obtain ⟨h', e1, S', A', c', bs', nb', rfl, g1, g2, g3⟩ := x_ready (n := n) (i := w / 2) h2.2.1 (L_sps hX) hP (by omega) hn
    rw [← ew] at e1
    rw [e1]
    have rd := g3 (by have := hF.2.2.1; omega)
    obtain ⟨t1, t2⟩ := IH_ready h1 h2 g1 g2
    have hf' : fm S' f g := ⟨by rw [(g2.1 f hfb.1 hfb.2).1]; exact hf.1, by rw [(g2.1 g hgb.1 hgb.2).1]; exact hf.2⟩
    simp only [Option.bind_some, FR hf', Pv (g1.1.1 _ (show w / 2 < 31 by omega)).1.1]
    have hL := Lk_r (k := 2 * (w / 2)) (by omega)
    rw [x_expand (C := R) g1 hP (by omega) hn rd hf'.2 (by omega) (by omega) (fun j hj => ⟨by rw [(g2.1 g hgb.1 hgb.2).2]; exact hh j (by omega), isF_r hP hF j⟩), ← ew, isF_ex hP hF (fun _ _ => rfl)]
    exact ⟨S', A', c', bs', nb', rfl, t1, t2, g2⟩
  · rw [if_neg q]
    have := hh n (by omega)
    simp (disch := omega) only [FR hf, FA hf, this, Option.bind_some]
    exact ⟨S, A, c, bs, nb, rfl, h1, h2, SR_refl _ _ _ _ _⟩
theorem flag_run {f : Int32 × Int32 → JH → Option (((Int32 × Int32) ⊕ (Int32 × Int32)) × JH)} {h : JH} (N : Nat) (hN : N < 10000) (P : Nat → Prop)
    (hs : ∀ i, i < N → ¬ P i → f (ii ((1 : Nat) : Int), ii (i : Int)) h = some (.inl (ii ((1 : Nat) : Int), ii ((i + 1 : Nat) : Int)), h))
    (hb : ∀ i, i < N → P i → f (ii ((1 : Nat) : Int), ii (i : Int)) h = some (.inl (ii ((0 : Nat) : Int), ii ((i + 1 : Nat) : Int)), h))
    (h0 : ∀ i, i ≤ N → f (ii ((0 : Nat) : Int), ii (i : Int)) h = some (.inr (ii ((0 : Nat) : Int), ii (i : Int)), h))
    (he : f (ii ((1 : Nat) : Int), ii (N : Int)) h = some (.inr (ii ((1 : Nat) : Int), ii (N : Int)), h)) :
    (∃ k t, k < N ∧ P k ∧ jloop f jF (ii ((1 : Nat) : Int), ii ((0 : Nat) : Int)) h = some ((ii ((0 : Nat) : Int), t), h)) ∨ ((∀ j, j < N → ¬ P j) ∧ ∃ t, jloop f jF (ii ((1 : Nat) : Int), ii ((0 : Nat) : Int)) h = some ((ii ((1 : Nat) : Int), t), h)) := by
  have key : ∀ (k i : Nat), i + k = N → (∀ j, j < i → ¬ P j) → ∀ fuel, k + 1 < fuel → (∃ k t, k < N ∧ P k ∧ jloop f fuel (ii ((1 : Nat) : Int), ii (i : Int)) h = some ((ii ((0 : Nat) : Int), t), h)) ∨ ((∀ j, j < N → ¬ P j) ∧ ∃ t, jloop f fuel (ii ((1 : Nat) : Int), ii (i : Int)) h = some ((ii ((1 : Nat) : Int), t), h)) := by
    intro k
    induction k with
    | zero =>
      intro i hi hP fuel hfu
      obtain ⟨fu, rfl⟩ : ∃ q, fuel = q + 1 := ⟨fuel - 1, by omega⟩
      have e : i = N := by omega
      subst e
      exact Or.inr ⟨hP, _, jloop_end he⟩
    | succ k ih =>
      intro i hi hP fuel hfu
      obtain ⟨fu, rfl⟩ : ∃ q, fuel = q + 1 := ⟨fuel - 1, by omega⟩
      by_cases g : P i
      · obtain ⟨fv, rfl⟩ : ∃ q, fu = q + 1 := ⟨fu - 1, by omega⟩
        refine Or.inl ⟨i, ii ((i + 1 : Nat) : Int), by omega, g, ?_⟩
        rw [jloop_go (hb i (by omega) g)]
        exact jloop_end (h0 _ (by omega))
      · rw [jloop_go (hs i (by omega) g)]
        exact ih (i + 1) (by omega) (fun j hj => by
          by_cases e : j = i
          · rw [e]; exact g
          · exact hP j (by omega)) fu (by omega)
  exact key N 0 (by omega) (fun j hj => by omega) jF (jF_big (by omega))
theorem x_part {S : SS} {A B : ZA} {c : (Nat × Nat) × (Nat → Nat)} {f g f' g' : Nat} {F G : Nat → Int} (h : fm S f g) (h' : fm S f' g') (hF : ∀ n, n < 6 → A g n = F n ∧ 0 ≤ F n ∧ F n < 10000) (hG : ∀ n, n < 6 → A g' n = G n ∧ 0 ≤ G n ∧ G n < 10000) :
    (∃ k : Nat, k < 6 ∧ F k ≠ G k ∧ (∀ n, n < k → F n = G n) ∧ f_X11_partingPlace f f' (mz S A B c) = some (ii (k : Int), mz S A B c)) ∨ ((∀ n, n < 6 → F n = G n) ∧ f_X11_partingPlace f f' (mz S A B c) = some (ii (-2), mz S A B c)) := by
  have key := find_run (h := mz S A B c) (f := f_X11_partingPlace_L2 f f') 6 (by decide) (fun i => F i ≠ G i) (fun i => .inl (ii (i : Int))) (.inr (ii ((6 : Nat) : Int))) (fun i hi hP => by
    obtain ⟨a1, a2, a3⟩ := hF i hi
    obtain ⟨b1, b2, b3⟩ := hG i hi
    unfold f_X11_partingPlace_L2
    simp (disch := omega) only [k6, k1, n_le, n_add, show ¬ (6 ≤ i) by omega, ↓reduceIte, FR h, FR h', FA h, FA h', Option.bind_some, a1, b1, i_eq, Decidable.not_not.mp hP]) (fun i hi hP => by
    obtain ⟨a1, a2, a3⟩ := hF i hi
    obtain ⟨b1, b2, b3⟩ := hG i hi
    unfold f_X11_partingPlace_L2
    simp (disch := omega) only [k6, k1, n_le, n_add, show ¬ (6 ≤ i) by omega, ↓reduceIte, FR h, FR h', FA h, FA h', Option.bind_some, a1, b1, i_eq]
    rw [if_neg hP]) (by
    unfold f_X11_partingPlace_L2
    simp (disch := omega) only [k6, n_le, Nat.le_refl, ↓reduceIte])
  unfold f_X11_partingPlace
  rw [k0]
  rcases key with ⟨k, k1, k2, k3, k4⟩ | ⟨k1, k2⟩
  · rw [k4]
    exact Or.inl ⟨k, k1, k2, fun n hn => Decidable.not_not.mp (k3 n hn), rfl⟩
  · rw [k2]
    exact Or.inr ⟨fun n hn => Decidable.not_not.mp (k1 n hn), rfl⟩
section ops
variable {b : Nat} {S0 : SS} {A0 : ZA} {cc : Nat → Nat} {e : Nat}
theorem op_coefficient (v w : Int32) : OPS b S0 A0 cc e (f_X11_coefficient b v w) (f_X12_coefficient (b + 286) v w) := by
  rintro h ⟨S, A, B, c, p, bs, nb, rfl, h1, h2⟩
  have hX := h2.1
  have fin0 : IH b S0 A0 cc e (mz S (za A (b + 286) (up (A (b + 286)) 0 ((0 : Nat) : Int))) B c) := by
    obtain ⟨g1, g2⟩ := IH_thrown (v := ((0 : Nat) : Int)) h1 h2
    exact ⟨S, _, B, c, p, bs, nb, rfl, g1, g2⟩
  rcases rng_cases v 4 with ⟨r, hr, rfl⟩ | ⟨z, rfl, a1, a2, a3⟩
  · rcases rng_cases w 181 with ⟨n, hn, rfl⟩ | ⟨y, rfl, b1, b2, b3⟩
    · obtain ⟨wt, R, q1, q2, q3, q4, q5⟩ := h1.2.2.2.2.2.1 r hr
      obtain ⟨S', A', c', bs', nb', e1, t1, t2, t3⟩ := x_coef h1 h2 ((L_regs hX).2 r hr) ⟨by omega, fun i _ => by omega⟩ ⟨by omega, fun i _ => by omega⟩ q1 q2 q3 (show n ≤ 180 by omega)
      have hX' := t2.1
      obtain ⟨g1, g2⟩ := IH_thrown (v := ((0 : Nat) : Int)) t1 t2
      have hv : A' (b + 286 + 19) (181 * r + n) = R n := by rw [(t3.1 _ (by omega) (fun i _ => by omega)).2]; exact q5 n hn
      refine ⟨ii (R n), mz S' A' B c', _, ?_, ?_, ⟨S', _, B, c', p, bs', nb', rfl, g1, g2⟩⟩
      · unfold f_X11_coefficient
        simp (disch := omega) only [k0, k180, x_reg_y _ hr, Option.bind_some, n_eq, n_lt, n_le, show ¬ (1 = 0) by omega, show ¬ (n < 0) by omega, show n ≤ 180 by omega, ↓reduceIte, XR5 hX, fgR (L_regs hX), Xv hX, e1]
      · unfold f_X12_coefficient
        rw [k0, k180, MP0 (L_mod hX')]
        simp only [Option.bind_some, Mv (L_mod hX'), m_reg_y _ _ hr]
        rw [if_neg (by decide), m_win _ (by omega) (by omega) (by omega) (by omega) (by omega) (by omega), if_pos (by omega)]
        simp only [Option.bind_some]
        rw [if_neg (by decide)]
        simp (disch := omega) only [k181, MR32 (L_mod hX'), Option.bind_some, n_mul, n_add, Ma19 (L_mod hX'), za_ne, hv]
    · refine ⟨-1, mz S A B c, _, ?_, ?_, fin0⟩
      · unfold f_X11_coefficient
        simp only [k0, x_reg_y _ hr, Option.bind_some]
        rw [if_neg (by decide)]
        simp (disch := omega) only [k180, i_lt, i_le]
        by_cases q : y < 0
        · rw [if_pos (by omega)]
        · rw [if_neg (by omega), if_neg (by omega)]
      · unfold f_X12_coefficient
        rw [k0, k180, MP0 (L_mod hX)]
        simp only [Option.bind_some, Mv (L_mod hX), m_reg_y _ _ hr]
        rw [if_neg (by decide), m_win _ (by omega) (by omega) (by omega) (by omega) (by omega) (by omega), if_neg (by omega)]
        simp only [Option.bind_some, eq_self, ↓reduceIte]
  · refine ⟨-1, mz S A B c, _, ?_, ?_, fin0⟩
    · unfold f_X11_coefficient
      simp only [k0, x_reg_n _ a1 a2 a3, Option.bind_some, eq_self, ↓reduceIte]
    · unfold f_X12_coefficient
      simp only [k0, MP0 (L_mod hX), Mv (L_mod hX), m_reg_n _ _ a1 a2 a3, Option.bind_some, eq_self, ↓reduceIte]
/-- two registers -/
theorem reg2_n (v w : Int32) : (∃ r s : Nat, r < 4 ∧ s < 4 ∧ v = ii (r : Int) ∧ w = ii (s : Int)) ∨ (∀ h, f_X11_isRegister v h = some (ii ((0 : Nat) : Int), h) ∧ ∀ m, f_X12_isRegister m v h = some (ii ((0 : Nat) : Int), h)) ∨ (∃ r : Nat, r < 4 ∧ v = ii (r : Int) ∧ ∀ h, f_X11_isRegister w h = some (ii ((0 : Nat) : Int), h) ∧ ∀ m, f_X12_isRegister m w h = some (ii ((0 : Nat) : Int), h)) := by
  rcases rng_cases v 4 with ⟨r, hr, rfl⟩ | ⟨z, rfl, a1, a2, a3⟩
  · rcases rng_cases w 4 with ⟨s, hs, rfl⟩ | ⟨y, rfl, b1, b2, b3⟩
    · exact Or.inl ⟨r, s, hr, hs, rfl, rfl⟩
    · exact Or.inr (Or.inr ⟨r, hr, rfl, fun h => ⟨x_reg_n h b1 b2 b3, fun m => m_reg_n h m b1 b2 b3⟩⟩)
  · exact Or.inr (Or.inl fun h => ⟨x_reg_n h a1 a2 a3, fun m => m_reg_n h m a1 a2 a3⟩)
theorem op_parts (v w : Int32) : OPS b S0 A0 cc e (f_X11_parts b v w) (f_X12_parts (b + 286) v w) := by
  rintro h ⟨S, A, B, c, p, bs, nb, rfl, h1, h2⟩
  have hX := h2.1
  have fin : IH b S0 A0 cc e (mz S (za A (b + 286) (up (A (b + 286)) 0 ((0 : Nat) : Int))) B c) := by
    obtain ⟨g1, g2⟩ := IH_thrown (v := ((0 : Nat) : Int)) h1 h2
    exact ⟨S, _, B, c, p, bs, nb, rfl, g1, g2⟩
  rcases reg2_n v w with ⟨r, s, hr, hs, rfl, rfl⟩ | hn | ⟨r, hr, rfl, hn⟩
  · obtain ⟨wr, R, q1, q2, q3, q4, q5⟩ := h1.2.2.2.2.2.1 r hr
    obtain ⟨ws, Q, p1, p2, p3, p4, p5⟩ := h1.2.2.2.2.2.1 s hs
    have hP := h1.1
    have hp := PR_p hP
    have w1 := q1.2.1
    have w2 := p1.2.1
    have rR := isF_r hP q1
    have rQ := isF_r hP p1
    by_cases ew : wr = ws
    · subst ew
      have hL : Lk wr ≤ wr / 12 + 1 := by unfold Lk; split <;> omega
      have hL6 := Lk_r w1
      have ext : (∀ n, n ≤ wr / 12 → R n = Q n) → R = Q := fun hh => VV_ext (EH_of hP) w1 q1.2.2.2 p1.2.2.2 (fun n hn => hh n (by omega))
      have hloop := find_run (h := mz S (za A (b + 286) (up (A (b + 286)) 0 ((0 : Nat) : Int))) B c) (f := f_X12_parts_L40 (b + 286) (ii (r : Int)) (ii (s : Int))) (wr / 12 + 1) (by omega) (fun i => R i ≠ Q i) (fun i => .inl (ii (i : Int))) (.inr (ii ((wr / 12 + 1 : Nat) : Int))) (fun i hi hP => by
        have e1 := q5 i (by omega)
        have e2 := p5 i (by omega)
        have r1 := rR i
        have r2 := rQ i
        unfold f_X12_parts_L40
        simp (disch := omega) only [k12, k181, k1, MR31 (L_mod hX), MR32 (L_mod hX), Option.bind_some, Ma18 (L_mod hX), Ma19 (L_mod hX), za_ne, q4, n_div, n_lt, show ¬ (wr / 12 < i) by omega, ↓reduceIte, n_mul, n_add, e1, e2, i_eq, Decidable.not_not.mp hP]) (fun i hi hP => by
        have e1 := q5 i (by omega)
        have e2 := p5 i (by omega)
        have r1 := rR i
        have r2 := rQ i
        unfold f_X12_parts_L40
        simp (disch := omega) only [k12, k181, k1, MR31 (L_mod hX), MR32 (L_mod hX), Option.bind_some, Ma18 (L_mod hX), Ma19 (L_mod hX), za_ne, q4, n_div, n_lt, show ¬ (wr / 12 < i) by omega, ↓reduceIte, n_mul, n_add, e1, e2, i_eq]
        rw [if_neg hP]) (by
        unfold f_X12_parts_L40
        simp (disch := omega) only [k12, MR31 (L_mod hX), Option.bind_some, Ma18 (L_mod hX), za_ne, q4, n_div, n_lt, show wr / 12 < wr / 12 + 1 by omega, ↓reduceIte])
      rcases x_part (S := S) (A := A) (B := B) (c := c) (F := R) (G := Q) ((L_regs hX).2 r hr) ((L_regs hX).2 s hs) (fun n hn => ⟨q3 n hn, (rR n).1, by have := (rR n).2; omega⟩) (fun n hn => ⟨p3 n hn, (rQ n).1, by have := (rQ n).2; omega⟩) with ⟨k, k1', k2', k3', k4'⟩ | ⟨k1', k2'⟩
      · refine ⟨ii (k : Int), mz S A B c, _, ?_, ?_, fin⟩
        · unfold f_X11_parts
          simp (disch := omega) only [k0, x_reg_y _ hr, x_reg_y _ hs, Option.bind_some, n_eq, show ¬ (1 = 0) by omega, ↓reduceIte, XR5 hX, fgR (L_regs hX), FI ((L_regs hX).2 r hr), FI ((L_regs hX).2 s hs), q2, p2, k4']
        · unfold f_X12_parts
          simp (disch := omega) only [k0, MP0 (L_mod hX), Mv (L_mod hX), m_reg_y _ _ hr, m_reg_y _ _ hs, Option.bind_some, n_eq, show ¬ (1 = 0) by omega, ↓reduceIte, MR31 (L_mod hX), Ma18 (L_mod hX), za_ne, q4, p4]
          rcases hloop with ⟨j, j1, j2, j3, j4⟩ | ⟨j1, j2⟩
          · have ej : j = k := by
              rcases Nat.lt_trichotomy j k with x | x | x
              · exact absurd (k3' j x) j2
              · exact x
              · exact absurd (Decidable.not_not.mp (j3 k x)) k2'
            rw [j4, ej]; rfl
          · exact absurd (congrFun (ext (fun n hn => Decidable.not_not.mp (j1 n (by omega)))) k) k2'
      · refine ⟨ii (-2), mz S A B c, _, ?_, ?_, fin⟩
        · unfold f_X11_parts
          simp (disch := omega) only [k0, x_reg_y _ hr, x_reg_y _ hs, Option.bind_some, n_eq, show ¬ (1 = 0) by omega, ↓reduceIte, XR5 hX, fgR (L_regs hX), FI ((L_regs hX).2 r hr), FI ((L_regs hX).2 s hs), q2, p2, k2']
        · unfold f_X12_parts
          simp (disch := omega) only [k0, MP0 (L_mod hX), Mv (L_mod hX), m_reg_y _ _ hr, m_reg_y _ _ hs, Option.bind_some, n_eq, show ¬ (1 = 0) by omega, ↓reduceIte, MR31 (L_mod hX), Ma18 (L_mod hX), za_ne, q4, p4]
          rcases hloop with ⟨j, j1, j2, j3, j4⟩ | ⟨j1, j2⟩
          · exact absurd (k1' j (by omega)) j2
          · rw [j2]; rfl
    · refine ⟨-1, mz S A B c, _, ?_, ?_, fin⟩
      · unfold f_X11_parts
        simp (disch := omega) only [k0, x_reg_y _ hr, x_reg_y _ hs, Option.bind_some, n_eq, show ¬ (1 = 0) by omega, ↓reduceIte, XR5 hX, fgR (L_regs hX), FI ((L_regs hX).2 r hr), FI ((L_regs hX).2 s hs), q2, p2, ew]
      · unfold f_X12_parts
        simp (disch := omega) only [k0, MP0 (L_mod hX), Mv (L_mod hX), m_reg_y _ _ hr, m_reg_y _ _ hs, Option.bind_some, n_eq, show ¬ (1 = 0) by omega, ↓reduceIte, MR31 (L_mod hX), Ma18 (L_mod hX), za_ne, q4, p4, ew]
  · refine ⟨-1, mz S A B c, _, ?_, ?_, fin⟩
    · unfold f_X11_parts
      simp only [k0, (hn _).1, Option.bind_some, eq_self, ↓reduceIte]
    · unfold f_X12_parts
      simp only [k0, MP0 (L_mod hX), Mv (L_mod hX), (hn _).2, Option.bind_some, eq_self, ↓reduceIte]
  · refine ⟨-1, mz S A B c, _, ?_, ?_, fin⟩
    · unfold f_X11_parts
      simp (disch := omega) only [k0, x_reg_y _ hr, (hn _).1, Option.bind_some, eq_self, n_eq, show ¬ (1 = 0) by omega, ↓reduceIte]
    · unfold f_X12_parts
      simp (disch := omega) only [k0, MP0 (L_mod hX), Mv (L_mod hX), m_reg_y _ _ hr, (hn _).2, Option.bind_some, eq_self, n_eq, show ¬ (1 = 0) by omega, ↓reduceIte]
end ops
