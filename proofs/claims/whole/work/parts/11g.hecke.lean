/-! Calls with Hecke's operator: hecke, multiplies. -/
theorem Rdy_36 {S : SS} {A B : ZA} {b : Nat} {c : (Nat × Nat) × (Nat → Nat)} {bs nb : Nat → Nat} (h : SG B b S A c bs nb) {i n : Nat} (hi : i < 31) {p : Int} (hP : PR p) (hr : Rdy A b i p n) : Rdy A b i p 36 := by
  obtain ⟨r1, l', r2, r3⟩ := hr
  rcases h.1.2.2.2 i hi with h0 | ⟨l2, m1, m2, m3, m4, m5⟩
  · have := hP.1; omega
  · exact ⟨r1, l', r2, by omega⟩
theorem hkc (v : Int32) : (∃ n : Nat, 1 ≤ n ∧ n ≤ 30 ∧ v = ii (n : Int) ∧ ∀ h, f_X11_isHecke v h = some (ii ((1 : Nat) : Int), h) ∧ f_X12_isOperator v h = some (ii ((1 : Nat) : Int), h)) ∨ (∀ h, f_X11_isHecke v h = some (ii ((0 : Nat) : Int), h) ∧ f_X12_isOperator v h = some (ii ((0 : Nat) : Int), h)) := by
  rcases rng_cases v 31 with ⟨n, hn, rfl⟩ | ⟨z, rfl, a1, a2, a3⟩
  · by_cases q : n = 0
    · subst q
      refine Or.inr fun h => ⟨?_, ?_⟩
      · unfold f_X11_isHecke
        rw [if_pos (by decide)]; rfl
      · unfold f_X12_isOperator
        rw [k1, k30, m_win h (by omega) (by omega) (by omega) (by omega) (by omega) (by omega), if_neg (by omega)]; rfl
    · refine Or.inl ⟨n, by omega, by omega, rfl, fun h => ⟨?_, ?_⟩⟩
      · unfold f_X11_isHecke
        simp (disch := omega) only [k0, k1, k30, n_lt, show ¬ (n < 1) by omega, show ¬ (30 < n) by omega, ↓reduceIte]
      · unfold f_X12_isOperator
        rw [k1, k30, m_win h (by omega) (by omega) (by omega) (by omega) (by omega) (by omega), if_pos (by omega)]; rfl
  · refine Or.inr fun h => ⟨?_, ?_⟩
    · unfold f_X11_isHecke
      simp (disch := omega) only [k0, k1, k30, i_lt]
      by_cases q : z < 1
      · rw [if_pos (by omega)]
      · rw [if_neg (by omega), if_pos (by omega)]
    · unfold f_X12_isOperator
      rw [k1, k30, m_win h a1 a2 (by omega) (by omega) (by omega) (by omega), if_neg (by omega)]; rfl
section ops
variable {b : Nat} {S0 : SS} {A0 : ZA} {cc : Nat → Nat} {e : Nat}
/-- the space of a weight, ready for Hecke n -/
theorem x_rfh {S : SS} {A B : ZA} {c : (Nat × Nat) × (Nat → Nat)} {p : Int} {bs nb : Nat → Nat} (h1 : CORE A B b p) (h2 : DYN b S0 A0 cc e S A B c p bs nb) {i n : Nat} (hi : i < 31) (hn : n ≤ 30) :
    ∃ S' A' c' bs' nb', f_X11_readyForHecke b (ii ((2 * i : Nat) : Int)) (ii (n : Int)) (mz S A B c) = some (b + 42 + 3 * i, mz S' A' B c') ∧ CORE A' B b p ∧ DYN b S0 A0 cc e S' A' B c' p bs' nb' ∧ SR b S A c nb S' A' c' nb' ∧ (i ≠ 1 → Rdy A' b i p ((Lk (2 * i) - 1) * n) ∧ Rdy A' b i p 36) := by
  have hX := h2.1
  have hP := h1.1
  have hL := Lk_r (k := 2 * i) (by omega)
  have hm : (Lk (2 * i) - 1) * n ≤ 5 * 30 := Nat.mul_le_mul (by omega) hn
  obtain ⟨h', e1, S', A', c', bs', nb', rfl, g1, g2, g3⟩ := x_ready (n := (Lk (2 * i) - 1) * n) (i := i) h2.2.1 (L_sps hX) hP hi (by omega)
  obtain ⟨t1, t2⟩ := IH_ready h1 h2 g1 g2
  refine ⟨S', A', c', bs', nb', ?_, t1, t2, g2, fun hne => ⟨g3 hne, Rdy_36 g1 hi hP (g3 hne)⟩⟩
  unfold f_X11_readyForHecke
  simp only [XR8 hX, XI2 hX, h1.2.1, Option.bind_some, x_cusps _ (show 2 * i ≤ 60 by omega), LSp_v (L_sps hX), n_mul, e1]
theorem op_hecke (v w : Int32) : OPS b S0 A0 cc e (f_X11_hecke b v w) (f_X12_hecke (b + 286) v w) := by
  rintro h ⟨S, A, B, c, p, bs, nb, rfl, h1, h2⟩
  have hX := h2.1
  have hM := L_mod hX
  have fin : IH b S0 A0 cc e (mz S (za A (b + 286) (up (A (b + 286)) 0 ((0 : Nat) : Int))) B c) := by
    obtain ⟨g1, g2⟩ := IH_thrown (v := ((0 : Nat) : Int)) h1 h2
    exact ⟨S, _, B, c, p, bs, nb, rfl, g1, g2⟩
  rcases rng_cases v 4 with ⟨r, hr, rfl⟩ | ⟨z, rfl, a1, a2, a3⟩
  · rcases hkc w with ⟨n, hn1, hn, rfl, hkk⟩ | hkk
    · obtain ⟨wt, R, q1, q2, q3, q4, q5⟩ := h1.2.2.2.2.2.1 r hr
      have hP := h1.1
      have hp := PR_p hP
      have hE := EH_of hP
      have rR := isF_r hP q1
      obtain ⟨i, rfl⟩ : ∃ i, wt = 2 * i := ⟨wt / 2, by have := q1.1; omega⟩
      have w60 := q1.2.1
      have hL := Lk_r w60
      have hne1 : i ≠ 1 := fun x => q1.2.2.1 (by omega)
      obtain ⟨S', A', c', bs', nb', e1, t1, t2, t3, t4⟩ := x_rfh h1 h2 (i := i) (by omega) hn
      obtain ⟨rd, rd36⟩ := t4 hne1
      have hX' := t2.1
      have hM' := L_mod hX'
      have hSG := t2.2.1
      have u : ∀ x, x < b + 321 → (∀ i, i < 31 → x ≠ b + 42 + 3 * i) → A' x = A x := fun x h3 h4 => (t3.1 x h3 h4).2
      have hs := (hSG.1.1 i (by omega)).1
      have hlen := (hSG.1.2.2.1 i (by omega)).2
      have key := z_run (S := S') (B := B) (c := c') (f := f_X11_hecke_L37 b (ii (n : Int)) (b + 15 + 1 + 2 * r) (b + 42 + 3 * i)) (fun t => ii (t : Int)) (fun t A2 => (∀ j, j < t → A2 (b + 234) j = hk p (2 * i) R n j) ∧ ∀ x, x ≠ b + 234 → A2 x = A' x) (Lk (2 * i)) (t := ii ((Lk (2 * i) : Nat) : Int)) (by omega) (fun t ht A2 ⟨y1, y2⟩ => by
        have sg2 : SG B b S' A2 c' bs' nb' := SG_of hSG (fun x hx => y2 x (by omega)) (fun i hi k _ => by rw [y2 _ (by omega)]) (fun _ _ => rfl)
        have hh := x_hecke (C := R) (x := t) sg2 hP (show i < 31 by omega) hn ht (Rdy_of (y2 _ (by omega)) rd) ((L_regs hX').2 r hr).2 (by omega) (by omega) (fun j hj => ⟨by rw [y2 _ (by omega), u _ (by omega) (fun k _ => by omega)]; exact q3 j (by omega), rR j⟩)
        rw [isF_ex hP q1 (fun _ _ => rfl)] at hh
        have hlen2 : A2 (b + 42 + 3 * i) 1 = ((Lk (2 * i) : Nat) : Int) := by rw [y2 _ (by omega)]; exact hlen
        unfold f_X11_hecke_L37
        simp (disch := omega) only [PI1 hs.1, hlen2, Option.bind_some, n_le, show ¬ (Lk (2 * i) ≤ t) by omega, ↓reduceIte, XR11 hX', FR (L_scr hX'), FR ((L_regs hX').2 r hr), Pv hs.1, hh, FS' (L_scr hX'), k1, n_add]
        refine ⟨_, rfl, fun j hj => ?_, fun x hx => by rw [za_ne _ _ hx, y2 x hx]⟩
        rw [za_at]
        by_cases q : j = t
        · subst q; rw [up_at]
        · rw [up_ne _ _ q]; exact y1 j (by omega)) (fun A2 ⟨_, y2⟩ => by
        have hlen2 : A2 (b + 42 + 3 * i) 1 = ((Lk (2 * i) : Nat) : Int) := by rw [y2 _ (by omega)]; exact hlen
        unfold f_X11_hecke_L37
        simp (disch := omega) only [PI1 hs.1, hlen2, Option.bind_some, n_le, Nat.le_refl, ↓reduceIte]) (A0 := A') ⟨fun j hj => by omega, fun _ _ => rfl⟩
      obtain ⟨A2, e2, y1, y2⟩ := key
      have sg2 : SG B b S' A2 c' bs' nb' := SG_of hSG (fun x hx => y2 x (by omega)) (fun i hi k _ => by rw [y2 _ (by omega)]) (fun _ _ => rfl)
      obtain ⟨A3, e3, sg3, z1, z2, z3⟩ := x_complete (C := fun j => hk p (2 * i) R n j) sg2 hP (show i < 31 by omega) (by obtain ⟨x1, l', x2, x3⟩ := Rdy_of (y2 _ (by omega)) rd36; exact ⟨x1, l', x2, by omega⟩) (L_scr hX') ⟨by omega, fun k _ => by omega⟩ ⟨by omega, fun k _ => by omega⟩ (fun j hj => ⟨y1 j hj, hk_r (by omega) _ _ _ _⟩)
      obtain ⟨A4, e4, c1, c2, c3⟩ := x_copy (A := A3) (B := B) (c := c') ((L_regs hX').2 r hr) (L_scr hX')
      have f4 : ∀ x, x ≠ b + 233 → x ≠ b + 234 → x ≠ b + 15 + 1 + 2 * r → x ≠ b + 15 + 2 + 2 * r → A4 x = A' x := fun x a1 a2 a3 a4 => by rw [c3 x a3 a4, z3 x a1 a2, y2 x a2]
      have b5 : Bas (za A4 (b + 286) (up (A4 (b + 286)) 0 ((0 : Nat) : Int))) (b + 286) p := ⟨by rw [za_at, up_ne _ _ (by omega), f4 _ (by omega) (by omega) (by omega) (by omega)]; exact t1.2.2.1.1, fun n hn => by rw [za_ne _ _ (by omega), za_ne _ _ (by omega), za_ne _ _ (by omega), f4 _ (by omega) (by omega) (by omega) (by omega), f4 _ (by omega) (by omega) (by omega) (by omega), f4 _ (by omega) (by omega) (by omega) (by omega)]; exact t1.2.2.1.2 n hn⟩
      have rc5 : RC (za A4 (b + 286) (up (A4 (b + 286)) 0 ((0 : Nat) : Int))) (b + 286) p := RC_of t2.2.2.2.1 (by rw [za_at, up_ne _ _ (by omega), f4 _ (by omega) (by omega) (by omega) (by omega)]) (by rw [za_ne _ _ (by omega), f4 _ (by omega) (by omega) (by omega) (by omega)])
      have row5 : ∀ i, i < 181 → za A4 (b + 286) (up (A4 (b + 286)) 0 ((0 : Nat) : Int)) (b + 286 + 19) (181 * r + i) = R i ∧ (0 ≤ R i ∧ R i < p) := fun i hi => ⟨by rw [za_ne _ _ (by omega), f4 _ (by omega) (by omega) (by omega) (by omega), u _ (by omega) (fun k _ => by omega)]; exact q5 i hi, rR i⟩
      have w5 : za A4 (b + 286) (up (A4 (b + 286)) 0 ((0 : Nat) : Int)) (b + 286 + 18) r = ((2 * i : Nat) : Int) := by rw [za_ne _ _ (by omega), f4 _ (by omega) (by omega) (by omega) (by omega), u _ (by omega) (fun k _ => by omega)]; exact q4
      have g5 : ∀ x, x ≠ b + 286 → x ≠ b + 233 → x ≠ b + 234 → x ≠ b + 15 + 1 + 2 * r → x ≠ b + 15 + 2 + 2 * r → za A4 (b + 286) (up (A4 (b + 286)) 0 ((0 : Nat) : Int)) x = A' x := fun x a0 a1 a2 a3 a4 => by rw [za_ne _ _ a0]; exact f4 x a1 a2 a3 a4
      have m5 : ∀ k, k ≠ 0 → za A4 (b + 286) (up (A4 (b + 286)) 0 ((0 : Nat) : Int)) (b + 286) k = A' (b + 286) k := fun k hk => by rw [za_at, up_ne _ _ hk, f4 _ (by omega) (by omega) (by omega) (by omega)]
      have cr5 : za A4 (b + 286) (up (A4 (b + 286)) 0 ((0 : Nat) : Int)) (b + 15 + 1 + 2 * r) 0 = ((2 * i : Nat) : Int) := by rw [za_ne _ _ (by omega), c1, z1]
      have ch5 : ∀ n', n' < 6 → za A4 (b + 286) (up (A4 (b + 286)) 0 ((0 : Nat) : Int)) (b + 15 + 2 + 2 * r) n' = ex p (2 * i) (fun j => hk p (2 * i) R n j) n' := fun n' hn' => by rw [za_ne _ _ (by omega), c2 n' hn', z2 n' hn']
      have ex5 : f_X11_hecke b (ii (r : Int)) (ii (n : Int)) (mz S A B c) = some (ii ((1 : Nat) : Int), mz S' A4 B c') := by
        have e2' : jloop (f_X11_hecke_L37 b (ii (n : Int)) (b + 15 + 1 + 2 * r) (b + 42 + 3 * i)) jF (ii ((0 : Nat) : Int)) (mz S' A' B c') = some (ii ((Lk (2 * i) : Nat) : Int), mz S' A2 B c') := e2
        unfold f_X11_hecke
        simp (disch := omega) only [k0, k1, x_reg_y _ hr, (hkk _).1, Option.bind_some, n_eq, show ¬ (1 = 0) by omega, ↓reduceIte, XR5 hX, fgR (L_regs hX), FI ((L_regs hX).2 r hr), q2, Xv hX, e1, e2', XR11 hX', Pv hs.1, e3, FV ((L_regs hX').2 r hr), e4]
      generalize hA5 : za A4 (b + 286) (up (A4 (b + 286)) 0 ((0 : Nat) : Int)) = A5 at b5 rc5 row5 w5 g5 m5 cr5 ch5
      have key2 := z_run (S := S') (B := B) (c := c') (f := f_X12_hecke_L32 (b + 286) (ii (r : Int)) (ii (n : Int)) (ii ((2 * i : Nat) : Int))) (fun t => ii (t : Int)) (fun t A6 => (∀ j, j < t → A6 (b + 286 + 7) j = hk p (2 * i) R n j) ∧ ∀ x, x ≠ b + 286 + 7 → A6 x = A5 x) (Lk (2 * i)) (t := ii ((Lk (2 * i) : Nat) : Int)) (by omega) (fun t ht A6 ⟨x1, x2⟩ => by
        unfold f_X12_hecke_L32
        rw [m_long _ w60]
        simp (disch := omega) only [Option.bind_some, n_le, show ¬ (Lk (2 * i) ≤ t) by omega, ↓reduceIte, MR9 hM', MR32 hM', Mv hM', k181, n_mul]
        rw [m_hecke (R := R) hM' (by rw [x2 _ (by omega)]; exact b5.1) (by omega) hp.2 w60 hn (by omega) (MS19 hM') (by omega) (by omega) (fun j hj => by rw [x2 _ (by omega)]; exact row5 j hj)]
        simp (disch := omega) only [Option.bind_some, Ms7 hM', k1, n_add]
        refine ⟨_, rfl, fun j hj => ?_, fun x hx => by rw [za_ne _ _ hx, x2 x hx]⟩
        rw [za_at]
        by_cases q : j = t
        · subst q; rw [up_at]
        · rw [up_ne _ _ q]; exact x1 j (by omega)) (fun A6 _ => by
        unfold f_X12_hecke_L32
        rw [m_long _ w60]
        simp (disch := omega) only [Option.bind_some, n_le, Nat.le_refl, ↓reduceIte]) (A0 := A5) ⟨fun j hj => by omega, fun _ _ => rfl⟩
      obtain ⟨A6, e6, x1, x2⟩ := key2
      obtain ⟨A7, e7, v1, v2, v3, v4⟩ := m_builds (A := A6) (B := B) (c := c') (C := fun j => hk p (2 * i) R n j) hM' ⟨by rw [x2 _ (by omega)]; exact b5.1, fun n hn => by rw [x2 _ (by omega), x2 _ (by omega), x2 _ (by omega)]; exact b5.2 n hn⟩ (RC_of rc5 (by rw [x2 _ (by omega)]) (x2 _ (by omega))) hE hp.2 w60 q1.1 (fun j hj => ⟨x1 j hj, hk_r (by omega) _ _ _ _⟩)
      have e6' : jloop (f_X12_hecke_L32 (b + 286) (ii (r : Int)) (ii (n : Int)) (ii ((2 * i : Nat) : Int))) jF (ii ((0 : Nat) : Int)) (mz S' A5 B c') = some (ii ((Lk (2 * i) : Nat) : Int), mz S' A6 B c') := e6
      have g7 : ∀ x, x < b + 286 ∨ b + 286 + 9 ≤ x → A7 x = A5 x := fun x hx => by rw [v4 x (by omega) (by omega) (by omega) (by omega) (by omega), x2 x (by omega)]
      refine ⟨ii ((1 : Nat) : Int), mz S' A4 B c', mz S' (za A7 (b + 286 + 19) (mo (fun k => A7 (b + 286 + 8) (0 + k)) (A7 (b + 286 + 19)) (181 * r) 181)) B c', ex5, ?_, ?_⟩
      · unfold f_X12_hecke
        rw [k0, MP0 hM']
        simp (disch := omega) only [hA5, Mv hM', m_reg_y _ _ hr, (hkk _).2, Option.bind_some, n_eq, show ¬ (1 = 0) by omega, ↓reduceIte, MR31 hM', Ma18 hM', w5, e6', e7, MR10 hM', MR32 hM', k181, n_mul]
        rw [m_copies (MS8 hM') (MS19 hM') (by omega) (by omega) (by omega) (by omega) (by omega)]
        rfl
      · refine IH_regs t1 t2 hr (fun x x1 x2 x3 => ?_) (fun k hk9 => ?_) (fun o ho => ?_) (fun j hj hne => ?_) (fun j hj hne n hn => ?_) ⟨2 * i, ex p (2 * i) (fun j => hk p (2 * i) R n j), ⟨q1.1, w60, q1.2.2.1, ex_V _ _ _⟩, ?_, fun n hn => ?_, ?_, fun n hn => ?_⟩ (RC_of v2 ?_ ?_)
        · rw [za_ne _ _ (by omega), g7 x (by omega), g5 x (by omega) (by omega) (by omega) x2 x3]
        · rw [za_ne _ _ (by omega), v3 k (by omega), x2 _ (by omega), m5 k (by omega)]
        · by_cases q : o ≤ 3
          · rw [za_ne _ _ (by omega), v4 _ (by omega) (by omega) (by omega) (by omega) (by omega), x2 _ (by omega), g5 _ (by omega) (by omega) (by omega) (by omega) (by omega)]
          · rw [za_ne _ _ (by omega), g7 _ (by omega), g5 _ (by omega) (by omega) (by omega) (by omega) (by omega)]
        · rw [za_ne _ _ (by omega), g7 _ (by omega), g5 _ (by omega) (by omega) (by omega) (by omega) (by omega)]
        · rw [za_at, mo_out _ _ (by omega), g7 _ (by omega), g5 _ (by omega) (by omega) (by omega) (by omega) (by omega)]
        · rw [za_ne _ _ (by omega), g7 _ (by omega), cr5]
        · rw [za_ne _ _ (by omega), g7 _ (by omega), ch5 n hn]
        · rw [za_ne _ _ (by omega), g7 _ (by omega), w5]
        · rw [za_at, mo_in _ _ hn, Nat.zero_add, v1 n hn]
        · rw [za_ne _ _ (by omega)]
        · rw [za_ne _ _ (by omega)]
    · refine ⟨ii ((0 : Nat) : Int), mz S A B c, _, ?_, ?_, fin⟩
      · unfold f_X11_hecke
        simp (disch := omega) only [k0, x_reg_y _ hr, (hkk _).1, Option.bind_some, n_eq, show ¬ (1 = 0) by omega, eq_self, ↓reduceIte]
      · unfold f_X12_hecke
        simp (disch := omega) only [k0, MP0 hM, Mv hM, m_reg_y _ _ hr, (hkk _).2, Option.bind_some, n_eq, show ¬ (1 = 0) by omega, eq_self, ↓reduceIte]
  · refine ⟨ii ((0 : Nat) : Int), mz S A B c, _, ?_, ?_, fin⟩
    · unfold f_X11_hecke
      simp only [k0, x_reg_n _ a1 a2 a3, Option.bind_some, eq_self, ↓reduceIte]
    · unfold f_X12_hecke
      simp only [k0, MP0 hM, Mv hM, m_reg_n _ _ a1 a2 a3, Option.bind_some, eq_self, ↓reduceIte]
end ops
