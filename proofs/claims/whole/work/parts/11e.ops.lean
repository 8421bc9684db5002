/-! Calls that only look: alike, count, small. -/
theorem ne10 : ¬ (((1 : Nat) : Int) = ((0 : Nat) : Int)) := by decide
section ops
variable {b : Nat} {S0 : SS} {A0 : ZA} {cc : Nat → Nat} {e : Nat}
theorem op_alike (v w u : Int32) : OPS b S0 A0 cc e (f_X11_alike b v w u) (f_X12_alike (b + 286) v w u) := by
  rintro h ⟨S, A, B, c, p, bs, nb, rfl, h1, h2⟩
  have hX := h2.1
  have fin : IH b S0 A0 cc e (mz S (za A (b + 286) (up (A (b + 286)) 0 ((0 : Nat) : Int))) B c) := by
    obtain ⟨g1, g2⟩ := IH_thrown (v := ((0 : Nat) : Int)) h1 h2
    exact ⟨S, _, B, c, p, bs, nb, rfl, g1, g2⟩
  rcases reg2_n v w with ⟨r, s, hr, hs, rfl, rfl⟩ | hn | ⟨r, hr, rfl, hn⟩
  · rcases rng_cases u 181 with ⟨n, hn, rfl⟩ | ⟨y, rfl, b1, b2, b3⟩
    · obtain ⟨wr, R, q1, q2, q3, q4, q5⟩ := h1.2.2.2.2.2.1 r hr
      obtain ⟨ws, Q, p1, p2, p3, p4, p5⟩ := h1.2.2.2.2.2.1 s hs
      have hP := h1.1
      have hp := PR_p hP
      have w1 := q1.2.1
      have w2 := p1.2.1
      have rR := isF_r hP q1
      have rQ := isF_r hP p1
      have mwin : ∀ h, f_X12_within (ii (n : Int)) (ii ((0 : Nat) : Int)) (ii ((180 : Nat) : Int)) h = some (ii ((1 : Nat) : Int), h) := fun h => by
        rw [m_win _ (by omega) (by omega) (by omega) (by omega) (by omega) (by omega), if_pos (by omega)]
      by_cases ew : wr = ws
      · subst ew
        have hL6 := Lk_r w1
        have ext : (∀ n, n < 6 → R n = Q n) → R = Q := fun hh => VV_ext (EH_of hP) w1 q1.2.2.2 p1.2.2.2 (fun n hn => hh n (by omega))
        have hloop := flag_run (h := mz S (za A (b + 286) (up (A (b + 286)) 0 ((0 : Nat) : Int))) B c) (f := f_X12_alike_L59 (b + 286) (ii (r : Int)) (ii (s : Int)) (ii (n : Int))) (n + 1) (by omega) (fun i => R i ≠ Q i) (fun i hi hP => by
          have e1 := q5 i (by omega)
          have e2 := p5 i (by omega)
          have r1 := rR i
          have r2 := rQ i
          unfold f_X12_alike_L59
          simp (disch := omega) only [k0, k1, k181, n_lt, n_eq, show ¬ (n < i) by omega, show ¬ (1 = 0) by omega, ↓reduceIte, MR32 (L_mod hX), Option.bind_some, n_mul, n_add, Ma19 (L_mod hX), za_ne, e1, e2, ne10, i_eq, Decidable.not_not.mp hP]) (fun i hi hP => by
          have e1 := q5 i (by omega)
          have e2 := p5 i (by omega)
          have r1 := rR i
          have r2 := rQ i
          unfold f_X12_alike_L59
          simp (disch := omega) only [k0, k1, k181, n_lt, n_eq, show ¬ (n < i) by omega, show ¬ (1 = 0) by omega, ↓reduceIte, MR32 (L_mod hX), Option.bind_some, n_mul, n_add, Ma19 (L_mod hX), za_ne, e1, e2, ne10, i_eq]
          rw [if_neg hP]) (fun i hi => by
          unfold f_X12_alike_L59
          simp (disch := omega) only [k0, n_lt, eq_self, ↓reduceIte, ite_self]) (by
          unfold f_X12_alike_L59
          simp (disch := omega) only [n_lt, show n < n + 1 by omega, ↓reduceIte])
        have cl : ∀ (t : Int32), f_X11_partingPlace (b + 15 + 1 + 2 * r) (b + 15 + 1 + 2 * s) (mz S A B c) = some (t, mz S A B c) → f_X11_alike b (ii (r : Int)) (ii (s : Int)) (ii (n : Int)) (mz S A B c) = if t < ii ((0 : Nat) : Int) then some (ii ((1 : Nat) : Int), mz S A B c) else if t ≤ ii (n : Int) then some (ii ((0 : Nat) : Int), mz S A B c) else some (ii ((1 : Nat) : Int), mz S A B c) := by
          intro t ht
          unfold f_X11_alike
          simp (disch := omega) only [k0, k1, k180, x_reg_y _ hr, x_reg_y _ hs, Option.bind_some, n_eq, n_lt, n_le, show ¬ (1 = 0) by omega, show ¬ (n < 0) by omega, show n ≤ 180 by omega, ↓reduceIte, XR5 hX, fgR (L_regs hX), FI ((L_regs hX).2 r hr), FI ((L_regs hX).2 s hs), q2, p2, ht]
        have mo1 : ∀ t : Nat, (∃ u, jloop (f_X12_alike_L59 (b + 286) (ii (r : Int)) (ii (s : Int)) (ii (n : Int))) jF (ii ((1 : Nat) : Int), ii ((0 : Nat) : Int)) (mz S (za A (b + 286) (up (A (b + 286)) 0 ((0 : Nat) : Int))) B c) = some ((ii ((t : Nat) : Int), u), mz S (za A (b + 286) (up (A (b + 286)) 0 ((0 : Nat) : Int))) B c)) → t < 2 → f_X12_alike (b + 286) (ii (r : Int)) (ii (s : Int)) (ii (n : Int)) (mz S A B c) = some (ii ((t : Nat) : Int), mz S (za A (b + 286) (up (A (b + 286)) 0 ((0 : Nat) : Int))) B c) := by
          rintro t ⟨u, hu⟩ ht
          unfold f_X12_alike
          simp (disch := omega) only [k0, k1, k180, MP0 (L_mod hX), Mv (L_mod hX), m_reg_y _ _ hr, m_reg_y _ _ hs, mwin, Option.bind_some, n_eq, show ¬ (1 = 0) by omega, ↓reduceIte, MR31 (L_mod hX), Ma18 (L_mod hX), za_ne, q4, p4, hu]
          by_cases t0 : t = 0
          · subst t0; rw [if_pos rfl]
          · have t1 : t = 1 := by omega
            subst t1; rw [if_neg (by omega)]
        rcases x_part (S := S) (A := A) (B := B) (c := c) (F := R) (G := Q) ((L_regs hX).2 r hr) ((L_regs hX).2 s hs) (fun n hn => ⟨q3 n hn, (rR n).1, by have := (rR n).2; omega⟩) (fun n hn => ⟨p3 n hn, (rQ n).1, by have := (rQ n).2; omega⟩) with ⟨k, k1', k2', k3', k4'⟩ | ⟨k1', k2'⟩
        · have c1 := cl _ k4'
          simp (disch := omega) only [n_lt, n_le, show ¬ (k < 0) by omega, ↓reduceIte] at c1
          by_cases kn : k ≤ n
          · rw [if_pos kn] at c1
            refine ⟨_, _, _, c1, mo1 0 ?_ (by omega), fin⟩
            rcases hloop with ⟨j, t, j1, j2, j3⟩ | ⟨j1, t, j2⟩
            · exact ⟨t, j3⟩
            · exact absurd (Decidable.not_not.mp (j1 k (by omega))) k2'
          · rw [if_neg kn] at c1
            refine ⟨_, _, _, c1, mo1 1 ?_ (by omega), fin⟩
            rcases hloop with ⟨j, t, j1, j2, j3⟩ | ⟨j1, t, j2⟩
            · exact absurd (k3' j (by omega)) j2
            · exact ⟨t, j2⟩
        · have c1 := cl _ k2'
          rw [if_pos (by decide)] at c1
          refine ⟨_, _, _, c1, mo1 1 ?_ (by omega), fin⟩
          have hRQ := ext k1'
          rcases hloop with ⟨j, t, j1, j2, j3⟩ | ⟨j1, t, j2⟩
          · exact absurd (congrFun hRQ j) j2
          · exact ⟨t, j2⟩
      · refine ⟨ii ((0 : Nat) : Int), mz S A B c, _, ?_, ?_, fin⟩
        · unfold f_X11_alike
          simp (disch := omega) only [k0, k180, x_reg_y _ hr, x_reg_y _ hs, Option.bind_some, n_eq, n_lt, n_le, show ¬ (1 = 0) by omega, show ¬ (n < 0) by omega, show n ≤ 180 by omega, ↓reduceIte, XR5 hX, fgR (L_regs hX), FI ((L_regs hX).2 r hr), FI ((L_regs hX).2 s hs), q2, p2, ew]
        · have hend : jloop (f_X12_alike_L59 (b + 286) (ii (r : Int)) (ii (s : Int)) (ii (n : Int))) jF (ii ((0 : Nat) : Int), ii ((0 : Nat) : Int)) (mz S (za A (b + 286) (up (A (b + 286)) 0 ((0 : Nat) : Int))) B c) = some ((ii ((0 : Nat) : Int), ii ((0 : Nat) : Int)), mz S (za A (b + 286) (up (A (b + 286)) 0 ((0 : Nat) : Int))) B c) := by
            refine jloop_end (n := 19999) ?_
            unfold f_X12_alike_L59
            simp (disch := omega) only [k0, n_lt, eq_self, ↓reduceIte, ite_self]
          unfold f_X12_alike
          simp (disch := omega) only [k0, k180, MP0 (L_mod hX), Mv (L_mod hX), m_reg_y _ _ hr, m_reg_y _ _ hs, mwin, Option.bind_some, n_eq, show ¬ (1 = 0) by omega, ↓reduceIte, MR31 (L_mod hX), Ma18 (L_mod hX), za_ne, q4, p4, ew, hend]
    · refine ⟨-1, mz S A B c, _, ?_, ?_, fin⟩
      · unfold f_X11_alike
        simp (disch := omega) only [k0, k180, x_reg_y _ hr, x_reg_y _ hs, Option.bind_some, n_eq, show ¬ (1 = 0) by omega, ↓reduceIte, i_lt, i_le]
        by_cases q : y < 0
        · rw [if_pos (by omega)]
        · rw [if_neg (by omega), if_neg (by omega)]
      · unfold f_X12_alike
        have mwin : ∀ h, f_X12_within (ii y) (ii ((0 : Nat) : Int)) (ii ((180 : Nat) : Int)) h = some (ii ((0 : Nat) : Int), h) := fun h => by
          rw [m_win _ (by omega) (by omega) (by omega) (by omega) (by omega) (by omega), if_neg (by omega)]
        simp (disch := omega) only [k0, k180, MP0 (L_mod hX), Mv (L_mod hX), m_reg_y _ _ hr, m_reg_y _ _ hs, mwin, Option.bind_some, n_eq, show ¬ (1 = 0) by omega, ↓reduceIte]
  · refine ⟨-1, mz S A B c, _, ?_, ?_, fin⟩
    · unfold f_X11_alike
      simp only [k0, (hn _).1, Option.bind_some, eq_self, ↓reduceIte]
    · unfold f_X12_alike
      simp only [k0, MP0 (L_mod hX), Mv (L_mod hX), (hn _).2, Option.bind_some, eq_self, ↓reduceIte]
  · refine ⟨-1, mz S A B c, _, ?_, ?_, fin⟩
    · unfold f_X11_alike
      simp (disch := omega) only [k0, x_reg_y _ hr, (hn _).1, Option.bind_some, eq_self, n_eq, show ¬ (1 = 0) by omega, ↓reduceIte]
    · unfold f_X12_alike
      simp (disch := omega) only [k0, MP0 (L_mod hX), Mv (L_mod hX), m_reg_y _ _ hr, (hn _).2, Option.bind_some, eq_self, n_eq, show ¬ (1 = 0) by omega, ↓reduceIte]
theorem x_laid {S : SS} {A B : ZA} {c : (Nat × Nat) × (Nat → Nat)} (hX : LX S b) {x y : Nat} (hx : A (b + 236 + 25 * 0) 0 = (x : Int)) (hy : A (b + 236 + 25 * 1) 0 = (y : Int)) (x1 : x < 2) (y1 : y < 2) : f_X11_laidImages b (mz S A B c) = some (ii ((x + y : Nat) : Int), mz S A B c) := by
  have hv : ∀ k, k < 2 → A (b + 236 + 25 * k) 0 = ((if k = 0 then x else y : Nat) : Int) := fun k hk => by
    by_cases k0 : k = 0
    · rw [if_pos k0, k0]; exact hx
    · have : k = 1 := by omega
      rw [if_neg k0, this]; exact hy
  have key := jloop_run (f := f_X11_laidImages_L4 b) (fun i => (ii (((if i = 0 then 0 else if i = 1 then x else x + y : Nat)) : Int), ii (i : Int))) (fun _ => mz S A B c) 2 (fun i hi => by
    have e := hv i hi
    have hb : (if i = 0 then x else y) < 2 := by split <;> assumption
    unfold f_X11_laidImages_L4
    simp (disch := omega) only [k2, k0, k1, n_le, show ¬ (2 ≤ i) by omega, ↓reduceIte, XR7 hX, Option.bind_some, imR hX hi, imI hX hi, e, n_eq, n_add]
    by_cases i0 : i = 0
    · subst i0
      by_cases x0 : x = 0
      · simp [x0]
      · have : x = 1 := by omega
        simp [this]
    · have i1 : i = 1 := by omega
      subst i1
      by_cases y0 : y = 0
      · simp [y0]
      · have : y = 1 := by omega
        simp [this]) (t := (ii ((x + y : Nat) : Int), ii ((2 : Nat) : Int))) (h1 := mz S A B c) (by
    unfold f_X11_laidImages_L4
    simp (disch := omega) only [k2, n_le, Nat.le_refl, ↓reduceIte]
    rfl) (jF_big (by omega))
  unfold f_X11_laidImages
  have key' : jloop (f_X11_laidImages_L4 b) jF ((0 : Int32), (0 : Int32)) (mz S A B c) = some ((ii ((x + y : Nat) : Int), ii ((2 : Nat) : Int)), mz S A B c) := key
  rw [key']
  rfl
theorem op_count (v : Int32) : OPS b S0 A0 cc e (f_X11_count b v) (f_X12_count (b + 286) v) := by
  rintro h ⟨S, A, B, c, p, bs, nb, rfl, h1, h2⟩
  have hX := h2.1
  have fin : IH b S0 A0 cc e (mz S (za A (b + 286) (up (A (b + 286)) 0 ((0 : Nat) : Int))) B c) := by
    obtain ⟨g1, g2⟩ := IH_thrown (v := ((0 : Nat) : Int)) h1 h2
    exact ⟨S, _, B, c, p, bs, nb, rfl, g1, g2⟩
  obtain ⟨t, t1, t2, t3, t4⟩ := h1.2.2.2.1
  obtain ⟨n, n1, n2, n3, n4⟩ := h1.2.2.2.2.1
  have img := h1.2.2.2.2.2.2.2
  obtain ⟨i1, i2, _⟩ := img 0 (by omega)
  obtain ⟨j1, j2, _⟩ := img 1 (by omega)
  obtain ⟨x, hx, x1⟩ : ∃ x : Nat, A (b + 236 + 25 * 0) 0 = (x : Int) ∧ x < 2 := i2.elim (fun h => ⟨0, h, by omega⟩) (fun h => ⟨1, h, by omega⟩)
  obtain ⟨y, hy, y1⟩ : ∃ x : Nat, A (b + 236 + 25 * 1) 0 = (x : Int) ∧ x < 2 := j2.elim (fun h => ⟨0, h, by omega⟩) (fun h => ⟨1, h, by omega⟩)
  have u1 : za A (b + 286) (up (A (b + 286)) 0 ((0 : Nat) : Int)) (b + 286) 1 = p := by rw [za_at, up_ne _ _ (by omega)]; exact h1.2.2.1.1
  have u19 : za A (b + 286) (up (A (b + 286)) 0 ((0 : Nat) : Int)) (b + 286) 19 = (n : Int) := by rw [za_at, up_ne _ _ (by omega)]; exact n3
  have u12 : za A (b + 286) (up (A (b + 286)) 0 ((0 : Nat) : Int)) (b + 286) 12 = (t : Int) := by rw [za_at, up_ne _ _ (by omega)]; exact t3
  have v0 : A (b + 286 + 28) 0 = (x : Int) := by rw [← i1]; exact hx
  have v1 : A (b + 286 + 28) 1 = (y : Int) := by rw [← j1]; exact hy
  refine ⟨if v = ii ((0 : Nat) : Int) then ii p else if v = ii ((1 : Nat) : Int) then ii (n : Int) else if v = ii ((2 : Nat) : Int) then ii (t : Int) else if v = ii ((3 : Nat) : Int) then ii ((x + y : Nat) : Int) else -ii ((1 : Nat) : Int), mz S A B c, _, ?_, ?_, fin⟩
  · unfold f_X11_count
    simp (disch := omega) only [k0, k1, k2, k3, XI1 hX, XI2 hX, XI3 hX, Xv hX, h1.2.1, n2, t2, x_laid hX hx hy x1 y1, Option.bind_some]
    repeat' split
    all_goals rfl
  · unfold f_X12_count
    simp (disch := omega) only [k0, k1, k2, k3, MP0 (L_mod hX), MI1 (L_mod hX), MI19 (L_mod hX), MI12 (L_mod hX), u1, u19, u12, MR45 (L_mod hX), Ma28 (L_mod hX), za_ne, v0, v1, n_eq, n_add, Option.bind_some]
    by_cases a0 : v = ii ((0 : Nat) : Int)
    · rw [if_pos a0, if_pos a0]
    · rw [if_neg a0, if_neg a0]
      by_cases a1 : v = ii ((1 : Nat) : Int)
      · rw [if_pos a1, if_pos a1]
      · rw [if_neg a1, if_neg a1]
        by_cases a2 : v = ii ((2 : Nat) : Int)
        · rw [if_pos a2, if_pos a2]
        · rw [if_neg a2, if_neg a2]
          by_cases a3 : v = ii ((3 : Nat) : Int)
          · rw [if_pos a3, if_pos a3]
            by_cases x0 : x = 0
            · by_cases y0 : y = 0
              · rw [if_pos x0, if_pos y0, x0, y0]
              · have : y = 1 := by omega
                rw [if_pos x0, if_neg y0, x0, this]
            · have hx1 : x = 1 := by omega
              by_cases y0 : y = 0
              · rw [if_neg x0, if_pos y0, hx1, y0]
              · have : y = 1 := by omega
                rw [if_neg x0, if_neg y0, hx1, this]
          · rw [if_neg a3, if_neg a3]
theorem op_small (v : Int32) : OPS b S0 A0 cc e (f_X11_small b v) (f_X12_small (b + 286) v) := by
  rintro h ⟨S, A, B, c, p, bs, nb, rfl, h1, h2⟩
  have hX := h2.1
  have fin : IH b S0 A0 cc e (mz S (za A (b + 286) (up (A (b + 286)) 0 ((0 : Nat) : Int))) B c) := by
    obtain ⟨g1, g2⟩ := IH_thrown (v := ((0 : Nat) : Int)) h1 h2
    exact ⟨S, _, B, c, p, bs, nb, rfl, g1, g2⟩
  obtain ⟨d, rfl, d1, d2⟩ := any_int v
  refine ⟨ii (cnS d), mz S A B c, _, ?_, ?_, fin⟩
  · unfold f_X11_small
    rw [cn_small _ ⟨d1, d2⟩]
    rfl
  · unfold f_X12_small
    rw [k0, MP0 (L_mod hX)]
    simp only [Option.bind_some]
    rw [(cn_disc _ ⟨d1, d2⟩).2]
    simp only [Option.bind_some]
    by_cases q : cnD d = true
    · rw [if_pos q, if_neg (by decide)]
      have := cn_counts0 (mz S (za A (b + 286) (up (A (b + 286)) 0 ((0 : Nat) : Int))) B c) q
      rw [← k0, this]
      unfold cnS
      rw [if_pos q]
      rfl
    · rw [if_neg q, if_pos (show (0 : Int32) = ii ((0 : Nat) : Int) from rfl)]
      unfold cnS
      rw [if_neg q]
      rfl
end ops
