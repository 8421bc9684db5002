/-! Roots: a space with its roots, the reference's, the call root. -/
theorem pc_r {p : Int} (hp : 1 < p) (T : Nat → Nat → Int) (s i : Nat) : 0 ≤ pc p T s i ∧ pc p T s i < p := (fl_r hp T s (s - i)).2
theorem pc_s {p : Int} (T : Nat → Nat → Int) (s : Nat) : pc p T s s = 1 := by unfold pc; rw [Nat.sub_self]; rfl
theorem rtl_len {p : Int} (hP : PR p) (w : Nat) : (rtl p w).length ≤ Lk w - 1 := by
  unfold rtl
  split
  · simp
  · exact zl_len hP (pc_s _ _) (by have := hP.1; omega)
theorem rtl_mem {p : Int} (hP : PR p) (w : Nat) {j : Nat} (hj : j < (rtl p w).length) : (((rtl p w).getD j 0 : Nat) : Int) < p := by
  have hp := hP.1
  have : (rtl p w).getD j 0 ∈ rtl p w := by
    rw [List.getD_eq_getElem?_getD, List.getElem?_eq_getElem hj]
    exact List.getElem_mem hj
  have h : ∀ x ∈ rtl p w, (x : Int) < p := by
    unfold rtl
    split
    · intro x hx; cases hx
    · intro x hx; have := ((zl_mem _ _).1 x hx).1; omega
  exact h _ this
section ops
variable {b : Nat} {S0 : SS} {A0 : ZA} {cc : Nat → Nat} {e : Nat}
theorem x_swr {S : SS} {A B : ZA} {c : (Nat × Nat) × (Nat → Nat)} {p : Int} {bs nb : Nat → Nat} (h1 : CORE A B b p) (h2 : DYN b S0 A0 cc e S A B c p bs nb) {i : Nat} (hi : i < 31) :
    ∃ S' A' c' bs' nb', f_X11_spaceWithRoots b (ii ((2 * i : Nat) : Int)) (mz S A B c) = some (b + 42 + 3 * i, mz S' A' B c') ∧ CORE A' B b p ∧ DYN b S0 A0 cc e S' A' B c' p bs' nb' ∧ A' (b + 42 + 3 * i) 6 = (((rtl p (2 * i)).length : Nat) : Int) ∧ (∀ j, j < (rtl p (2 * i)).length → A' (b + 44 + 3 * i) j = (((rtl p (2 * i)).getD j 0 : Nat) : Int)) ∧ (i ≠ 1 → Rdy A' b i p ((Lk (2 * i) - 1) * 2) ∧ Rdy A' b i p 36) := by
  have hX := h2.1
  have hP := h1.1
  have hp := PR_p hP
  have hL := Lk_r (k := 2 * i) (by omega)
  obtain ⟨h', e1, S', A', c', bs', nb', rfl, g1, g2, g3⟩ := x_ready (n := (Lk (2 * i) - 1) * 2) (i := i) h2.2.1 (L_sps hX) hP hi (by omega)
  obtain ⟨t1, t2⟩ := IH_ready h1 h2 g1 g2
  have hX' := t2.1
  have hs := (g1.1.1 i hi).1
  have rt := t2.2.2.2.2.1 i hi
  have r7 : -2147483648 ≤ A' (b + 42 + 3 * i) 7 ∧ A' (b + 42 + 3 * i) 7 < 2147483648 := by
    rcases rt with h | ⟨h, _⟩
    · omega
    · have := PR_p h; omega
  have rdy : i ≠ 1 → Rdy A' b i p ((Lk (2 * i) - 1) * 2) ∧ Rdy A' b i p 36 := fun h => ⟨g3 h, Rdy_36 g1 hi hP (g3 h)⟩
  unfold f_X11_spaceWithRoots
  simp (disch := omega) only [XR8 hX, XI2 hX, h1.2.1, Option.bind_some, x_cusps _ (show 2 * i ≤ 60 by omega), LSp_v (L_sps hX), k2, n_mul, e1, PI7 hs.1, XI2 hX', t1.2.1, i_eq]
  by_cases q : A' (b + 42 + 3 * i) 7 = p
  · rw [if_pos q]
    rcases rt with h | ⟨_, h3, h4⟩
    · have := hP.1; omega
    · rw [q] at h3 h4
      exact ⟨S', A', c', bs', nb', rfl, t1, t2, h3, h4, rdy⟩
  · rw [if_neg q]
    have rdl : 2 ≤ Lk (2 * i) → Rdy A' b i p ((Lk (2 * i) - 1) * 2) := fun h => g3 (fun z => by
      subst z
      have : Lk (2 * 1) = 0 := rfl
      omega)
    obtain ⟨A1, e3, a1, a2, a3, a4⟩ := x_load (B := B) (c := c') hX' g1 hP hi (n := 2) (by omega) rdl
    have ot : OTab A1 b (Lk (2 * i) - 1) p (TT p (2 * i) 2) := ⟨a1, fun h => by rw [a2]; exact (rdl (by omega)).1, a3⟩
    obtain ⟨A2, e4, c1, c2⟩ := x_poly (A := A1) (B := B) (c := c') hX' (by omega) hp.1 hp.2 ot (TT_r (by omega) (2 * i) 2)
    have s5 : A2 (b + 135) 5 = A' (b + 42 + 3 * i) 3 := by rw [c2 _ (by omega) (fun i _ => by omega), a2]
    have r3 : -2147483648 ≤ A' (b + 42 + 3 * i) 3 ∧ A' (b + 42 + 3 * i) 3 < 2147483648 := by
      rcases g1.1.2.2.2 i hi with h0 | ⟨l2, m1, _⟩
      · omega
      · have := PR_p m1; omega
    obtain ⟨A3, e5, o1, o2⟩ := x_roots (A := A2) (B := B) (c := c') (a := b + 44 + 3 * i) (C := pc p (TT p (2 * i) 2) (Lk (2 * i) - 1)) hX' (by omega) hP (by rw [c2 _ (by omega) (fun i _ => by omega)]; exact a1) (fun h => by rw [s5]; exact (rdl (by omega)).1) (by rw [s5]; exact r3) (fun j hj => ⟨c1 j hj, pc_r (by omega) _ _ _⟩) (pc_s _ _) (L_rts hX' i hi) (by omega)
    have er : (if Lk (2 * i) - 1 = 0 then [] else zl (fun x => hr p (pc p (TT p (2 * i) 2) (Lk (2 * i) - 1)) (x : Int) (Lk (2 * i) - 1) (Lk (2 * i) - 1 + 1)) p.toNat) = rtl p (2 * i) := rfl
    rw [er] at e5 o1
    have g : ∀ x, x < b + 135 ∨ b + 155 ≤ x → x ≠ b + 44 + 3 * i → A3 x = A' x := fun x hx hx2 => by rw [o2 x hx2, c2 x (by omega) (fun i _ => by omega), a4 x (by omega) (fun r _ => by omega)]
    simp only [XR9 hX', Ov hX', Option.bind_some]
    have k2' : ii ((2 : Nat) : Int) = ii (((2 : Nat)) : Int) := rfl
    rw [e3]
    simp only [Option.bind_some, XR9 hX', Ov hX', e4, PR5 hs.1, e5, PP6 hs.1, XI2 hX', PP7 hs.1, za_za, za_at]
    have x2 : za A3 (b + 42 + 3 * i) (up (A3 (b + 42 + 3 * i)) 6 (((rtl p (2 * i)).length : Nat) : Int)) b 2 = p := by rw [za_ne _ _ (by omega), g _ (by omega) (by omega)]; exact t1.2.1
    rw [x2]
    generalize hA4 : za A3 (b + 42 + 3 * i) (up (up (A3 (b + 42 + 3 * i)) 6 (((rtl p (2 * i)).length : Nat) : Int)) 7 p) = A4
    have f4 : ∀ x, x < b + 135 ∨ b + 155 ≤ x → x ≠ b + 44 + 3 * i → x ≠ b + 42 + 3 * i → A4 x = A' x := fun x u1 u2 u3 => by rw [← hA4, za_ne _ _ u3, g x u1 u2]
    have f4s : ∀ k, k ≠ 6 → k ≠ 7 → A4 (b + 42 + 3 * i) k = A' (b + 42 + 3 * i) k := fun k u1 u2 => by rw [← hA4, za_at, up_ne _ _ u2, up_ne _ _ u1, g _ (by omega) (by omega)]
    have f46 : A4 (b + 42 + 3 * i) 6 = (((rtl p (2 * i)).length : Nat) : Int) := by rw [← hA4, za_at, up_ne _ _ (by omega), up_at]
    have f47 : A4 (b + 42 + 3 * i) 7 = p := by rw [← hA4, za_at, up_at]
    have f4r : ∀ j, j < (rtl p (2 * i)).length → A4 (b + 44 + 3 * i) j = (((rtl p (2 * i)).getD j 0 : Nat) : Int) := fun j hj => by rw [← hA4, za_ne _ _ (by omega)]; exact o1 j hj
    obtain ⟨d1, d2, d3, d4, d5, d6, d7⟩ := t2
    refine ⟨S', A4, c', bs', nb', rfl, CORE_frame t1 ⟨fun x hx => f4 x (by omega) (by omega) (by omega), fun x _ _ => f4 x (by omega) (by omega) (by omega), fun k hk => by rw [f4 _ (by omega) (by omega) (by omega)], fun o ho => f4 _ (by omega) (by omega) (by omega)⟩ (FRB_refl b B), ⟨d1, SG_of d2 (fun x hx => f4 x (by omega) (by omega) (by omega)) (fun i' hi' k hk => ?_) (fun _ _ => rfl), d3, RC_of d4 (by rw [f4 _ (by omega) (by omega) (by omega)]) (f4 _ (by omega) (by omega) (by omega)), fun i' hi' => ?_, fun x hx => ⟨(d6 x hx).1, by rw [f4 x (by omega) (by omega) (by omega)]; exact (d6 x hx).2⟩, d7⟩, f46, f4r, fun h => ?_⟩
    · by_cases z : i' = i
      · subst z; exact f4s k (by omega) (by omega)
      · rw [f4 _ (by omega) (by omega) (by omega)]
    · by_cases z : i' = i
      · subst z
        rw [f47]
        exact Or.inr ⟨hP, f46, f4r⟩
      · rw [f4 _ (by omega) (by omega) (by omega), f4 (b + 44 + 3 * i') (by omega) (by omega) (by omega)]
        exact d5 i' hi'
    · have eq : ∀ l, Rdy A' b i p l → Rdy A4 b i p l := fun l ⟨u1, l', u2, u3⟩ => ⟨by rw [f4s 3 (by omega) (by omega)]; exact u1, l', by rw [f4s 4 (by omega) (by omega)]; exact u2, u3⟩
      exact ⟨eq _ (rdy h).1, eq _ (rdy h).2⟩
theorem m_hr {S : SS} {A B : ZA} {c : (Nat × Nat) × (Nat → Nat)} {m s x : Nat} {p : Int} {C : Nat → Int} (hM : LM S m) (hs : s ≤ 5) (hp : 1 < p) (hp2 : p < 10000) (h1 : A m 1 = p) (hC : ∀ i, i ≤ s → A (m + 21) i = C i ∧ 0 ≤ C i ∧ C i < p) (hx : (x : Int) < p) :
    jloop (f_X12_laysRoots_L40 m (ii (x : Int))) jF (ll 0, ii (s : Int)) (mz S A B c) = some ((ll (hr p C (x : Int) s (s + 1)), ii (-1)), mz S A B c) := by
  have key := jloop_run (f := f_X12_laysRoots_L40 m (ii (x : Int))) (fun t => (ll (hr p C (x : Int) s t), ii ((s : Int) - (t : Int)))) (fun _ => mz S A B c) (s + 1) (fun t ht => by
    obtain ⟨c1, c2, c3⟩ := hC (s - t) (by omega)
    have r1 := hr_r hp C (x : Int) s t
    have r2 := pr_r (x := hr p C (x : Int) s t) (y := (x : Int)) ⟨r1.1, by omega⟩ ⟨by omega, by omega⟩
    unfold f_X12_laysRoots_L40
    rw [show (s : Int) - (t : Int) = ((s - t : Nat) : Int) by omega, show (s : Int) - ((t + 1 : Nat) : Int) = ((s - t : Nat) : Int) + -1 by omega]
    simp (disch := omega) only [k0, n_lt, show ¬ (s - t < 0) by omega, ↓reduceIte, MR36 hM, Option.bind_some, Ma21 hM, c1, MI1 hM, h1, i_l, jnzL_p, ll_mul, ll_add]
    rw [ll_rem (r63_of (by omega) (by omega)) (r63_of (by omega) (by omega)) (by omega), Int.tmod_eq_emod_of_nonneg (by omega), show (-1 : Int32) = ii (-1) from rfl, ii_add]
    rfl) (t := (ll (hr p C (x : Int) s (s + 1)), ii (-1))) (h1 := mz S A B c) (by
    unfold f_X12_laysRoots_L40
    rw [show (s : Int) - ((s + 1 : Nat) : Int) = -1 by omega]
    exact if_pos (show ii (-1) < (0 : Int32) by decide)) (jF_big (by omega))
  rw [show (s : Int) - ((0 : Nat) : Int) = (s : Int) by omega] at key
  exact key
theorem lg_z {x : Int} (h1 : 0 ≤ x) (h2 : x < 10000) : lg_cmp (ll x) (0 : Int64) = (0 : Int32) ↔ x = 0 := by
  by_cases q : x = 0
  · subst q; exact ⟨fun _ => rfl, fun _ => lg_0⟩
  · refine ⟨fun h => ?_, fun h => absurd h q⟩
    have hn : ¬ (ll x = (0 : Int64)) := by rw [g0, ll_eq (r63_of (by omega) (by omega)) (r63_of (by omega) (by omega))]; exact q
    unfold lg_cmp at h
    split at h
    · exact absurd h (by decide)
    · exact absurd h (by decide)
theorem m_roots {S : SS} {A B : ZA} {c : (Nat × Nat) × (Nat → Nat)} {m w : Nat} {p : Int} (hM : LM S m) (hB : Bas A m p) (hR : RC A m p) (hP : PR p) (hw : w ≤ 60) (hw2 : w % 2 = 0) :
    ∃ A' : ZA, f_X12_laysRoots m (ii (w : Int)) (mz S A B c) = some ((), mz S A' B c) ∧ A' m 39 = (((rtl p w).length : Nat) : Int) ∧ (∀ j, j < (rtl p w).length → A' (m + 24) j = (((rtl p w).getD j 0 : Nat) : Int)) ∧ A' m 35 = ((Lk w - 1 : Nat) : Int) ∧ (∀ i, i < Lk w - 1 → ∀ j, j < Lk w - 1 → A' (m + 20) (6 * i + j) = TT p w 2 i j) ∧ RC A' m p ∧ (∀ k, k ≠ 7 → k ≠ 35 → k ≠ 39 → A' m k = A m k) ∧ (∀ x, x ≠ m → ¬ (m + 4 ≤ x ∧ x ≤ m + 8) → ¬ (m + 20 ≤ x ∧ x ≤ m + 24) → A' x = A x) := by
  have hp := PR_p hP
  have hL := Lk_r hw
  obtain ⟨A1, e1, a1, a2, a3, a4, a5⟩ := m_table (A := A) (B := B) (c := c) hM hB hR hP hw hw2 (n := 2) (by omega)
  obtain ⟨A2, e2, b1, b2⟩ := m_poly (A := A1) (B := B) (c := c) (T := TT p w 2) hM (by omega) hp.1 hp.2 (by rw [a4 _ (by omega) (by omega)]; exact hB.1) a1 a2 (TT_r (by omega) w 2)
  unfold f_X12_laysRoots
  rw [Mv hM]
  simp only [Option.bind_some, k2]
  rw [e1]
  simp only [Option.bind_some, Mv hM, e2, k0, MP39 hM]
  generalize hA3 : za A2 m (up (A2 m) 39 ((0 : Nat) : Int)) = A3
  have f3 : ∀ x, x ≠ m → A3 x = A2 x := fun x hx => by rw [← hA3, za_ne _ _ hx]
  have f3m : ∀ k, k ≠ 39 → A3 m k = A1 m k := fun k hk => by rw [← hA3, za_at, up_ne _ _ hk, b2 _ (by omega) (by omega) (by omega)]
  have f39 : A3 m 39 = 0 := by rw [← hA3, za_at, up_at]; rfl
  have m1 : A3 m 1 = p := by rw [f3m 1 (by omega), a4 _ (by omega) (by omega)]; exact hB.1
  have m35 : A3 m 35 = ((Lk w - 1 : Nat) : Int) := by rw [f3m 35 (by omega)]; exact a1
  -- the answer, with what is kept
  have fin : ∀ (t : Int32) (A' : ZA), jloop (f_X12_laysRoots_L17 m) jF (ii ((0 : Nat) : Int)) (mz S A3 B c) = some (t, mz S A' B c) → A' m 39 = (((rtl p w).length : Nat) : Int) → (∀ j, j < (rtl p w).length → A' (m + 24) j = (((rtl p w).getD j 0 : Nat) : Int)) → (∀ k, k ≠ 39 → A' m k = A3 m k) → (∀ x, x ≠ m → x ≠ m + 24 → A' x = A3 x) → ∃ A' : ZA, ((jloop (f_X12_laysRoots_L17 m) jF (ii ((0 : Nat) : Int)) (mz S A3 B c)).bind fun q28 => some ((), q28.2)) = some ((), mz S A' B c) ∧ A' m 39 = (((rtl p w).length : Nat) : Int) ∧ (∀ j, j < (rtl p w).length → A' (m + 24) j = (((rtl p w).getD j 0 : Nat) : Int)) ∧ A' m 35 = ((Lk w - 1 : Nat) : Int) ∧ (∀ i, i < Lk w - 1 → ∀ j, j < Lk w - 1 → A' (m + 20) (6 * i + j) = TT p w 2 i j) ∧ RC A' m p ∧ (∀ k, k ≠ 7 → k ≠ 35 → k ≠ 39 → A' m k = A m k) ∧ (∀ x, x ≠ m → ¬ (m + 4 ≤ x ∧ x ≤ m + 8) → ¬ (m + 20 ≤ x ∧ x ≤ m + 24) → A' x = A x) := by
    intro t A' h1 h2 h3 h4 h5
    refine ⟨A', by rw [h1]; rfl, h2, h3, by rw [h4 _ (by omega)]; exact m35, fun i hi j hj => by rw [h5 _ (by omega) (by omega), f3 _ (by omega), b2 _ (by omega) (by omega) (by omega)]; exact a2 i hi j hj, RC_of a3 (by rw [h4 _ (by omega), f3m _ (by omega)]) (by rw [h5 _ (by omega) (by omega), f3 _ (by omega), b2 _ (by omega) (by omega) (by omega)]), fun k k1 k2 k3 => by rw [h4 k k3, f3m k k3, a4 k k1 k2], fun x x1 x2 x3 => by rw [h5 x x1 (by omega), f3 x x1, b2 x (by omega) (by omega) (by omega), a5 x x1 (by omega) (by omega) (by omega) (by omega) (by omega) (by omega)]⟩
  by_cases s0 : Lk w - 1 = 0
  · have er : rtl p w = [] := by unfold rtl; rw [if_pos s0]
    refine fin (ii ((0 : Nat) : Int)) A3 (jloop_end (n := 19999) ?_) (by rw [er]; exact f39) (fun j hj => by rw [er] at hj; simp at hj) (fun _ _ => rfl) (fun _ _ _ => rfl)
    unfold f_X12_laysRoots_L17
    rw [MI1 hM, m1]
    simp only [Option.bind_some]
    rw [if_neg (by rw [i_le (by omega) (by omega) (by omega) (by omega)]; omega), MI35 hM, m35, s0]
    simp only [Option.bind_some]
    rw [if_pos (by decide)]
  · have er : rtl p w = zl (fun x => hr p (pc p (TT p w 2) (Lk w - 1)) (x : Int) (Lk w - 1) (Lk w - 1 + 1)) p.toNat := by unfold rtl; rw [if_neg s0]
    generalize hs : Lk w - 1 = s at *
    have step : ∀ (k x : Nat), x + k = p.toNat → ∀ (A5 : ZA) (fuel : Nat), k < fuel → A5 m 39 = (((zl (fun x => hr p (pc p (TT p w 2) s) (x : Int) s (s + 1)) x).length : Nat) : Int) → (∀ j, j < (zl (fun x => hr p (pc p (TT p w 2) s) (x : Int) s (s + 1)) x).length → A5 (m + 24) j = (((zl (fun x => hr p (pc p (TT p w 2) s) (x : Int) s (s + 1)) x).getD j 0 : Nat) : Int)) → (∀ k, k ≠ 39 → A5 m k = A3 m k) → (∀ y, y ≠ m → y ≠ m + 24 → A5 y = A3 y) → ∃ t A', jloop (f_X12_laysRoots_L17 m) fuel (ii (x : Int)) (mz S A5 B c) = some (t, mz S A' B c) ∧ A' m 39 = (((zl (fun x => hr p (pc p (TT p w 2) s) (x : Int) s (s + 1)) p.toNat).length : Nat) : Int) ∧ (∀ j, j < (zl (fun x => hr p (pc p (TT p w 2) s) (x : Int) s (s + 1)) p.toNat).length → A' (m + 24) j = (((zl (fun x => hr p (pc p (TT p w 2) s) (x : Int) s (s + 1)) p.toNat).getD j 0 : Nat) : Int)) ∧ (∀ k, k ≠ 39 → A' m k = A3 m k) ∧ (∀ y, y ≠ m → y ≠ m + 24 → A' y = A3 y) := by
      intro k
      induction k with
      | zero =>
        intro x hx A5 fuel hf q1 q2 q3 q4
        obtain ⟨fu, rfl⟩ : ∃ q, fuel = q + 1 := ⟨fuel - 1, by omega⟩
        have e : x = p.toNat := by omega
        subst e
        refine ⟨ii ((p.toNat : Nat) : Int), A5, jloop_end ?_, q1, q2, q3, q4⟩
        have e1 : A5 m 1 = ((p.toNat : Nat) : Int) := by rw [q3 _ (by omega), m1]; omega
        unfold f_X12_laysRoots_L17
        simp (disch := omega) only [MI1 hM, e1, Option.bind_some, n_le, Nat.le_refl, ↓reduceIte]
      | succ k ih =>
        intro x hx A5 fuel hf q1 q2 q3 q4
        obtain ⟨fu, rfl⟩ : ∃ q, fuel = q + 1 := ⟨fuel - 1, by omega⟩
        have hlen := zl_len hP (pc_s (p := p) (TT p w 2) s) (N := x) (by omega)
        have e1 : A5 m 1 = ((p.toNat : Nat) : Int) := by rw [q3 _ (by omega), m1]; omega
        have e35 : A5 m 35 = (s : Int) := by rw [q3 _ (by omega)]; exact m35
        have pa := m_hr (A := A5) (B := B) (c := c) (x := x) (s := s) (C := pc p (TT p w 2) s) hM (by omega) (by omega) hp.2 (by rw [e1]; omega) (fun i hi => ⟨by rw [q4 _ (by omega) (by omega), f3 _ (by omega)]; exact b1 i hi, pc_r (by omega) _ _ _⟩) (by omega)
        have vr := hr_r (p := p) (by omega) (pc p (TT p w 2) s) (x : Int) s (s + 1)
        have hhead : f_X12_laysRoots_L17 m (ii (x : Int)) (mz S A5 B c) = if hr p (pc p (TT p w 2) s) (x : Int) s (s + 1) = 0 then (jsI (mz S A5 B c) (m + 24) (ii (A5 m 39)) (ii (x : Int))).bind (fun h19 => (jgI h19 m 9 39).bind fun v21 => (jput h19 m 9 39 (.int (v21 + (1 : Int32)))).bind fun h23 => some (.inl (ii ((x + 1 : Nat) : Int)), h23)) else some (.inl (ii ((x + 1 : Nat) : Int)), mz S A5 B c) := by
          unfold f_X12_laysRoots_L17
          simp (disch := omega) only [MI1 hM, e1, MI35 hM, e35, Option.bind_some, n_le, show ¬ (p.toNat ≤ x) by omega, show ¬ (s ≤ 0) by omega, k0, ↓reduceIte, g0, pa, MR40 hM, MI39 hM]
          have := lg_z vr.1 (by omega)
          rw [g0, k0] at this
          by_cases z : hr p (pc p (TT p w 2) s) (x : Int) s (s + 1) = 0
          · rw [if_pos z, if_pos (this.mpr z), k1, n_add]
          · rw [if_neg z, if_neg (fun h => z (this.mp h)), k1, n_add]
        by_cases z : hr p (pc p (TT p w 2) s) (x : Int) s (s + 1) = 0
        · have hz : zl (fun x => hr p (pc p (TT p w 2) s) (x : Int) s (s + 1)) (x + 1) = zl (fun x => hr p (pc p (TT p w 2) s) (x : Int) s (s + 1)) x ++ [x] := zl_app (P := fun x => hr p (pc p (TT p w 2) s) (x : Int) s (s + 1)) z
          rw [if_pos z, q1, Ms24 hM (by omega)] at hhead
          simp only [Option.bind_some, MI39 hM] at hhead
          rw [za_ne _ _ (show m ≠ m + 24 by omega), q1, k1, n_add, MP39 hM] at hhead
          simp only [Option.bind_some] at hhead
          rw [jloop_go hhead]
          refine ih (x + 1) (by omega) _ fu (by omega) ?_ (fun j hj => ?_) (fun k' hk' => ?_) (fun y y1 y2 => ?_)
          · rw [za_at, up_at, hz, List.length_append, List.length_singleton]
          · rw [hz] at hj ⊢
            rw [List.length_append, List.length_singleton] at hj
            rw [za_ne _ _ (by omega), za_at]
            by_cases ej : j = (zl (fun x => hr p (pc p (TT p w 2) s) (x : Int) s (s + 1)) x).length
            · rw [ej, up_at, getD_r]
            · rw [up_ne _ _ ej, getD_l (by omega)]; exact q2 j (by omega)
          · rw [za_at, up_ne _ _ hk', za_ne _ _ (by omega)]; exact q3 k' hk'
          · rw [za_ne _ _ y1, za_ne _ _ y2]; exact q4 y y1 y2
        · have hz : zl (fun x => hr p (pc p (TT p w 2) s) (x : Int) s (s + 1)) (x + 1) = zl (fun x => hr p (pc p (TT p w 2) s) (x : Int) s (s + 1)) x := zl_no (P := fun x => hr p (pc p (TT p w 2) s) (x : Int) s (s + 1)) z
          rw [if_neg z] at hhead
          rw [jloop_go hhead]
          exact ih (x + 1) (by omega) A5 fu (by omega) (by rw [hz]; exact q1) (by rw [hz]; exact q2) q3 q4
    obtain ⟨t, A', u1, u2, u3, u4, u5⟩ := step p.toNat 0 (by omega) A3 jF (jF_big (by omega)) (by rw [f39]; rfl) (fun j hj => by simp [zl] at hj) (fun _ _ => rfl) (fun _ _ _ => rfl)
    exact fin t A' u1 (by rw [er]; exact u2) (by rw [er]; exact u3) u4 u5
end ops
