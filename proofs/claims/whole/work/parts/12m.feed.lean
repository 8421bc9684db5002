/-! Call feed. -/
def bt (a : Int32) (i : Nat) : Int := ((a >>> (ii (24 - 8 * (i : Int)) &&& 31)).toInt8.toInt32).toInt
theorem bt_ii (a : Int32) (i : Nat) : (a >>> (ii (24 - 8 * (i : Int)) &&& 31)).toInt8.toInt32 = ii (bt a i) := ii_of _
theorem bt_r (a : Int32) (i : Nat) : -128 ≤ bt a i ∧ bt a i < 128 := by
  unfold bt
  rw [Int8.toInt_toInt32]
  have h1 := Int8.le_toInt ((a >>> (ii (24 - 8 * (i : Int)) &&& 31)).toInt8)
  have h2 := Int8.toInt_lt ((a >>> (ii (24 - 8 * (i : Int)) &&& 31)).toInt8)
  omega
theorem bt_n (a : Int32) (i : Nat) : vp_nar .byte (ii (bt a i)) = ii (bt a i) := by
  rw [← bt_ii]
  show ((a >>> (ii (24 - 8 * (i : Int)) &&& 31)).toInt8.toInt32).toInt8.toInt32 = _
  rw [Int8.toInt8_toInt32]
def FD (A A' : ZA) (o y f t j : Nat) (w : Nat → Int32) : Prop := A' o f = ((t + 4 * j : Nat) : Int) ∧ (∀ k, k < t → A' y k = A y k) ∧ (∀ k, k < 4 * j → A' y (t + k) = bt (w (k / 4)) (k % 4)) ∧ (∀ k, k ≠ f → A' o k = A o k) ∧ (∀ x, x ≠ o → x ≠ y → A' x = A x)
/-- one byte more: the places between are told by i -/
def FDi (A A' : ZA) (o y f t j i : Nat) (w : Nat → Int32) : Prop := A' o f = ((t + 4 * j + i : Nat) : Int) ∧ (∀ k, k < t → A' y k = A y k) ∧ (∀ k, k < 4 * j + i → A' y (t + k) = bt (w (k / 4)) (k % 4)) ∧ (∀ k, k ≠ f → A' o k = A o k) ∧ (∀ x, x ≠ o → x ≠ y → A' x = A x)
theorem FDi_up {A A1 : ZA} {o y f t j i : Nat} {w : Nat → Int32} (ho : o ≠ y) (hi : i < 4) (h : FDi A A1 o y f t j i w) : FDi A (za (za A1 y (up (A1 y) (t + 4 * j + i) (bt (w j) i))) o (up (za A1 y (up (A1 y) (t + 4 * j + i) (bt (w j) i)) o) f ((t + 4 * j + i + 1 : Nat) : Int))) o y f t j (i + 1) w := by
  obtain ⟨h1, h2, h3, h4, h5⟩ := h
  refine ⟨by rw [za_at, up_at]; rfl, fun k hk => ?_, fun k hk => ?_, fun k hk => ?_, fun x x1 x2 => ?_⟩
  · rw [za_ne _ _ (fun x => ho x.symm), za_at, up_ne _ _ (by omega)]; exact h2 k hk
  · rw [za_ne _ _ (fun x => ho x.symm), za_at]
    by_cases q : k = 4 * j + i
    · subst q
      rw [show t + (4 * j + i) = t + 4 * j + i by omega, up_at, show (4 * j + i) / 4 = j by omega, show (4 * j + i) % 4 = i by omega]
    · rw [up_ne _ _ (by omega)]; exact h3 k (by omega)
  · rw [za_at, up_ne _ _ hk, za_ne _ _ ho]; exact h4 k hk
  · rw [za_ne _ _ x1, za_ne _ _ x2]; exact h5 x x1 x2
theorem dn8 (t : Nat) (ht : t < 4) : ¬ (ii (24 - 8 * (t : Int)) < ii ((0 : Nat) : Int)) ∧ ii (24 - 8 * (t : Int)) + (-8 : Int32) = ii (24 - 8 * ((t + 1 : Nat) : Int)) := by
  refine ⟨?_, ?_⟩
  · rw [i_lt (by omega) (by omega) (by omega) (by omega)]; omega
  · rw [show (-8 : Int32) = ii (-8) from rfl, ii_add]
    congr 1
    omega
section ops
variable {b : Nat} {S0 : SS} {A0 : ZA} {cc : Nat → Nat} {e : Nat}
theorem x_four {S : SS} {A A1 B : ZA} {c : (Nat × Nat) × (Nat → Nat)} {t j : Nat} {w : Nat → Int32} (hX : LX S b) (ht : t + 20 ≤ 600) (hj : j < 5) (h : FD A A1 b (b + 1) 1 t j w) :
    ∃ A' : ZA, f_X11_feedFour b (w j) (mz S A1 B c) = some ((), mz S A' B c) ∧ FD A A' b (b + 1) 1 t (j + 1) w := by
  have key := z_run (S := S) (B := B) (c := c) (f := f_X11_feedFour_L3 b (w j)) (fun i => ii (24 - 8 * (i : Int))) (fun i A' => FDi A A' b (b + 1) 1 t j i w) 4 (t := ii (24 - 8 * ((4 : Nat) : Int))) (by omega) (fun i hi A2 y => by
    have d := dn8 i hi
    have e1 : A2 b 1 = ((t + 4 * j + i : Nat) : Int) := y.1
    have st := jsB_zv (S := S) (A := A2) (B := B) (n := c) (L_tape hX) (z := ((t + 4 * j + i : Nat) : Int)) (k := t + 4 * j + i) rfl (by omega) (by omega) (bt_n (w j) i)
    refine ⟨_, ?_, FDi_up (by omega) hi y⟩
    unfold f_X11_feedFour_L3
    rw [k0, if_neg d.1]
    simp (disch := omega) only [XI1 hX, e1, Option.bind_some, k600, n_le, show ¬ (600 ≤ t + 4 * j + i) by omega, ↓reduceIte, XR0 hX, bt_ii, st, za_ne _ _ (show b ≠ b + 1 by omega), k1, n_add, XP1 hX, d.2]) (fun A2 y => by
    unfold f_X11_feedFour_L3
    rw [if_pos (by decide)]) (A0 := A1) ⟨h.1, h.2.1, h.2.2.1, h.2.2.2⟩
  obtain ⟨A', e1, y⟩ := key
  have e1' : jloop (f_X11_feedFour_L3 b (w j)) jF (24 : Int32) (mz S A1 B c) = some (ii (24 - 8 * ((4 : Nat) : Int)), mz S A' B c) := e1
  unfold f_X11_feedFour
  rw [e1']
  obtain ⟨y1, y2, y3, y4⟩ := y
  exact ⟨A', rfl, by rw [y1]; omega, y2, fun k hk => y3 k (by omega), y4⟩
theorem m_four {S : SS} {A A1 B : ZA} {c : (Nat × Nat) × (Nat → Nat)} {m t j : Nat} {w : Nat → Int32} (hM : LM S m) (ht : t + 20 ≤ 600) (hj : j < 5) (h : FD A A1 m (m + 9) 12 t j w) :
    ∃ A' : ZA, f_X12_puts m (w j) (mz S A1 B c) = some ((), mz S A' B c) ∧ FD A A' m (m + 9) 12 t (j + 1) w := by
  have key := z_run (S := S) (B := B) (c := c) (f := f_X12_puts_L3 m (w j)) (fun i => ii (24 - 8 * (i : Int))) (fun i A' => FDi A A' m (m + 9) 12 t j i w) 4 (t := ii (24 - 8 * ((4 : Nat) : Int))) (by omega) (fun i hi A2 y => by
    have d := dn8 i hi
    have e1 : A2 m 12 = ((t + 4 * j + i : Nat) : Int) := y.1
    have st := jsB_zv (S := S) (A := A2) (B := B) (n := c) (MS9 hM) (z := ((t + 4 * j + i : Nat) : Int)) (k := t + 4 * j + i) rfl (by omega) (by omega) (bt_n (w j) i)
    refine ⟨_, ?_, FDi_up (by omega) hi y⟩
    unfold f_X12_puts_L3
    rw [k0, if_neg d.1]
    simp (disch := omega) only [MI12 hM, e1, Option.bind_some, MR11 hM, bt_ii, st, za_ne _ _ (show m ≠ m + 9 by omega), k1, n_add, MP12 hM, d.2]) (fun A2 y => by
    unfold f_X12_puts_L3
    rw [if_pos (by decide)]) (A0 := A1) ⟨h.1, h.2.1, h.2.2.1, h.2.2.2⟩
  obtain ⟨A', e1, y⟩ := key
  have e1' : jloop (f_X12_puts_L3 m (w j)) jF (24 : Int32) (mz S A1 B c) = some (ii (24 - 8 * ((4 : Nat) : Int)), mz S A' B c) := e1
  unfold f_X12_puts
  rw [e1']
  obtain ⟨y1, y2, y3, y4⟩ := y
  exact ⟨A', rfl, by rw [y1]; omega, y2, fun k hk => y3 k (by omega), y4⟩
theorem FD_0 {A : ZA} {o y f t : Nat} (w : Nat → Int32) (h : A o f = (t : Int)) : FD A A o y f t 0 w := ⟨h, fun _ _ => rfl, fun k hk => by omega, fun _ _ => rfl, fun _ _ _ => rfl⟩
theorem IH_tape {S : SS} {A B A2 : ZA} {c : (Nat × Nat) × (Nat → Nat)} {p : Int} {bs nb : Nat → Nat} (h1 : CORE A B b p) (h2 : DYN b S0 A0 cc e S A B c p bs nb)
    (k0 : ∀ k, k ≠ 1 → A2 b k = A b k) (k1 : ∀ x, x ≠ b → x ≠ b + 1 → x ≠ b + 286 → x ≠ b + 286 + 9 → A2 x = A x) (k2 : ∀ k, k ≠ 0 → k ≠ 12 → A2 (b + 286) k = A (b + 286) k) (ht : TAPE A2 b) : IH b S0 A0 cc e (mz S A2 B c) := by
  obtain ⟨d1, d2, d3, d4, d5, d6, d7⟩ := h2
  obtain ⟨h1, h2, h3, h4, h5, h6, h7, h8⟩ := h1
  refine ⟨S, A2, B, c, p, bs, nb, rfl, ⟨h1, by rw [k0 2 (by omega)]; exact h2, ⟨by rw [k2 1 (by omega) (by omega)]; exact h3.1, fun n hn => by rw [k1 _ (by omega) (by omega) (by omega) (by omega), k1 _ (by omega) (by omega) (by omega) (by omega), k1 _ (by omega) (by omega) (by omega) (by omega)]; exact h3.2 n hn⟩, ht, ?_, fun r hr => FQ_of (h6 r hr) (by rw [k1 _ (by omega) (by omega) (by omega) (by omega)]) (fun n _ => by rw [k1 _ (by omega) (by omega) (by omega) (by omega)]) (by rw [k1 _ (by omega) (by omega) (by omega) (by omega)]) (fun n _ => by rw [k1 _ (by omega) (by omega) (by omega) (by omega)]), ?_, fun k hk => ?_⟩, d1, SG_of d2 (fun x hx => k1 x (by omega) (by omega) (by omega) (by omega)) (fun i hi k _ => by rw [k1 _ (by omega) (by omega) (by omega) (by omega)]) (fun _ _ => rfl), d3, RC_of d4 (k2 7 (by omega) (by omega)) (k1 _ (by omega) (by omega) (by omega) (by omega)), ROOTS_of d5 (fun i hi => ⟨by rw [k1 _ (by omega) (by omega) (by omega) (by omega)], by rw [k1 _ (by omega) (by omega) (by omega) (by omega)], k1 _ (by omega) (by omega) (by omega) (by omega)⟩), fun x hx => ⟨(d6 x hx).1, by rw [k1 x (by omega) (by omega) (by omega) (by omega)]; exact (d6 x hx).2⟩, d7⟩
  · obtain ⟨t, a, b1, c, d⟩ := h5
    exact ⟨t, a, by rw [k0 3 (by omega)]; exact b1, by rw [k2 19 (by omega) (by omega)]; exact c, fun i hi => FQ_of (d i hi) (by rw [k1 _ (by omega) (by omega) (by omega) (by omega)]) (fun n _ => by rw [k1 _ (by omega) (by omega) (by omega) (by omega)]) (by rw [k1 _ (by omega) (by omega) (by omega) (by omega)]) (fun n _ => by rw [k1 _ (by omega) (by omega) (by omega) (by omega)])⟩
  · unfold SHV
    rw [k2 42 (by omega) (by omega)]
    exact SHQ_of h7 (fun s hs => by rw [k1 _ (by omega) (by omega) (by omega) (by omega)]) (fun s hs r hr => by rw [k1 _ (by omega) (by omega) (by omega) (by omega)]) (fun s hs r hr => by rw [k1 _ (by omega) (by omega) (by omega) (by omega)]) (fun s hs r hr i hi => rfl) (fun s hs r hr i hi => rfl)
  · obtain ⟨a, b1, c⟩ := h8 k hk
    rw [k1 (b + 236 + 25 * k) (by omega) (by omega) (by omega) (by omega), k1 (b + 286 + 28) (by omega) (by omega) (by omega) (by omega), k1 (b + 286 + 29) (by omega) (by omega) (by omega) (by omega)]
    exact ⟨a, b1, fun q => ⟨fun r hr => FQ_of ((c q).1 r hr) (by rw [k1 _ (by omega) (by omega) (by omega) (by omega)]) (fun n _ => by rw [k1 _ (by omega) (by omega) (by omega) (by omega)]) (by rw [k1 _ (by omega) (by omega) (by omega) (by omega)]) (fun n _ => by rw [k1 _ (by omega) (by omega) (by omega) (by omega)]), SHQ_of (c q).2 (fun s hs => by rw [k1 _ (by omega) (by omega) (by omega) (by omega)]) (fun s hs r hr => by rw [k1 _ (by omega) (by omega) (by omega) (by omega)]) (fun s hs r hr => by rw [k1 _ (by omega) (by omega) (by omega) (by omega)]) (fun s hs r hr i hi => rfl) (fun s hs r hr i hi => rfl)⟩⟩
theorem op_feed (v1 v2 v3 v4 v5 : Int32) : OPS b S0 A0 cc e (f_X11_feed b v1 v2 v3 v4 v5) (f_X12_feed (b + 286) v1 v2 v3 v4 v5) := by
  rintro h ⟨S, A, B, c, p, bs, nb, rfl, h1, h2⟩
  have hX := h2.1
  have hM := L_mod hX
  have fin : IH b S0 A0 cc e (mz S (za A (b + 286) (up (A (b + 286)) 0 ((0 : Nat) : Int))) B c) := by
    obtain ⟨g1, g2⟩ := IH_thrown (v := ((0 : Nat) : Int)) h1 h2
    exact ⟨S, _, B, c, p, bs, nb, rfl, g1, g2⟩
  obtain ⟨t, t1, t2, t3, t4⟩ := h1.2.2.2.1
  by_cases q : t + 20 ≤ 600
  · let w : Nat → Int32 := fun j => if j = 0 then v1 else if j = 1 then v2 else if j = 2 then v3 else if j = 3 then v4 else v5
    obtain ⟨A1, e1, y1⟩ := x_four (B := B) (c := c) hX q (by omega) (FD_0 (A := A) (y := b + 1) w t2)
    obtain ⟨A2, e2, y2⟩ := x_four (B := B) (c := c) hX q (by omega) y1
    obtain ⟨A3, e3, y3⟩ := x_four (B := B) (c := c) hX q (by omega) y2
    obtain ⟨A4, e4, y4⟩ := x_four (B := B) (c := c) hX q (by omega) y3
    obtain ⟨A5, e5, y5⟩ := x_four (B := B) (c := c) hX q (by omega) y4
    obtain ⟨z1, z2, z3, z4, z5⟩ := y5
    generalize hA6 : za A5 (b + 286) (up (A5 (b + 286)) 0 ((0 : Nat) : Int)) = A6
    have r12 : A6 (b + 286) 12 = (t : Int) := by rw [← hA6, za_at, up_ne _ _ (by omega), z5 _ (by omega) (by omega)]; exact t3
    obtain ⟨A7, e7, y7⟩ := m_four (B := B) (c := c) hM q (by omega) (FD_0 (A := A6) (y := b + 286 + 9) w r12)
    obtain ⟨A8, e8, y8⟩ := m_four (B := B) (c := c) hM q (by omega) y7
    obtain ⟨A9, e9, y9⟩ := m_four (B := B) (c := c) hM q (by omega) y8
    obtain ⟨A10, e10, y10⟩ := m_four (B := B) (c := c) hM q (by omega) y9
    obtain ⟨A11, e11, y11⟩ := m_four (B := B) (c := c) hM q (by omega) y10
    obtain ⟨u1, u2, u3, u4, u5⟩ := y11
    have f1 : f_X11_feedFour b v1 (mz S A B c) = some ((), mz S A1 B c) := e1
    have f2 : f_X11_feedFour b v2 (mz S A1 B c) = some ((), mz S A2 B c) := e2
    have f3 : f_X11_feedFour b v3 (mz S A2 B c) = some ((), mz S A3 B c) := e3
    have f4 : f_X11_feedFour b v4 (mz S A3 B c) = some ((), mz S A4 B c) := e4
    have f5 : f_X11_feedFour b v5 (mz S A4 B c) = some ((), mz S A5 B c) := e5
    have f7 : f_X12_puts (b + 286) v1 (mz S A6 B c) = some ((), mz S A7 B c) := e7
    have f8 : f_X12_puts (b + 286) v2 (mz S A7 B c) = some ((), mz S A8 B c) := e8
    have f9 : f_X12_puts (b + 286) v3 (mz S A8 B c) = some ((), mz S A9 B c) := e9
    have f10 : f_X12_puts (b + 286) v4 (mz S A9 B c) = some ((), mz S A10 B c) := e10
    have f11 : f_X12_puts (b + 286) v5 (mz S A10 B c) = some ((), mz S A11 B c) := e11
    refine ⟨ii ((t + 20 : Nat) : Int), mz S A5 B c, mz S A11 B c, ?_, ?_, ?_⟩
    · unfold f_X11_feed
      simp (disch := omega) only [XI1 hX, t2, Option.bind_some, k20, k600, n_add, n_le, q, ↓reduceIte, Xv hX, f1, f2, f3, f4, f5, z1]
    · unfold f_X12_feed
      rw [k0, MP0 hM]
      simp (disch := omega) only [Option.bind_some, hA6, MI12 hM, r12, k20, k600, n_add, n_le, q, ↓reduceIte, Mv hM, f7, f8, f9, f10, f11, u1]
    · have g6 : ∀ x, x ≠ b + 286 → A6 x = A5 x := fun x hx => by rw [← hA6, za_ne _ _ hx]
      refine IH_tape h1 h2 (fun k hk => ?_) (fun x x1 x2 x3 x4 => ?_) (fun k x1 x2 => ?_) ⟨t + 20, q, ?_, ?_, fun k hk => ?_⟩
      · rw [u5 _ (by omega) (by omega), g6 _ (by omega), z4 k hk]
      · rw [u5 x x3 x4, g6 x x3, z5 x x1 x2]
      · rw [u4 k x2, ← hA6, za_at, up_ne _ _ x1, z5 _ (by omega) (by omega)]
      · rw [u5 _ (by omega) (by omega), g6 _ (by omega), z1]
      · rw [u1]
      · rw [u5 (b + 1) (by omega) (by omega), g6 _ (by omega)]
        by_cases s : k < t
        · rw [z2 k s, u2 k s, g6 _ (by omega), z5 _ (by omega) (by omega)]; exact t4 k s
        · obtain ⟨d, rfl⟩ : ∃ d, k = t + d := ⟨k - t, by omega⟩
          rw [z3 d (by omega), u3 d (by omega)]
          exact ⟨rfl, bt_r _ _⟩
  · refine ⟨-1, mz S A B c, _, ?_, ?_, fin⟩
    · unfold f_X11_feed
      simp (disch := omega) only [XI1 hX, t2, Option.bind_some, k20, k600, n_add, n_le, q, ↓reduceIte]
    · unfold f_X12_feed
      rw [k0, MP0 hM]
      have r12 : za A (b + 286) (up (A (b + 286)) 0 ((0 : Nat) : Int)) (b + 286) 12 = (t : Int) := by rw [za_at, up_ne _ _ (by omega)]; exact t3
      simp (disch := omega) only [Option.bind_some, MI12 hM, r12, k20, k600, n_add, n_le, q, ↓reduceIte]
end ops
