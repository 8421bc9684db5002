/-! An operator as a table: the class's and the reference's. -/
theorem TT_r {p : Int} (hp : 1 < p) (w n i j : Nat) : 0 ≤ TT p w n i j ∧ TT p w n i j < p := hk_r hp _ _ _ _
section ops
variable {b : Nat} {S0 : SS} {A0 : ZA} {cc : Nat → Nat} {e : Nat}
/-- the operator's table, out of a ready space -/
theorem x_load {S : SS} {A B : ZA} {c : (Nat × Nat) × (Nat → Nat)} {bs nb : Nat → Nat} {p : Int} (hX : LX S b) (hSG : SG B b S A c bs nb) (hP : PR p) {i n : Nat} (hi : i < 31) (hn : n ≤ 30) (hr : 2 ≤ Lk (2 * i) → Rdy A b i p ((Lk (2 * i) - 1) * n)) :
    ∃ A' : ZA, f_X5_load (b + 135) (b + 42 + 3 * i) (ii (n : Int)) (mz S A B c) = some ((), mz S A' B c) ∧ A' (b + 135) 4 = ((Lk (2 * i) - 1 : Nat) : Int) ∧ A' (b + 135) 5 = A (b + 42 + 3 * i) 3 ∧ (∀ r, r < Lk (2 * i) - 1 → ∀ j, j < Lk (2 * i) - 1 → A' (b + 137 + 1 + r) j = TT p (2 * i) n r j) ∧ (∀ x, x ≠ b + 135 → (∀ r, r < 5 → x ≠ b + 137 + 1 + r) → A' x = A x) := by
  have hp := PR_p hP
  have hL := Lk_r (k := 2 * i) (by omega)
  have hs := (hSG.1.1 i hi).1
  have hw := (hSG.1.2.2.1 i hi).1
  generalize hL1 : Lk (2 * i) - 1 = L at *
  unfold f_X5_load
  simp only [PI0 hs.1, hw, Option.bind_some, x_cusps _ (show 2 * i ≤ 60 by omega), hL1, OP4 hX]
  rw [PI3 hs.1, za_ne _ _ (by omega)]
  simp only [Option.bind_some, OP5 hX, za_za, za_at]
  have key := z_run (S := S) (B := B) (c := c) (f := f_X5_load_L21 (b + 135) (b + 42 + 3 * i) (ii (n : Int))) (fun t => ii (t : Int)) (fun t A' => A' (b + 135) 4 = (L : Int) ∧ A' (b + 135) 5 = A (b + 42 + 3 * i) 3 ∧ (∀ r, r < t → ∀ j, j < L → A' (b + 137 + 1 + r) j = TT p (2 * i) n r j) ∧ (∀ x, x ≠ b + 135 → (∀ r, r < 5 → x ≠ b + 137 + 1 + r) → A' x = A x)) L (t := ii (L : Int)) (by omega) (fun t ht A1 ⟨y1, y2, y3, y4⟩ => by
    have rd := hr (by omega)
    obtain ⟨n1, w1⟩ := Rdy_rows hSG hi hP rd
    have hs2 := hs
    rw [n1] at hs2
    have hrow := (hSG.1.1 i hi).2.2.2 (t + 1) (by omega)
    have key2 := z_run (S := S) (B := B) (c := c) (f := f_X5_load_L32 (b + 135) (b + 42 + 3 * i) (ii (n : Int)) (ii (t : Int))) (fun u => ii (u : Int)) (fun u A' => (∀ j, j < u → A' (b + 137 + 1 + t) j = TT p (2 * i) n t j) ∧ (∀ x, x ≠ b + 137 + 1 + t → A' x = A1 x)) L (t := ii (L : Int)) (by omega) (fun u hu A2 ⟨z1, z2⟩ => by
      have g : ∀ x, x ≠ b + 135 → (∀ r, r < 5 → x ≠ b + 137 + 1 + r) → A2 x = A x := fun x h1 h2 => by rw [z2 x (h2 t (by omega)), y4 x h1 h2]
      have sg2 : SG B b S A2 c bs nb := SG_of hSG (fun x hx => g x (by omega) (fun r _ => by omega)) (fun i hi k _ => by rw [g _ (by omega) (fun r _ => by omega)]) (fun _ _ => rfl)
      have hh := x_hecke (C := dl (t + 1)) (x := u + 1) sg2 hP hi hn (by omega) (Rdy_of (g _ (by omega) (fun r _ => by omega)) (by rw [hL1]; exact rd)) (hs2.2.2 (t + 1) (by omega)) (by omega) (by omega) (fun j hj => by
        have hd : (0 : Int) ≤ dl (t + 1) j ∧ dl (t + 1) j < p := by unfold dl; split <;> omega
        refine ⟨?_, hd⟩
        have hi0 : j ≤ L * n ∨ n = 0 := by
          rcases Nat.eq_zero_or_pos n with q | q
          · exact Or.inr q
          · have : L * 1 ≤ L * n := Nat.mul_le_mul_left L q
            omega
        obtain ⟨r1, l', r2, r3⟩ := Rdy_36 hSG hi hP rd
        rw [g _ (by omega) (fun r _ => by omega)]
        have := (Rdy_rows hSG hi hP ⟨r1, l', r2, r3⟩).2 (t + 1) (by omega) j (by omega)
        rw [this, ex_first (EH_of hP) (by omega) _ hj]
        exact Int.emod_eq_of_lt hd.1 hd.2)
      unfold f_X5_load_L32
      have e4 : A2 (b + 135) 4 = (L : Int) := by rw [z2 _ (by omega)]; exact y1
      simp (disch := omega) only [OI4 hX, e4, Option.bind_some, n_le, show ¬ (L ≤ u) by omega, ↓reduceIte, OR1 hX, arR (L_tab hX), PR2 hs.1, k1, n_add, sp_row hs2, Pv hs.1, hh]
      rw [arS (L_tab hX) (by omega) (by omega) (by omega)]
      refine ⟨_, rfl, fun j hj => ?_, fun x hx => by rw [za_ne _ _ hx, z2 x hx]⟩
      rw [za_at]
      by_cases q : j = u
      · subst q; rw [up_at]; rfl
      · rw [up_ne _ _ q]; exact z1 j (by omega)) (fun A2 ⟨_, z2⟩ => by
      unfold f_X5_load_L32
      have e4 : A2 (b + 135) 4 = (L : Int) := by rw [z2 _ (by omega)]; exact y1
      simp (disch := omega) only [OI4 hX, e4, Option.bind_some, n_le, Nat.le_refl, ↓reduceIte]) (A0 := A1) ⟨fun j hj => by omega, fun _ _ => rfl⟩
    obtain ⟨A2, e2, z1, z2⟩ := key2
    have e2' : jloop (f_X5_load_L32 (b + 135) (b + 42 + 3 * i) (ii (n : Int)) (ii (t : Int))) jF (ii ((0 : Nat) : Int)) (mz S A1 B c) = some (ii (L : Int), mz S A2 B c) := e2
    refine ⟨A2, ?_, by rw [z2 _ (by omega)]; exact y1, by rw [z2 _ (by omega)]; exact y2, fun r hr' j hj => ?_, fun x h1 h2 => by rw [z2 x (h2 t (by omega)), y4 x h1 h2]⟩
    · unfold f_X5_load_L21
      simp (disch := omega) only [OI4 hX, y1, Option.bind_some, n_le, show ¬ (L ≤ t) by omega, ↓reduceIte, k0, e2', k1, n_add]
    · by_cases q : r = t
      · subst q; exact z1 j hj
      · rw [z2 _ (by omega)]; exact y3 r (by omega) j hj) (fun A1 ⟨y1, _⟩ => by
    unfold f_X5_load_L21
    simp (disch := omega) only [OI4 hX, y1, Option.bind_some, n_le, Nat.le_refl, ↓reduceIte]) (A0 := za A (b + 135) (up (up (A (b + 135)) 4 (L : Int)) 5 (A (b + 42 + 3 * i) 3))) ⟨by rw [za_at, up_ne _ _ (by omega), up_at], by rw [za_at, up_at], fun r hr => by omega, fun x h1 _ => za_ne _ _ h1⟩
  obtain ⟨A', e1, y1, y2, y3, y4⟩ := key
  have e1' : jloop (f_X5_load_L21 (b + 135) (b + 42 + 3 * i) (ii (n : Int))) jF (0 : Int32) (mz S (za A (b + 135) (up (up (A (b + 135)) 4 (L : Int)) 5 (A (b + 42 + 3 * i) 3))) B c) = some (ii (L : Int), mz S A' B c) := e1
  rw [e1']
  exact ⟨A', rfl, y1, y2, y3, y4⟩
/-- the reference's table -/
theorem m_table {S : SS} {A B : ZA} {c : (Nat × Nat) × (Nat → Nat)} {m w n : Nat} {p : Int} (hM : LM S m) (hB : Bas A m p) (hR : RC A m p) (hP : PR p) (hw : w ≤ 60) (hw2 : w % 2 = 0) (hn : n ≤ 30) :
    ∃ A' : ZA, f_X12_laysTable m (ii (w : Int)) (ii (n : Int)) (mz S A B c) = some ((), mz S A' B c) ∧ A' m 35 = ((Lk w - 1 : Nat) : Int) ∧ (∀ i, i < Lk w - 1 → ∀ j, j < Lk w - 1 → A' (m + 20) (6 * i + j) = TT p w n i j) ∧ RC A' m p ∧ (∀ k, k ≠ 7 → k ≠ 35 → A' m k = A m k) ∧ (∀ x, x ≠ m → x ≠ m + 4 → x ≠ m + 5 → x ≠ m + 6 → x ≠ m + 7 → x ≠ m + 8 → x ≠ m + 20 → A' x = A x) := by
  have hp := PR_p hP
  have hE := EH_of hP
  have hL := Lk_r hw
  unfold f_X12_laysTable
  rw [m_cusps _ hw]
  simp only [Option.bind_some, MP35 hM]
  have key := z_run (S := S) (B := B) (c := c) (f := f_X12_laysTable_L10 m (ii (w : Int)) (ii (n : Int))) (fun t => ii (t : Int)) (fun t A' => A' m 35 = ((Lk w - 1 : Nat) : Int) ∧ (∀ i, i < t → ∀ j, j < Lk w - 1 → A' (m + 20) (6 * i + j) = TT p w n i j) ∧ RC A' m p ∧ (∀ k, k ≠ 7 → k ≠ 35 → A' m k = A m k) ∧ (∀ x, x ≠ m → x ≠ m + 4 → x ≠ m + 5 → x ≠ m + 6 → x ≠ m + 7 → x ≠ m + 8 → x ≠ m + 20 → A' x = A x)) (Lk w - 1) (t := ii ((Lk w - 1 : Nat) : Int)) (by omega) (fun t ht A1 ⟨y1, y2, y3, y4, y5⟩ => by
    have key1 := fill_run (S := S) (A := A1) (B := B) (c := c) (a := m + 7) (o := 0) (f := f_X12_laysTable_L21 m (ii (w : Int)) (ii (n : Int)) (ii (t : Int))) (dl (t + 1)) 6 (by decide) (fun u hu => by
      unfold f_X12_laysTable_L21
      simp (disch := omega) only [k6, k1, k0, n_le, n_add, n_eq, show ¬ (6 ≤ u) by omega, ↓reduceIte, MR9 hM, Option.bind_some]
      by_cases q : u = t + 1
      · rw [if_pos q, jsI_m0 (G := dl (t + 1)) (v := ((1 : Nat) : Int)) (MS7 hM) hu (by omega) (by simp [dl, q])]; rfl
      · rw [if_neg q, jsI_m0 (G := dl (t + 1)) (v := ((0 : Nat) : Int)) (MS7 hM) hu (by omega) (by simp [dl, q])]; rfl) (by
      unfold f_X12_laysTable_L21
      simp (disch := omega) only [k6, n_le, Nat.le_refl, ↓reduceIte])
    generalize hA2 : za A1 (m + 7) (mo (dl (t + 1)) (A1 (m + 7)) 0 6) = A2 at key1
    have g2 : ∀ x, x ≠ m + 7 → A2 x = A1 x := fun x hx => by rw [← hA2, za_ne _ _ hx]
    have d2 : ∀ j, j < 6 → A2 (m + 7) j = dl (t + 1) j := fun j hj => by rw [← hA2, za_at, mo_0in _ _ hj]
    have B2 : Bas A2 m p := ⟨by rw [g2 _ (by omega), y4 _ (by omega) (by omega)]; exact hB.1, fun n hn => by rw [g2 _ (by omega), g2 _ (by omega), g2 _ (by omega), y5 _ (by omega) (by omega) (by omega) (by omega) (by omega) (by omega) (by omega), y5 _ (by omega) (by omega) (by omega) (by omega) (by omega) (by omega) (by omega), y5 _ (by omega) (by omega) (by omega) (by omega) (by omega) (by omega) (by omega)]; exact hB.2 n hn⟩
    obtain ⟨A3, e3, z1, z2, z3, z4⟩ := m_builds (A := A2) (B := B) (c := c) (C := dl (t + 1)) hM B2 (RC_of y3 (by rw [g2 _ (by omega)]) (g2 _ (by omega))) hE hp.2 hw hw2 (fun j hj => ⟨d2 j (by omega), by unfold dl; split <;> omega⟩)
    have p3 : A3 m 1 = p := by rw [z3 _ (by omega)]; exact B2.1
    have w3 : A3 m 35 = ((Lk w - 1 : Nat) : Int) := by rw [z3 _ (by omega), g2 _ (by omega)]; exact y1
    have key2 := z_run (S := S) (B := B) (c := c) (f := f_X12_laysTable_L62 m (ii (w : Int)) (ii (n : Int)) (ii (t : Int))) (fun u => ii (u : Int)) (fun u A' => (∀ j, j < u → A' (m + 20) (6 * t + j) = TT p w n t j) ∧ (∀ k, ¬ (6 * t ≤ k ∧ k < 6 * t + 6) → A' (m + 20) k = A3 (m + 20) k) ∧ (∀ x, x ≠ m + 20 → A' x = A3 x)) (Lk w - 1) (t := ii ((Lk w - 1 : Nat) : Int)) (by omega) (fun u hu A4 ⟨v1, v2, v3⟩ => by
      have hh := m_hecke (A := A4) (B := B) (c := c) (R := ex p w (dl (t + 1))) (o := 0) (x := u + 1) hM (by rw [v3 _ (by omega)]; exact p3) (by omega) hp.2 hw hn (by omega) (MS8 hM) (by omega) (by omega) (fun i hi => ⟨by rw [v3 _ (by omega), Nat.zero_add]; exact z1 i hi, ex_r (by omega) _ _ _⟩)
      unfold f_X12_laysTable_L62
      have e35 : A4 m 35 = ((Lk w - 1 : Nat) : Int) := by rw [v3 _ (by omega)]; exact w3
      simp (disch := omega) only [MI35 hM, e35, Option.bind_some, n_le, show ¬ (Lk w - 1 ≤ u) by omega, ↓reduceIte, MR34 hM, MR10 hM, Mv hM, k0, k1, k6, n_add, hh, n_mul, Ms20 hM]
      refine ⟨_, rfl, fun j hj => ?_, fun k hk => by rw [za_at, up_ne _ _ (by omega)]; exact v2 k hk, fun x hx => by rw [za_ne _ _ hx, v3 x hx]⟩
      rw [za_at]
      by_cases q : j = u
      · subst q; rw [up_at]; rfl
      · rw [up_ne _ _ (by omega)]; exact v1 j (by omega)) (fun A4 ⟨_, _, v3⟩ => by
      unfold f_X12_laysTable_L62
      have e35 : A4 m 35 = ((Lk w - 1 : Nat) : Int) := by rw [v3 _ (by omega)]; exact w3
      simp (disch := omega) only [MI35 hM, e35, Option.bind_some, n_le, Nat.le_refl, ↓reduceIte]) (A0 := A3) ⟨fun j hj => by omega, fun _ _ => rfl, fun _ _ => rfl⟩
    obtain ⟨A4, e4, v1, v2, v3⟩ := key2
    have e4' : jloop (f_X12_laysTable_L62 m (ii (w : Int)) (ii (n : Int)) (ii (t : Int))) jF (ii ((0 : Nat) : Int)) (mz S A3 B c) = some (ii ((Lk w - 1 : Nat) : Int), mz S A4 B c) := e4
    refine ⟨A4, ?_, by rw [v3 _ (by omega)]; exact w3, fun i hi j hj => ?_, RC_of z2 (by rw [v3 _ (by omega)]) (v3 _ (by omega)), fun k k1 k2 => by rw [v3 _ (by omega), z3 k k1, g2 _ (by omega), y4 k k1 k2], fun x x1 x2 x3 x4 x5 x6 x7 => by rw [v3 x x7, z4 x x1 x2 x3 x4 x6, g2 x x5, y5 x x1 x2 x3 x4 x5 x6 x7]⟩
    · unfold f_X12_laysTable_L10
      simp (disch := omega) only [MI35 hM, y1, Option.bind_some, n_le, show ¬ (Lk w - 1 ≤ t) by omega, ↓reduceIte, k0, key1, Mv hM, e3, e4', k1, n_add]
    · by_cases q : i = t
      · subst q; exact v1 j hj
      · rw [v2 _ (by omega), z4 _ (by omega) (by omega) (by omega) (by omega) (by omega), g2 _ (by omega)]; exact y2 i (by omega) j hj) (fun A1 ⟨y1, _⟩ => by
    unfold f_X12_laysTable_L10
    simp (disch := omega) only [MI35 hM, y1, Option.bind_some, n_le, Nat.le_refl, ↓reduceIte]) (A0 := za A m (up (A m) 35 ((Lk w - 1 : Nat) : Int))) ⟨by rw [za_at, up_at], fun i hi => by omega, RC_of hR (by rw [za_at, up_ne _ _ (by omega)]) (za_ne _ _ (by omega)), fun k _ k2 => by rw [za_at, up_ne _ _ k2], fun x x1 _ _ _ _ _ _ => za_ne _ _ x1⟩
  obtain ⟨A', e1, y⟩ := key
  have e1' : jloop (f_X12_laysTable_L10 m (ii (w : Int)) (ii (n : Int))) jF (0 : Int32) (mz S (za A m (up (A m) 35 ((Lk w - 1 : Nat) : Int))) B c) = some (ii ((Lk w - 1 : Nat) : Int), mz S A' B c) := e1
  rw [e1']
  exact ⟨A', rfl, y⟩
end ops
