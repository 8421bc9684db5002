/-! An operator's polynomial: the class's and the reference's. -/
theorem fl_r {p : Int} (hp : 1 < p) (T : Nat → Nat → Int) (s t : Nat) : (∀ i j, 0 ≤ (fl' p T s t).1 i j ∧ (fl' p T s t).1 i j < p) ∧ (0 ≤ (fl' p T s t).2 ∧ (fl' p T s t).2 < p) := by
  cases t with
  | zero => exact ⟨fun i j => by show (0 : Int) ≤ 0 ∧ (0 : Int) < p; omega, by show (0 : Int) ≤ 1 ∧ (1 : Int) < p; omega⟩
  | succ t => exact ⟨fun i j => emod_r (by omega), emod_r (by omega)⟩
theorem flW_r {p : Int} (hp : 1 < p) {M : Nat → Nat → Int} (hM : ∀ i j, 0 ≤ M i j ∧ M i j < p) (v : Int) (i j : Nat) : 0 ≤ flW M v p i j ∧ flW M v p i j < p := by
  unfold flW
  split
  · exact emod_r (by omega)
  · exact hM i j
theorem flM_sr {p : Int} (hp2 : p < 10000) {T W : Nat → Nat → Int} (hT : ∀ i j, 0 ≤ T i j ∧ T i j < p) (hW : ∀ i j, 0 ≤ W i j ∧ W i j < p) (s i j : Nat) : 0 ≤ sm (fun k => T i k * W k j) s ∧ sm (fun k => T i k * W k j) s ≤ 100000000 * (s : Int) :=
  sm_r fun k _ => pr_r ⟨(hT i k).1, by have := (hT i k).2; omega⟩ ⟨(hW k j).1, by have := (hW k j).2; omega⟩
theorem tmod_mod (x : Int) {p : Int} : x.tmod p % p = x % p := by
  rw [Int.tmod_def, Int.sub_mul_emod_self_left]
section ops
variable {b : Nat} {S0 : SS} {A0 : ZA} {cc : Nat → Nat} {e : Nat}
/-- the table, told for the class -/
def OTab (A : ZA) (b s : Nat) (p : Int) (T : Nat → Nat → Int) : Prop := A (b + 135) 4 = (s : Int) ∧ (1 ≤ s → A (b + 135) 5 = p) ∧ ∀ r, r < s → ∀ j, j < s → A (b + 137 + 1 + r) j = T r j
theorem x_takeP {S : SS} {A B : ZA} {c : (Nat × Nat) × (Nat → Nat)} {s : Nat} {p v : Int} {T M : Nat → Nat → Int} (hX : LX S b) (hs : s ≤ 5) (hp : 1 < p) (hp2 : p < 10000) (hT : OTab A b s p T) (hM : ∀ i j, 0 ≤ M i j ∧ M i j < p) (hv : 0 ≤ v ∧ v < p) (hA : ∀ i, i < s → ∀ j, j < s → A (b + 149 + 1 + i) j = M i j) :
    ∃ A' : ZA, f_X5_takeProduct (b + 135) (ii v) (mz S A B c) = some ((), mz S A' B c) ∧ (∀ i, i < s → ∀ j, j < s → A' (b + 143 + 1 + i) j = flW M v p i j) ∧ (∀ x, (∀ i, i < 5 → x ≠ b + 143 + 1 + i) → A' x = A x) := by
  have key := z_run (S := S) (B := B) (c := c) (f := f_X5_takeProduct_L2 (b + 135) (ii v)) (fun t => ii (t : Int)) (fun t A' => (∀ i, i < t → ∀ j, j < s → A' (b + 143 + 1 + i) j = flW M v p i j) ∧ (∀ x, (∀ i, i < 5 → x ≠ b + 143 + 1 + i) → A' x = A x)) s (t := ii (s : Int)) (by omega) (fun t ht A1 ⟨y1, y2⟩ => by
    have e4 : A1 (b + 135) 4 = (s : Int) := by rw [y2 _ (fun i _ => by omega)]; exact hT.1
    have e5 : A1 (b + 135) 5 = p := by rw [y2 _ (fun i _ => by omega)]; exact hT.2.1 (by omega)
    have m1 := hM t t
    have cp := jcI_z (A := A1) (B := B) (n := c) ((L_prd hX).2 t (by omega)) ((L_wrk hX).2 t (by omega)) (x := ((0 : Nat) : Int)) (y := ((0 : Nat) : Int)) (w := (s : Int)) (i := 0) (j := 0) (k := s) rfl rfl rfl (by omega) (by omega) (by omega) (by omega)
    generalize hA2 : za A1 (b + 143 + 1 + t) _ = A2 at cp
    have g2 : ∀ x, x ≠ b + 143 + 1 + t → A2 x = A1 x := fun x hx => by rw [← hA2, za_ne _ _ hx]
    have v2 : ∀ j, j < s → A2 (b + 143 + 1 + t) j = M t j := fun j hj => by
      rw [← hA2, za_at]
      unfold va_cpy
      rw [if_pos (by omega), show 0 + (j - 0) = j by omega, y2 _ (fun i _ => by omega)]
      exact hA t ht j hj
    have e5' : A2 (b + 135) 5 = p := by rw [g2 _ (by omega)]; exact e5
    have vt := v2 t ht
    refine ⟨za A2 (b + 143 + 1 + t) (up (A2 (b + 143 + 1 + t)) t ((M t t + v) % p)), ?_, fun i hi j hj => ?_, fun x hx => by rw [za_ne _ _ (hx t (by omega)), g2 x (hx t (by omega)), y2 x hx]⟩
    · unfold f_X5_takeProduct_L2
      simp (disch := omega) only [OI4 hX, e4, Option.bind_some, n_le, show ¬ (s ≤ t) by omega, ↓reduceIte, OR3 hX, OR2 hX, arR (L_prd hX), arR (L_wrk hX), k0, cp, arA (L_wrk hX), vt, OI5 hX, e5', ii_add, i_l, f_of', arS (L_wrk hX), k1, n_add]
      rfl
    · by_cases q : i = t
      · subst q
        rw [za_at]
        unfold flW
        by_cases q2 : j = i
        · subst q2; rw [up_at, if_pos rfl]
        · rw [up_ne _ _ q2, if_neg (fun x => q2 x.symm)]; exact v2 j hj
      · rw [za_ne _ _ (by omega), g2 _ (by omega)]; exact y1 i (by omega) j hj) (fun A1 ⟨_, y2⟩ => by
    have e4 : A1 (b + 135) 4 = (s : Int) := by rw [y2 _ (fun i _ => by omega)]; exact hT.1
    unfold f_X5_takeProduct_L2
    simp (disch := omega) only [OI4 hX, e4, Option.bind_some, n_le, Nat.le_refl, ↓reduceIte]) (A0 := A) ⟨fun i hi => by omega, fun _ _ => rfl⟩
  obtain ⟨A', e1, y⟩ := key
  have e1' : jloop (f_X5_takeProduct_L2 (b + 135) (ii v)) jF (0 : Int32) (mz S A B c) = some (ii (s : Int), mz S A' B c) := e1
  unfold f_X5_takeProduct
  rw [e1']
  exact ⟨A', rfl, y⟩
theorem x_mulT {S : SS} {A B : ZA} {c : (Nat × Nat) × (Nat → Nat)} {s : Nat} {p : Int} {T W : Nat → Nat → Int} (hX : LX S b) (hs : s ≤ 5) (hp : 1 < p) (hp2 : p < 10000) (hT : OTab A b s p T) (hTr : ∀ i j, 0 ≤ T i j ∧ T i j < p) (hWr : ∀ i j, 0 ≤ W i j ∧ W i j < p) (hW : ∀ i, i < s → ∀ j, j < s → A (b + 143 + 1 + i) j = W i j) :
    ∃ A' : ZA, f_X5_multiplyTableByWork (b + 135) (mz S A B c) = some ((), mz S A' B c) ∧ (∀ i, i < s → ∀ j, j < s → A' (b + 149 + 1 + i) j = flM p T W s i j) ∧ (∀ x, (∀ i, i < 5 → x ≠ b + 149 + 1 + i) → A' x = A x) := by
  have key := z_run (S := S) (B := B) (c := c) (f := f_X5_multiplyTableByWork_L2 (b + 135)) (fun t => ii (t : Int)) (fun t A' => (∀ i, i < t → ∀ j, j < s → A' (b + 149 + 1 + i) j = flM p T W s i j) ∧ (∀ x, (∀ i, i < 5 → x ≠ b + 149 + 1 + i) → A' x = A x)) s (t := ii (s : Int)) (by omega) (fun t ht A1 ⟨y1, y2⟩ => by
    have key2 := z_run (S := S) (B := B) (c := c) (f := f_X5_multiplyTableByWork_L12 (b + 135) (ii (t : Int))) (fun u => ii (u : Int)) (fun u A' => (∀ j, j < u → A' (b + 149 + 1 + t) j = flM p T W s t j) ∧ (∀ x, x ≠ b + 149 + 1 + t → A' x = A1 x)) s (t := ii (s : Int)) (by omega) (fun u hu A2 ⟨z1, z2⟩ => by
      have g : ∀ x, (∀ i, i < 5 → x ≠ b + 149 + 1 + i) → A2 x = A x := fun x hx => by rw [z2 x (hx t (by omega)), y2 x hx]
      have e4 : A2 (b + 135) 4 = (s : Int) := by rw [g _ (fun i _ => by omega)]; exact hT.1
      have e5 : A2 (b + 135) 5 = p := by rw [g _ (fun i _ => by omega)]; exact hT.2.1 (by omega)
      have hb := flM_sr hp2 hTr hWr s t u
      have key3 := sum_run (h := mz S A2 B c) (f := f_X5_multiplyTableByWork_L25 (b + 135) (ii (t : Int)) (ii (u : Int))) (fun k => T t k * W k u) s (by omega) (fun k hk => by
        have a1 : A2 (b + 137 + 1 + t) k = T t k := by rw [g _ (fun i _ => by omega)]; exact hT.2.2 t ht k hk
        have a2 : A2 (b + 143 + 1 + k) u = W k u := by rw [g _ (fun i _ => by omega)]; exact hW k hk u hu
        have r1 := hTr t k
        have r2 := hWr k u
        unfold f_X5_multiplyTableByWork_L25
        simp (disch := omega) only [OI4 hX, e4, Option.bind_some, n_le, show ¬ (s ≤ k) by omega, ↓reduceIte, OR1 hX, OR2 hX, arR (L_tab hX), arR (L_wrk hX), arA (L_tab hX), arA (L_wrk hX), a1, a2, i_l, ll_mul, ll_add, k1, n_add]) (by
        unfold f_X5_multiplyTableByWork_L25
        simp (disch := omega) only [OI4 hX, e4, Option.bind_some, n_le, Nat.le_refl, ↓reduceIte])
      refine ⟨za A2 (b + 149 + 1 + t) (up (A2 (b + 149 + 1 + t)) u (flM p T W s t u)), ?_, fun j hj => ?_, fun x hx => by rw [za_ne _ _ hx, z2 x hx]⟩
      · unfold f_X5_multiplyTableByWork_L12
        simp (disch := omega) only [OI4 hX, e4, Option.bind_some, n_le, show ¬ (s ≤ u) by omega, ↓reduceIte, g0, k0, key3, OR3 hX, arR (L_prd hX), OI5 hX, e5, f_of', arS (L_prd hX), k1, n_add]
        rfl
      · rw [za_at]
        by_cases q : j = u
        · subst q; rw [up_at]
        · rw [up_ne _ _ q]; exact z1 j (by omega)) (fun A2 ⟨_, z2⟩ => by
      have e4 : A2 (b + 135) 4 = (s : Int) := by rw [z2 _ (by omega), y2 _ (fun i _ => by omega)]; exact hT.1
      unfold f_X5_multiplyTableByWork_L12
      simp (disch := omega) only [OI4 hX, e4, Option.bind_some, n_le, Nat.le_refl, ↓reduceIte]) (A0 := A1) ⟨fun j hj => by omega, fun _ _ => rfl⟩
    obtain ⟨A2, e2, z1, z2⟩ := key2
    have e2' : jloop (f_X5_multiplyTableByWork_L12 (b + 135) (ii (t : Int))) jF (ii ((0 : Nat) : Int)) (mz S A1 B c) = some (ii (s : Int), mz S A2 B c) := e2
    have e4 : A1 (b + 135) 4 = (s : Int) := by rw [y2 _ (fun i _ => by omega)]; exact hT.1
    refine ⟨A2, ?_, fun i hi j hj => ?_, fun x hx => by rw [z2 x (hx t (by omega)), y2 x hx]⟩
    · unfold f_X5_multiplyTableByWork_L2
      simp (disch := omega) only [OI4 hX, e4, Option.bind_some, n_le, show ¬ (s ≤ t) by omega, ↓reduceIte, k0, e2', k1, n_add]
    · by_cases q : i = t
      · subst q; exact z1 j hj
      · rw [z2 _ (by omega)]; exact y1 i (by omega) j hj) (fun A1 ⟨_, y2⟩ => by
    have e4 : A1 (b + 135) 4 = (s : Int) := by rw [y2 _ (fun i _ => by omega)]; exact hT.1
    unfold f_X5_multiplyTableByWork_L2
    simp (disch := omega) only [OI4 hX, e4, Option.bind_some, n_le, Nat.le_refl, ↓reduceIte]) (A0 := A) ⟨fun i hi => by omega, fun _ _ => rfl⟩
  obtain ⟨A', e1, y⟩ := key
  have e1' : jloop (f_X5_multiplyTableByWork_L2 (b + 135)) jF (0 : Int32) (mz S A B c) = some (ii (s : Int), mz S A' B c) := e1
  unfold f_X5_multiplyTableByWork
  rw [e1']
  exact ⟨A', rfl, y⟩
/-- what changes: polynomial, work, product -/
def opch (b x : Nat) : Prop := x = b + 136 ∨ (∃ i, i < 5 ∧ (x = b + 143 + 1 + i ∨ x = b + 149 + 1 + i))
theorem x_poly {S : SS} {A B : ZA} {c : (Nat × Nat) × (Nat → Nat)} {s : Nat} {p : Int} {T : Nat → Nat → Int} (hX : LX S b) (hs : s ≤ 5) (hp : 101 ≤ p) (hp2 : p < 10000) (hT : OTab A b s p T) (hTr : ∀ i j, 0 ≤ T i j ∧ T i j < p) :
    ∃ A' : ZA, f_X5_findPolynomial (b + 135) (mz S A B c) = some ((), mz S A' B c) ∧ (∀ i, i ≤ s → A' (b + 136) i = pc p T s i) ∧ (∀ x, x ≠ b + 136 → (∀ i, i < 5 → x ≠ b + 143 + 1 + i ∧ x ≠ b + 149 + 1 + i) → A' x = A x) := by
  have hp1 : 1 < p := by omega
  have key := z_run (S := S) (B := B) (c := c) (f := f_X5_findPolynomial_L2 (b + 135)) (fun t => ii (t : Int)) (fun t A' => (∀ i, i < t → ∀ j, j < 5 → A' (b + 149 + 1 + i) j = 0) ∧ (∀ x, (∀ i, i < 5 → x ≠ b + 149 + 1 + i) → A' x = A x)) s (t := ii (s : Int)) (by omega) (fun t ht A1 ⟨y1, y2⟩ => by
    have e4 : A1 (b + 135) 4 = (s : Int) := by rw [y2 _ (fun i _ => by omega)]; exact hT.1
    have hf := x_fill (A := A1) (B := B) (c := c) (v := ((0 : Nat) : Int)) ((L_prd hX).2 t (by omega)) (by omega)
    refine ⟨za A1 (b + 149 + 1 + t) (mo (fun _ => ((0 : Nat) : Int)) (A1 (b + 149 + 1 + t)) 0 5), by
      unfold f_X5_findPolynomial_L2
      simp (disch := omega) only [OI4 hX, e4, Option.bind_some, n_le, show ¬ (s ≤ t) by omega, ↓reduceIte, OR3 hX, arR (L_prd hX), k0, hf, k1, n_add], fun i hi j hj => ?_, fun x hx => by rw [za_ne _ _ (hx t (by omega)), y2 x hx]⟩
    by_cases q : i = t
    · subst q; rw [za_at, mo_0in _ _ hj]; rfl
    · rw [za_ne _ _ (by omega)]; exact y1 i (by omega) j hj) (fun A1 ⟨_, y2⟩ => by
    have e4 : A1 (b + 135) 4 = (s : Int) := by rw [y2 _ (fun i _ => by omega)]; exact hT.1
    unfold f_X5_findPolynomial_L2
    simp (disch := omega) only [OI4 hX, e4, Option.bind_some, n_le, Nat.le_refl, ↓reduceIte]) (A0 := A) ⟨fun i hi => by omega, fun _ _ => rfl⟩
  obtain ⟨A1, e1, y1, y2⟩ := key
  have e1' : jloop (f_X5_findPolynomial_L2 (b + 135)) jF (ii ((0 : Nat) : Int)) (mz S A B c) = some (ii (s : Int), mz S A1 B c) := e1
  have e4 : A1 (b + 135) 4 = (s : Int) := by rw [y2 _ (fun i _ => by omega)]; exact hT.1
  have st1 : jsI (mz S A1 B c) (b + 136) (ii (s : Int)) (ii ((1 : Nat) : Int)) = some (mz S (za A1 (b + 136) (up (A1 (b + 136)) s ((1 : Nat) : Int))) B c) := jsI_v (L_pol hX) (by omega) (by omega)
  have key2 := z_run (S := S) (B := B) (c := c) (f := f_X5_findPolynomial_L38 (b + 135)) (fun t => ii ((t + 1 : Nat) : Int)) (fun t A' => (∀ i, i < s → ∀ j, j < s → A' (b + 149 + 1 + i) j = (fl' p T s t).1 i j) ∧ (∀ t', t' ≤ t → A' (b + 136) (s - t') = (fl' p T s t').2) ∧ (∀ x, x ≠ b + 136 → (∀ i, i < 5 → x ≠ b + 143 + 1 + i ∧ x ≠ b + 149 + 1 + i) → A' x = A x)) s (t := ii ((s + 1 : Nat) : Int)) (by omega) (fun t ht A2 ⟨z1, z2, z3⟩ => by
    obtain ⟨fr1, fr2⟩ := fl_r hp1 T s t
    have T2 : OTab A2 b s p T := ⟨by rw [z3 _ (by omega) (fun i _ => by omega)]; exact hT.1, fun h => by rw [z3 _ (by omega) (fun i _ => by omega)]; exact hT.2.1 h, fun r hr j hj => by rw [z3 _ (by omega) (fun i _ => by omega)]; exact hT.2.2 r hr j hj⟩
    obtain ⟨A3, e3, v1, v2⟩ := x_takeP (A := A2) (B := B) (c := c) hX hs hp1 hp2 T2 fr1 fr2 z1
    have wr := flW_r hp1 fr1 (fl' p T s t).2
    obtain ⟨A4, e4', u1, u2⟩ := x_mulT (A := A3) (B := B) (c := c) hX hs hp1 hp2 (T := T) (W := flW (fl' p T s t).1 (fl' p T s t).2 p) ⟨by rw [v2 _ (fun i _ => by omega)]; exact T2.1, fun h => by rw [v2 _ (fun i _ => by omega)]; exact T2.2.1 h, fun r hr j hj => by rw [v2 _ (fun i _ => by omega)]; exact T2.2.2 r hr j hj⟩ hTr wr v1
    have g4 : ∀ x, (∀ i, i < 5 → x ≠ b + 143 + 1 + i ∧ x ≠ b + 149 + 1 + i) → A4 x = A2 x := fun x hx => by rw [u2 x (fun i hi => (hx i hi).2), v2 x (fun i hi => (hx i hi).1)]
    have s4 : A4 (b + 135) 4 = (s : Int) := by rw [g4 _ (fun i _ => by omega)]; exact T2.1
    have p4 : A4 (b + 135) 5 = p := by rw [g4 _ (fun i _ => by omega)]; exact T2.2.1 (by omega)
    have mr : ∀ i, 0 ≤ flM p T (flW (fl' p T s t).1 (fl' p T s t).2 p) s i i ∧ flM p T (flW (fl' p T s t).1 (fl' p T s t).2 p) s i i < p := fun i => emod_r (by omega)
    have dr := sm_r (g := fun i => flM p T (flW (fl' p T s t).1 (fl' p T s t).2 p) s i i) (M := 10000) (n := s) (fun i _ => ⟨(mr i).1, by have := (mr i).2; omega⟩)
    have key3 := sum_run (h := mz S A4 B c) (f := f_X5_findPolynomial_L72 (b + 135) (ii ((t + 1 : Nat) : Int))) (fun i => flM p T (flW (fl' p T s t).1 (fl' p T s t).2 p) s i i) s (by omega) (fun k hk => by
      have a1 := u1 k hk k hk
      have r1 := mr k
      unfold f_X5_findPolynomial_L72
      simp (disch := omega) only [OI4 hX, s4, Option.bind_some, n_le, show ¬ (s ≤ k) by omega, ↓reduceIte, OR3 hX, arR (L_prd hX), arA (L_prd hX), a1, i_l, ll_add, k1, n_add]) (by
      unfold f_X5_findPolynomial_L72
      simp (disch := omega) only [OI4 hX, s4, Option.bind_some, n_le, Nat.le_refl, ↓reduceIte])
    have pv : A2 (b + 136) (s - t) = (fl' p T s t).2 := z2 t (Nat.le_refl _)
    have dm := emod_r (x := -(sm (fun i => flM p T (flW (fl' p T s t).1 (fl' p T s t).2 p) s i i) s)) (p := p) (by omega)
    have s2 := T2.1
    refine ⟨za A4 (b + 136) (up (A4 (b + 136)) (s - (t + 1)) (fl' p T s (t + 1)).2), ?_, fun i hi j hj => ?_, fun t' ht' => ?_, fun x x1 x2 => by rw [za_ne _ _ x1, g4 x x2, z3 x x1 x2]⟩
    · unfold f_X5_findPolynomial_L38
      simp (disch := omega) only [OI4 hX, s2, Option.bind_some, n_lt, show ¬ (s < t + 1) by omega, ↓reduceIte, OR0 hX, k1, n_sub, n_add, show s - (t + 1) + 1 = s - t by omega, jaI_n (L_pol hX), pv, Ov hX, e3, e4', g0, k0, key3, s4, OI5 hX, p4, ll_neg, f_of']
      rw [f_divide _ ⟨dm.1, by omega⟩ (r31_of (by omega) (by omega)) (by omega) (by omega)]
      simp (disch := omega) only [Option.bind_some, jsI_v (L_pol hX)]
      rfl
    · rw [za_ne _ _ (by omega), u1 i hi j hj]; rfl
    · rw [za_at]
      by_cases q : t' = t + 1
      · subst q; rw [up_at]
      · rw [up_ne _ _ (by omega), g4 _ (fun i _ => by omega)]; exact z2 t' (by omega)) (fun A2 ⟨_, _, z3⟩ => by
    have s2 : A2 (b + 135) 4 = (s : Int) := by rw [z3 _ (by omega) (fun i _ => by omega)]; exact hT.1
    unfold f_X5_findPolynomial_L38
    simp (disch := omega) only [OI4 hX, s2, Option.bind_some, n_lt, show s < s + 1 by omega, ↓reduceIte]) (A0 := za A1 (b + 136) (up (A1 (b + 136)) s ((1 : Nat) : Int))) ⟨fun i hi j hj => by rw [za_ne _ _ (by omega), y1 i hi j (by omega)]; rfl, fun t' ht' => by
      have : t' = 0 := by omega
      subst this; rw [za_at, Nat.sub_zero, up_at]; rfl, fun x x1 x2 => by rw [za_ne _ _ x1, y2 x (fun i hi => (x2 i hi).2)]⟩
  obtain ⟨A2, e2, z1, z2, z3⟩ := key2
  have e2' : jloop (f_X5_findPolynomial_L38 (b + 135)) jF (ii ((1 : Nat) : Int)) (mz S (za A1 (b + 136) (up (A1 (b + 136)) s ((1 : Nat) : Int))) B c) = some (ii ((s + 1 : Nat) : Int), mz S A2 B c) := e2
  unfold f_X5_findPolynomial
  simp only [k0, k1, e1', Option.bind_some, OR0 hX, OI4 hX, e4, st1, e2']
  refine ⟨A2, rfl, fun i hi => ?_, z3⟩
  have := z2 (s - i) (by omega)
  rw [show s - (s - i) = i by omega] at this
  exact this
end ops
