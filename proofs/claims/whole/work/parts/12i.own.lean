/-! An own form: the class's equations and their solution. -/
section ops
variable {b : Nat} {S0 : SS} {A0 : ZA} {cc : Nat → Nat} {e : Nat}
theorem x_layeq {S : SS} {A B : ZA} {c : (Nat × Nat) × (Nat → Nat)} {s : Nat} {p l : Int} {T : Nat → Nat → Int} (hX : LX S b) (hs : s ≤ 5) (hs1 : 1 ≤ s) (hp : 1 < p) (hp2 : p < 10000) (hT : OTab A b s p T) (hTr : ∀ i j, 0 ≤ T i j ∧ T i j < p) (hl : 0 ≤ l ∧ l < p) :
    ∃ A' : ZA, f_X5_layEquations (b + 135) (ii l) (mz S A B c) = some ((), mz S A' B c) ∧ WR A' b s (oc p s (eqm p l T)) ∧ (∀ x, (∀ i, i < 5 → x ≠ b + 143 + 1 + i) → A' x = A x) := by
  have key := z_run (S := S) (B := B) (c := c) (f := f_X5_layEquations_L2 (b + 135) (ii l)) (fun t => ii (t : Int)) (fun t A' => (∀ q, q < t → ∀ z, z < s → A' (b + 143 + 1 + q) z = oc p s (eqm p l T) q z) ∧ (∀ x, (∀ i, i < 5 → x ≠ b + 143 + 1 + i) → A' x = A x)) s (t := ii (s : Int)) (by omega) (fun t ht A1 ⟨y1, y2⟩ => by
    have key2 := z_run (S := S) (B := B) (c := c) (f := f_X5_layEquations_L12 (b + 135) (ii l) (ii (t : Int))) (fun u => ii ((u + 1 : Nat) : Int)) (fun u A' => (∀ z, z < u → A' (b + 143 + 1 + t) z = eqm p l T t (z + 1)) ∧ (∀ x, x ≠ b + 143 + 1 + t → A' x = A1 x)) (s - 1) (t := ii (s : Int)) (by omega) (fun u hu A2 ⟨z1, z2⟩ => by
      have g : ∀ x, (∀ i, i < 5 → x ≠ b + 143 + 1 + i) → A2 x = A x := fun x hx => by rw [z2 x (hx t (by omega)), y2 x hx]
      have e4 : A2 (b + 135) 4 = (s : Int) := by rw [g _ (fun i _ => by omega)]; exact hT.1
      have e5 : A2 (b + 135) 5 = p := by rw [g _ (fun i _ => by omega)]; exact hT.2.1 hs1
      have v : A2 (b + 137 + 1 + (u + 1)) t = T (u + 1) t := by rw [g _ (fun i _ => by omega)]; exact hT.2.2 (u + 1) (by omega) t ht
      have tr := hTr (u + 1) t
      refine ⟨za A2 (b + 143 + 1 + t) (up (A2 (b + 143 + 1 + t)) u (eqm p l T t (u + 1))), ?_, fun z hz => ?_, fun x hx => by rw [za_ne _ _ hx, z2 x hx]⟩
      · unfold f_X5_layEquations_L12
        simp (disch := omega) only [OI4 hX, e4, Option.bind_some, n_le, show ¬ (s ≤ u + 1) by omega, ↓reduceIte, OR1 hX, OR2 hX, arR (L_wrk hX), arR (L_tab hX), arA (L_tab hX), v, n_eq]
        by_cases q : u + 1 = t
        · subst q
          simp (disch := omega) only [↓reduceIte, ii_sub, OI5 hX, e5, Option.bind_some, i_l, f_of']
          rw [show ii ((u + 1 : Nat) : Int) - (1 : Int32) = ii (u : Int) by rw [k1, n_sub (by omega), show u + 1 - 1 = u by omega], k1]
          unfold eqm
          rw [if_pos rfl]
          simp (disch := omega) only [arS (L_wrk hX), Option.bind_some, n_add]
        · simp (disch := omega) only [q, ↓reduceIte, show (0 : Int32) = ii 0 from rfl, ii_sub, OI5 hX, e5, Option.bind_some, i_l, f_of']
          rw [show ii ((u + 1 : Nat) : Int) - (1 : Int32) = ii (u : Int) by rw [k1, n_sub (by omega), show u + 1 - 1 = u by omega], k1]
          unfold eqm
          rw [if_neg q]
          simp (disch := omega) only [arS (L_wrk hX), Option.bind_some, n_add]
      · rw [za_at]
        by_cases d : z = u
        · subst d; rw [up_at]
        · rw [up_ne _ _ d]; exact z1 z (by omega)) (fun A2 ⟨_, z2⟩ => by
      have e4 : A2 (b + 135) 4 = (s : Int) := by rw [z2 _ (by omega), y2 _ (fun i _ => by omega)]; exact hT.1
      unfold f_X5_layEquations_L12
      simp (disch := omega) only [OI4 hX, e4, Option.bind_some, n_le, ↓reduceIte, show s - 1 + 1 = s by omega, Nat.le_refl]) (A0 := A1) ⟨fun z hz => by omega, fun _ _ => rfl⟩
    obtain ⟨A2, e2, z1, z2⟩ := key2
    have e2' : jloop (f_X5_layEquations_L12 (b + 135) (ii l) (ii (t : Int))) jF (ii ((1 : Nat) : Int)) (mz S A1 B c) = some (ii (s : Int), mz S A2 B c) := e2
    have g : ∀ x, (∀ i, i < 5 → x ≠ b + 143 + 1 + i) → A2 x = A x := fun x hx => by rw [z2 x (hx t (by omega)), y2 x hx]
    have d4 : A1 (b + 135) 4 = (s : Int) := by rw [y2 _ (fun i _ => by omega)]; exact hT.1
    have e4 : A2 (b + 135) 4 = (s : Int) := by rw [g _ (fun i _ => by omega)]; exact hT.1
    have e5 : A2 (b + 135) 5 = p := by rw [g _ (fun i _ => by omega)]; exact hT.2.1 hs1
    have v : A2 (b + 137 + 1 + 0) t = T 0 t := by rw [g _ (fun i _ => by omega)]; exact hT.2.2 0 (by omega) t ht
    have tr := hTr 0 t
    have last : ((if 0 = t then l else 0) - T 0 t) % p = oc p s (eqm p l T) t (s - 1) := by
      have e : oc p s (eqm p l T) t (s - 1) = (-(eqm p l T t 0)) % p := by unfold oc; rw [if_neg (by omega)]
      rw [e]
      unfold eqm
      rw [neg_m, Int.neg_sub]
    refine ⟨za A2 (b + 143 + 1 + t) (up (A2 (b + 143 + 1 + t)) (s - 1) (oc p s (eqm p l T) t (s - 1))), ?_, fun q hq z hz => ?_, fun x hx => by rw [za_ne _ _ (hx t (by omega)), g x hx]⟩
    · unfold f_X5_layEquations_L2
      simp (disch := omega) only [OI4 hX, d4, Option.bind_some, n_le, show ¬ (s ≤ t) by omega, ↓reduceIte, e2', OR2 hX, arR (L_wrk hX), e4, k1, k0, n_sub, OR1 hX, arR (L_tab hX), arA (L_tab hX), v, OI5 hX, e5, n_eq]
      by_cases q : 0 = t
      · rw [if_pos q] at last
        rw [if_pos q.symm]
        simp (disch := omega) only [ii_sub, i_l, f_of', Option.bind_some, last]
        simp (disch := omega) only [arS (L_wrk hX), Option.bind_some, n_add]
      · rw [if_neg q] at last
        rw [if_neg (fun x => q x.symm), show (((0 : Nat) : Int)) = (0 : Int) from rfl]
        simp (disch := omega) only [ii_sub, i_l, f_of', Option.bind_some, last]
        simp (disch := omega) only [arS (L_wrk hX), Option.bind_some, n_add]
    · by_cases d : q = t
      · subst d
        rw [za_at]
        by_cases f : z = s - 1
        · subst f; rw [up_at]
        · rw [up_ne _ _ f, z1 z (by omega)]
          unfold oc
          rw [if_pos (by omega)]
      · rw [za_ne _ _ (by omega), z2 _ (by omega)]; exact y1 q (by omega) z hz) (fun A1 ⟨_, y2⟩ => by
    have e4 : A1 (b + 135) 4 = (s : Int) := by rw [y2 _ (fun i _ => by omega)]; exact hT.1
    unfold f_X5_layEquations_L2
    simp (disch := omega) only [OI4 hX, e4, Option.bind_some, n_le, Nat.le_refl, ↓reduceIte]) (A0 := A) ⟨fun i hi => by omega, fun _ _ => rfl⟩
  obtain ⟨A', e1, y1, y2⟩ := key
  have e1' : jloop (f_X5_layEquations_L2 (b + 135) (ii l)) jF (0 : Int32) (mz S A B c) = some (ii (s : Int), mz S A' B c) := e1
  unfold f_X5_layEquations
  rw [e1']
  exact ⟨A', rfl, y1, y2⟩
def ov (p : Int) (V : Nat → Nat → Int) (j : Nat) : Int := if j = 0 then 0 else if j = 1 then 1 else (-(V (j - 2) 0)) % p
def owf (p : Int) (s : Nat) (E : Nat → Nat → Int) (V : Nat → Nat → Int) : Prop := elm p s E (s - 1) = some V ∧ V (s - 1) 0 = 0
theorem WR_of {A : ZA} {b s : Nat} {W V : Nat → Nat → Int} (h : WR A b s W) (he : ∀ q z, W q z = V q z) : WR A b s V := fun q hq z hz => by rw [← he]; exact h q hq z hz
theorem neg0 {p x : Int} (h : 0 ≤ x ∧ x < p) : (-x) % p = 0 ↔ x = 0 := by
  constructor
  · intro q
    by_cases z : x = 0
    · exact z
    · have : (-x) % p = (p - x) % p := by rw [show p - x = -x + p * 1 by omega, Int.add_mul_emod_self_left]
      rw [this, Int.emod_eq_of_lt (by omega) (by omega)] at q
      omega
  · intro q
    subst q
    simp
theorem x_elim {S : SS} {A B : ZA} {c : (Nat × Nat) × (Nat → Nat)} {s y : Nat} {p : Int} {E : Nat → Nat → Int} (hX : LX S b) (hs : s ≤ 5) (hs1 : 1 ≤ s) (hp : 1 < p) (hp2 : p < 10000) (h4 : A (b + 135) 4 = (s : Int)) (h5 : A (b + 135) 5 = p) (hE : ∀ i j, 0 ≤ E i j ∧ E i j < p) (hW : WR A b s (oc p s E)) :
    ∃ (A' : ZA) (t : Int32 ⊕ Int32), jloop (f_X5_findOwn_L15 (b + 135) y (ii ((s - 1 : Nat) : Int))) jF (ii ((0 : Nat) : Int)) (mz S A B c) = some (t, mz S A' B c) ∧ (elm p s E (s - 1) = none → t = .inl (ii ((0 : Nat) : Int))) ∧ (∀ V, elm p s E (s - 1) = some V → t = .inr (ii ((s - 1 : Nat) : Int)) ∧ WR A' b s (oc p s V)) ∧ (∀ x, (∀ i, i < 5 → x ≠ b + 143 + 1 + i) → A' x = A x) := by
  have step : ∀ (n k : Nat), k + n = s - 1 → ∀ (A1 : ZA) (V : Nat → Nat → Int) (fuel : Nat), n < fuel → elm p s E k = some V → WR A1 b s (oc p s V) → (∀ x, (∀ i, i < 5 → x ≠ b + 143 + 1 + i) → A1 x = A x) → ∃ (A' : ZA) (t : Int32 ⊕ Int32), jloop (f_X5_findOwn_L15 (b + 135) y (ii ((s - 1 : Nat) : Int))) fuel (ii (k : Int)) (mz S A1 B c) = some (t, mz S A' B c) ∧ (elm p s E (s - 1) = none → t = .inl (ii ((0 : Nat) : Int))) ∧ (∀ V, elm p s E (s - 1) = some V → t = .inr (ii ((s - 1 : Nat) : Int)) ∧ WR A' b s (oc p s V)) ∧ (∀ x, (∀ i, i < 5 → x ≠ b + 143 + 1 + i) → A' x = A x) := by
    intro n
    induction n with
    | zero =>
      intro k hk A1 V fuel hf q1 q2 q3
      obtain ⟨fu, rfl⟩ : ∃ q, fuel = q + 1 := ⟨fuel - 1, by omega⟩
      have ek : k = s - 1 := by omega
      subst ek
      refine ⟨A1, .inr (ii ((s - 1 : Nat) : Int)), jloop_end ?_, fun h => ?_, fun V' h => ⟨rfl, ?_⟩, q3⟩
      · unfold f_X5_findOwn_L15
        simp (disch := omega) only [n_le, Nat.le_refl, ↓reduceIte]
      · rw [q1] at h; exact absurd h (by simp)
      · rw [q1, Option.some.injEq] at h
        rw [← h]; exact q2
    | succ n ih =>
      intro k hk A1 V fuel hf q1 q2 q3
      obtain ⟨fu, rfl⟩ : ∃ q, fuel = q + 1 := ⟨fuel - 1, by omega⟩
      have e4 : A1 (b + 135) 4 = (s : Int) := by rw [q3 _ (fun i _ => by omega)]; exact h4
      have e5 : A1 (b + 135) 5 = p := by rw [q3 _ (fun i _ => by omega)]; exact h5
      have Vr := elm_r hp hE k V q1
      have en : elm p s E (k + 1) = if pvr V (k + 1) (s - k) k = s then none else some (clr p k (k + 1) (swm k (pvr V (k + 1) (s - k) k) V)) := by
        show (elm p s E k).bind _ = _
        rw [q1]; rfl
      obtain ⟨A2, l1, l2, l3⟩ := x_lift (B := B) (c := c) hX hs hp2 e4 q2 (oc_r hp Vr) (show k < s by omega)
      rw [pvr_oc V (by omega)] at l1 l2
      have g2 : ∀ x, (∀ i, i < 5 → x ≠ b + 143 + 1 + i) → A2 x = A x := fun x hx => by rw [l3 x hx, q3 x hx]
      by_cases pz : pvr V (k + 1) (s - k) k = s
      · rw [if_pos pz] at en l1
        have no : elm p s E (s - 1) = none := by
          have := elm_none en n
          rw [show k + 1 + n = s - 1 by omega] at this
          exact this
        refine ⟨A2, .inl (ii ((0 : Nat) : Int)), jloop_end ?_, fun _ => rfl, fun V' h => ?_, g2⟩
        · unfold f_X5_findOwn_L15
          simp (disch := omega) only [n_le, show ¬ (s - 1 ≤ k) by omega, ↓reduceIte, Ov hX, l1, Option.bind_some, k0, eq_self]
        · rw [no] at h; exact absurd h (by simp)
      · rw [if_neg pz] at en l1
        have w2 := WR_of (l2 pz) (swm_oc p s k (pvr V (k + 1) (s - k) k) V)
        obtain ⟨A3, c1, c2, c3⟩ := x_clear (A := A2) (B := B) (c := c) hX hs hp hp2 (by rw [g2 _ (fun i _ => by omega)]; exact h4) (by rw [g2 _ (fun i _ => by omega)]; exact h5) w2 (oc_r hp (swm_r _ _ Vr)) (show k < s by omega)
        have w3 := WR_of c2 (clr_oc (p := p) _ (show k + 1 < s by omega))
        have hh : f_X5_findOwn_L15 (b + 135) y (ii ((s - 1 : Nat) : Int)) (ii (k : Int)) (mz S A1 B c) = some (.inl (ii ((k + 1 : Nat) : Int)), mz S A3 B c) := by
          unfold f_X5_findOwn_L15
          simp (disch := omega) only [n_le, show ¬ (s - 1 ≤ k) by omega, ↓reduceIte, Ov hX, l1, Option.bind_some, k0, n_eq, show ¬ (1 = 0) by omega, c1, k1, n_add]
        rw [jloop_go hh]
        exact ih (k + 1) (by omega) A3 _ fu (by omega) en w3 (fun x hx => by rw [c3 x hx, g2 x hx])
  exact step (s - 1) 0 (by omega) A E jF (jF_big (by omega)) rfl hW (fun _ _ => rfl)
theorem x_findOwn {S : SS} {A B : ZA} {c : (Nat × Nat) × (Nat → Nat)} {s : Nat} {p l : Int} {T : Nat → Nat → Int} (hX : LX S b) (hs : s ≤ 5) (hs1 : 1 ≤ s) (hp : 1 < p) (hp2 : p < 10000) (hT : OTab A b s p T) (hTr : ∀ i j, 0 ≤ T i j ∧ T i j < p) (hl : 0 ≤ l ∧ l < p) (hh : A (b + 234) 0 = 0) :
    ∃ A' : ZA, (∀ x, (∀ i, i < 5 → x ≠ b + 143 + 1 + i) → x ≠ b + 234 → A' x = A x) ∧ ((f_X5_findOwn (b + 135) (ii l) (b + 234) (mz S A B c) = some (ii ((0 : Nat) : Int), mz S A' B c) ∧ ∀ V, ¬ owf p s (eqm p l T) V) ∨ (∃ V, owf p s (eqm p l T) V ∧ f_X5_findOwn (b + 135) (ii l) (b + 234) (mz S A B c) = some (ii ((1 : Nat) : Int), mz S A' B c) ∧ ∀ j, j ≤ s → A' (b + 234) j = ov p V j)) := by
  obtain ⟨A1, e1, y1, y2⟩ := x_layeq (B := B) (c := c) hX hs hs1 hp hp2 hT hTr hl
  have d4 : A1 (b + 135) 4 = (s : Int) := by rw [y2 _ (fun i _ => by omega)]; exact hT.1
  have d5 : A1 (b + 135) 5 = p := by rw [y2 _ (fun i _ => by omega)]; exact hT.2.1 hs1
  have hE := eqm_r hp l T
  obtain ⟨A2, t, e2, z1, z2, z3⟩ := x_elim (B := B) (c := c) (y := b + 234) hX hs hs1 hp hp2 d4 d5 hE y1
  have g2 : ∀ x, (∀ i, i < 5 → x ≠ b + 143 + 1 + i) → A2 x = A x := fun x hx => by rw [z3 x hx, y2 x hx]
  rcases ee : elm p s (eqm p l T) (s - 1) with _ | V
  · refine ⟨A2, fun x hx _ => g2 x hx, Or.inl ⟨?_, fun V h => ?_⟩⟩
    · rw [z1 ee] at e2
      unfold f_X5_findOwn
      simp (disch := omega) only [Ov hX, e1, Option.bind_some, OI4 hX, d4, k1, n_sub, k0, e2, Sum.elim_inl]
    · rw [h.1] at ee; exact absurd ee (by simp)
  · obtain ⟨ht, w⟩ := z2 V ee
    rw [ht] at e2
    have Vr := elm_r hp hE (s - 1) V ee
    have vl := w (s - 1) (by omega) (s - 1) (by omega)
    have el : oc p s V (s - 1) (s - 1) = (-(V (s - 1) 0)) % p := by unfold oc; rw [if_neg (by omega)]
    have rl := emr hp (-(V (s - 1) 0))
    by_cases q : V (s - 1) 0 = 0
    · have q' := (neg0 (Vr (s - 1) 0)).mpr q
      have key := z_run (S := S) (B := B) (c := c) (f := f_X5_findOwn_L68 (b + 135) (b + 234) (ii ((s - 1 : Nat) : Int))) (fun t => ii (t : Int)) (fun t A' => (∀ j, j < t + 2 → A' (b + 234) j = ov p V j) ∧ (∀ x, x ≠ b + 234 → A' x = A2 x)) (s - 1) (t := ii ((s - 1 : Nat) : Int)) (by omega) (fun t ht A3 ⟨x1, x2⟩ => by
        have vt : A3 (b + 143 + 1 + t) (s - 1) = (-(V t 0)) % p := by
          rw [x2 _ (by omega), w t (by omega) (s - 1) (by omega)]
          unfold oc
          rw [if_neg (by omega)]
        refine ⟨za A3 (b + 234) (up (A3 (b + 234)) (t + 2) ((-(V t 0)) % p)), ?_, fun j hj => ?_, fun x hx => by rw [za_ne _ _ hx, x2 x hx]⟩
        · unfold f_X5_findOwn_L68
          simp (disch := omega) only [n_le, show ¬ (s - 1 ≤ t) by omega, ↓reduceIte, OR2 hX, Option.bind_some, arR (L_wrk hX), arA (L_wrk hX), vt, k2, k1, n_add, FS' (L_scr hX)]
        · rw [za_at]
          by_cases d : j = t + 2
          · subst d
            rw [up_at]
            unfold ov
            rw [if_neg (by omega), if_neg (by omega), show t + 2 - 2 = t by omega]
          · rw [up_ne _ _ d]; exact x1 j (by omega)) (fun A3 _ => by
        unfold f_X5_findOwn_L68
        simp (disch := omega) only [n_le, Nat.le_refl, ↓reduceIte]) (A0 := za A2 (b + 234) (up (A2 (b + 234)) 1 ((1 : Nat) : Int))) ⟨fun j hj => by
          rw [za_at]
          by_cases d : j = 1
          · subst d; rw [up_at]; rfl
          · have : j = 0 := by omega
            subst this
            rw [up_ne _ _ (by omega), g2 _ (fun i _ => by omega), hh]; rfl, fun x hx => za_ne _ _ hx⟩
      obtain ⟨A3, e3, x1, x2⟩ := key
      have e3' : jloop (f_X5_findOwn_L68 (b + 135) (b + 234) (ii ((s - 1 : Nat) : Int))) jF (ii ((0 : Nat) : Int)) (mz S (za A2 (b + 234) (up (A2 (b + 234)) 1 ((1 : Nat) : Int))) B c) = some (ii ((s - 1 : Nat) : Int), mz S A3 B c) := e3
      refine ⟨A3, fun x hx h' => by rw [x2 x h', g2 x hx], Or.inr ⟨V, ⟨ee, q⟩, ?_, fun j hj => x1 j (by omega)⟩⟩
      unfold f_X5_findOwn
      simp (disch := omega) only [Ov hX, e1, Option.bind_some, OI4 hX, d4, k1, n_sub, k0, e2, Sum.elim_inr, n_lt, show ¬ (s - 1 < 0) by omega, ↓reduceIte, OR2 hX, arR (L_wrk hX), arA (L_wrk hX), vl, el, q']
      rw [if_pos (by decide)]
      simp (disch := omega) only [FS' (L_scr hX), Option.bind_some, e3']
    · have q' : ¬ ((-(V (s - 1) 0)) % p = 0) := fun x => q ((neg0 (Vr (s - 1) 0)).mp x)
      refine ⟨A2, fun x hx _ => g2 x hx, Or.inl ⟨?_, fun U h => ?_⟩⟩
      · unfold f_X5_findOwn
        simp (disch := omega) only [Ov hX, e1, Option.bind_some, OI4 hX, d4, k1, n_sub, k0, e2, Sum.elim_inr, n_lt, show ¬ (s - 1 < 0) by omega, ↓reduceIte, OR2 hX, arR (L_wrk hX), arA (L_wrk hX), vl, el]
        rw [if_neg (by rw [i_eq (by omega) (by omega) (by omega) (by omega)]; exact q')]
      · have := h.1
        rw [ee, Option.some.injEq] at this
        subst this
        exact q h.2
end ops
