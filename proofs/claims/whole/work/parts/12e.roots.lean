/-! Roots: not more than the degree; the class's. -/
def ev (K : Nat → Int) (x : Int) : Nat → Int
  | 0 => 0
  | t + 1 => ev K x t * x + K t
theorem ev_div (K : Nat → Int) (x x0 : Int) (n : Nat) : ev K x (n + 1) = (x - x0) * ev (fun t => ev K x0 (t + 1)) x n + ev K x0 (n + 1) := by
  induction n with
  | zero => simp [ev]
  | succ n ih =>
    show ev K x (n + 1) * x + K (n + 1) = (x - x0) * (ev (fun t => ev K x0 (t + 1)) x n * x + ev K x0 (n + 1)) + (ev K x0 (n + 1) * x0 + K (n + 1))
    rw [ih, Int.add_mul, Int.mul_add, Int.mul_assoc, Int.sub_mul x x0 (ev K x0 (n + 1)), Int.mul_comm x (ev K x0 (n + 1)), Int.mul_comm x0 (ev K x0 (n + 1))]
    omega
theorem roots_le {p : Int} (hP : PR p) : ∀ (s : Nat) (K : Nat → Int), K 0 = 1 → ∀ L : List Nat, L.Nodup → (∀ x ∈ L, (x : Int) < p ∧ p ∣ ev K (x : Int) (s + 1)) → L.length ≤ s := by
  intro s
  induction s with
  | zero =>
    intro K hK L hN hL
    cases L with
    | nil => exact Nat.le_refl _
    | cons x L =>
      have := (hL x (List.mem_cons_self ..)).2
      simp only [ev, Int.zero_mul, Int.zero_add] at this
      rw [hK] at this
      have h1 := Int.le_of_dvd (by decide) this
      have := hP.1
      omega
  | succ s ih =>
    intro K hK L hN hL
    cases L with
    | nil => exact Nat.zero_le _
    | cons x0 L =>
      have hx0 := hL x0 (List.mem_cons_self ..)
      rw [List.nodup_cons] at hN
      have := ih (fun t => ev K (x0 : Int) (t + 1)) (by simp [ev, hK]) L hN.2 (fun x hx => by
        obtain ⟨h1, h2⟩ := hL x (List.mem_cons_of_mem _ hx)
        refine ⟨h1, ?_⟩
        rw [ev_div K (x : Int) (x0 : Int) (s + 1)] at h2
        have h3 : p ∣ ((x : Int) - (x0 : Int)) * ev (fun t => ev K (x0 : Int) (t + 1)) (x : Int) (s + 1) := by
          have := Int.dvd_sub h2 hx0.2
          rw [Int.add_sub_cancel] at this
          exact this
        rcases PR_dvd hP h3 with h4 | h4
        · exfalso
          have hne : x ≠ x0 := fun q => hN.1 (q ▸ hx)
          obtain ⟨u, hu⟩ := h4
          have hp := hP.1
          have h5 := hx0.1
          rcases Int.lt_trichotomy u 0 with q | q | q
          · have : p * u ≤ p * (-1) := Int.mul_le_mul_of_nonneg_left (by omega) (by omega)
            omega
          · rw [q, Int.mul_zero] at hu; omega
          · have : p * 1 ≤ p * u := Int.mul_le_mul_of_nonneg_left (by omega) (by omega)
            omega
        · exact h4)
      simp only [List.length_cons]
      omega
theorem hr_ev (p : Int) (C : Nat → Int) (x : Int) (s t : Nat) : hr p C x s t = ev (fun t => C (s - t)) x t % p := by
  induction t with
  | zero => simp [hr, ev]
  | succ t ih =>
    simp only [hr, ev]
    rw [ih, ← em_add_l, em_mul_l, em_add_l]
theorem hr_r {p : Int} (hp : 1 < p) (C : Nat → Int) (x : Int) (s t : Nat) : 0 ≤ hr p C x s t ∧ hr p C x s t < p := by rw [hr_ev]; exact emod_r (by omega)
theorem zl_mem (P : Nat → Int) (N : Nat) : (∀ x ∈ zl P N, x < N ∧ P x = 0) ∧ (zl P N).Nodup := by
  induction N with
  | zero => exact ⟨fun x hx => (by cases hx), List.nodup_nil⟩
  | succ N ih =>
    simp only [zl]
    split
    · rename_i h
      refine ⟨fun x hx => ?_, ?_⟩
      · rcases List.mem_append.mp hx with q | q
        · have := ih.1 x q; exact ⟨by omega, this.2⟩
        · rw [List.mem_singleton] at q; subst q; exact ⟨by omega, h⟩
      · rw [List.nodup_append]
        refine ⟨ih.2, by simp, fun a ha c hc => ?_⟩
        rw [List.mem_singleton] at hc
        have := (ih.1 a ha).1
        omega
    · exact ⟨fun x hx => by have := ih.1 x hx; exact ⟨by omega, this.2⟩, ih.2⟩
theorem zl_pre (P : Nat → Int) (x k : Nat) : ∃ l, zl P (x + k) = zl P x ++ l := by
  induction k with
  | zero => exact ⟨[], by simp⟩
  | succ k ih =>
    obtain ⟨l, hl⟩ := ih
    show ∃ l, (if P (x + k) = 0 then zl P (x + k) ++ [x + k] else zl P (x + k)) = _
    split
    · exact ⟨l ++ [x + k], by rw [hl, List.append_assoc]⟩
    · exact ⟨l, hl⟩
theorem zl_len {p : Int} (hP : PR p) {C : Nat → Int} {s : Nat} (hC : C s = 1) {N : Nat} (hN : (N : Int) ≤ p) : (zl (fun x => hr p C (x : Int) s (s + 1)) N).length ≤ s := by
  obtain ⟨h1, h2⟩ := zl_mem (fun x => hr p C (x : Int) s (s + 1)) N
  refine roots_le hP s (fun t => C (s - t)) (by simpa using hC) _ h2 (fun x hx => ?_)
  obtain ⟨h3, h4⟩ := h1 x hx
  refine ⟨by omega, ?_⟩
  have h5 : hr p C (x : Int) s (s + 1) = 0 := h4
  rw [hr_ev] at h5
  exact Int.dvd_of_emod_eq_zero h5
theorem zl_full {p : Int} (hP : PR p) {C : Nat → Int} {s : Nat} (hC : C s = 1) {x : Nat} (hx : (x : Int) ≤ p) (hf : s ≤ (zl (fun x => hr p C (x : Int) s (s + 1)) x).length) : zl (fun x => hr p C (x : Int) s (s + 1)) p.toNat = zl (fun x => hr p C (x : Int) s (s + 1)) x := by
  obtain ⟨l, hl⟩ := zl_pre (fun x => hr p C (x : Int) s (s + 1)) x (p.toNat - x)
  rw [show x + (p.toNat - x) = p.toNat by omega] at hl
  have h1 := zl_len hP hC (N := p.toNat) (by omega)
  rw [hl, List.length_append] at h1
  have : l = [] := List.length_eq_zero_iff.mp (by omega)
  rw [hl, this, List.append_nil]
theorem zl_app {P : Nat → Int} {x : Nat} (h : P x = 0) : zl P (x + 1) = zl P x ++ [x] := by simp only [zl]; rw [if_pos h]
theorem zl_no {P : Nat → Int} {x : Nat} (h : ¬ P x = 0) : zl P (x + 1) = zl P x := by simp only [zl]; rw [if_neg h]
theorem getD_l {l : List Nat} {x j : Nat} (h : j < l.length) : (l ++ [x]).getD j 0 = l.getD j 0 := by
  simp only [List.getD_eq_getElem?_getD, List.getElem?_append_left h]
theorem getD_r {l : List Nat} {x : Nat} : (l ++ [x]).getD l.length 0 = x := by
  simp [List.getD_eq_getElem?_getD]
section ops
variable {b : Nat} {S0 : SS} {A0 : ZA} {cc : Nat → Nat} {e : Nat}
theorem x_polyAt {S : SS} {A B : ZA} {c : (Nat × Nat) × (Nat → Nat)} {s x : Nat} {p : Int} {C : Nat → Int} (hX : LX S b) (hs : s ≤ 5) (hp : 1 < p) (hp2 : p < 10000) (h4 : A (b + 135) 4 = (s : Int)) (h5 : A (b + 135) 5 = p) (hC : ∀ i, i ≤ s → A (b + 136) i = C i ∧ 0 ≤ C i ∧ C i < p) (hx : (x : Int) < p) :
    f_X5_polynomialAt (b + 135) (ii (x : Int)) (mz S A B c) = some (ii (hr p C (x : Int) s (s + 1)), mz S A B c) := by
  have key := jloop_run (f := f_X5_polynomialAt_L7 (b + 135) (ii (x : Int))) (fun t => (ii (hr p C (x : Int) s t), ii ((s : Int) - (t : Int)))) (fun _ => mz S A B c) (s + 1) (fun t ht => by
    obtain ⟨c1, c2, c3⟩ := hC (s - t) (by omega)
    have r1 := hr_r hp C (x : Int) s t
    have r2 := pr_r (x := hr p C (x : Int) s t) (y := (x : Int)) ⟨r1.1, by omega⟩ ⟨by omega, by omega⟩
    unfold f_X5_polynomialAt_L7
    rw [show (s : Int) - (t : Int) = ((s - t : Nat) : Int) by omega, show (s : Int) - ((t + 1 : Nat) : Int) = ((s - t : Nat) : Int) + -1 by omega]
    simp (disch := omega) only [k0, n_lt, show ¬ (s - t < 0) by omega, ↓reduceIte, OR0 hX, Option.bind_some, jaI_n (L_pol hX), c1, OI5 hX, h5, i_l, ll_mul, ll_add, f_of']
    rw [show (-1 : Int32) = ii (-1) from rfl, ii_add]
    rfl) (t := (ii (hr p C (x : Int) s (s + 1)), ii (-1))) (h1 := mz S A B c) (by
    unfold f_X5_polynomialAt_L7
    rw [show (s : Int) - ((s + 1 : Nat) : Int) = -1 by omega]
    exact if_pos (show ii (-1) < (0 : Int32) by decide)) (jF_big (by omega))
  rw [show (s : Int) - ((0 : Nat) : Int) = (s : Int) by omega] at key
  unfold f_X5_polynomialAt
  rw [OI4 hX, h4]
  simp only [Option.bind_some]
  have key' : jloop (f_X5_polynomialAt_L7 (b + 135) (ii (x : Int))) jF ((0 : Int32), ii (s : Int)) (mz S A B c) = some ((ii (hr p C (x : Int) s (s + 1)), ii (-1)), mz S A B c) := key
  rw [key']
  rfl
theorem x_roots {S : SS} {A B : ZA} {c : (Nat × Nat) × (Nat → Nat)} {s a : Nat} {p : Int} {C : Nat → Int} (hX : LX S b) (hs : s ≤ 5) (hP : PR p) (h4 : A (b + 135) 4 = (s : Int)) (h5 : 1 ≤ s → A (b + 135) 5 = p) (h5' : -2147483648 ≤ A (b + 135) 5 ∧ A (b + 135) 5 < 2147483648) (hC : ∀ i, i ≤ s → A (b + 136) i = C i ∧ 0 ≤ C i ∧ C i < p) (hC1 : C s = 1) (ha : S a = some (.inr (.inl (.int, 6)))) (hab : a ≠ b + 135 ∧ a ≠ b + 136) :
    ∃ A' : ZA, f_X5_findRoots (b + 135) a (mz S A B c) = some (ii ((((if s = 0 then [] else zl (fun x => hr p C (x : Int) s (s + 1)) p.toNat).length : Nat)) : Int), mz S A' B c) ∧ (∀ j, j < (if s = 0 then [] else zl (fun x => hr p C (x : Int) s (s + 1)) p.toNat).length → A' a j = (((if s = 0 then [] else zl (fun x => hr p C (x : Int) s (s + 1)) p.toNat).getD j 0 : Nat) : Int)) ∧ (∀ x, x ≠ a → A' x = A x) := by
  have hp := PR_p hP
  by_cases s0 : s = 0
  · subst s0
    rw [if_pos rfl]
    have hend : jloop (f_X5_findRoots_L4 (b + 135) a) jF ((0 : Int32), (0 : Int32)) (mz S A B c) = some (((0 : Int32), (0 : Int32)), mz S A B c) := by
      refine jloop_end (n := 19999) ?_
      unfold f_X5_findRoots_L4
      simp (disch := omega) only [OI5 hX, OI4 hX, h4, Option.bind_some, k0, n_le, Nat.le_refl, ↓reduceIte, ite_self]
    refine ⟨A, ?_, fun j hj => by simp at hj, fun _ _ => rfl⟩
    unfold f_X5_findRoots
    rw [hend]
    rfl
  · rw [if_neg s0]
    have hp5 := h5 (by omega)
    have step : ∀ (k x : Nat), x + k = p.toNat → ∀ (A1 : ZA) (fuel : Nat), k < fuel → (∀ j, j < (zl (fun x => hr p C (x : Int) s (s + 1)) x).length → A1 a j = (((zl (fun x => hr p C (x : Int) s (s + 1)) x).getD j 0 : Nat) : Int)) → (∀ y, y ≠ a → A1 y = A y) → ∃ t A', jloop (f_X5_findRoots_L4 (b + 135) a) fuel (ii (((zl (fun x => hr p C (x : Int) s (s + 1)) x).length : Nat) : Int), ii (x : Int)) (mz S A1 B c) = some ((ii (((zl (fun x => hr p C (x : Int) s (s + 1)) p.toNat).length : Nat) : Int), t), mz S A' B c) ∧ (∀ j, j < (zl (fun x => hr p C (x : Int) s (s + 1)) p.toNat).length → A' a j = (((zl (fun x => hr p C (x : Int) s (s + 1)) p.toNat).getD j 0 : Nat) : Int)) ∧ (∀ y, y ≠ a → A' y = A y) := by
      intro k
      induction k with
      | zero =>
        intro x hx A1 fuel hf q1 q2
        obtain ⟨fu, rfl⟩ : ∃ q, fuel = q + 1 := ⟨fuel - 1, by omega⟩
        have e : x = p.toNat := by omega
        subst e
        refine ⟨ii ((p.toNat : Nat) : Int), A1, jloop_end ?_, q1, q2⟩
        have e5 : A1 (b + 135) 5 = ((p.toNat : Nat) : Int) := by rw [q2 _ (by omega), hp5]; omega
        unfold f_X5_findRoots_L4
        simp (disch := omega) only [OI5 hX, e5, Option.bind_some, n_le, Nat.le_refl, ↓reduceIte]
      | succ k ih =>
        intro x hx A1 fuel hf q1 q2
        obtain ⟨fu, rfl⟩ : ∃ q, fuel = q + 1 := ⟨fuel - 1, by omega⟩
        have hlen := zl_len hP hC1 (N := x) (by omega)
        have e5 : A1 (b + 135) 5 = ((p.toNat : Nat) : Int) := by rw [q2 _ (by omega), hp5]; omega
        have e4 : A1 (b + 135) 4 = (s : Int) := by rw [q2 _ (by omega)]; exact h4
        have pa := x_polyAt (A := A1) (B := B) (c := c) (x := x) (C := C) hX hs (by omega) hp.2 e4 (by rw [e5]; omega) (fun i hi => by rw [q2 _ (by omega)]; exact hC i hi) (by omega)
        have vr := hr_r (p := p) (by omega) C (x : Int) s (s + 1)
        by_cases full : s ≤ (zl (fun x => hr p C (x : Int) s (s + 1)) x).length
        · have hz := zl_full hP hC1 (x := x) (by omega) full
          refine ⟨ii (x : Int), A1, ?_, by rw [hz]; exact q1, q2⟩
          rw [hz]
          refine jloop_end ?_
          unfold f_X5_findRoots_L4
          simp (disch := omega) only [OI5 hX, e5, OI4 hX, e4, Option.bind_some, n_le, show ¬ (p.toNat ≤ x) by omega, full, ↓reduceIte]
        · by_cases z : hr p C (x : Int) s (s + 1) = 0
          · have hz : zl (fun x => hr p C (x : Int) s (s + 1)) (x + 1) = zl (fun x => hr p C (x : Int) s (s + 1)) x ++ [x] := zl_app (P := fun x => hr p C (x : Int) s (s + 1)) z
            have hstep : f_X5_findRoots_L4 (b + 135) a (ii (((zl (fun x => hr p C (x : Int) s (s + 1)) x).length : Nat) : Int), ii (x : Int)) (mz S A1 B c) = some (.inl (ii (((zl (fun x => hr p C (x : Int) s (s + 1)) (x + 1)).length : Nat) : Int), ii ((x + 1 : Nat) : Int)), mz S (za A1 a (up (A1 a) (zl (fun x => hr p C (x : Int) s (s + 1)) x).length (x : Int))) B c) := by
              rw [hz, List.length_append]
              unfold f_X5_findRoots_L4
              simp (disch := omega) only [OI5 hX, e5, OI4 hX, e4, Option.bind_some, n_le, show ¬ (p.toNat ≤ x) by omega, full, ↓reduceIte, Ov hX, pa]
              rw [if_pos (show ii (hr p C (x : Int) s (s + 1)) = (0 : Int32) by rw [z]; rfl), jsI_v ha (by omega) (by omega)]
              simp only [Option.bind_some, k1, n_add, List.length_singleton]
            rw [jloop_go hstep]
            exact ih (x + 1) (by omega) _ fu (by omega) (fun j hj => by
              rw [hz] at hj ⊢
              rw [List.length_append, List.length_singleton] at hj
              rw [za_at]
              by_cases ej : j = (zl (fun x => hr p C (x : Int) s (s + 1)) x).length
              · rw [ej, up_at, getD_r]
              · rw [up_ne _ _ ej, getD_l (by omega)]; exact q1 j (by omega)) (fun y hy => by rw [za_ne _ _ hy, q2 y hy])
          · have hz : zl (fun x => hr p C (x : Int) s (s + 1)) (x + 1) = zl (fun x => hr p C (x : Int) s (s + 1)) x := zl_no (P := fun x => hr p C (x : Int) s (s + 1)) z
            have hstep : f_X5_findRoots_L4 (b + 135) a (ii (((zl (fun x => hr p C (x : Int) s (s + 1)) x).length : Nat) : Int), ii (x : Int)) (mz S A1 B c) = some (.inl (ii (((zl (fun x => hr p C (x : Int) s (s + 1)) (x + 1)).length : Nat) : Int), ii ((x + 1 : Nat) : Int)), mz S A1 B c) := by
              rw [hz]
              unfold f_X5_findRoots_L4
              simp (disch := omega) only [OI5 hX, e5, OI4 hX, e4, Option.bind_some, n_le, show ¬ (p.toNat ≤ x) by omega, full, ↓reduceIte, Ov hX, pa]
              rw [if_neg (show ¬ (ii (hr p C (x : Int) s (s + 1)) = (0 : Int32)) by rw [k0, i_eq (by omega) (by omega) (by omega) (by omega)]; omega), k1, n_add]
            rw [jloop_go hstep]
            exact ih (x + 1) (by omega) A1 fu (by omega) (by rw [hz]; exact q1) q2
    obtain ⟨t, A', e1, y1, y2⟩ := step p.toNat 0 (by omega) A jF (jF_big (by omega)) (fun j hj => by simp [zl] at hj) (fun _ _ => rfl)
    have e1' : jloop (f_X5_findRoots_L4 (b + 135) a) jF ((0 : Int32), (0 : Int32)) (mz S A B c) = some ((ii (((zl (fun x => hr p C (x : Int) s (s + 1)) p.toNat).length : Nat) : Int), t), mz S A' B c) := e1
    refine ⟨A', ?_, y1, y2⟩
    unfold f_X5_findRoots
    rw [e1']
    rfl
end ops
