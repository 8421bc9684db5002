/-! An own form: the elimination, and the class's side. -/
def swm (k r : Nat) (W : Nat → Nat → Int) (q z : Nat) : Int := if q = r then W k z else if q = k then W r z else W q z
def clr (p : Int) (k col : Nat) (W : Nat → Nat → Int) (q z : Nat) : Int := if q = k then W k z * pw (W k col) p (p - 2).toNat % p else (W q z - W q col * (W k z * pw (W k col) p (p - 2).toNat % p)) % p
def pvr (W : Nat → Nat → Int) (col : Nat) : Nat → Nat → Nat
  | 0, k => k
  | n + 1, k => if W k col = 0 then pvr W col n (k + 1) else k
def elm (p : Int) (s : Nat) (E : Nat → Nat → Int) : Nat → Option (Nat → Nat → Int)
  | 0 => some E
  | k + 1 => (elm p s E k).bind fun V => if pvr V (k + 1) (s - k) k = s then none else some (clr p k (k + 1) (swm k (pvr V (k + 1) (s - k) k) V))
def eqm (p l : Int) (T : Nat → Nat → Int) (j z : Nat) : Int := (T z j - (if z = j then l else 0)) % p
def oc (p : Int) (s : Nat) (E : Nat → Nat → Int) (q z : Nat) : Int := if z + 1 < s then E q (z + 1) else (-(E q 0)) % p
theorem swm_r {p : Int} {W : Nat → Nat → Int} (k r : Nat) (h : ∀ i j, 0 ≤ W i j ∧ W i j < p) (i j : Nat) : 0 ≤ swm k r W i j ∧ swm k r W i j < p := by
  unfold swm
  split
  · exact h _ _
  · split
    · exact h _ _
    · exact h _ _
theorem emr {p : Int} (hp : 1 < p) (x : Int) : 0 ≤ x % p ∧ x % p < p := ⟨Int.emod_nonneg _ (by omega), Int.emod_lt_of_pos _ (by omega)⟩
theorem clr_r {p : Int} (hp : 1 < p) (W : Nat → Nat → Int) (k col i j : Nat) : 0 ≤ clr p k col W i j ∧ clr p k col W i j < p := by
  unfold clr
  split
  · exact emr hp _
  · exact emr hp _
theorem oc_r {p : Int} (hp : 1 < p) {s : Nat} {W : Nat → Nat → Int} (h : ∀ i j, 0 ≤ W i j ∧ W i j < p) (i j : Nat) : 0 ≤ oc p s W i j ∧ oc p s W i j < p := by
  unfold oc
  split
  · exact h _ _
  · exact emr hp _
theorem elm_r {p : Int} (hp : 1 < p) {s : Nat} {E : Nat → Nat → Int} (h : ∀ i j, 0 ≤ E i j ∧ E i j < p) : ∀ (k : Nat) (V : Nat → Nat → Int), elm p s E k = some V → ∀ i j, 0 ≤ V i j ∧ V i j < p
  | 0, V, e => by
    have e' : some E = some V := e
    rw [Option.some.injEq] at e'
    subst e'
    exact h
  | k + 1, V, e => by
    have e' : ((elm p s E k).bind fun V => if pvr V (k + 1) (s - k) k = s then none else some (clr p k (k + 1) (swm k (pvr V (k + 1) (s - k) k) V))) = some V := e
    rcases q : elm p s E k with _ | U
    · rw [q] at e'; exact absurd e' (by simp)
    · rw [q] at e'
      simp only [Option.bind_some] at e'
      split at e'
      · exact absurd e' (by simp)
      · rw [Option.some.injEq] at e'
        subst e'
        exact clr_r hp _ _ _
theorem elm_none {p : Int} {s : Nat} {E : Nat → Nat → Int} {k : Nat} (h : elm p s E k = none) : ∀ n, elm p s E (k + n) = none
  | 0 => h
  | n + 1 => by
    show (elm p s E (k + n)).bind _ = none
    rw [elm_none h n]; rfl
theorem eqm_r {p : Int} (hp : 1 < p) (l : Int) (T : Nat → Nat → Int) (i j : Nat) : 0 ≤ eqm p l T i j ∧ eqm p l T i j < p := emr hp _
theorem pvr_ge (W : Nat → Nat → Int) (col : Nat) : ∀ n k, k ≤ pvr W col n k ∧ pvr W col n k ≤ k + n
  | 0, k => ⟨Nat.le_refl _, Nat.le_refl _⟩
  | n + 1, k => by
    have := pvr_ge W col n (k + 1)
    unfold pvr
    split
    · omega
    · omega
theorem pvr_oc {p : Int} {s : Nat} (E : Nat → Nat → Int) {col : Nat} (hc : col + 1 < s) : ∀ n k, pvr (oc p s E) col n k = pvr E (col + 1) n k
  | 0, k => rfl
  | n + 1, k => by
    unfold pvr
    rw [pvr_oc E hc n (k + 1)]
    unfold oc
    rw [if_pos hc]
theorem neg_m (p x : Int) : (-(x % p)) % p = (-x) % p := by
  have h := Int.emod_add_mul_ediv x p
  have e : -(x % p) = -x + p * (x / p) := by omega
  rw [e, Int.add_mul_emod_self_left]
theorem negmul_m (p x y : Int) : ((-x) % p * y) % p = (-(x * y % p)) % p := by
  rw [neg_m, Int.mul_emod, Int.emod_emod_of_dvd _ (Int.dvd_refl p), ← Int.mul_emod, Int.neg_mul]
theorem sub_m (p x y : Int) : (x % p - y) % p = (x - y) % p := by
  have h := Int.emod_add_mul_ediv x p
  have e : x % p - y = x - y + p * (-(x / p)) := by rw [Int.mul_neg]; omega
  rw [e, Int.add_mul_emod_self_left]
theorem sub_m2 (p x u y : Int) : (x - u * (y % p)) % p = (x - u * y) % p := by
  have h := Int.emod_add_mul_ediv y p
  have e : x - u * (y % p) = x - u * y + p * (u * (y / p)) := by
    have h2 : u * y = u * (y % p) + u * (p * (y / p)) := by rw [← Int.mul_add, h]
    have h3 : p * (u * (y / p)) = u * (p * (y / p)) := by rw [← Int.mul_assoc, ← Int.mul_assoc, Int.mul_comm p u]
    omega
  rw [e, Int.add_mul_emod_self_left]
theorem swm_oc (p : Int) (s k r : Nat) (E : Nat → Nat → Int) (q z : Nat) : swm k r (oc p s E) q z = oc p s (swm k r E) q z := by
  unfold swm oc
  by_cases a : q = r
  · simp only [a, ↓reduceIte]
  · by_cases c : q = k
    · simp only [a, c, ↓reduceIte]
      have a' : ¬ (k = r) := fun x => a (by omega)
      simp only [a', ↓reduceIte]
    · simp only [a, c, ↓reduceIte]
theorem clr_oc {p : Int} {s k : Nat} (E : Nat → Nat → Int) (hk : k + 1 < s) (q z : Nat) : clr p k k (oc p s E) q z = oc p s (clr p k (k + 1) E) q z := by
  have e0 : ∀ q, oc p s E q k = E q (k + 1) := fun q => by unfold oc; rw [if_pos hk]
  unfold clr
  rw [e0 k, e0 q]
  by_cases a : z + 1 < s
  · have e1 : ∀ q, oc p s E q z = E q (z + 1) := fun q => by unfold oc; rw [if_pos a]
    rw [e1, e1]
    unfold oc
    rw [if_pos a]
  · have e1 : ∀ q, oc p s E q z = (-(E q 0)) % p := fun q => by unfold oc; rw [if_neg a]
    rw [e1, e1]
    unfold oc
    rw [if_neg a]
    dsimp only
    by_cases c : q = k
    · rw [if_pos c, if_pos c, negmul_m]
    · have h1 : ∀ U w : Int, ((-E q 0) % p - U * ((-E k 0) % p * w % p)) % p = (-E q 0 - U * -(E k 0 * w)) % p := fun U w => by rw [negmul_m, neg_m, sub_m, sub_m2]
      have h2 : ∀ U w : Int, (-((E q 0 - U * (E k 0 * w % p)) % p)) % p = (-(E q 0 - U * (E k 0 * w))) % p := fun U w => by rw [sub_m2, neg_m]
      rw [if_neg c, if_neg c, h1, h2]
      rw [show -(E q 0 - E q (k + 1) * (E k 0 * pw (E k (k + 1)) p (p - 2).toNat)) = -E q 0 - E q (k + 1) * -(E k 0 * pw (E k (k + 1)) p (p - 2).toNat) by rw [Int.mul_neg]; omega]
section ops
variable {b : Nat} {S0 : SS} {A0 : ZA} {cc : Nat → Nat} {e : Nat}
def WR (A : ZA) (b s : Nat) (W : Nat → Nat → Int) : Prop := ∀ q, q < s → ∀ z, z < s → A (b + 143 + 1 + q) z = W q z
theorem x_exch {S : SS} {A B : ZA} {c : (Nat × Nat) × (Nat → Nat)} {s : Nat} {W : Nat → Nat → Int} (hX : LX S b) (hs : s ≤ 5) (h4 : A (b + 135) 4 = (s : Int)) (hW : WR A b s W) {k r : Nat} (hk : k < s) (hr : r < s) :
    ∃ A' : ZA, f_X5_exchange (b + 135) (b + 143 + 1 + r) (b + 143 + 1 + k) (mz S A B c) = some ((), mz S A' B c) ∧ WR A' b s (swm k r W) ∧ (∀ x, (∀ i, i < 5 → x ≠ b + 143 + 1 + i) → A' x = A x) := by
  have key := z_run (S := S) (B := B) (c := c) (f := f_X5_exchange_L2 (b + 135) (b + 143 + 1 + r) (b + 143 + 1 + k)) (fun t => ii (t : Int)) (fun t A' => (∀ q, q < s → ∀ z, z < s → A' (b + 143 + 1 + q) z = if z < t then swm k r W q z else W q z) ∧ (∀ x, (∀ i, i < 5 → x ≠ b + 143 + 1 + i) → A' x = A x)) s (t := ii (s : Int)) (by omega) (fun t ht A1 ⟨y1, y2⟩ => by
    have e4 : A1 (b + 135) 4 = (s : Int) := by rw [y2 _ (fun i _ => by omega)]; exact h4
    have v1 := y1 r hr t ht
    have v2 := y1 k hk t ht
    rw [if_neg (by omega)] at v1 v2
    refine ⟨za (za A1 (b + 143 + 1 + r) (up (A1 (b + 143 + 1 + r)) t (W k t))) (b + 143 + 1 + k) (up (za A1 (b + 143 + 1 + r) (up (A1 (b + 143 + 1 + r)) t (W k t)) (b + 143 + 1 + k)) t (W r t)), ?_, fun q hq z hz => ?_, fun x hx => by rw [za_ne _ _ (hx k (by omega)), za_ne _ _ (hx r (by omega)), y2 x hx]⟩
    · unfold f_X5_exchange_L2
      simp (disch := omega) only [OI4 hX, e4, Option.bind_some, n_le, show ¬ (s ≤ t) by omega, ↓reduceIte, arA (L_wrk hX), v1, v2, arS (L_wrk hX), k1, n_add]
    · by_cases a : q = k
      · subst a
        rw [za_at]
        by_cases d : z = t
        · subst d
          rw [up_at, if_pos (by omega)]
          unfold swm
          by_cases f : q = r
          · rw [if_pos f, f]
          · rw [if_neg f, if_pos rfl]
        · rw [up_ne _ _ d]
          by_cases f : q = r
          · subst f
            rw [za_at, up_ne _ _ d, y1 q hq z hz]
            by_cases g : z < t
            · rw [if_pos g, if_pos (by omega)]
            · rw [if_neg g, if_neg (by omega)]
          · rw [za_ne _ _ (by omega), y1 q hq z hz]
            by_cases g : z < t
            · rw [if_pos g, if_pos (by omega)]
            · rw [if_neg g, if_neg (by omega)]
      · rw [za_ne _ _ (by omega)]
        by_cases f : q = r
        · subst f
          rw [za_at]
          by_cases d : z = t
          · subst d
            rw [up_at, if_pos (by omega)]
            unfold swm
            rw [if_pos rfl]
          · rw [up_ne _ _ d, y1 q hq z hz]
            by_cases g : z < t
            · rw [if_pos g, if_pos (by omega)]
            · rw [if_neg g, if_neg (by omega)]
        · rw [za_ne _ _ (by omega), y1 q hq z hz]
          by_cases d : z = t
          · rw [if_neg (by omega), if_pos (by omega)]
            unfold swm
            rw [if_neg f, if_neg a]
          · by_cases g : z < t
            · rw [if_pos g, if_pos (by omega)]
            · rw [if_neg g, if_neg (by omega)]) (fun A1 ⟨_, y2⟩ => by
    have e4 : A1 (b + 135) 4 = (s : Int) := by rw [y2 _ (fun i _ => by omega)]; exact h4
    unfold f_X5_exchange_L2
    simp (disch := omega) only [OI4 hX, e4, Option.bind_some, n_le, Nat.le_refl, ↓reduceIte]) (A0 := A) ⟨fun q hq z hz => by rw [if_neg (by omega)]; exact hW q hq z hz, fun _ _ => rfl⟩
  obtain ⟨A', e1, y1, y2⟩ := key
  have e1' : jloop (f_X5_exchange_L2 (b + 135) (b + 143 + 1 + r) (b + 143 + 1 + k)) jF (0 : Int32) (mz S A B c) = some (ii (s : Int), mz S A' B c) := e1
  unfold f_X5_exchange
  rw [e1']
  exact ⟨A', rfl, fun q hq z hz => by rw [y1 q hq z hz, if_pos hz], y2⟩
theorem x_lift {S : SS} {A B : ZA} {c : (Nat × Nat) × (Nat → Nat)} {s : Nat} {p : Int} {W : Nat → Nat → Int} (hX : LX S b) (hs : s ≤ 5) (hp2 : p < 10000) (h4 : A (b + 135) 4 = (s : Int)) (hW : WR A b s W) (hWr : ∀ i j, 0 ≤ W i j ∧ W i j < p) {k : Nat} (hk : k < s) :
    ∃ A' : ZA, f_X5_liftPivot (b + 135) (ii (k : Int)) (mz S A B c) = some (ii (((if pvr W k (s - k) k = s then 0 else 1 : Nat)) : Int), mz S A' B c) ∧ (¬ (pvr W k (s - k) k = s) → WR A' b s (swm k (pvr W k (s - k) k) W)) ∧ (∀ x, (∀ i, i < 5 → x ≠ b + 143 + 1 + i) → A' x = A x) := by
  have step : ∀ (n x : Nat), x + n = s → ∀ (fuel : Nat), n < fuel → ∃ A' t, jloop (f_X5_liftPivot_L2 (b + 135) (ii (k : Int))) fuel (ii (x : Int)) (mz S A B c) = some (t, mz S A' B c) ∧ (∀ h', Sum.elim (fun r26 => some (r26, h')) (fun _ => some ((0 : Int32), h')) t = some (ii (((if pvr W k n x = s then 0 else 1 : Nat)) : Int), (h' : JH))) ∧ (¬ (pvr W k n x = s) → WR A' b s (swm k (pvr W k n x) W)) ∧ (∀ x, (∀ i, i < 5 → x ≠ b + 143 + 1 + i) → A' x = A x) := by
    intro n
    induction n with
    | zero =>
      intro x hx fuel hf
      obtain ⟨fu, rfl⟩ : ∃ q, fuel = q + 1 := ⟨fuel - 1, by omega⟩
      have ex : x = s := by omega
      subst ex
      refine ⟨A, .inr (ii (x : Int)), jloop_end ?_, fun h' => ?_, fun h => absurd rfl h, fun _ _ => rfl⟩
      · unfold f_X5_liftPivot_L2
        simp (disch := omega) only [OI4 hX, h4, Option.bind_some, n_le, Nat.le_refl, ↓reduceIte]
      · show some ((0 : Int32), h') = _
        rw [show pvr W k 0 x = x from rfl, if_pos rfl]; rfl
    | succ n ih =>
      intro x hx fuel hf
      obtain ⟨fu, rfl⟩ : ∃ q, fuel = q + 1 := ⟨fuel - 1, by omega⟩
      have v := hW x (by omega) k hk
      have vr := hWr x k
      by_cases z : W x k = 0
      · have e1 : pvr W k (n + 1) x = pvr W k n (x + 1) := by
          show (if W x k = 0 then pvr W k n (x + 1) else x) = _
          rw [if_pos z]
        have hh : f_X5_liftPivot_L2 (b + 135) (ii (k : Int)) (ii (x : Int)) (mz S A B c) = some (.inl (ii ((x + 1 : Nat) : Int)), mz S A B c) := by
          unfold f_X5_liftPivot_L2
          simp (disch := omega) only [OI4 hX, h4, Option.bind_some, n_le, show ¬ (s ≤ x) by omega, ↓reduceIte, OR2 hX, arR (L_wrk hX), arA (L_wrk hX), v, z, k1, n_add]
          rw [if_pos (by decide)]
        rw [e1, jloop_go hh]
        exact ih (x + 1) (by omega) fu (by omega)
      · have e1 : pvr W k (n + 1) x = x := by
          show (if W x k = 0 then pvr W k n (x + 1) else x) = _
          rw [if_neg z]
        obtain ⟨A', g1, g2, g3⟩ := x_exch (B := B) (c := c) hX hs h4 hW hk (show x < s by omega)
        rw [e1]
        refine ⟨A', .inl (ii ((1 : Nat) : Int)), jloop_end ?_, fun h' => ?_, fun _ => g2, g3⟩
        · unfold f_X5_liftPivot_L2
          simp (disch := omega) only [OI4 hX, h4, Option.bind_some, n_le, show ¬ (s ≤ x) by omega, ↓reduceIte, OR2 hX, arR (L_wrk hX), arA (L_wrk hX), v, Ov hX, g1]
          rw [if_neg (by rw [k0, i_eq (by omega) (by omega) (by omega) (by omega)]; omega)]
          rfl
        · show some (ii ((1 : Nat) : Int), h') = _
          rw [if_neg (by omega)]
  obtain ⟨A', t, e1, e2, e3, e4⟩ := step (s - k) k (by omega) jF (jF_big (by omega))
  refine ⟨A', ?_, e3, e4⟩
  unfold f_X5_liftPivot
  rw [e1]
  exact e2 _
theorem x_clear {S : SS} {A B : ZA} {c : (Nat × Nat) × (Nat → Nat)} {s : Nat} {p : Int} {W : Nat → Nat → Int} (hX : LX S b) (hs : s ≤ 5) (hp : 1 < p) (hp2 : p < 10000) (h4 : A (b + 135) 4 = (s : Int)) (h5 : A (b + 135) 5 = p) (hW : WR A b s W) (hWr : ∀ i j, 0 ≤ W i j ∧ W i j < p) {k : Nat} (hk : k < s) :
    ∃ A' : ZA, f_X5_clearColumn (b + 135) (ii (k : Int)) (mz S A B c) = some ((), mz S A' B c) ∧ WR A' b s (clr p k k W) ∧ (∀ x, (∀ i, i < 5 → x ≠ b + 143 + 1 + i) → A' x = A x) := by
  have ivr := pw_r (b := W k k) (p := p) hp (p - 2).toNat
  have dv : ∀ h, f_X4_divide (ii ((1 : Nat) : Int)) (ii (W k k)) (ii p) h = some (ii (pw (W k k) p (p - 2).toNat), h) := fun h => by
    have wr := hWr k k
    rw [f_divide h (a := ((1 : Nat) : Int)) ⟨by omega, by omega⟩ (r31_of (by omega) (by omega)) (by omega) (by omega), Int.emod_eq_of_lt (by omega) (by omega)]
    rw [show ((1 : Nat) : Int) * pw (W k k) p (p - 2).toNat = pw (W k k) p (p - 2).toNat by omega]
  generalize hiv : pw (W k k) p (p - 2).toNat = iv at *
  have key := z_run (S := S) (B := B) (c := c) (f := f_X5_clearColumn_L19 (b + 135) (ii (k : Int)) (ii iv)) (fun t => ii (t : Int)) (fun t A' => (∀ z, z < s → A' (b + 143 + 1 + k) z = if z < t then W k z * iv % p else W k z) ∧ (∀ x, x ≠ b + 143 + 1 + k → A' x = A x)) s (t := ii (s : Int)) (by omega) (fun t ht A1 ⟨y1, y2⟩ => by
    have e4 : A1 (b + 135) 4 = (s : Int) := by rw [y2 _ (by omega)]; exact h4
    have e5 : A1 (b + 135) 5 = p := by rw [y2 _ (by omega)]; exact h5
    have v1 := y1 t ht
    rw [if_neg (by omega)] at v1
    have wr := hWr k t
    have m1 := Int.mul_nonneg wr.1 ivr.1
    have m2 : W k t * iv ≤ 10000 * 10000 := Int.mul_le_mul (by omega) (by omega) (by omega) (by omega)
    refine ⟨za A1 (b + 143 + 1 + k) (up (A1 (b + 143 + 1 + k)) t (W k t * iv % p)), ?_, fun z hz => ?_, fun x hx => by rw [za_ne _ _ hx, y2 x hx]⟩
    · unfold f_X5_clearColumn_L19
      simp (disch := omega) only [OI4 hX, e4, Option.bind_some, n_le, show ¬ (s ≤ t) by omega, ↓reduceIte, OR2 hX, arR (L_wrk hX), arA (L_wrk hX), v1, OI5 hX, e5, i_l, ll_mul, f_of', arS (L_wrk hX), k1, n_add]
    · rw [za_at]
      by_cases d : z = t
      · subst d; rw [up_at, if_pos (by omega)]
      · rw [up_ne _ _ d, y1 z hz]
        by_cases g : z < t
        · rw [if_pos g, if_pos (by omega)]
        · rw [if_neg g, if_neg (by omega)]) (fun A1 ⟨_, y2⟩ => by
    have e4 : A1 (b + 135) 4 = (s : Int) := by rw [y2 _ (by omega)]; exact h4
    unfold f_X5_clearColumn_L19
    simp (disch := omega) only [OI4 hX, e4, Option.bind_some, n_le, Nat.le_refl, ↓reduceIte]) (A0 := A) ⟨fun z hz => by rw [if_neg (by omega)]; exact hW k hk z hz, fun _ _ => rfl⟩
  obtain ⟨A1, e1, y1, y2⟩ := key
  have e1' : jloop (f_X5_clearColumn_L19 (b + 135) (ii (k : Int)) (ii iv)) jF (ii ((0 : Nat) : Int)) (mz S A B c) = some (ii (s : Int), mz S A1 B c) := e1
  have rowk : ∀ z, z < s → A1 (b + 143 + 1 + k) z = W k z * iv % p := fun z hz => by rw [y1 z hz, if_pos hz]
  have key2 := z_run (S := S) (B := B) (c := c) (f := f_X5_clearColumn_L62 (b + 135) (ii (k : Int))) (fun t => ii (t : Int)) (fun t A' => (∀ q, q < s → ∀ z, z < s → A' (b + 143 + 1 + q) z = if q < t ∨ q = k then clr p k k W q z else W q z) ∧ (∀ x, (∀ i, i < 5 → x ≠ b + 143 + 1 + i) → A' x = A x)) s (t := ii (s : Int)) (by omega) (fun t ht A2 ⟨z1, z2⟩ => by
    have e4 : A2 (b + 135) 4 = (s : Int) := by rw [z2 _ (fun i _ => by omega)]; exact h4
    have e5 : A2 (b + 135) 5 = p := by rw [z2 _ (fun i _ => by omega)]; exact h5
    have head : ∃ v : Int, A2 (b + 143 + 1 + t) k = v := ⟨_, rfl⟩
    by_cases tk : t = k
    · refine ⟨A2, ?_, fun q hq z hz => ?_, z2⟩
      · unfold f_X5_clearColumn_L62
        simp (disch := omega) only [OI4 hX, e4, Option.bind_some, n_le, show ¬ (s ≤ k) by omega, ↓reduceIte, OR2 hX, arR (L_wrk hX), arA (L_wrk hX), n_eq, tk, k1, n_add]
      · rw [z1 q hq z hz]
        by_cases g : q < t ∨ q = k
        · rw [if_pos g, if_pos (by omega)]
        · rw [if_neg g, if_neg (by omega)]
    · have vk := z1 t ht k hk
      rw [if_neg (by omega)] at vk
      have wr := hWr t k
      by_cases w0 : W t k = 0
      · refine ⟨A2, ?_, fun q hq z hz => ?_, z2⟩
        · unfold f_X5_clearColumn_L62
          simp (disch := omega) only [OI4 hX, e4, Option.bind_some, n_le, show ¬ (s ≤ t) by omega, ↓reduceIte, OR2 hX, arR (L_wrk hX), arA (L_wrk hX), n_eq, tk, vk, w0, k1, n_add]
          rw [if_pos (by decide)]
        · rw [z1 q hq z hz]
          by_cases g : q < t ∨ q = k
          · rw [if_pos g, if_pos (by omega)]
          · rw [if_neg g]
            by_cases g2 : q = t
            · subst g2
              rw [if_pos (by omega)]
              unfold clr
              rw [if_neg tk, w0, Int.zero_mul, Int.sub_zero, Int.emod_eq_of_lt (hWr q z).1 (hWr q z).2]
            · rw [if_neg (by omega)]
      · have key3 := z_run (S := S) (B := B) (c := c) (f := f_X5_clearColumn_L93 (b + 135) (ii (k : Int)) (ii (t : Int)) (ii (W t k))) (fun u => ii (u : Int)) (fun u A' => (∀ z, z < s → A' (b + 143 + 1 + t) z = if z < u then clr p k k W t z else W t z) ∧ (∀ x, x ≠ b + 143 + 1 + t → A' x = A2 x)) s (t := ii (s : Int)) (by omega) (fun u hu A3 ⟨x1, x2⟩ => by
          have f4 : A3 (b + 135) 4 = (s : Int) := by rw [x2 _ (by omega)]; exact e4
          have f5 : A3 (b + 135) 5 = p := by rw [x2 _ (by omega)]; exact e5
          have vt := x1 u hu
          rw [if_neg (by omega)] at vt
          have vn : A3 (b + 143 + 1 + k) u = W k u * iv % p := by
            rw [x2 _ (by omega), z1 k hk u hu, if_pos (by omega)]
            unfold clr
            rw [if_pos rfl, hiv]
          have w1 := hWr t u
          have n1 := emr hp (W k u * iv)
          have m1 := Int.mul_nonneg wr.1 n1.1
          have m2 : W t k * (W k u * iv % p) ≤ 10000 * 10000 := Int.mul_le_mul (by omega) (by omega) (by omega) (by omega)
          refine ⟨za A3 (b + 143 + 1 + t) (up (A3 (b + 143 + 1 + t)) u ((W t u - W t k * (W k u * iv % p)) % p)), ?_, fun z hz => ?_, fun x hx => by rw [za_ne _ _ hx, x2 x hx]⟩
          · unfold f_X5_clearColumn_L93
            simp (disch := omega) only [OI4 hX, f4, Option.bind_some, n_le, show ¬ (s ≤ u) by omega, ↓reduceIte, OR2 hX, arR (L_wrk hX), arA (L_wrk hX), vt, vn, OI5 hX, f5, i_l, ll_mul, ll_sub, f_of', arS (L_wrk hX), k1, n_add]
          · rw [za_at]
            by_cases d : z = u
            · subst d
              rw [up_at, if_pos (by omega)]
              unfold clr
              rw [if_neg tk, hiv]
            · rw [up_ne _ _ d, x1 z hz]
              by_cases g : z < u
              · rw [if_pos g, if_pos (by omega)]
              · rw [if_neg g, if_neg (by omega)]) (fun A3 ⟨_, x2⟩ => by
          have f4 : A3 (b + 135) 4 = (s : Int) := by rw [x2 _ (by omega)]; exact e4
          unfold f_X5_clearColumn_L93
          simp (disch := omega) only [OI4 hX, f4, Option.bind_some, n_le, Nat.le_refl, ↓reduceIte]) (A0 := A2) ⟨fun z hz => by rw [if_neg (by omega), z1 t ht z hz, if_neg (by omega)], fun _ _ => rfl⟩
        obtain ⟨A3, e3, x1, x2⟩ := key3
        have e3' : jloop (f_X5_clearColumn_L93 (b + 135) (ii (k : Int)) (ii (t : Int)) (ii (W t k))) jF (ii ((0 : Nat) : Int)) (mz S A2 B c) = some (ii (s : Int), mz S A3 B c) := e3
        refine ⟨A3, ?_, fun q hq z hz => ?_, fun x hx => by rw [x2 x (hx t (by omega)), z2 x hx]⟩
        · unfold f_X5_clearColumn_L62
          simp (disch := omega) only [OI4 hX, e4, Option.bind_some, n_le, show ¬ (s ≤ t) by omega, ↓reduceIte, OR2 hX, arR (L_wrk hX), arA (L_wrk hX), n_eq, tk, vk]
          rw [if_neg (by rw [k0, i_eq (by omega) (by omega) (by omega) (by omega)]; omega), k0, e3', k1]
          simp only [Option.bind_some, n_add]
        · by_cases g : q = t
          · subst g
            rw [x1 z hz, if_pos hz, if_pos (by omega)]
          · rw [x2 _ (by omega), z1 q hq z hz]
            by_cases g : q < t ∨ q = k
            · rw [if_pos g, if_pos (by omega)]
            · rw [if_neg g, if_neg (by omega)]) (fun A2 ⟨_, z2⟩ => by
    have e4 : A2 (b + 135) 4 = (s : Int) := by rw [z2 _ (fun i _ => by omega)]; exact h4
    unfold f_X5_clearColumn_L62
    simp (disch := omega) only [OI4 hX, e4, Option.bind_some, n_le, Nat.le_refl, ↓reduceIte]) (A0 := A1) ⟨fun q hq z hz => by
      by_cases g : q = k
      · subst g
        rw [if_pos (by omega), rowk z hz]
        unfold clr
        rw [if_pos rfl, hiv]
      · rw [if_neg (by omega), y2 _ (by omega)]
        exact hW q hq z hz, fun x hx => y2 x (hx k (by omega))⟩
  obtain ⟨A2, e2, z1, z2⟩ := key2
  have e2' : jloop (f_X5_clearColumn_L62 (b + 135) (ii (k : Int))) jF (ii ((0 : Nat) : Int)) (mz S A1 B c) = some (ii (s : Int), mz S A2 B c) := e2
  refine ⟨A2, ?_, fun q hq z hz => by rw [z1 q hq z hz, if_pos (by omega)], z2⟩
  have vkk := hW k hk k hk
  unfold f_X5_clearColumn
  simp (disch := omega) only [OR2 hX, arR (L_wrk hX), arA (L_wrk hX), vkk, OI5 hX, h5, Option.bind_some, k1, dv, k0, e1', e2']
end ops
