/-! The class: a space begun; weights with one form. -/
theorem x_fill {S : SS} {A B : ZA} {c : (Nat × Nat) × (Nat → Nat)} {a N : Nat} {v : Int} (ha : S a = some (.inr (.inl (.int, N)))) (hN : N < 20000) : f_J7_fill_53178 a (ii v) (mz S A B c) = some ((), mz S (za A a (mo (fun _ => v) (A a) 0 N)) B c) := by
  have key := fill_run (S := S) (A := A) (B := B) (c := c) (a := a) (o := 0) (f := f_J7_fill_53178_L5 a (ii v) (ii (N : Int))) (fun _ => v) N hN (fun i hi => by
    unfold f_J7_fill_53178_L5
    simp (disch := omega) only [n_le, show ¬ (N ≤ i) by omega, ↓reduceIte]
    rw [jsI_m0 (G := fun _ => v) (v := v) ha hi (by omega) rfl]
    simp only [Option.bind_some, k1, n_add]) (by
    unfold f_J7_fill_53178_L5
    simp (disch := omega) only [n_le, Nat.le_refl, ↓reduceIte])
  unfold f_J7_fill_53178
  rw [jal_z ha]
  simp only [Option.bind_some]
  rw [k0, key]
  rfl
def fresh (A B : ZA) (N : Nat) : Prop := ∀ a, N ≤ a → ∀ k, A a k = 0 ∧ B a k = 0
theorem x_begin {S : SS} {A B : ZA} {c : (Nat × Nat) × (Nat → Nat)} {s q r n L l : Nat} {p : Int} (hs : spS S s q r n) (hn : n = 0 ∨ n = L) (hL : 1 ≤ L ∧ L ≤ 6) (h1 : A s 1 = (L : Int)) (hf : fresh A B c.1.1) (hsN : s < c.1.1) :
    ∃ S' q' c', f_X7_begin s (ii p) (ii (l : Int)) (mz S A B c) = some ((), mz S' (za A s (up (up (A s) 3 p) 4 (l : Int))) B c') ∧ spS S' s q' r L ∧ (∀ a, a ≠ s → a < c.1.1 → S' a = S a) ∧ c'.2 = c.2 ∧ ((n = L ∧ q' = q ∧ c' = c) ∨ (n = 0 ∧ q' = c.1.1 ∧ c'.1.1 = c.1.1 + 1 + L ∧ c'.1.2 = c.1.2 + 182 * L)) := by
  obtain ⟨⟨N, sl⟩, cc⟩ := c
  unfold f_X7_begin
  rw [PP3 hs.1]
  simp only [Option.bind_some]
  rw [PP4 hs.1]
  simp only [Option.bind_some, za_za, za_at]
  have e1 : za A s (up (up (A s) 3 p) 4 (l : Int)) s 1 = (L : Int) := by rw [za_at, up_ne _ _ (by omega), up_ne _ _ (by omega)]; exact h1
  simp (disch := omega) only [PR2 hs.1, Option.bind_some, jal_zo hs.2.1, PI1 hs.1, e1, n_eq]
  by_cases g : n = L
  · rw [if_pos g]
    rw [g] at hs
    exact ⟨S, q, _, rfl, hs, fun _ _ _ => rfl, rfl, Or.inl ⟨g, rfl, rfl⟩⟩
  · rw [if_neg g]
    have hn0 : n = 0 := by omega
    have f1 : ∀ a, N ≤ a → ∀ k, za A s (up (up (A s) 3 p) 4 (l : Int)) a k = 0 := fun a ha k => by
      rw [za_ne _ _ (by have : s < N := hsN; omega)]; exact (hf a ha k).1
    rw [k181, jnM_z f1 (fun a ha k => (hf a ha k).2) rfl rfl (by omega) (by omega) (Or.inl rfl)]
    simp only [Option.bind_some]
    have hsS : msM S N .int L 181 s = some (.inl (5, 8, rSp q r)) := by
      have : s < N := hsN
      unfold msM; rw [if_neg (by omega), if_neg (by omega)]; exact hs.1
    rw [jputR_z hsS (by decide)]
    have er : (fun j => if j = 2 then some (some N) else rSp q r j) = rSp N r := by
      funext j; unfold rSp; by_cases h : j = 2 <;> simp [h]
    rw [er]
    refine ⟨_, N, _, rfl, ⟨ms_at _ _ _, ?_, fun i hi => ?_⟩, fun a ha hN => ?_, rfl, Or.inr ⟨hn0, rfl, rfl, ?_⟩⟩
    · rw [ms_ne _ _ (by have : s < N := hsN; omega)]; unfold msM; rw [if_pos rfl]
    · rw [ms_ne _ _ (by have : s < N := hsN; omega)]; unfold msM; rw [if_neg (by omega), if_pos (by omega)]
    · rw [ms_ne _ _ ha]
      have hN' : a < N := hN
      unfold msM; rw [if_neg (by omega), if_neg (by omega)]
    · show sl + L + L * 181 = sl + 182 * L
      omega
/-- what goes into n among the first d numbers, with powers P -/
def dg (P : Nat → Int) (n : Nat) : Nat → Int := fun d => if (d + 1) ∣ n then P (d + 1) else 0
theorem dg_r {P : Nat → Int} {p : Int} (hP : ∀ d, 0 ≤ P d ∧ P d < p) (hp2 : p < 10000) (n d : Nat) : 0 ≤ sm (dg P n) d ∧ sm (dg P n) d ≤ 10000 * (d : Int) := sm_r fun j _ => by
  have := hP (j + 1)
  unfold dg
  split <;> omega
theorem x_alone1 {S : SS} {A B : ZA} {c : (Nat × Nat) × (Nat → Nat)} {s q r a l z : Nat} {P : Nat → Int} {p : Int} (f : Int32) (hs : S s = some (.inl (5, 8, rSp q r))) (ha : S a = some (.inr (.inl (.int, 181)))) (h4 : A s 4 = (l : Int)) (hl : l ≤ 180) (hz : 1 ≤ z) (hzl : z ≤ l) (hP : ∀ d, 0 ≤ P d ∧ P d < p) (hp2 : p < 10000) (hF : ∀ n, 1 ≤ n → n ≤ l → A a n = sm (dg P n) (z - 1)) :
    ∃ A' : ZA, jloop (f_X7_makeAlone_L65 s a f (ii (z : Int)) (ii (P z))) jF (ii (z : Int)) (mz S A B c) = some (ii ((z + z * (l / z) : Nat) : Int), mz S A' B c) ∧ (∀ n, 1 ≤ n → n ≤ l → A' a n = sm (dg P n) z) ∧ (∀ x, x ≠ a → A' x = A x) := by
  have hsa : s ≠ a := fun e => by rw [e] at hs; rw [hs] at ha; cases ha
  have hdm : z * (l / z) ≤ l := Nat.mul_div_le l z
  have hlz : l < z * (l / z) + z := by have := Nat.lt_mul_div_succ l (show 0 < z by omega); rw [Nat.mul_succ] at this; exact this
  have hq : l / z ≤ l := Nat.div_le_self l z
  have key := z_run (S := S) (B := B) (c := c) (f := f_X7_makeAlone_L65 s a f (ii (z : Int)) (ii (P z))) (fun t => ii ((z + z * t : Nat) : Int)) (fun t A' => (∀ n, 1 ≤ n → n ≤ l → A' a n = if n ≤ z * t then sm (dg P n) z else sm (dg P n) (z - 1)) ∧ (∀ x, x ≠ a → A' x = A x)) (l / z) (t := ii ((z + z * (l / z) : Nat) : Int)) (by omega) (fun t ht A1 ⟨y1, y2⟩ => by
    have hle : z + z * t ≤ l := by
      have h1 : z * (t + 1) ≤ z * (l / z) := Nat.mul_le_mul_left z (by omega)
      rw [Nat.mul_succ] at h1
      omega
    have hv := y1 (z + z * t) (by omega) hle
    rw [if_neg (by omega)] at hv
    have hb := dg_r (P := P) hP hp2 (z + z * t) (z - 1)
    have hd : z ∣ z + z * t := ⟨t + 1, by rw [Nat.mul_succ, Nat.add_comm]⟩
    have hs1 : ∀ n, sm (dg P n) z = sm (dg P n) (z - 1) + (if z ∣ n then P z else 0) := fun n => by
      obtain ⟨w, rfl⟩ : ∃ w, z = w + 1 := ⟨z - 1, by omega⟩
      rfl
    unfold f_X7_makeAlone_L65
    simp (disch := omega) only [PI4 hs, y2 s hsa, h4, Option.bind_some, n_lt, show ¬ (l < z + z * t) by omega, ↓reduceIte, jaI_n ha, jsI_v ha, hv, ii_add]
    refine ⟨_, by rw [show ((z + z * t : Nat) : Int) + (z : Int) = ((z + z * (t + 1) : Nat) : Int) by rw [Nat.mul_succ]; omega], fun n hn hnl => ?_, fun x hx => by rw [za_ne _ _ hx, y2 x hx]⟩
    rw [za_at]
    by_cases e : n = z + z * t
    · subst e
      rw [up_at, if_pos (by rw [Nat.mul_succ]; omega), hs1, if_pos hd]
    · rw [up_ne _ _ e, y1 n hn hnl, Nat.mul_succ]
      by_cases g1 : n ≤ z * t
      · rw [if_pos g1, if_pos (by omega)]
      · rw [if_neg g1]
        by_cases g2 : n ≤ z * t + z
        · rw [if_pos g2, hs1, if_neg, Int.add_zero]
          rintro ⟨w, hw⟩
          have w1 : t < w := Nat.lt_of_mul_lt_mul_left (a := z) (by omega)
          have w2 : z * (t + 1) ≤ z * w := Nat.mul_le_mul_left z w1
          rw [Nat.mul_succ] at w2
          omega
        · rw [if_neg g2]) (fun A1 ⟨_, y2⟩ => by
    unfold f_X7_makeAlone_L65
    simp (disch := omega) only [PI4 hs, y2 s hsa, h4, Option.bind_some, n_lt, show l < z + z * (l / z) by omega, ↓reduceIte]) (A0 := A) ⟨fun n hn hnl => by rw [if_neg (by omega)]; exact hF n hn hnl, fun _ _ => rfl⟩
  obtain ⟨A', e, y1, y2⟩ := key
  refine ⟨A', by rw [show z + z * 0 = z by omega] at e; exact e, fun n hn hnl => ?_, y2⟩
  rw [y1 n hn hnl]
  by_cases g : n ≤ z * (l / z)
  · rw [if_pos g]
  · rw [if_neg g]
    obtain ⟨w, rfl⟩ : ∃ w, z = w + 1 := ⟨z - 1, by omega⟩
    show sm (dg P n) w = sm (dg P n) w + (if (w + 1) ∣ n then P (w + 1) else 0)
    rw [if_neg, Int.add_zero]
    rintro ⟨v, hv⟩
    have w1 : l / (w + 1) < v := Nat.lt_of_mul_lt_mul_left (a := w + 1) (by omega)
    have w2 : (w + 1) * (l / (w + 1) + 1) ≤ (w + 1) * v := Nat.mul_le_mul_left _ w1
    rw [Nat.mul_succ] at w2
    omega
