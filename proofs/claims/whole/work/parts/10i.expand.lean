/-! The class: a coefficient out of the first ones, Hecke's operator, a form made whole. -/
def rF (g : Nat) : Nat → Option (Option Nat) := fun k => if k = 1 then some (some g) else none
def fm (S : SS) (f g : Nat) : Prop := S f = some (.inl (1, 2, rF g)) ∧ S g = some (.inr (.inl (.int, 6)))
section Fm
variable {S : SS} {A B : ZA} {n : (Nat × Nat) × (Nat → Nat)} {f g k : Nat} {v : Int}
theorem FV (h : fm S f g) : jrecv (mz S A B n) f 1 = some () := jrecv_z h.1
theorem FI (h : fm S f g) : jgI (mz S A B n) f 1 0 = some (ii (A f 0)) := jgI_z h.1 (by decide) rfl
theorem FR (h : fm S f g) : jgR (mz S A B n) f 1 1 = some g := jgR_z h.1 (by decide) rfl
theorem FP (h : fm S f g) : jput (mz S A B n) f 1 0 (.int (ii v)) = some (mz S (za A f (up (A f) 0 v)) B n) := jput_z h.1 (by decide) rfl
theorem FA (h : fm S f g) (hk : k < 6) : jaI (mz S A B n) g (ii (k : Int)) = some (ii (A g k)) := jaI_n h.2 hk (by omega)
theorem FS' (h : fm S f g) (hk : k < 6) : jsI (mz S A B n) g (ii (k : Int)) (ii v) = some (mz S (za A g (up (A g) k v)) B n) := jsI_v h.2 hk (by omega)
theorem fm_ne {f' g' : Nat} (h : fm S f g) (h' : fm S f' g') : f ≠ g' := fun e => by have h1 := h.1; have h2 := h'.2; rw [e] at h1; rw [h1] at h2; cases h2
end Fm
theorem ex_val {p : Int} (hE : EH p) {k : Nat} (hk : k ≤ 60) (C : Nat → Int) {n : Nat} (hn : n ≤ 180) : ex p k C n = sm (fun j => C j * ex p k (dl j) n) (Lk k) % p := by
  rw [ex_basis hE hk C]
  unfold cm
  rw [ser_at hn]
theorem x_expand {S : SS} {A B : ZA} {b : Nat} {c : (Nat × Nat) × (Nat → Nat)} {bs nb : Nat → Nat} (h : SG B b S A c bs nb) {i n a N : Nat} {p : Int} {C : Nat → Int} (hP : PR p) (hi : i < 31) (hn : n ≤ 180) (hr : Rdy A b i p n) (ha : S a = some (.inr (.inl (.int, N)))) (hN : Lk (2 * i) ≤ N) (hN2 : N < 20000) (hC : ∀ j, j < Lk (2 * i) → A a j = C j ∧ (0 ≤ C j ∧ C j < p)) :
    f_X7_expand (b + 42 + 3 * i) a (ii (n : Int)) (mz S A B c) = some (ii (ex p (2 * i) C n), mz S A B c) := by
  have hp := PR_p hP
  have hL := Lk_r (k := 2 * i) (by omega)
  obtain ⟨n1, w1⟩ := Rdy_rows h hi hP hr
  have hs := (h.1.1 i hi).1
  rw [n1] at hs
  have hlen := (h.1.2.2.1 i hi).2
  have er := fun j => ex_r (p := p) (by omega) (2 * i) (dl j) n
  have hg : ∀ j, j < Lk (2 * i) → 0 ≤ C j * ex p (2 * i) (dl j) n ∧ C j * ex p (2 * i) (dl j) n ≤ 100000000 := fun j hj => pr_r ⟨(hC j hj).2.1, by have := (hC j hj).2.2; omega⟩ ⟨(er j).1, by have := (er j).2; omega⟩
  have hb := sm_r hg
  have key := sum_run (h := mz S A B c) (f := f_X7_expand_L5 (b + 42 + 3 * i) a (ii (n : Int))) (fun j => C j * ex p (2 * i) (dl j) n) (Lk (2 * i)) (by omega) (fun j hj => by
    obtain ⟨c1, c2⟩ := hC j hj
    have v := w1 j hj n (Nat.le_refl _)
    have e1 := er j
    unfold f_X7_expand_L5
    simp (disch := omega) only [PI1 hs.1, hlen, Option.bind_some, n_le, show ¬ (Lk (2 * i) ≤ j) by omega, ↓reduceIte, jaI_n ha, PR2 hs.1, sp_row hs, jaI_n (hs.2.2 j hj), c1, v, i_l, ll_mul, ll_add, k1, n_add]) (by
    unfold f_X7_expand_L5
    simp (disch := omega) only [PI1 hs.1, hlen, Option.bind_some, n_le, Nat.le_refl, ↓reduceIte])
  have key' : jloop (f_X7_expand_L5 (b + 42 + 3 * i) a (ii (n : Int))) jF ((0 : Int64), (0 : Int32)) (mz S A B c) = _ := key
  unfold f_X7_expand
  rw [key']
  simp only [Option.bind_some, PI3 hs.1, hr.1]
  rw [f_of' _ (by omega) (by omega) (by omega) hp.2, ex_val (EH_of hP) (by omega) C hn]
  rfl
theorem dvd_ix {d x n : Nat} (hd : 0 < d) (h1 : d ∣ x) (h2 : d ∣ n) : x * n / (d * d) = x / d * (n / d) := by
  obtain ⟨u, rfl⟩ := h1
  obtain ⟨v, rfl⟩ := h2
  rw [Nat.mul_div_cancel_left _ hd, Nat.mul_div_cancel_left _ hd, show d * u * (d * v) = d * d * (u * v) by rw [Nat.mul_mul_mul_comm], Nat.mul_div_cancel_left _ (Nat.mul_pos hd hd)]
theorem x_hecke {S : SS} {A B : ZA} {b : Nat} {c : (Nat × Nat) × (Nat → Nat)} {bs nb : Nat → Nat} (h : SG B b S A c bs nb) {i n x a N : Nat} {p : Int} {C : Nat → Int} (hP : PR p) (hi : i < 31) (hn : n ≤ 30) (hx : x < Lk (2 * i)) (hr : Rdy A b i p ((Lk (2 * i) - 1) * n)) (ha : S a = some (.inr (.inl (.int, N)))) (hN : Lk (2 * i) ≤ N) (hN2 : N < 20000) (hC : ∀ j, j < Lk (2 * i) → A a j = C j ∧ (0 ≤ C j ∧ C j < p)) :
    f_X7_heckeAt (b + 42 + 3 * i) a (ii (n : Int)) (ii (x : Int)) (mz S A B c) = some (ii (hk p (2 * i) (ex p (2 * i) C) n x), mz S A B c) := by
  have hp := PR_p hP
  have hL := Lk_r (k := 2 * i) (by omega)
  have hs := (h.1.1 i hi).1
  have hw := (h.1.2.2.1 i hi).1
  unfold f_X7_heckeAt hk
  simp (disch := omega) only [PI0 hs.1, hw, Option.bind_some, k4, n_le]
  by_cases q : 2 * i ≤ 2
  · rw [if_neg (by omega), if_pos q]; rfl
  · rw [if_pos (by omega), if_neg q]
    have key := jloop_run (f := f_X7_heckeAt_L16 (b + 42 + 3 * i) a (ii (n : Int)) (ii (x : Int))) (fun t => (ii (sm (hkg p (2 * i) (ex p (2 * i) C) n x) t % p), ii ((t + 1 : Nat) : Int))) (fun _ => mz S A B c) n (fun t ht => by
      have hsr := emod_r (x := sm (hkg p (2 * i) (ex p (2 * i) C) n x) t) (p := p) (by omega)
      have hpw := pw_r (b := ((t + 1 : Nat) : Int)) (p := p) (by omega) (2 * i - 1)
      unfold f_X7_heckeAt_L16
      simp (disch := omega) only [k0, k1, n_add, n_lt, show ¬ (n < t + 1) by omega, ↓reduceIte, n_nz, Option.bind_some, n_dvd, PI0 hs.1, PI3 hs.1, hw, hr.1, Pv hs.1, n_div]
      by_cases q1 : (t + 1) ∣ n
      · by_cases q2 : (t + 1) ∣ x
        · have hix := dvd_ix (by omega) q2 q1
          have hix2 : x / (t + 1) * (n / (t + 1)) ≤ (Lk (2 * i) - 1) * n := Nat.mul_le_mul (Nat.le_trans (Nat.div_le_self _ _) (by omega)) (Nat.div_le_self _ _)
          have hix3 : (Lk (2 * i) - 1) * n ≤ 5 * 30 := Nat.mul_le_mul (by omega) hn
          have her := ex_r (p := p) (by omega) (2 * i) C (x / (t + 1) * (n / (t + 1)))
          have hpr := pr_r (x := pw ((t + 1 : Nat) : Int) p (2 * i - 1)) (y := ex p (2 * i) C (x / (t + 1) * (n / (t + 1)))) ⟨hpw.1, by omega⟩ ⟨her.1, by omega⟩
          obtain ⟨r1, l', r2, r3⟩ := hr
          have hr' : Rdy A b i p (x / (t + 1) * (n / (t + 1))) := ⟨r1, l', r2, by omega⟩
          simp only [q1, q2, ↓reduceIte]
          rw [← k1, f_power' _ (by omega) (by omega) (by omega) hp.2, if_neg (by omega)]
          simp only [Option.bind_some, Pv hs.1, n_mul]
          rw [x_expand h hP hi (by omega) hr' ha hN hN2 hC]
          simp (disch := omega) only [Option.bind_some, PI3 hs.1, r1, i_l, ll_mul, ll_add, f_of', k1, n_add]
          rw [em_add_l]
          simp only [sm, hkg, q1, q2, true_and, ↓reduceIte, hix]
        · simp only [q1, q2, ↓reduceIte, sm, hkg, and_false, Int.add_zero]
      · simp only [q1, ↓reduceIte, sm, hkg, false_and, Int.add_zero]) (t := (ii (sm (hkg p (2 * i) (ex p (2 * i) C) n x) n % p), ii ((n + 1 : Nat) : Int))) (h1 := mz S A B c) (by
      unfold f_X7_heckeAt_L16
      simp (disch := omega) only [n_lt, show n < n + 1 by omega, ↓reduceIte]) (jF_big (by omega))
    have key' : jloop (f_X7_heckeAt_L16 (b + 42 + 3 * i) a (ii (n : Int)) (ii (x : Int))) jF ((0 : Int32), (1 : Int32)) (mz S A B c) = some ((ii (sm (hkg p (2 * i) (ex p (2 * i) C) n x) n % p), ii ((n + 1 : Nat) : Int)), mz S A B c) := by
      rw [← key]
      simp only [sm, Int.zero_emod]
      rfl
    rw [key']
    rfl
theorem SG_za {S : SS} {A B : ZA} {b : Nat} {c : (Nat × Nat) × (Nat → Nat)} {bs nb : Nat → Nat} (h : SG B b S A c bs nb) {a : Nat} (F : Nat → Int) (ha : a < b + 321) (hne : ∀ i, i < 31 → a ≠ b + 42 + 3 * i) : SG B b S (za A a F) c bs nb := by
  obtain ⟨⟨I1, I2, I3, I4⟩, hF, hN⟩ := h
  refine ⟨⟨I1, I2, fun i hi => by rw [za_ne _ _ (fun e => hne i hi e.symm)]; exact I3 i hi, fun i hi => ?_⟩, fun x hx k => by rw [za_ne _ _ (by omega)]; exact hF x hx k, hN⟩
  rw [za_ne _ _ (fun e => hne i hi e.symm)]
  rcases I4 i hi with h0 | ⟨l, m1, m2, m3, m4, m5⟩
  · exact Or.inl h0
  · refine Or.inr ⟨l, m1, m2, by rw [za_ne _ _ (fun e => hne i hi e.symm)]; exact m3, m4, fun j hj n hn => ?_⟩
    have := (I1 i hi).2.2.2 j (by omega)
    rw [za_ne _ _ (by omega)]
    exact m5 j hj n hn
theorem Rdy_za {A : ZA} {b i l a : Nat} {p : Int} (F : Nat → Int) (hne : b + 42 + 3 * i ≠ a) (r : Rdy A b i p l) : Rdy (za A a F) b i p l := Rdy_of (za_ne _ _ hne) r
theorem x_complete {S : SS} {A B : ZA} {b : Nat} {c : (Nat × Nat) × (Nat → Nat)} {bs nb : Nat → Nat} (h : SG B b S A c bs nb) {i f g : Nat} {p : Int} {C : Nat → Int} (hP : PR p) (hi : i < 31) (hr : Rdy A b i p 5) (hf : fm S f g) (hfb : f < b + 321 ∧ ∀ i, i < 31 → f ≠ b + 42 + 3 * i) (hgb : g < b + 321 ∧ ∀ i, i < 31 → g ≠ b + 42 + 3 * i) (hC : ∀ j, j < Lk (2 * i) → A g j = C j ∧ (0 ≤ C j ∧ C j < p)) :
    ∃ A' : ZA, f_X7_complete (b + 42 + 3 * i) f (mz S A B c) = some ((), mz S A' B c) ∧ SG B b S A' c bs nb ∧ A' f 0 = ((2 * i : Nat) : Int) ∧ (∀ n, n < 6 → A' g n = ex p (2 * i) C n) ∧ (∀ x, x ≠ f → x ≠ g → A' x = A x) := by
  have hp := PR_p hP
  have hL := Lk_r (k := 2 * i) (by omega)
  have hs := (h.1.1 i hi).1
  have hw := (h.1.2.2.1 i hi).1
  have hlen := (h.1.2.2.1 i hi).2
  have hfg : f ≠ g := fm_ne hf hf
  unfold f_X7_complete
  simp only [PI0 hs.1, hw, Option.bind_some]
  rw [FP hf]
  simp only [Option.bind_some, PI1 hs.1]
  rw [za_ne _ _ (fun e => hfb.2 i hi e.symm), hlen]
  have h1 := SG_za h (a := f) (up (A f) 0 ((2 * i : Nat) : Int)) hfb.1 hfb.2
  have r1 : Rdy (za A f (up (A f) 0 ((2 * i : Nat) : Int))) b i p 5 := Rdy_za _ (fun e => hfb.2 i hi e.symm) hr
  have hC1 : ∀ j, j < Lk (2 * i) → za A f (up (A f) 0 ((2 * i : Nat) : Int)) g j = C j ∧ (0 ≤ C j ∧ C j < p) := fun j hj => by rw [za_ne _ _ hfg.symm]; exact hC j hj
  have x1 : ∀ x, x ≠ f → x ≠ g → za A f (up (A f) 0 ((2 * i : Nat) : Int)) x = A x := fun x hx _ => za_ne _ _ hx
  have w1 : za A f (up (A f) 0 ((2 * i : Nat) : Int)) f 0 = ((2 * i : Nat) : Int) := by rw [za_at, up_at]
  generalize za A f (up (A f) 0 ((2 * i : Nat) : Int)) = A1 at h1 r1 hC1 x1 w1
  have key := z_run (S := S) (B := B) (c := c) (f := f_X7_complete_L13 (b + 42 + 3 * i) f) (fun t => ii ((Lk (2 * i) + t : Nat) : Int)) (fun t A' => SG B b S A' c bs nb ∧ Rdy A' b i p 5 ∧ A' f 0 = ((2 * i : Nat) : Int) ∧ (∀ n, n < Lk (2 * i) + t → A' g n = ex p (2 * i) C n) ∧ (∀ x, x ≠ f → x ≠ g → A' x = A x)) (6 - Lk (2 * i)) (t := ii ((6 : Nat) : Int)) (by omega) (fun t ht A2 ⟨y0, y1, y2, y3, y4⟩ => by
    unfold f_X7_complete_L13
    simp (disch := omega) only [k6, n_le, show ¬ (6 ≤ Lk (2 * i) + t) by omega, ↓reduceIte, FR hf, Option.bind_some, Pv hs.1]
    obtain ⟨r1', l', r2, r3⟩ := y1
    rw [x_expand (C := C) y0 hP hi (by omega) ⟨r1', l', r2, by omega⟩ hf.2 (by omega) (by omega) (fun j hj => ⟨by
      rw [y3 j (by omega), ex_first (EH_of hP) (by omega) _ hj]
      exact Int.emod_eq_of_lt (hC j hj).2.1 (hC j hj).2.2, (hC j hj).2⟩)]
    simp (disch := omega) only [Option.bind_some, FS' hf, k1, n_add]
    refine ⟨_, rfl, SG_za y0 _ hgb.1 hgb.2, Rdy_za _ (fun e => hgb.2 i hi e.symm) ⟨r1', l', r2, r3⟩, by rw [za_ne _ _ hfg]; exact y2, fun n hn => ?_, fun x hx hx2 => by rw [za_ne _ _ hx2]; exact y4 x hx hx2⟩
    rw [za_at]
    by_cases e : n = Lk (2 * i) + t
    · subst e; rw [up_at]
    · rw [up_ne _ _ e]; exact y3 n (by omega)) (fun A2 _ => by
    unfold f_X7_complete_L13
    rw [show Lk (2 * i) + (6 - Lk (2 * i)) = 6 by omega]
    simp (disch := omega) only [k6, n_le, Nat.le_refl, ↓reduceIte]) (A0 := A1) ⟨h1, r1, w1, fun n hn => by
      rw [(hC1 n (by omega)).1, ex_first (EH_of hP) (by omega) _ (by omega)]
      exact (Int.emod_eq_of_lt (hC1 n (by omega)).2.1 (hC1 n (by omega)).2.2).symm, x1⟩
  obtain ⟨A', e, y0, y1, y2, y3, y4⟩ := key
  rw [show Lk (2 * i) + 0 = Lk (2 * i) by omega] at e
  rw [e]
  exact ⟨A', rfl, y0, y2, fun n hn => y3 n (by omega), y4⟩
