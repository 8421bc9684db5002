/-! The reference's names, its stack. -/
def eqf (T : Nat → Int) (a b : Nat) : Nat → Nat → Bool
  | 0, _ => true
  | k + 1, j => decide (T (a + j) = T (b + j)) && eqf T a b k (j + 1)
theorem eqf_iff {T : Nat → Int} {a b : Nat} : ∀ {k j : Nat}, eqf T a b k j = true ↔ ∀ t, j ≤ t → t < j + k → T (a + t) = T (b + t) := by
  intro k
  induction k with
  | zero => intro j; exact iff_of_true rfl (fun t h1 h2 => by omega)
  | succ k ih =>
    intro j
    have e : eqf T a b (k + 1) j = (decide (T (a + j) = T (b + j)) && eqf T a b k (j + 1)) := rfl
    rw [e, Bool.and_eq_true, decide_eq_true_eq, ih]
    constructor
    · rintro ⟨h1, h2⟩ t h3 h4
      by_cases g : t = j
      · rw [g]; exact h1
      · exact h2 t (by omega) (by omega)
    · intro h
      exact ⟨h j (by omega) (by omega), fun t h1 h2 => h t (by omega) (by omega)⟩
theorem kdx_2 {T : Nat → Int} {n q : Nat} (h : kdx T n q = 2) : q < n ∧ isL (T q) ∧ q < wen T n q ∧ wen T n q ≤ q + 6 ∧ wen T n q ≤ n ∧ (∀ j, j < wen T n q - q → isL (T (q + j))) ∧ vlx T n q = ow T q (wen T n q - q) := by
  have hq := kdx_n (T := T) (n := n) (q := q) (by omega)
  have hl : isL (T q) := by
    by_cases g : isL (T q)
    · exact g
    · exact absurd h (kdx_nw (Or.inr g)).1
  obtain ⟨x, y, z, w⟩ := wen_ok hq hl
  have h6 := ((kdx_w hq hl).2.2.2.2.2.2.1.mp h).1
  refine ⟨hq, hl, x, h6, y, fun j hj => z (q + j) (by omega) (by omega), ?_⟩
  unfold vlx
  rw [if_pos hl, if_neg (by omega)]
theorem name_iff {T : Nat → Int} {n a q : Nat} (ha : kdx T n a = 2) (hq : kdx T n q = 2) : vlx T n a = vlx T n q ↔ wen T n a - a = wen T n q - q ∧ eqf T a q (wen T n a - a) 0 = true := by
  obtain ⟨a1, a2, a3, a4, a5, a6, a7⟩ := kdx_2 ha
  obtain ⟨b1, b2, b3, b4, b5, b6, b7⟩ := kdx_2 hq
  rw [a7, b7, eqf_iff]
  constructor
  · intro h
    obtain ⟨h1, h2⟩ := ow_inj a6 b6 (by omega) (by omega) h
    exact ⟨h1, fun t _ ht => h2 t (by omega)⟩
  · rintro ⟨h1, h2⟩
    rw [← h1]
    exact ow_congr (fun j hj => h2 j (by omega) (by omega))
/-- what the reference holds while it reads -/
def MS (A : ZA) (m : Nat) (T : Nat → Int) (n : Nat) (p : Int) (nl : Nat) (L : LT) : Prop :=
  Bas A m p ∧ MB A m T n ∧ A m 22 = (nl : Int) ∧ nl ≤ 6 ∧ ∀ i, i < nl → (kdx T n (L i).1 = 2 ∧ isF p (L i).2.1 (L i).2.2) ∧ A (m + 12) i = ((wen T n (L i).1 - (L i).1 : Nat) : Int) ∧ (∀ j, j < wen T n (L i).1 - (L i).1 → A (m + 13) (6 * i + j) = T ((L i).1 + j)) ∧ A (m + 14) i = (((L i).2.1 : Nat) : Int) ∧ ∀ k, k < 181 → A (m + 15) (181 * i + k) = (L i).2.2 k
def MF (m : Nat) (A A' : ZA) (t : Nat) : Prop := (∀ x, x ≠ m → x ≠ m + 4 → x ≠ m + 5 → x ≠ m + 16 → x ≠ m + 17 → A' x = A x) ∧ (∀ k, ¬ (14 ≤ k ∧ k ≤ 18) → k ≠ 27 → k ≠ 30 → A' m k = A m k) ∧ (∀ i, i < t → A' (m + 16) i = A (m + 16) i) ∧ (∀ i, i < 181 * t → A' (m + 17) i = A (m + 17) i)
theorem MF_refl (m : Nat) (A : ZA) (t : Nat) : MF m A A t := ⟨fun _ _ _ _ _ _ => rfl, fun _ _ _ _ => rfl, fun _ _ => rfl, fun _ _ => rfl⟩
theorem MF_trans {m : Nat} {A A' A'' : ZA} {t t' : Nat} (h : MF m A A' t) (h' : MF m A' A'' t') (ht : t ≤ t') : MF m A A'' t :=
  ⟨fun x h1 h2 h3 h4 h5 => by rw [h'.1 x h1 h2 h3 h4 h5, h.1 x h1 h2 h3 h4 h5], fun k h1 h2 h3 => by rw [h'.2.1 k h1 h2 h3, h.2.1 k h1 h2 h3], fun i hi => by rw [h'.2.2.1 i (by omega), h.2.2.1 i hi], fun i hi => by rw [h'.2.2.2 i (by omega), h.2.2.2 i hi]⟩
theorem MF_k {m t : Nat} {A A' : ZA} (h1 : ∀ x, x ≠ m → A' x = A x) (h2 : ∀ k, ¬ (14 ≤ k ∧ k ≤ 18) → k ≠ 27 → k ≠ 30 → A' m k = A m k) : MF m A A' t := ⟨fun x hx _ _ _ _ => h1 x hx, h2, fun i _ => by rw [h1 _ (by omega)], fun i _ => by rw [h1 _ (by omega)]⟩
theorem MF_up {m t : Nat} {A : ZA} {k : Nat} {v : Int} (hk : (14 ≤ k ∧ k ≤ 18) ∨ k = 27 ∨ k = 30) : MF m A (za A m (up (A m) k v)) t := MF_k (fun x hx => za_ne _ _ hx) (fun j h1 h2 h3 => by rw [za_at, up_ne _ _ (by omega)])
theorem MS_MF {A A' : ZA} {m : Nat} {T : Nat → Int} {n : Nat} {p : Int} {nl : Nat} {L : LT} {t : Nat} (h : MS A m T n p nl L) (f : MF m A A' t) : MS A' m T n p nl L := by
  obtain ⟨h1, h2, h3, h4, h5⟩ := h
  obtain ⟨f1, f2, -, -⟩ := f
  refine ⟨⟨by rw [f2 1 (by omega) (by omega) (by omega)]; exact h1.1, fun k hk => ?_⟩, MB_of h2 (f2 13 (by omega) (by omega) (by omega)) (f1 _ (by omega) (by omega) (by omega) (by omega) (by omega)), by rw [f2 22 (by omega) (by omega) (by omega)]; exact h3, h4, fun i hi => ?_⟩
  · rw [f1 (m + 1) (by omega) (by omega) (by omega) (by omega) (by omega), f1 (m + 2) (by omega) (by omega) (by omega) (by omega) (by omega), f1 (m + 3) (by omega) (by omega) (by omega) (by omega) (by omega)]
    exact h1.2 k hk
  · rw [f1 (m + 12) (by omega) (by omega) (by omega) (by omega) (by omega), f1 (m + 13) (by omega) (by omega) (by omega) (by omega) (by omega), f1 (m + 14) (by omega) (by omega) (by omega) (by omega) (by omega), f1 (m + 15) (by omega) (by omega) (by omega) (by omega) (by omega)]
    exact h5 i hi
section nm
variable {S : SS} {A B : ZA} {c : (Nat × Nat) × (Nat → Nat)} {m n q nl : Nat} {T : Nat → Int} {p : Int} {L : LT}
theorem m_nm1 (hM : LM S m) (hS : MS A m T n p nl L) (hT : TM A m T n q) (hq : kdx T n q = 2) {i : Nat} (hi : i < nl) (hl : wen T n (L i).1 - (L i).1 = wen T n q - q) : ∀ (k j : Nat), j + k = wen T n q - q → ∀ fuel, k + 1 < fuel → ∃ z : Int32, jloop (f_X12_named_L36 m (ii (i : Int))) fuel (ii ((1 : Nat) : Int), ii (j : Int)) (mz S A B c) = some ((ii ((if eqf T (L i).1 q k j = true then 1 else 0 : Nat) : Int), z), mz S A B c) := by
  obtain ⟨b1, b2, b3, b4, b5, b6, b7⟩ := kdx_2 hq
  obtain ⟨⟨g1, -⟩, g2, g3, -⟩ := hS.2.2.2.2 i hi
  obtain ⟨c1, c2, c3, c4, c5, c6, c7⟩ := kdx_2 g1
  have h6 := hS.2.2.2.1
  have hn := hS.2.1.2.1
  intro k
  induction k with
  | zero =>
    intro j hj fuel hf
    obtain ⟨fu, rfl⟩ : ∃ x, fuel = x + 1 := ⟨fuel - 1, by omega⟩
    refine ⟨ii (j : Int), jloop_end ?_⟩
    unfold f_X12_named_L36
    simp (disch := omega) only [MR23 hM, Option.bind_some, Ma12 hM, g2, n_le, show wen T n (L i).1 - (L i).1 ≤ j by omega, ↓reduceIte]
    rfl
  | succ k ih =>
    intro j hj fuel hf
    obtain ⟨fu, rfl⟩ : ∃ x, fuel = x + 1 := ⟨fuel - 1, by omega⟩
    have t1 := g3 j (by omega)
    have l1 := c6 j (by omega)
    have l2 := b6 j (by omega)
    have st : f_X12_named_L36 m (ii (i : Int)) (ii ((1 : Nat) : Int), ii (j : Int)) (mz S A B c) = some (.inl (ii ((if T ((L i).1 + j) = T (q + j) then 1 else 0 : Nat) : Int), ii ((j + 1 : Nat) : Int)), mz S A B c) := by
      unfold f_X12_named_L36
      simp (disch := omega) only [MR23 hM, Option.bind_some, Ma12 hM, g2, n_le, show ¬ (wen T n (L i).1 - (L i).1 ≤ j) by omega, ↓reduceIte, k0, n_eq, show ¬ (1 = 0) by omega, MR24 hM, k6, n_mul, n_add, Ma13 hM, t1, MI14 hM, hT.1, Mv hM, m_byte hM hS.2.1 (show q + j < n by omega), k1]
      rw [show T (q + j) % 256 = T (q + j) by omega]
      by_cases g : T ((L i).1 + j) = T (q + j)
      · rw [if_pos (by rw [g]), if_pos g]
      · rw [if_neg (by rw [i_eq (by omega) (by omega) (by omega) (by omega)]; exact g), if_neg g]
    rw [jloop_go st]
    have e : eqf T (L i).1 q (k + 1) j = (decide (T ((L i).1 + j) = T (q + j)) && eqf T (L i).1 q k (j + 1)) := rfl
    rw [e]
    by_cases g : T ((L i).1 + j) = T (q + j)
    · rw [if_pos g]
      obtain ⟨z, hz⟩ := ih (j + 1) (by omega) fu (by omega)
      refine ⟨z, ?_⟩
      rw [hz, decide_eq_true g, Bool.true_and]
    · rw [if_neg g, decide_eq_false g, Bool.false_and]
      obtain ⟨fv, rfl⟩ : ∃ x, fu = x + 1 := ⟨fu - 1, by omega⟩
      refine ⟨ii ((j + 1 : Nat) : Int), jloop_end ?_⟩
      unfold f_X12_named_L36
      simp (disch := omega) only [MR23 hM, Option.bind_some, Ma12 hM, g2, n_le]
      by_cases g4 : wen T n (L i).1 - (L i).1 ≤ j + 1
      · rw [if_pos g4]; rfl
      · rw [if_neg g4]; rfl
theorem m_named (hM : LM S m) (hS : MS A m T n p nl L) (hT : TM A m T n q) (hq : kdx T n q = 2) : f_X12_named m (mz S A B c) = some (if fnd (fun i => vlx T n (L i).1 = vlx T n q) nl 0 < nl then ii ((fnd (fun i => vlx T n (L i).1 = vlx T n q) nl 0 : Nat) : Int) else ii (-1), mz S A B c) := by
  obtain ⟨b1, b2, b3, b4, b5, b6, b7⟩ := kdx_2 hq
  have h6 := hS.2.2.2.1
  have hn := hS.2.1.2.1
  have et : ten T n q = wen T n q := by unfold ten; rw [if_neg (by omega), if_pos b2]
  have stp : ∀ j, j < nl → f_X12_named_L2 m (ii (j : Int)) (mz S A B c) = if vlx T n (L j).1 = vlx T n q then some (.inr (.inl (ii (j : Int))), mz S A B c) else some (.inl (ii ((j + 1 : Nat) : Int)), mz S A B c) := by
    intro j hj
    obtain ⟨⟨g1, -⟩, g2, g3, -⟩ := hS.2.2.2.2 j hj
    obtain ⟨c1, c2, c3, c4, c5, c6, c7⟩ := kdx_2 g1
    have hni := name_iff g1 hq
    unfold f_X12_named_L2
    simp (disch := omega) only [MI22 hM, hS.2.2.1, Option.bind_some, n_le, show ¬ (nl ≤ j) by omega, ↓reduceIte, MR23 hM, Ma12 hM, g2, MI15 hM, MI14 hM, hT.1, hT.2.1, et, n_sub, n_eq]
    by_cases hl : wen T n (L j).1 - (L j).1 = wen T n q - q
    · rw [if_pos hl]
      obtain ⟨z, hz⟩ := m_nm1 (B := B) (c := c) hM hS hT hq hj hl (wen T n q - q) 0 (by omega) jF (jF_big (by omega))
      have hz' : jloop (f_X12_named_L36 m (ii (j : Int))) jF ((1 : Int32), (0 : Int32)) (mz S A B c) = _ := hz
      rw [hz']
      simp only [Option.bind_some]
      rw [hl] at hni
      by_cases g : eqf T (L j).1 q (wen T n q - q) 0 = true
      · rw [if_pos g, if_pos (hni.mpr ⟨rfl, g⟩)]; rfl
      · rw [if_neg g, if_neg (fun x => g (hni.mp x).2), k1, n_add]; rfl
    · rw [if_neg hl, if_neg (fun x => hl (hni.mp x).1)]
      have hz : jloop (f_X12_named_L36 m (ii (j : Int))) jF ((0 : Int32), (0 : Int32)) (mz S A B c) = some (((0 : Int32), (0 : Int32)), mz S A B c) := by
        refine jloop_end (n := 19999) ?_
        unfold f_X12_named_L36
        simp (disch := omega) only [MR23 hM, Option.bind_some, Ma12 hM, g2, ↓reduceIte]
        by_cases g4 : ii ((wen T n (L j).1 - (L j).1 : Nat) : Int) ≤ (0 : Int32)
        · rw [if_pos g4]
        · rw [if_neg g4]
      rw [hz]
      simp only [Option.bind_some]
      rw [if_pos True.intro, k1, n_add]
  have key := fnd_run (h := mz S A B c) (f := f_X12_named_L2 m) (fun i => vlx T n (L i).1 = vlx T n q) (fun j => if j < nl then Sum.inl (ii (j : Int)) else Sum.inr (ii (j : Int))) nl 0 (fun j _ hj hP => by
    rw [stp j (by omega), if_neg hP]) (fun j _ hj hP => by
    rw [stp j (by omega), if_pos hP, if_pos (by omega)]) (by
    rw [Nat.zero_add, if_neg (Nat.lt_irrefl _)]
    unfold f_X12_named_L2
    simp (disch := omega) only [MI22 hM, hS.2.2.1, Option.bind_some, n_le, Nat.le_refl, ↓reduceIte]) jF (jF_big (by omega))
  have key' : jloop (f_X12_named_L2 m) jF (0 : Int32) (mz S A B c) = _ := key
  unfold f_X12_named
  rw [key']
  simp only [Option.bind_some]
  by_cases g : fnd (fun i => vlx T n (L i).1 = vlx T n q) nl 0 < nl
  · rw [if_pos g, if_pos g]; rfl
  · rw [if_neg g, if_neg g]; rfl
theorem m_push (hM : LM S m) {t w a o N : Nat} (ht : A m 27 = (t : Int)) (ht2 : t < 30) (ha : S a = some (.inr (.inl (.int, N)))) (n1 : a ≠ m + 16) (n2 : a ≠ m + 17) (ho : o + 181 ≤ N) (hN : N < 100000) :
    ∃ A' : ZA, f_X12_pushes m (ii (w : Int)) a (ii (o : Int)) (mz S A B c) = some ((), mz S A' B c) ∧ A' m 27 = ((t + 1 : Nat) : Int) ∧ (∀ k, k ≠ 27 → A' m k = A m k) ∧ A' (m + 16) t = (w : Int) ∧ (∀ i, i ≠ t → A' (m + 16) i = A (m + 16) i) ∧ (∀ k, k < 181 → A' (m + 17) (181 * t + k) = A a (o + k)) ∧ (∀ i, i < 181 * t → A' (m + 17) i = A (m + 17) i) ∧ (∀ x, x ≠ m → x ≠ m + 16 → x ≠ m + 17 → A' x = A x) := by
  unfold f_X12_pushes
  simp (disch := omega) only [MR28 hM, MI27 hM, ht, Option.bind_some, Ms16 hM, MR29 hM, za_ne, k181, n_mul]
  rw [m_copies ha (MS17 hM) n2 ho (by omega) hN (by omega)]
  simp (disch := omega) only [Option.bind_some, MI27 hM, za_ne, ht, k1, n_add, MP27 hM]
  refine ⟨_, rfl, by rw [za_at, up_at], fun k hk => by rw [za_at, up_ne _ _ hk], by rw [za_ne _ _ (by omega), za_ne _ _ (by omega), za_at, up_at], fun i hi => by rw [za_ne _ _ (by omega), za_ne _ _ (by omega), za_at, up_ne _ _ hi], fun k hk => by rw [za_ne _ _ (by omega), za_at, mo_in _ _ hk], fun i hi => by rw [za_ne _ _ (by omega), za_at, mo_out _ _ (by omega)], fun x h1 h2 h3 => by rw [za_ne _ _ h1, za_ne _ _ h3, za_ne _ _ h2]⟩
theorem m_pushN (hM : LM S m) {t : Nat} {v : Int} (hp : 0 < p) (hp2 : p < 10000) (hP : A m 1 = p) (hv : -1000000 ≤ v ∧ v ≤ 1000000) (ht : A m 27 = (t : Int)) (ht2 : t < 30) :
    ∃ A' : ZA, f_X12_pushesNumber m (ii v) (mz S A B c) = some ((), mz S A' B c) ∧ A' m 27 = ((t + 1 : Nat) : Int) ∧ (∀ k, k ≠ 27 → A' m k = A m k) ∧ A' (m + 16) t = 0 ∧ (∀ i, i ≠ t → A' (m + 16) i = A (m + 16) i) ∧ (∀ k, k < 181 → A' (m + 17) (181 * t + k) = nrow p v k) ∧ (∀ i, i < 181 * t → A' (m + 17) i = A (m + 17) i) ∧ (∀ x, x ≠ m → x ≠ m + 4 → x ≠ m + 16 → x ≠ m + 17 → A' x = A x) := by
  have key := fill_run (S := S) (A := A) (B := B) (c := c) (a := m + 4) (o := 0) (f := f_X12_pushesNumber_L2 m (ii v)) (nrow p v) 181 (by decide) (fun i hi => by
    unfold f_X12_pushesNumber_L2
    simp (disch := omega) only [k181, n_le, show ¬ (181 ≤ i) by omega, ↓reduceIte, MR5 hM, Option.bind_some, k0, n_eq]
    by_cases g : i = 0
    · rw [if_pos g]
      simp (disch := omega) only [Mv hM, Option.bind_some, i_l]
      rw [m_left' (p := p) hM (by rw [za_ne _ _ (by omega)]; exact hP) hp hp2 (by omega) (by omega)]
      simp only [Option.bind_some]
      rw [jsI_m0 (MS4 hM) hi (by omega) (by unfold nrow; rw [ser_at (by omega), if_pos g])]
      simp only [Option.bind_some, k1, n_add]
    · rw [if_neg g]
      have := jsI_m0 (A := A) (B := B) (c := c) (F := A (m + 4)) (G := nrow p v) (v := ((0 : Nat) : Int)) (MS4 hM) hi (by omega) (by unfold nrow; rw [ser_at (by omega), if_neg g, Int.zero_emod]; rfl)
      rw [this]
      simp only [Option.bind_some, k1, n_add]) (by
    unfold f_X12_pushesNumber_L2
    simp (disch := omega) only [k181, n_le, Nat.le_refl, ↓reduceIte])
  generalize hA1 : za A (m + 4) (mo (nrow p v) (A (m + 4)) 0 181) = A1 at key
  have g1 : ∀ x, x ≠ m + 4 → A1 x = A x := fun x hx => by rw [← hA1, za_ne _ _ hx]
  have g2 : ∀ k, k < 181 → A1 (m + 4) (0 + k) = nrow p v k := fun k hk => by rw [← hA1, za_at, mo_in _ _ hk]
  obtain ⟨A', e, y1, y2, y3, y4, y5, y6, y7⟩ := m_push (A := A1) (B := B) (c := c) (w := 0) (a := m + 4) (o := 0) hM (by rw [g1 _ (by omega)]; exact ht) ht2 (MS4 hM) (by omega) (by omega) (by omega) (by omega)
  refine ⟨A', ?_, y1, fun k hk => by rw [y2 k hk, g1 _ (by omega)], y3, fun i hi => by rw [y4 i hi, g1 _ (by omega)], fun k hk => by rw [y5 k hk, g2 k hk], fun i hi => by rw [y6 i hi, g1 _ (by omega)], fun x h1 h2 h3 h4 => by rw [y7 x h1 h3 h4, g1 x h2]⟩
  unfold f_X12_pushesNumber
  rw [k0, key]
  simp only [Option.bind_some, MR5 hM, Mv hM, e]
end nm
