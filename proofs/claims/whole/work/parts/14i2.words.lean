/-- a token's kind, for a word -/
theorem kdx_w {T : Nat → Int} {n q : Nat} (hq : q < n) (h : isL (T q)) : (kdx T n q = 4 ↔ wis T n q wPrime) ∧ (kdx T n q = 5 ↔ wis T n q wLet) ∧ (kdx T n q = 6 ↔ wis T n q wBe) ∧ (kdx T n q = 7 ↔ wis T n q wFour) ∧ (kdx T n q = 8 ↔ wis T n q wSix) ∧ (kdx T n q = 9 ↔ wis T n q wDelta) ∧ (kdx T n q = 2 ↔ wen T n q ≤ q + 6 ∧ ¬ wis T n q wPrime ∧ ¬ wis T n q wLet ∧ ¬ wis T n q wBe ∧ ¬ wis T n q wFour ∧ ¬ wis T n q wSix ∧ ¬ wis T n q wDelta) ∧ kdx T n q ≠ 3 ∧ kdx T n q ≤ 9 := by
  have h1 : wis T n q wPrime ↔ _ := wis_5 112 114 105 109 101
  have h2 : wis T n q wLet ↔ _ := wis_3 108 101 116
  have h3 : wis T n q wBe ↔ _ := wis_2 98 101
  have h4 : wis T n q wFour ↔ _ := wis_4 102 111 117 114
  have h5 : wis T n q wSix ↔ _ := wis_3 115 105 120
  have h6 : wis T n q wDelta ↔ _ := wis_5 100 101 108 116 97
  have e : kdx T n q = if q + 6 < wen T n q then 1 else kdw T n q := by unfold kdx; rw [if_neg (by omega), if_pos h]
  have x1 : wis T n q wPrime → wen T n q = q + 5 ∧ T q = 112 := fun z => by
    have := h1.mp z
    exact ⟨this.1, this.2.1⟩
  have x2 : wis T n q wLet → wen T n q = q + 3 ∧ T q = 108 := fun z => by
    have := h2.mp z
    exact ⟨this.1, this.2.1⟩
  have x3 : wis T n q wBe → wen T n q = q + 2 ∧ T q = 98 := fun z => by
    have := h3.mp z
    exact ⟨this.1, this.2.1⟩
  have x4 : wis T n q wFour → wen T n q = q + 4 ∧ T q = 102 := fun z => by
    have := h4.mp z
    exact ⟨this.1, this.2.1⟩
  have x5 : wis T n q wSix → wen T n q = q + 3 ∧ T q = 115 := fun z => by
    have := h5.mp z
    exact ⟨this.1, this.2.1⟩
  have x6 : wis T n q wDelta → wen T n q = q + 5 ∧ T q = 100 := fun z => by
    have := h6.mp z
    exact ⟨this.1, this.2.1⟩
  clear h1 h2 h3 h4 h5 h6
  by_cases w1 : wis T n q wPrime
  · have y := x1 w1
    have w2 : ¬ wis T n q wLet := fun z => by have := x2 z; omega
    have w3 : ¬ wis T n q wBe := fun z => by have := x3 z; omega
    have w4 : ¬ wis T n q wFour := fun z => by have := x4 z; omega
    have w5 : ¬ wis T n q wSix := fun z => by have := x5 z; omega
    have w6 : ¬ wis T n q wDelta := fun z => by have := x6 z; omega
    have v : kdx T n q = 4 := by rw [e, if_neg (by omega)]; unfold kdw; rw [if_pos w1]
    exact ⟨iff_of_true v w1, iff_of_false (by omega) w2, iff_of_false (by omega) w3, iff_of_false (by omega) w4, iff_of_false (by omega) w5, iff_of_false (by omega) w6, iff_of_false (by omega) (fun z => absurd w1 (z.2.1)), by omega, by omega⟩
  by_cases w2 : wis T n q wLet
  · have y := x2 w2
    have w3 : ¬ wis T n q wBe := fun z => by have := x3 z; omega
    have w4 : ¬ wis T n q wFour := fun z => by have := x4 z; omega
    have w5 : ¬ wis T n q wSix := fun z => by have := x5 z; omega
    have w6 : ¬ wis T n q wDelta := fun z => by have := x6 z; omega
    have v : kdx T n q = 5 := by rw [e, if_neg (by omega)]; unfold kdw; rw [if_neg w1, if_pos w2]
    exact ⟨iff_of_false (by omega) w1, iff_of_true v w2, iff_of_false (by omega) w3, iff_of_false (by omega) w4, iff_of_false (by omega) w5, iff_of_false (by omega) w6, iff_of_false (by omega) (fun z => absurd w2 (z.2.2.1)), by omega, by omega⟩
  by_cases w3 : wis T n q wBe
  · have y := x3 w3
    have w4 : ¬ wis T n q wFour := fun z => by have := x4 z; omega
    have w5 : ¬ wis T n q wSix := fun z => by have := x5 z; omega
    have w6 : ¬ wis T n q wDelta := fun z => by have := x6 z; omega
    have v : kdx T n q = 6 := by rw [e, if_neg (by omega)]; unfold kdw; rw [if_neg w1, if_neg w2, if_pos w3]
    exact ⟨iff_of_false (by omega) w1, iff_of_false (by omega) w2, iff_of_true v w3, iff_of_false (by omega) w4, iff_of_false (by omega) w5, iff_of_false (by omega) w6, iff_of_false (by omega) (fun z => absurd w3 (z.2.2.2.1)), by omega, by omega⟩
  by_cases w4 : wis T n q wFour
  · have y := x4 w4
    have w5 : ¬ wis T n q wSix := fun z => by have := x5 z; omega
    have w6 : ¬ wis T n q wDelta := fun z => by have := x6 z; omega
    have v : kdx T n q = 7 := by rw [e, if_neg (by omega)]; unfold kdw; rw [if_neg w1, if_neg w2, if_neg w3, if_pos w4]
    exact ⟨iff_of_false (by omega) w1, iff_of_false (by omega) w2, iff_of_false (by omega) w3, iff_of_true v w4, iff_of_false (by omega) w5, iff_of_false (by omega) w6, iff_of_false (by omega) (fun z => absurd w4 (z.2.2.2.2.1)), by omega, by omega⟩
  by_cases w5 : wis T n q wSix
  · have y := x5 w5
    have w6 : ¬ wis T n q wDelta := fun z => by have := x6 z; omega
    have v : kdx T n q = 8 := by rw [e, if_neg (by omega)]; unfold kdw; rw [if_neg w1, if_neg w2, if_neg w3, if_neg w4, if_pos w5]
    exact ⟨iff_of_false (by omega) w1, iff_of_false (by omega) w2, iff_of_false (by omega) w3, iff_of_false (by omega) w4, iff_of_true v w5, iff_of_false (by omega) w6, iff_of_false (by omega) (fun z => absurd w5 (z.2.2.2.2.2.1)), by omega, by omega⟩
  by_cases w6 : wis T n q wDelta
  · have y := x6 w6
    have v : kdx T n q = 9 := by rw [e, if_neg (by omega)]; unfold kdw; rw [if_neg w1, if_neg w2, if_neg w3, if_neg w4, if_neg w5, if_pos w6]
    exact ⟨iff_of_false (by omega) w1, iff_of_false (by omega) w2, iff_of_false (by omega) w3, iff_of_false (by omega) w4, iff_of_false (by omega) w5, iff_of_true v w6, iff_of_false (by omega) (fun z => absurd w6 (z.2.2.2.2.2.2)), by omega, by omega⟩
  by_cases g6 : q + 6 < wen T n q
  · have v : kdx T n q = 1 := by rw [e, if_pos g6]
    exact ⟨iff_of_false (by omega) w1, iff_of_false (by omega) w2, iff_of_false (by omega) w3, iff_of_false (by omega) w4, iff_of_false (by omega) w5, iff_of_false (by omega) w6, iff_of_false (by omega) (fun z => by have := z.1; omega), by omega, by omega⟩
  · have v : kdx T n q = 2 := by rw [e, if_neg g6]; unfold kdw; rw [if_neg w1, if_neg w2, if_neg w3, if_neg w4, if_neg w5, if_neg w6]
    exact ⟨iff_of_false (by omega) w1, iff_of_false (by omega) w2, iff_of_false (by omega) w3, iff_of_false (by omega) w4, iff_of_false (by omega) w5, iff_of_false (by omega) w6, iff_of_true v ⟨by omega, w1, w2, w3, w4, w5, w6⟩, by omega, by omega⟩
theorem kdx_nw {T : Nat → Int} {n q : Nat} (h : n ≤ q ∨ ¬ isL (T q)) : kdx T n q ≠ 2 ∧ (kdx T n q < 4 ∨ 9 < kdx T n q) := by
  unfold kdx
  by_cases g : n ≤ q
  · rw [if_pos g]; omega
  · rw [if_neg g, if_neg (by omega)]
    repeat' split
    all_goals omega
theorem kdx_tk (T : Nat → Int) (n q : Nat) : (tk T n q = 0 ↔ kdx T n q = 0) ∧ (tk T n q = 2 ↔ kdx T n q = 3) ∧ (tk T n q = 1 ↔ q < n ∧ isL (T q)) ∧ (tk T n q = 3 → kdx T n q = T q) ∧ (tk T n q ≠ 3 → kdx T n q < 40) ∧ 0 ≤ tk T n q ∧ tk T n q ≤ 4 := by
  have hw := kdw_r T n q
  by_cases g : n ≤ q
  · have v1 : tk T n q = 0 := if_pos g
    have v2 : kdx T n q = 0 := if_pos g
    exact ⟨by omega, by omega, by omega, fun _ => by omega, fun _ => by omega, by omega, by omega⟩
  · by_cases l : isL (T q)
    · have v1 : tk T n q = 1 := by unfold tk; rw [if_neg g, if_pos l]
      have v2 : kdx T n q = if q + 6 < wen T n q then 1 else kdw T n q := by unfold kdx; rw [if_neg g, if_pos l]
      have v3 : 1 ≤ kdx T n q ∧ kdx T n q ≤ 9 ∧ kdx T n q ≠ 3 := by
        rw [v2]
        by_cases g6 : q + 6 < wen T n q
        · rw [if_pos g6]; omega
        · rw [if_neg g6]; omega
      exact ⟨by omega, by omega, by omega, fun _ => by omega, fun _ => by omega, by omega, by omega⟩
    · by_cases d : isD (T q)
      · have v1 : tk T n q = 2 := by unfold tk; rw [if_neg g, if_neg l, if_pos d]
        have v2 : kdx T n q = 3 := by unfold kdx; rw [if_neg g, if_neg l, if_pos d]
        exact ⟨by omega, by omega, by omega, fun _ => by omega, fun _ => by omega, by omega, by omega⟩
      · by_cases s : isSg (T q)
        · have v1 : tk T n q = 3 := by unfold tk; rw [if_neg g, if_neg l, if_neg d, if_pos s]
          have v2 : kdx T n q = T q := by unfold kdx; rw [if_neg g, if_neg l, if_neg d, if_pos s]
          exact ⟨by omega, by omega, by omega, fun _ => by omega, fun _ => by omega, by omega, by omega⟩
        · have v1 : tk T n q = 4 := by unfold tk; rw [if_neg g, if_neg l, if_neg d, if_neg s]
          have v2 : kdx T n q = 1 := by unfold kdx; rw [if_neg g, if_neg l, if_neg d, if_neg s]
          exact ⟨by omega, by omega, by omega, fun _ => by omega, fun _ => by omega, by omega, by omega⟩
theorem cI_y {T : Nat → Int} {q l i : Nat} {a : Int} (h : cI T q l i = a) (ha : a ≠ 0) : i < l ∧ T (q + i) = a := by
  rcases cI_c T q l i with ⟨h1, h2⟩ | ⟨h1, h2⟩
  · exact ⟨h1, by rw [← h2]; exact h⟩
  · rw [h2] at h; exact absurd h.symm ha
theorem cI_n {T : Nat → Int} {q l i : Nat} (hl : ∀ j, q ≤ j → j < q + l → isL (T j)) (h : cI T q l i = 0) : l ≤ i := by
  rcases cI_c T q l i with ⟨h1, h2⟩ | ⟨h1, h2⟩
  · have := hl (q + i) (by omega) (by omega)
    omega
  · exact h1
theorem cI_of {T : Nat → Int} {q l i : Nat} (h : i < l) : cI T q l i = T (q + i) := if_pos h
theorem cI_0 {T : Nat → Int} {q l i : Nat} (h : l ≤ i) : cI T q l i = 0 := if_neg (by omega)
section wd
variable {S : SS} {A B : ZA} {c : (Nat × Nat) × (Nat → Nat)} {m n q : Nat} {T : Nat → Int}
theorem m_isWx (hM : LM S m) (hB : MB A m T n) (hT : TM A m T n q) {a1 a2 a3 a4 a5 k : Nat} (h1 : a1 < 1000) (h2 : a2 < 1000) (h3 : a3 < 1000) (h4 : a4 < 1000) (h5 : a5 < 1000) (hk : 4 ≤ k ∧ k ≤ 9) (hw : q < n → isL (T q) → ((T q = (a1 : Int) ∧ cI T q (wen T n q - q) 1 = (a2 : Int) ∧ cI T q (wen T n q - q) 2 = (a3 : Int) ∧ cI T q (wen T n q - q) 3 = (a4 : Int) ∧ cI T q (wen T n q - q) 4 = (a5 : Int) ∧ wen T n q - q < 6) ↔ kdx T n q = (k : Int))) :
    f_X12_isWord m (ii (a1 : Int)) (ii (a2 : Int)) (ii (a3 : Int)) (ii (a4 : Int)) (ii (a5 : Int)) (mz S A B c) = some (ii ((if kdx T n q = (k : Int) then 1 else 0 : Nat) : Int), mz S A B c) := by
  obtain ⟨t1, t2, t3, -, -⟩ := hT
  have htk := kdx_tk T n q
  have hn := hB.2.1
  unfold f_X12_isWord
  simp (disch := omega) only [MI15 hM, MI14 hM, MI16 hM, t1, t2, t3, Option.bind_some, k1, i_eq]
  by_cases g : q < n ∧ isL (T q)
  · obtain ⟨g1, g2⟩ := g
    obtain ⟨a1', b1', c1', d1'⟩ := wen_ok g1 g2
    have et : ten T n q = wen T n q := by unfold ten; rw [if_neg (by omega), if_pos g2]
    obtain ⟨u1, u2, u3⟩ := hB.2.2 q g1
    rw [if_pos (show tk T n q = ((1 : Nat) : Int) by have := htk.2.2.1.mpr ⟨g1, g2⟩; omega), et]
    simp (disch := omega) only [n_sub, k0, n_le, show ¬ (wen T n q - q ≤ 0) by omega, ↓reduceIte, Mv hM, Option.bind_some, m_byte hM hB g1]
    rw [show T q % 256 = T q by omega, w_36 (T := T) (q := q) (by omega) h5 h4 h3 h2 h1 (fun i hi hi6 => by
      obtain ⟨v1, v2, v3⟩ := hB.2.2 (q + i) (by omega)
      have v4 := c1' (q + i) (by omega) (by omega)
      rw [n_add, m_byte hM hB (show q + i < n by omega), show T (q + i) % 256 = T (q + i) by omega]) (fun i hi => c1' (q + i) (by omega) (by omega)) (by rw [MI14 hM, t1]) (Mv hM) (by omega) (by omega)]
    by_cases g3 : kdx T n q = (k : Int)
    · rw [if_pos g3, if_pos ((hw g1 g2).mpr g3)]
    · rw [if_neg g3, if_neg (fun z => g3 ((hw g1 g2).mp z))]
  · have hk2 := kdx_nw (T := T) (n := n) (q := q) (by omega)
    rw [if_neg (show ¬ tk T n q = ((1 : Nat) : Int) by intro x; exact g (htk.2.2.1.mp (by omega))), w_92, if_neg (by omega)]
theorem m_isPrimeW (hM : LM S m) (hB : MB A m T n) (hT : TM A m T n q) : f_X12_isWord m (112 : Int32) (114 : Int32) (105 : Int32) (109 : Int32) (101 : Int32) (mz S A B c) = some (ii ((if kdx T n q = 4 then 1 else 0 : Nat) : Int), mz S A B c) :=
  m_isWx (a1 := 112) (a2 := 114) (a3 := 105) (a4 := 109) (a5 := 101) (k := 4) hM hB hT (by omega) (by omega) (by omega) (by omega) (by omega) (by omega) (fun g1 g2 => by
    obtain ⟨x, y, z, w⟩ := wen_ok g1 g2
    have zl : ∀ j, q ≤ j → j < q + (wen T n q - q) → isL (T j) := fun j h1 h2 => z j h1 (by omega)
    have h1 : wis T n q wPrime ↔ _ := wis_5 112 114 105 109 101
    rw [show ((4 : Nat) : Int) = 4 from rfl, (kdx_w g1 g2).1, h1]
    constructor
    · rintro ⟨e0, e1, e2, e3, e4, e5⟩
      have u1 := cI_y e1 (by omega)
      have u2 := cI_y e2 (by omega)
      have u3 := cI_y e3 (by omega)
      have u4 := cI_y e4 (by omega)
      exact ⟨by omega, e0, u1.2, u2.2, u3.2, u4.2⟩
    · rintro ⟨f0, e0, e1, e2, e3, e4⟩
      exact ⟨e0, by rw [cI_of (by omega)]; exact e1, by rw [cI_of (by omega)]; exact e2, by rw [cI_of (by omega)]; exact e3, by rw [cI_of (by omega)]; exact e4, by omega⟩)
theorem m_isLetW (hM : LM S m) (hB : MB A m T n) (hT : TM A m T n q) : f_X12_isWord m (108 : Int32) (101 : Int32) (116 : Int32) (0 : Int32) (0 : Int32) (mz S A B c) = some (ii ((if kdx T n q = 5 then 1 else 0 : Nat) : Int), mz S A B c) :=
  m_isWx (a1 := 108) (a2 := 101) (a3 := 116) (a4 := 0) (a5 := 0) (k := 5) hM hB hT (by omega) (by omega) (by omega) (by omega) (by omega) (by omega) (fun g1 g2 => by
    obtain ⟨x, y, z, w⟩ := wen_ok g1 g2
    have zl : ∀ j, q ≤ j → j < q + (wen T n q - q) → isL (T j) := fun j h1 h2 => z j h1 (by omega)
    have h1 : wis T n q wLet ↔ _ := wis_3 108 101 116
    rw [show ((5 : Nat) : Int) = 5 from rfl, (kdx_w g1 g2).2.1, h1]
    constructor
    · rintro ⟨e0, e1, e2, e3, e4, e5⟩
      have u1 := cI_y e1 (by omega)
      have u2 := cI_y e2 (by omega)
      have uu := cI_n zl (show cI T q (wen T n q - q) 3 = 0 from e3)
      exact ⟨by omega, e0, u1.2, u2.2⟩
    · rintro ⟨f0, e0, e1, e2⟩
      exact ⟨e0, by rw [cI_of (by omega)]; exact e1, by rw [cI_of (by omega)]; exact e2, cI_0 (by omega), cI_0 (by omega), by omega⟩)
theorem m_isBeW (hM : LM S m) (hB : MB A m T n) (hT : TM A m T n q) : f_X12_isWord m (98 : Int32) (101 : Int32) (0 : Int32) (0 : Int32) (0 : Int32) (mz S A B c) = some (ii ((if kdx T n q = 6 then 1 else 0 : Nat) : Int), mz S A B c) :=
  m_isWx (a1 := 98) (a2 := 101) (a3 := 0) (a4 := 0) (a5 := 0) (k := 6) hM hB hT (by omega) (by omega) (by omega) (by omega) (by omega) (by omega) (fun g1 g2 => by
    obtain ⟨x, y, z, w⟩ := wen_ok g1 g2
    have zl : ∀ j, q ≤ j → j < q + (wen T n q - q) → isL (T j) := fun j h1 h2 => z j h1 (by omega)
    have h1 : wis T n q wBe ↔ _ := wis_2 98 101
    rw [show ((6 : Nat) : Int) = 6 from rfl, (kdx_w g1 g2).2.2.1, h1]
    constructor
    · rintro ⟨e0, e1, e2, e3, e4, e5⟩
      have u1 := cI_y e1 (by omega)
      have uu := cI_n zl (show cI T q (wen T n q - q) 2 = 0 from e2)
      exact ⟨by omega, e0, u1.2⟩
    · rintro ⟨f0, e0, e1⟩
      exact ⟨e0, by rw [cI_of (by omega)]; exact e1, cI_0 (by omega), cI_0 (by omega), cI_0 (by omega), by omega⟩)
theorem m_isFourW (hM : LM S m) (hB : MB A m T n) (hT : TM A m T n q) : f_X12_isWord m (102 : Int32) (111 : Int32) (117 : Int32) (114 : Int32) (0 : Int32) (mz S A B c) = some (ii ((if kdx T n q = 7 then 1 else 0 : Nat) : Int), mz S A B c) :=
  m_isWx (a1 := 102) (a2 := 111) (a3 := 117) (a4 := 114) (a5 := 0) (k := 7) hM hB hT (by omega) (by omega) (by omega) (by omega) (by omega) (by omega) (fun g1 g2 => by
    obtain ⟨x, y, z, w⟩ := wen_ok g1 g2
    have zl : ∀ j, q ≤ j → j < q + (wen T n q - q) → isL (T j) := fun j h1 h2 => z j h1 (by omega)
    have h1 : wis T n q wFour ↔ _ := wis_4 102 111 117 114
    rw [show ((7 : Nat) : Int) = 7 from rfl, (kdx_w g1 g2).2.2.2.1, h1]
    constructor
    · rintro ⟨e0, e1, e2, e3, e4, e5⟩
      have u1 := cI_y e1 (by omega)
      have u2 := cI_y e2 (by omega)
      have u3 := cI_y e3 (by omega)
      have uu := cI_n zl (show cI T q (wen T n q - q) 4 = 0 from e4)
      exact ⟨by omega, e0, u1.2, u2.2, u3.2⟩
    · rintro ⟨f0, e0, e1, e2, e3⟩
      exact ⟨e0, by rw [cI_of (by omega)]; exact e1, by rw [cI_of (by omega)]; exact e2, by rw [cI_of (by omega)]; exact e3, cI_0 (by omega), by omega⟩)
theorem m_isSixW (hM : LM S m) (hB : MB A m T n) (hT : TM A m T n q) : f_X12_isWord m (115 : Int32) (105 : Int32) (120 : Int32) (0 : Int32) (0 : Int32) (mz S A B c) = some (ii ((if kdx T n q = 8 then 1 else 0 : Nat) : Int), mz S A B c) :=
  m_isWx (a1 := 115) (a2 := 105) (a3 := 120) (a4 := 0) (a5 := 0) (k := 8) hM hB hT (by omega) (by omega) (by omega) (by omega) (by omega) (by omega) (fun g1 g2 => by
    obtain ⟨x, y, z, w⟩ := wen_ok g1 g2
    have zl : ∀ j, q ≤ j → j < q + (wen T n q - q) → isL (T j) := fun j h1 h2 => z j h1 (by omega)
    have h1 : wis T n q wSix ↔ _ := wis_3 115 105 120
    rw [show ((8 : Nat) : Int) = 8 from rfl, (kdx_w g1 g2).2.2.2.2.1, h1]
    constructor
    · rintro ⟨e0, e1, e2, e3, e4, e5⟩
      have u1 := cI_y e1 (by omega)
      have u2 := cI_y e2 (by omega)
      have uu := cI_n zl (show cI T q (wen T n q - q) 3 = 0 from e3)
      exact ⟨by omega, e0, u1.2, u2.2⟩
    · rintro ⟨f0, e0, e1, e2⟩
      exact ⟨e0, by rw [cI_of (by omega)]; exact e1, by rw [cI_of (by omega)]; exact e2, cI_0 (by omega), cI_0 (by omega), by omega⟩)
theorem m_isDeltaW (hM : LM S m) (hB : MB A m T n) (hT : TM A m T n q) : f_X12_isWord m (100 : Int32) (101 : Int32) (108 : Int32) (116 : Int32) (97 : Int32) (mz S A B c) = some (ii ((if kdx T n q = 9 then 1 else 0 : Nat) : Int), mz S A B c) :=
  m_isWx (a1 := 100) (a2 := 101) (a3 := 108) (a4 := 116) (a5 := 97) (k := 9) hM hB hT (by omega) (by omega) (by omega) (by omega) (by omega) (by omega) (fun g1 g2 => by
    obtain ⟨x, y, z, w⟩ := wen_ok g1 g2
    have zl : ∀ j, q ≤ j → j < q + (wen T n q - q) → isL (T j) := fun j h1 h2 => z j h1 (by omega)
    have h1 : wis T n q wDelta ↔ _ := wis_5 100 101 108 116 97
    rw [show ((9 : Nat) : Int) = 9 from rfl, (kdx_w g1 g2).2.2.2.2.2.1, h1]
    constructor
    · rintro ⟨e0, e1, e2, e3, e4, e5⟩
      have u1 := cI_y e1 (by omega)
      have u2 := cI_y e2 (by omega)
      have u3 := cI_y e3 (by omega)
      have u4 := cI_y e4 (by omega)
      exact ⟨by omega, e0, u1.2, u2.2, u3.2, u4.2⟩
    · rintro ⟨f0, e0, e1, e2, e3, e4⟩
      exact ⟨e0, by rw [cI_of (by omega)]; exact e1, by rw [cI_of (by omega)]; exact e2, by rw [cI_of (by omega)]; exact e3, by rw [cI_of (by omega)]; exact e4, by omega⟩)
theorem m_isName (hM : LM S m) (hB : MB A m T n) (hT : TM A m T n q) : f_X12_isName m (mz S A B c) = some (ii ((if kdx T n q = 2 then 1 else 0 : Nat) : Int), mz S A B c) := by
  have htk := kdx_tk T n q
  have hn := hB.2.1
  unfold f_X12_isName
  simp (disch := omega) only [MI15 hM, MI14 hM, MI16 hM, hT.1, hT.2.1, hT.2.2.1, Option.bind_some, k1, i_eq]
  by_cases g : q < n ∧ isL (T q)
  · obtain ⟨g1, g2⟩ := g
    obtain ⟨a1', b1', c1', d1'⟩ := wen_ok g1 g2
    have et : ten T n q = wen T n q := by unfold ten; rw [if_neg (by omega), if_pos g2]
    rw [if_pos (show tk T n q = ((1 : Nat) : Int) by have := htk.2.2.1.mpr ⟨g1, g2⟩; omega), et]
    simp (disch := omega) only [n_sub, k6, n_lt, Mv hM, Option.bind_some]
    have kw := kdx_w g1 g2
    unfold f_X12_isOwn
    simp (disch := omega) only [Mv hM, Option.bind_some, m_isPrimeW hM hB hT, m_isLetW hM hB hT, m_isBeW hM hB hT, m_isFourW hM hB hT, m_isSixW hM hB hT, m_isDeltaW hM hB hT]
    by_cases g6 : 6 < wen T n q - q
    · rw [if_pos g6, if_neg (fun z => by have := (kw.2.2.2.2.2.2.1.mp z).1; omega)]
      rfl
    · rw [if_neg g6]
      by_cases q4 : kdx T n q = 4
      · simp only [q4]; rfl
      by_cases q5 : kdx T n q = 5
      · simp only [q5]; rfl
      by_cases q6 : kdx T n q = 6
      · simp only [q6]; rfl
      by_cases q7 : kdx T n q = 7
      · simp only [q7]; rfl
      by_cases q8 : kdx T n q = 8
      · simp only [q8]; rfl
      by_cases q9 : kdx T n q = 9
      · simp only [q9]; rfl
      rw [if_pos (kw.2.2.2.2.2.2.1.mpr ⟨by omega, fun z => q4 (kw.1.mpr z), fun z => q5 (kw.2.1.mpr z), fun z => q6 (kw.2.2.1.mpr z), fun z => q7 (kw.2.2.2.1.mpr z), fun z => q8 (kw.2.2.2.2.1.mpr z), fun z => q9 (kw.2.2.2.2.2.1.mpr z)⟩), if_neg q4, if_neg q5, if_neg q6, if_neg q7, if_neg q8, if_neg q9]
      rfl
  · have hk2 := kdx_nw (T := T) (n := n) (q := q) (by omega)
    rw [if_neg (show ¬ tk T n q = ((1 : Nat) : Int) by intro x; exact g (htk.2.2.1.mp (by omega))), if_neg (by omega)]
    rfl
theorem m_is (hM : LM S m) (hT : TM A m T n q) {s : Nat} (hs : 40 ≤ s) (hs2 : s < 1000) (hr : q < n → -128 ≤ T q ∧ T q < 128) : f_X12_is m (ii (s : Int)) (mz S A B c) = some (ii ((if kdx T n q = (s : Int) then 1 else 0 : Nat) : Int), mz S A B c) := by
  have htk := kdx_tk T n q
  unfold f_X12_is
  simp (disch := omega) only [MI16 hM, hT.2.2.1, Option.bind_some, k3, i_eq]
  by_cases g : tk T n q = 3
  · have g17 := hT.2.2.2.2 g
    have gk := htk.2.2.2.1 g
    have hq : q < n := by
      by_cases x : q < n
      · exact x
      · unfold tk at g; rw [if_pos (by omega)] at g; omega
    have hr' := hr hq
    rw [if_pos (show tk T n q = ((3 : Nat) : Int) by omega)]
    simp (disch := omega) only [MI17 hM, g17, Option.bind_some, i_eq]
    rw [gk]
    by_cases g2 : T q = (s : Int)
    · rw [if_pos g2, if_pos g2]; rfl
    · rw [if_neg g2, if_neg g2]; rfl
  · have := htk.2.2.2.2.1 g
    rw [if_neg (show ¬ tk T n q = ((3 : Nat) : Int) by omega), if_neg (by omega)]
    rfl
theorem m_badAt (hM : LM S m) (h18 : A m 18 = 0) (q k : Nat) : f_X12_badAt m (ii (q : Int)) (ii (k : Int)) (mz S A B c) = some (ii ((0 : Nat) : Int), mz S (za A m (up (A m) 18 ((8 * q + k : Nat) : Int))) B c) := by
  unfold f_X12_badAt
  rw [MI18 hM, h18]
  simp only [Option.bind_some]
  rw [if_pos (show ii 0 = (0 : Int32) from rfl), k8, n_mul, n_add, MP18 hM]
  rfl
theorem m_bad (hM : LM S m) (h18 : A m 18 = 0) (h14 : A m 14 = (q : Int)) (k : Nat) : f_X12_bad m (ii (k : Int)) (mz S A B c) = some (ii ((0 : Nat) : Int), mz S (za A m (up (A m) 18 ((8 * q + k : Nat) : Int))) B c) := by
  unfold f_X12_bad
  simp only [MI14 hM, h14, Option.bind_some, Mv hM, m_badAt hM h18, jzb_n (Or.inl rfl)]
end wd
