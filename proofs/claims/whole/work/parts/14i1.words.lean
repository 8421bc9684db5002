/-! The reference's words, signs, names, faults. -/
def cI (T : Nat → Int) (q l i : Nat) : Int := if i < l then T (q + i) else 0
theorem cI_c (T : Nat → Int) (q l i : Nat) : (i < l ∧ cI T q l i = T (q + i)) ∨ (l ≤ i ∧ cI T q l i = 0) := by
  unfold cI
  by_cases h : i < l
  · rw [if_pos h]; exact Or.inl ⟨h, rfl⟩
  · rw [if_neg h]; exact Or.inr ⟨by omega, rfl⟩
section wd
variable {h : JH} {T : Nat → Int} {m q l a1 a2 a3 a4 a5 : Nat}
theorem w_161 : f_X12_isWord_J161 h = some (ii ((0 : Nat) : Int), h) := rfl
theorem w_92 (a0 : Nat) (x y z : Int32) : f_X12_isWord_J92 a0 x y z h = some (ii ((0 : Nat) : Int), h) := by
  unfold f_X12_isWord_J92 f_X12_isWord_J93
  rw [if_pos rfl, w_161]
theorem w_145 (hl : l < 1000) (h5 : a5 < 1000) {x : Int} (x1 : 0 ≤ x) (x2 : x < 1000) : f_X12_isWord_J145 (ii (a5 : Int)) (ii (l : Int)) (ii x) h = some (ii ((if x = (a5 : Int) ∧ l < 6 then 1 else 0 : Nat) : Int), h) := by
  unfold f_X12_isWord_J145
  simp (disch := omega) only [i_eq, k6, n_le, w_161]
  by_cases g : x = (a5 : Int)
  · rw [if_pos g]
    by_cases g2 : 6 ≤ l
    · rw [if_pos g2, if_neg (by omega)]
    · rw [if_neg g2, if_pos (by omega)]; rfl
  · rw [if_neg g, if_neg (by omega)]
theorem w_120 (hl : l < 1000) (h5 : a5 < 1000) (h4 : a4 < 1000) (hb : ∀ i, i < l → i < 6 → f_X12_byteAt m (ii ((q : Nat) : Int) + ii ((i : Nat) : Int)) h = some (ii (T (q + i)), h)) (hr : ∀ i, i < l → isL (T (q + i))) (h14 : jgI h m 9 14 = some (ii (q : Int))) (hv : jrecv h m 9 = some ()) {x : Int} (x1 : 0 ≤ x) (x2 : x < 1000) : f_X12_isWord_J120 m (ii (a4 : Int)) (ii (a5 : Int)) (ii (l : Int)) (ii x) h = some (ii ((if x = (a4 : Int) ∧ cI T q l 4 = (a5 : Int) ∧ l < 6 then 1 else 0 : Nat) : Int), h) := by
  have c4 := cI_c T q l 4
  unfold f_X12_isWord_J120
  simp (disch := omega) only [i_eq, k4, n_le, w_161]
  by_cases g : x = (a4 : Int)
  · rw [if_pos g]
    by_cases g2 : l ≤ 4
    · have e : cI T q l 4 = 0 := by omega
      rw [if_pos g2, show (0 : Int32) = ii 0 from rfl, w_145 hl h5 (by omega) (by omega), e]
      by_cases g3 : (0 : Int) = (a5 : Int) ∧ l < 6
      · rw [if_pos g3, if_pos ⟨g, g3⟩]
      · rw [if_neg g3, if_neg (fun z => g3 z.2)]
    · have e : cI T q l 4 = T (q + 4) := by omega
      have r4 := hr 4 (by omega)
      rw [if_neg g2, h14]
      simp only [Option.bind_some, hv]
      rw [hb 4 (by omega) (by omega)]
      simp only [Option.bind_some]
      rw [w_145 hl h5 (by omega) (by omega), e]
      by_cases g3 : T (q + 4) = (a5 : Int) ∧ l < 6
      · rw [if_pos g3, if_pos ⟨g, g3⟩]
      · rw [if_neg g3, if_neg (fun z => g3 z.2)]
  · rw [if_neg g, if_neg (fun z => g z.1)]
theorem w_93 (hl : l < 1000) (h5 : a5 < 1000) (h4 : a4 < 1000) (hb : ∀ i, i < l → i < 6 → f_X12_byteAt m (ii ((q : Nat) : Int) + ii ((i : Nat) : Int)) h = some (ii (T (q + i)), h)) (hr : ∀ i, i < l → isL (T (q + i))) (h14 : jgI h m 9 14 = some (ii (q : Int))) (hv : jrecv h m 9 = some ()) : f_X12_isWord_J93 m (ii (a4 : Int)) (ii (a5 : Int)) (ii (l : Int)) (1 : Int32) h = some (ii ((if cI T q l 3 = (a4 : Int) ∧ cI T q l 4 = (a5 : Int) ∧ l < 6 then 1 else 0 : Nat) : Int), h) := by
  have c3 := cI_c T q l 3
  unfold f_X12_isWord_J93
  rw [if_neg (by decide)]
  simp (disch := omega) only [k3, n_le]
  by_cases g2 : l ≤ 3
  · have e : cI T q l 3 = 0 := by omega
    rw [if_pos g2, show (0 : Int32) = ii 0 from rfl, w_120 hl h5 h4 hb hr h14 hv (by omega) (by omega), e]
  · have e : cI T q l 3 = T (q + 3) := by omega
    have r4 := hr 3 (by omega)
    rw [if_neg g2, h14]
    simp only [Option.bind_some, hv]
    rw [hb 3 (by omega) (by omega)]
    simp only [Option.bind_some]
    rw [w_120 hl h5 h4 hb hr h14 hv (by omega) (by omega), e]
theorem w_84 (hl : l < 1000) (h5 : a5 < 1000) (h4 : a4 < 1000) (h3 : a3 < 1000) (hb : ∀ i, i < l → i < 6 → f_X12_byteAt m (ii ((q : Nat) : Int) + ii ((i : Nat) : Int)) h = some (ii (T (q + i)), h)) (hr : ∀ i, i < l → isL (T (q + i))) (h14 : jgI h m 9 14 = some (ii (q : Int))) (hv : jrecv h m 9 = some ()) {x : Int} (x1 : 0 ≤ x) (x2 : x < 1000) : f_X12_isWord_J84 m (ii (a3 : Int)) (ii (a4 : Int)) (ii (a5 : Int)) (ii (l : Int)) (ii x) h = some (ii ((if x = (a3 : Int) ∧ cI T q l 3 = (a4 : Int) ∧ cI T q l 4 = (a5 : Int) ∧ l < 6 then 1 else 0 : Nat) : Int), h) := by
  unfold f_X12_isWord_J84
  simp (disch := omega) only [i_eq, w_92, w_93 hl h5 h4 hb hr h14 hv]
  by_cases g : x = (a3 : Int)
  · rw [if_pos g]
    by_cases g3 : cI T q l 3 = (a4 : Int) ∧ cI T q l 4 = (a5 : Int) ∧ l < 6
    · rw [if_pos g3, if_pos ⟨g, g3⟩]
    · rw [if_neg g3, if_neg (fun z => g3 z.2)]
  · rw [if_neg g, if_neg (fun z => g z.1)]
theorem w_60 (hl : l < 1000) (h5 : a5 < 1000) (h4 : a4 < 1000) (h3 : a3 < 1000) (h2 : a2 < 1000) (hb : ∀ i, i < l → i < 6 → f_X12_byteAt m (ii ((q : Nat) : Int) + ii ((i : Nat) : Int)) h = some (ii (T (q + i)), h)) (hr : ∀ i, i < l → isL (T (q + i))) (h14 : jgI h m 9 14 = some (ii (q : Int))) (hv : jrecv h m 9 = some ()) {x : Int} (x1 : 0 ≤ x) (x2 : x < 1000) : f_X12_isWord_J60 m (ii (a2 : Int)) (ii (a3 : Int)) (ii (a4 : Int)) (ii (a5 : Int)) (ii (l : Int)) (ii x) h = some (ii ((if x = (a2 : Int) ∧ cI T q l 2 = (a3 : Int) ∧ cI T q l 3 = (a4 : Int) ∧ cI T q l 4 = (a5 : Int) ∧ l < 6 then 1 else 0 : Nat) : Int), h) := by
  have c2 := cI_c T q l 2
  unfold f_X12_isWord_J60
  simp (disch := omega) only [i_eq, w_92, k2, n_le]
  by_cases g : x = (a2 : Int)
  · rw [if_pos g]
    by_cases g2 : l ≤ 2
    · have e : cI T q l 2 = 0 := by omega
      rw [if_pos g2, show (0 : Int32) = ii 0 from rfl, w_84 hl h5 h4 h3 hb hr h14 hv (by omega) (by omega), e]
      by_cases g3 : (0 : Int) = (a3 : Int) ∧ cI T q l 3 = (a4 : Int) ∧ cI T q l 4 = (a5 : Int) ∧ l < 6
      · rw [if_pos g3, if_pos ⟨g, g3⟩]
      · rw [if_neg g3, if_neg (fun z => g3 z.2)]
    · have e : cI T q l 2 = T (q + 2) := by omega
      have r4 := hr 2 (by omega)
      rw [if_neg g2, h14]
      simp only [Option.bind_some, hv]
      rw [hb 2 (by omega) (by omega)]
      simp only [Option.bind_some]
      rw [w_84 hl h5 h4 h3 hb hr h14 hv (by omega) (by omega), e]
      by_cases g3 : T (q + 2) = (a3 : Int) ∧ cI T q l 3 = (a4 : Int) ∧ cI T q l 4 = (a5 : Int) ∧ l < 6
      · rw [if_pos g3, if_pos ⟨g, g3⟩]
      · rw [if_neg g3, if_neg (fun z => g3 z.2)]
  · rw [if_neg g, if_neg (fun z => g z.1)]
theorem w_36 (hl : l < 1000) (h5 : a5 < 1000) (h4 : a4 < 1000) (h3 : a3 < 1000) (h2 : a2 < 1000) (h1 : a1 < 1000) (hb : ∀ i, i < l → i < 6 → f_X12_byteAt m (ii ((q : Nat) : Int) + ii ((i : Nat) : Int)) h = some (ii (T (q + i)), h)) (hr : ∀ i, i < l → isL (T (q + i))) (h14 : jgI h m 9 14 = some (ii (q : Int))) (hv : jrecv h m 9 = some ()) {x : Int} (x1 : 0 ≤ x) (x2 : x < 1000) : f_X12_isWord_J36 m (ii (a1 : Int)) (ii (a2 : Int)) (ii (a3 : Int)) (ii (a4 : Int)) (ii (a5 : Int)) (ii (l : Int)) (ii x) h = some (ii ((if x = (a1 : Int) ∧ cI T q l 1 = (a2 : Int) ∧ cI T q l 2 = (a3 : Int) ∧ cI T q l 3 = (a4 : Int) ∧ cI T q l 4 = (a5 : Int) ∧ l < 6 then 1 else 0 : Nat) : Int), h) := by
  have c2 := cI_c T q l 1
  unfold f_X12_isWord_J36
  simp (disch := omega) only [i_eq, w_92, k1, n_le]
  by_cases g : x = (a1 : Int)
  · rw [if_pos g]
    by_cases g2 : l ≤ 1
    · have e : cI T q l 1 = 0 := by omega
      rw [if_pos g2, show (0 : Int32) = ii 0 from rfl, w_60 hl h5 h4 h3 h2 hb hr h14 hv (by omega) (by omega), e]
      by_cases g3 : (0 : Int) = (a2 : Int) ∧ cI T q l 2 = (a3 : Int) ∧ cI T q l 3 = (a4 : Int) ∧ cI T q l 4 = (a5 : Int) ∧ l < 6
      · rw [if_pos g3, if_pos ⟨g, g3⟩]
      · rw [if_neg g3, if_neg (fun z => g3 z.2)]
    · have e : cI T q l 1 = T (q + 1) := by omega
      have r4 := hr 1 (by omega)
      rw [if_neg g2, h14]
      simp only [Option.bind_some, hv]
      rw [hb 1 (by omega) (by omega)]
      simp only [Option.bind_some]
      rw [w_60 hl h5 h4 h3 h2 hb hr h14 hv (by omega) (by omega), e]
      by_cases g3 : T (q + 1) = (a2 : Int) ∧ cI T q l 2 = (a3 : Int) ∧ cI T q l 3 = (a4 : Int) ∧ cI T q l 4 = (a5 : Int) ∧ l < 6
      · rw [if_pos g3, if_pos ⟨g, g3⟩]
      · rw [if_neg g3, if_neg (fun z => g3 z.2)]
  · rw [if_neg g, if_neg (fun z => g z.1)]
end wd
/-- the words by their letters -/
theorem wis_5 {T : Nat → Int} {n q : Nat} (a b c d e : Int) : wis T n q [a, b, c, d, e] ↔ wen T n q = q + 5 ∧ T q = a ∧ T (q + 1) = b ∧ T (q + 2) = c ∧ T (q + 3) = d ∧ T (q + 4) = e := by
  unfold wis
  simp [wcm, Nat.add_assoc]
theorem wis_4 {T : Nat → Int} {n q : Nat} (a b c d : Int) : wis T n q [a, b, c, d] ↔ wen T n q = q + 4 ∧ T q = a ∧ T (q + 1) = b ∧ T (q + 2) = c ∧ T (q + 3) = d := by
  unfold wis
  simp [wcm, Nat.add_assoc]
theorem wis_3 {T : Nat → Int} {n q : Nat} (a b c : Int) : wis T n q [a, b, c] ↔ wen T n q = q + 3 ∧ T q = a ∧ T (q + 1) = b ∧ T (q + 2) = c := by
  unfold wis
  simp [wcm, Nat.add_assoc]
theorem wis_2 {T : Nat → Int} {n q : Nat} (a b : Int) : wis T n q [a, b] ↔ wen T n q = q + 2 ∧ T q = a ∧ T (q + 1) = b := by
  unfold wis
  simp [wcm]
