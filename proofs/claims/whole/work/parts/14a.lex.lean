/-! The text of a book: where its tokens begin, what they are. -/
abbrev isL (c : Int) : Prop := 97 ≤ c ∧ c ≤ 122
abbrev isD (c : Int) : Prop := 48 ≤ c ∧ c ≤ 57
abbrev isSp (c : Int) : Prop := c = 32 ∨ c = 10
abbrev isSg (c : Int) : Prop := c = 59 ∨ c = 43 ∨ c = 45 ∨ c = 42 ∨ c = 94 ∨ c = 40 ∨ c = 41
/-- the first place from i on, at most k further, where P holds -/
def fnd (P : Nat → Prop) [DecidablePred P] : Nat → Nat → Nat
  | 0, i => i
  | k + 1, i => if P i then i else fnd P k (i + 1)
theorem fnd_ok (P : Nat → Prop) [DecidablePred P] : ∀ k i, i ≤ fnd P k i ∧ fnd P k i ≤ i + k ∧ (∀ j, i ≤ j → j < fnd P k i → ¬ P j) ∧ (fnd P k i < i + k → P (fnd P k i)) := by
  intro k
  induction k with
  | zero => intro i; exact ⟨Nat.le_refl _, Nat.le_refl _, fun j h1 h2 => absurd (show j < i from h2) (by omega), fun h => absurd (show i < i from h) (by omega)⟩
  | succ k ih =>
    intro i
    by_cases h : P i
    · have e : fnd P (k + 1) i = i := if_pos h
      rw [e]
      exact ⟨Nat.le_refl _, by omega, fun j h1 h2 => by omega, fun _ => h⟩
    · have e : fnd P (k + 1) i = fnd P k (i + 1) := if_neg h
      rw [e]
      obtain ⟨a, b, c, d⟩ := ih (i + 1)
      refine ⟨by omega, by omega, fun j h1 h2 => ?_, fun h2 => d (by omega)⟩
      by_cases q : j = i
      · rw [q]; exact h
      · exact c j (by omega) h2
theorem fnd_eq (P : Nat → Prop) [DecidablePred P] {k i r : Nat} (h1 : i ≤ r) (h2 : r ≤ i + k) (h3 : ∀ j, i ≤ j → j < r → ¬ P j) (h4 : r < i + k → P r) : fnd P k i = r := by
  obtain ⟨a, b, c, d⟩ := fnd_ok P k i
  rcases Nat.lt_trichotomy (fnd P k i) r with h | h | h
  · exact absurd (d (by omega)) (h3 _ a h)
  · exact h
  · exact absurd (h4 (by omega)) (c r h1 h)
theorem fnd_run {τ : Type} {f : Int32 → JH → Option ((Int32 ⊕ τ) × JH)} {h : JH} (P : Nat → Prop) [DecidablePred P] (r : Nat → τ) : ∀ (k i : Nat), (∀ j, i ≤ j → j < i + k → ¬ P j → f (ii (j : Int)) h = some (.inl (ii ((j + 1 : Nat) : Int)), h)) → (∀ j, i ≤ j → j < i + k → P j → f (ii (j : Int)) h = some (.inr (r j), h)) → f (ii ((i + k : Nat) : Int)) h = some (.inr (r (i + k)), h) → ∀ fuel, k < fuel → jloop f fuel (ii (i : Int)) h = some (r (fnd P k i), h) := by
  intro k
  induction k with
  | zero =>
    intro i _ _ he fuel hf
    obtain ⟨fu, rfl⟩ : ∃ q, fuel = q + 1 := ⟨fuel - 1, by omega⟩
    exact jloop_end he
  | succ k ih =>
    intro i hs hf he fuel hfu
    obtain ⟨fu, rfl⟩ : ∃ q, fuel = q + 1 := ⟨fuel - 1, by omega⟩
    by_cases g : P i
    · rw [show fnd P (k + 1) i = i from if_pos g]
      exact jloop_end (hf i (by omega) (by omega) g)
    · rw [show fnd P (k + 1) i = fnd P k (i + 1) from if_neg g, jloop_go (hs i (by omega) (by omega) g)]
      refine ih (i + 1) (fun j h1 h2 => hs j (by omega) (by omega)) (fun j h1 h2 => hf j (by omega) (by omega)) ?_ fu (by omega)
      rw [show i + 1 + k = i + (k + 1) by omega]
      exact he
def wen (T : Nat → Int) (n i : Nat) : Nat := fnd (fun j => ¬ isL (T j)) (n - i) i
def nen (T : Nat → Int) (n i : Nat) : Nat := fnd (fun j => ¬ isD (T j)) (n - i) i
def skp (T : Nat → Int) (n i : Nat) : Nat := fnd (fun j => ¬ isSp (T j)) (n - i) i
def ten (T : Nat → Int) (n q : Nat) : Nat := if n ≤ q then q else if isL (T q) then wen T n q else if isD (T q) then nen T n q else q + 1
def nxt (T : Nat → Int) (n q : Nat) : Nat := skp T n (ten T n q)
/-- a token begins here -/
abbrev tst (T : Nat → Int) (i : Nat) : Prop := (isL (T i) ∧ (i = 0 ∨ ¬ isL (T (i - 1)))) ∨ (isD (T i) ∧ (i = 0 ∨ ¬ isD (T (i - 1)))) ∨ (¬ isL (T i) ∧ ¬ isD (T i) ∧ ¬ isSp (T i))
/-- how many begin ahead of i -/
def tcn (T : Nat → Int) : Nat → Nat
  | 0 => 0
  | i + 1 => if tst T i then tcn T i + 1 else tcn T i
abbrev tok (T : Nat → Int) (n q : Nat) : Prop := q = n ∨ (q < n ∧ tst T q)
theorem tcn_y {T : Nat → Int} {i : Nat} (h : tst T i) : tcn T (i + 1) = tcn T i + 1 := if_pos h
theorem tcn_n {T : Nat → Int} {i : Nat} (h : ¬ tst T i) : tcn T (i + 1) = tcn T i := if_neg h
theorem tcn_mono (T : Nat → Int) (i k : Nat) : tcn T i ≤ tcn T (i + k) ∧ tcn T (i + k) ≤ tcn T i + k := by
  induction k with
  | zero => exact ⟨Nat.le_refl _, Nat.le_refl _⟩
  | succ k ih =>
    by_cases h : tst T (i + k)
    · rw [show i + (k + 1) = i + k + 1 by omega, tcn_y h]; omega
    · rw [show i + (k + 1) = i + k + 1 by omega, tcn_n h]; omega
theorem tcn_le (T : Nat → Int) (i : Nat) : tcn T i ≤ i := by
  have := (tcn_mono T 0 i).2
  rw [Nat.zero_add] at this
  exact Nat.le_trans this (by show 0 + i ≤ i; omega)
theorem tcn_m {T : Nat → Int} {i j : Nat} (h : i ≤ j) : tcn T i ≤ tcn T j := by
  obtain ⟨k, rfl⟩ : ∃ k, j = i + k := ⟨j - i, by omega⟩
  exact (tcn_mono T i k).1
theorem tcn_lt {T : Nat → Int} {q j : Nat} (h : q < j) (ht : tst T q) : tcn T q < tcn T j := by
  have h1 := tcn_m (T := T) (show q + 1 ≤ j by omega)
  rw [tcn_y ht] at h1
  omega
theorem tcn_flat {T : Nat → Int} {i k : Nat} (h : ∀ j, i ≤ j → j < i + k → ¬ tst T j) : tcn T (i + k) = tcn T i := by
  induction k with
  | zero => rfl
  | succ k ih => rw [show i + (k + 1) = i + k + 1 by omega, tcn_n (h (i + k) (by omega) (by omega)), ih (fun j h1 h2 => h j h1 (by omega))]
theorem skp_ok {T : Nat → Int} {n e : Nat} (he : e ≤ n) (hc : e = 0 ∨ (¬ (isL (T e) ∧ isL (T (e - 1))) ∧ ¬ (isD (T e) ∧ isD (T (e - 1))))) : e ≤ skp T n e ∧ skp T n e ≤ n ∧ tok T n (skp T n e) ∧ tcn T (skp T n e) = tcn T e := by
  obtain ⟨a, b, c, d⟩ := fnd_ok (fun j => ¬ isSp (T j)) (n - e) e
  have er : skp T n e = fnd (fun j => ¬ isSp (T j)) (n - e) e := rfl
  rw [← er] at a b c d
  generalize skp T n e = r at a b c d
  have fl : tcn T r = tcn T e := by
    have := tcn_flat (T := T) (i := e) (k := r - e) (fun j h1 h2 => by
      have := c j h1 (by omega)
      omega)
    rw [show e + (r - e) = r by omega] at this
    exact this
  refine ⟨a, by omega, ?_, fl⟩
  by_cases q : r = n
  · exact Or.inl q
  · refine Or.inr ⟨by omega, ?_⟩
    have d' := d (by omega)
    by_cases q2 : r = e
    · subst q2
      omega
    · have := c (r - 1) (by omega) (by omega)
      omega
theorem wen_ok {T : Nat → Int} {n q : Nat} (hq : q < n) (h : isL (T q)) : q < wen T n q ∧ wen T n q ≤ n ∧ (∀ j, q ≤ j → j < wen T n q → isL (T j)) ∧ (wen T n q < n → ¬ isL (T (wen T n q))) := by
  obtain ⟨a, b, c, d⟩ := fnd_ok (fun j => ¬ isL (T j)) (n - q) q
  have er : wen T n q = fnd (fun j => ¬ isL (T j)) (n - q) q := rfl
  rw [← er] at a b c d
  generalize wen T n q = r at a b c d
  refine ⟨?_, by omega, fun j h1 h2 => Decidable.not_not.mp (c j h1 h2), fun h2 => d (by omega)⟩
  by_cases q2 : r = q
  · subst q2
    exact absurd h (d (by omega))
  · omega
theorem nen_ok {T : Nat → Int} {n q : Nat} (hq : q < n) (h : isD (T q)) : q < nen T n q ∧ nen T n q ≤ n ∧ (∀ j, q ≤ j → j < nen T n q → isD (T j)) ∧ (nen T n q < n → ¬ isD (T (nen T n q))) := by
  obtain ⟨a, b, c, d⟩ := fnd_ok (fun j => ¬ isD (T j)) (n - q) q
  have er : nen T n q = fnd (fun j => ¬ isD (T j)) (n - q) q := rfl
  rw [← er] at a b c d
  generalize nen T n q = r at a b c d
  refine ⟨?_, by omega, fun j h1 h2 => Decidable.not_not.mp (c j h1 h2), fun h2 => d (by omega)⟩
  by_cases q2 : r = q
  · subst q2
    exact absurd h (d (by omega))
  · omega
theorem ten_ok {T : Nat → Int} {n q : Nat} (hq : q < n) : q < ten T n q ∧ ten T n q ≤ n ∧ (∀ j, q < j → j < ten T n q → ¬ tst T j) ∧ (ten T n q < n → ¬ (isL (T (ten T n q)) ∧ isL (T (ten T n q - 1))) ∧ ¬ (isD (T (ten T n q)) ∧ isD (T (ten T n q - 1)))) := by
  unfold ten
  rw [if_neg (by omega)]
  by_cases h : isL (T q)
  · rw [if_pos h]
    obtain ⟨a, b, c, d⟩ := wen_ok hq h
    generalize wen T n q = r at a b c d
    refine ⟨a, b, fun j h1 h2 => ?_, fun h1 => ?_⟩
    · have x1 := c j (by omega) h2
      have x2 := c (j - 1) (by omega) (by omega)
      omega
    · have x1 := c (r - 1) (by omega) (by omega)
      have x2 := d h1
      omega
  · rw [if_neg h]
    by_cases h' : isD (T q)
    · rw [if_pos h']
      obtain ⟨a, b, c, d⟩ := nen_ok hq h'
      generalize nen T n q = r at a b c d
      refine ⟨a, b, fun j h1 h2 => ?_, fun h1 => ?_⟩
      · have x1 := c j (by omega) h2
        have x2 := c (j - 1) (by omega) (by omega)
        omega
      · have x1 := c (r - 1) (by omega) (by omega)
        have x2 := d h1
        omega
    · rw [if_neg h']
      refine ⟨by omega, by omega, fun j h1 h2 => by omega, fun h1 => ?_⟩
      rw [show q + 1 - 1 = q by omega]
      omega
theorem nxt_ok {T : Nat → Int} {n q : Nat} (hq : q < n) (h : tst T q) : q < nxt T n q ∧ nxt T n q ≤ n ∧ tok T n (nxt T n q) ∧ tcn T (nxt T n q) = tcn T q + 1 := by
  obtain ⟨a, b, c, d⟩ := ten_ok (T := T) hq
  unfold nxt
  generalize ten T n q = e at a b c d
  have fl : tcn T e = tcn T q + 1 := by
    have := tcn_flat (T := T) (i := q + 1) (k := e - (q + 1)) (fun j h1 h2 => c j (by omega) (by omega))
    rw [show q + 1 + (e - (q + 1)) = e by omega, tcn_y h] at this
    exact this
  by_cases hn : e = n
  · subst hn
    have e1 : skp T e e = e := by unfold skp; rw [Nat.sub_self]; rfl
    rw [e1]
    exact ⟨a, b, Or.inl rfl, fl⟩
  · obtain ⟨x, y, z, w⟩ := skp_ok (T := T) b (Or.inr (d (by omega)))
    exact ⟨by omega, y, z, by rw [w, fl]⟩
theorem skp_0 (T : Nat → Int) (n : Nat) : skp T n 0 ≤ n ∧ tok T n (skp T n 0) ∧ tcn T (skp T n 0) = 0 := by
  obtain ⟨-, y, z, w⟩ := skp_ok (T := T) (n := n) (e := 0) (Nat.zero_le _) (Or.inl rfl)
  exact ⟨y, z, w⟩
/-- the token's kind and value, as the class has them -/
def wcm (T : Nat → Int) : Nat → List Int → Bool
  | _, [] => true
  | i, w :: ws => decide (T i = w) && wcm T (i + 1) ws
abbrev wis (T : Nat → Int) (n q : Nat) (l : List Int) : Prop := wen T n q = q + l.length ∧ wcm T q l = true
def wPrime : List Int := [112, 114, 105, 109, 101]
def wLet : List Int := [108, 101, 116]
def wBe : List Int := [98, 101]
def wFour : List Int := [102, 111, 117, 114]
def wSix : List Int := [115, 105, 120]
def wDelta : List Int := [100, 101, 108, 116, 97]
def kdw (T : Nat → Int) (n q : Nat) : Int := if wis T n q wPrime then 4 else if wis T n q wLet then 5 else if wis T n q wBe then 6 else if wis T n q wFour then 7 else if wis T n q wSix then 8 else if wis T n q wDelta then 9 else 2
def kdx (T : Nat → Int) (n q : Nat) : Int := if n ≤ q then 0 else if isL (T q) then (if q + 6 < wen T n q then 1 else kdw T n q) else if isD (T q) then 3 else if isSg (T q) then T q else 1
def ow (T : Nat → Int) (q : Nat) : Nat → Int
  | 0 => 0
  | k + 1 => ow T q k * 32 + (T (q + k) - 97 + 1)
def dv (T : Nat → Int) (q : Nat) : Nat → Int
  | 0 => 0
  | k + 1 => dv T q k * 10 + (T (q + k) - 48)
def vlx (T : Nat → Int) (n q : Nat) : Int := if isL (T q) then (if q + 6 < wen T n q then 0 else ow T q (wen T n q - q)) else if isD (T q) then (if q + 4 < nen T n q then -1 else dv T q (nen T n q - q)) else 0
theorem kdw_r (T : Nat → Int) (n q : Nat) : 2 ≤ kdw T n q ∧ kdw T n q ≤ 9 ∧ kdw T n q ≠ 3 := by
  unfold kdw
  repeat' split
  all_goals decide
theorem kdx_r (T : Nat → Int) (n q : Nat) : 0 ≤ kdx T n q ∧ kdx T n q ≤ 122 := by
  have := kdw_r T n q
  unfold kdx
  repeat' split
  all_goals omega
theorem kdx_0 {T : Nat → Int} {n q : Nat} (hq : q < n) : kdx T n q ≠ 0 := by
  have := kdw_r T n q
  unfold kdx
  rw [if_neg (by omega)]
  repeat' split
  all_goals omega
theorem kdx_n {T : Nat → Int} {n q : Nat} (hq : kdx T n q ≠ 0) : q < n := by
  by_cases h : n ≤ q
  · exact absurd (if_pos h) hq
  · omega
theorem kdx_end (T : Nat → Int) (n : Nat) : kdx T n n = 0 := if_pos (Nat.le_refl _)
theorem ow_r {T : Nat → Int} {q : Nat} : ∀ {k : Nat}, k ≤ 6 → (∀ j, j < k → isL (T (q + j))) → 0 ≤ ow T q k ∧ ow T q k < 32 ^ k := by
  intro k
  induction k with
  | zero => intro _ _; exact ⟨Int.le_refl _, show (0 : Int) < 1 by decide⟩
  | succ k ih =>
    intro hk h
    have h1 := ih (by omega) (fun j hj => h j (by omega))
    have h2 := h k (by omega)
    show 0 ≤ ow T q k * 32 + (T (q + k) - 97 + 1) ∧ ow T q k * 32 + (T (q + k) - 97 + 1) < 32 ^ (k + 1)
    rw [Int.pow_succ]
    omega
theorem ow_inj {T : Nat → Int} {q q' : Nat} : ∀ {k k' : Nat}, (∀ j, j < k → isL (T (q + j))) → (∀ j, j < k' → isL (T (q' + j))) → k ≤ 6 → k' ≤ 6 → ow T q k = ow T q' k' → k = k' ∧ ∀ j, j < k → T (q + j) = T (q' + j) := by
  intro k
  induction k with
  | zero =>
    intro k' h h' hk hk' e
    cases k' with
    | zero => exact ⟨rfl, fun j hj => by omega⟩
    | succ k' =>
      have h2 := h' k' (by omega)
      have h1 := ow_r (q := q') (k := k') (by omega) (fun j hj => h' j (by omega))
      have e' : (0 : Int) = ow T q' k' * 32 + (T (q' + k') - 97 + 1) := e
      omega
  | succ k ih =>
    intro k' h h' hk hk' e
    have h2 := h k (by omega)
    have h1 := ow_r (q := q) (k := k) (by omega) (fun j hj => h j (by omega))
    cases k' with
    | zero =>
      have e' : ow T q k * 32 + (T (q + k) - 97 + 1) = (0 : Int) := e
      omega
    | succ k' =>
      have h2' := h' k' (by omega)
      have h1' := ow_r (q := q') (k := k') (by omega) (fun j hj => h' j (by omega))
      have e' : ow T q k * 32 + (T (q + k) - 97 + 1) = ow T q' k' * 32 + (T (q' + k') - 97 + 1) := e
      obtain ⟨a, b⟩ := ih (k' := k') (fun j hj => h j (by omega)) (fun j hj => h' j (by omega)) (by omega) (by omega) (by omega)
      refine ⟨by omega, fun j hj => ?_⟩
      by_cases g : j = k
      · subst g
        subst a
        omega
      · exact b j (by omega)
theorem ow_congr {T : Nat → Int} {q q' : Nat} : ∀ {k : Nat}, (∀ j, j < k → T (q + j) = T (q' + j)) → ow T q k = ow T q' k := by
  intro k
  induction k with
  | zero => intro _; rfl
  | succ k ih =>
    intro h
    show ow T q k * 32 + (T (q + k) - 97 + 1) = ow T q' k * 32 + (T (q' + k) - 97 + 1)
    rw [ih (fun j hj => h j (by omega)), h k (by omega)]
theorem dv_r {T : Nat → Int} {q : Nat} : ∀ {k : Nat}, k ≤ 4 → (∀ j, j < k → isD (T (q + j))) → 0 ≤ dv T q k ∧ dv T q k < 10 ^ k := by
  intro k
  induction k with
  | zero => intro _ _; exact ⟨Int.le_refl _, show (0 : Int) < 1 by decide⟩
  | succ k ih =>
    intro hk h
    have h1 := ih (by omega) (fun j hj => h j (by omega))
    have h2 := h k (by omega)
    show 0 ≤ dv T q k * 10 + (T (q + k) - 48) ∧ dv T q k * 10 + (T (q + k) - 48) < 10 ^ (k + 1)
    rw [Int.pow_succ]
    omega
theorem pow32 : ∀ k, k < 7 → (32 : Int) ^ k ≤ 1073741824 := by decide
theorem pow10 : ∀ k, k < 5 → (10 : Int) ^ k ≤ 10000 := by decide
theorem vlx_r {T : Nat → Int} {n q : Nat} (hq : q < n) : -1 ≤ vlx T n q ∧ vlx T n q < 1073741824 := by
  unfold vlx
  by_cases h : isL (T q)
  · rw [if_pos h]
    obtain ⟨a, b, c, d⟩ := wen_ok hq h
    by_cases h2 : q + 6 < wen T n q
    · rw [if_pos h2]; omega
    · rw [if_neg h2]
      have h3 := ow_r (T := T) (q := q) (k := wen T n q - q) (by omega) (fun j hj => c (q + j) (by omega) (by omega))
      have h4 := pow32 (wen T n q - q) (by omega)
      omega
  · rw [if_neg h]
    by_cases h' : isD (T q)
    · rw [if_pos h']
      obtain ⟨a, b, c, d⟩ := nen_ok hq h'
      by_cases h2 : q + 4 < nen T n q
      · rw [if_pos h2]; omega
      · rw [if_neg h2]
        have h3 := dv_r (T := T) (q := q) (k := nen T n q - q) (by omega) (fun j hj => c (q + j) (by omega) (by omega))
        have h4 := pow10 (nen T n q - q) (by omega)
        omega
    · rw [if_neg h']; omega
