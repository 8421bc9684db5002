/-! The class scans a text. -/
theorem x_isLy (h : JH) {c : Int} (h1 : isL c) : f_X9_isLetter (ii c) h = some (ii ((1 : Nat) : Int), h) := by
  unfold f_X9_isLetter
  simp (disch := omega) only [k97, k122, k0, k1, i_lt]
  rw [if_neg (by omega), if_neg (by omega)]
theorem x_isLn (h : JH) {c : Int} (h1 : -128 ≤ c) (h2 : c < 128) (h3 : ¬ isL c) : f_X9_isLetter (ii c) h = some (ii ((0 : Nat) : Int), h) := by
  unfold f_X9_isLetter
  simp (disch := omega) only [k97, k122, k0, k1, i_lt]
  by_cases q : c < 97
  · rw [if_pos (by omega)]
  · rw [if_neg (by omega), if_pos (by omega)]
theorem x_isDy (h : JH) {c : Int} (h1 : isD c) : f_X9_isDigit (ii c) h = some (ii ((1 : Nat) : Int), h) := by
  unfold f_X9_isDigit
  simp (disch := omega) only [k48, k57, k0, k1, i_lt]
  rw [if_neg (by omega), if_neg (by omega)]
theorem x_isDn (h : JH) {c : Int} (h1 : -128 ≤ c) (h2 : c < 128) (h3 : ¬ isD c) : f_X9_isDigit (ii c) h = some (ii ((0 : Nat) : Int), h) := by
  unfold f_X9_isDigit
  simp (disch := omega) only [k48, k57, k0, k1, i_lt]
  by_cases q : c < 48
  · rw [if_pos (by omega)]
  · rw [if_neg (by omega), if_pos (by omega)]
theorem x_isSy (h : JH) {c : Int} (h1 : isSg c) : f_X9_isSign (ii c) h = some (ii ((1 : Nat) : Int), h) := by
  rcases h1 with rfl | rfl | rfl | rfl | rfl | rfl | rfl <;> rfl
theorem x_isSn (h : JH) {c : Int} (h1 : -128 ≤ c) (h2 : c < 128) (h3 : ¬ isSg c) : f_X9_isSign (ii c) h = some (ii ((0 : Nat) : Int), h) := by
  unfold f_X9_isSign
  simp (disch := omega) only [k59, k43, k45, k42, k94, k40, k41, k0, k1, i_eq]
  rw [if_neg (by omega), if_neg (by omega), if_neg (by omega), if_neg (by omega), if_neg (by omega), if_neg (by omega), if_neg (by omega)]
/-- a text of n bytes at b + 1 -/
def TXT (A : ZA) (a : Nat) (T : Nat → Int) (n : Nat) : Prop := n ≤ 600 ∧ ∀ k, k < n → A a k = T k ∧ -128 ≤ T k ∧ T k < 128
section scan
variable {S : SS} {A B : ZA} {c : (Nat × Nat) × (Nat → Nat)} {b n : Nat} {T : Nat → Int}
theorem x_eow (hX : LX S b) (hT : TXT A (b + 1) T n) {q : Nat} (hq : q ≤ n) : f_X9_endOfWord (b + 1) (ii (q : Int)) (ii (n : Int)) (mz S A B c) = some (ii ((wen T n q : Nat) : Int), mz S A B c) := by
  obtain ⟨hn, hT⟩ := hT
  have key := fnd_run (h := mz S A B c) (f := f_X9_endOfWord_L2 (b + 1) (ii (n : Int))) (fun j => ¬ isL (T j)) (fun j => ii (j : Int)) (n - q) q (fun j h1 h2 h3 => by
    obtain ⟨t1, t2, t3⟩ := hT j (by omega)
    have h3' : isL (T j) := Decidable.not_not.mp h3
    unfold f_X9_endOfWord_L2
    simp (disch := omega) only [n_le, show ¬ (n ≤ j) by omega, ↓reduceIte, jaB_n (L_tape hX), t1, Option.bind_some, x_isLy _ h3', k0, n_eq, show ¬ (1 = 0) by omega, k1, n_add]) (fun j h1 h2 h3 => by
    obtain ⟨t1, t2, t3⟩ := hT j (by omega)
    unfold f_X9_endOfWord_L2
    simp (disch := omega) only [n_le, show ¬ (n ≤ j) by omega, ↓reduceIte, jaB_n (L_tape hX), t1, Option.bind_some, x_isLn _ t2 t3 h3, k0]) (by
    rw [show q + (n - q) = n by omega]
    unfold f_X9_endOfWord_L2
    simp (disch := omega) only [n_le, Nat.le_refl, ↓reduceIte]) jF (jF_big (by omega))
  unfold f_X9_endOfWord
  rw [key]
  rfl
theorem x_eon (hX : LX S b) (hT : TXT A (b + 1) T n) {q : Nat} (hq : q ≤ n) : f_X9_endOfNumber (b + 1) (ii (q : Int)) (ii (n : Int)) (mz S A B c) = some (ii ((nen T n q : Nat) : Int), mz S A B c) := by
  obtain ⟨hn, hT⟩ := hT
  have key := fnd_run (h := mz S A B c) (f := f_X9_endOfNumber_L2 (b + 1) (ii (n : Int))) (fun j => ¬ isD (T j)) (fun j => ii (j : Int)) (n - q) q (fun j h1 h2 h3 => by
    obtain ⟨t1, t2, t3⟩ := hT j (by omega)
    have h3' : isD (T j) := Decidable.not_not.mp h3
    unfold f_X9_endOfNumber_L2
    simp (disch := omega) only [n_le, show ¬ (n ≤ j) by omega, ↓reduceIte, jaB_n (L_tape hX), t1, Option.bind_some, x_isDy _ h3', k0, n_eq, show ¬ (1 = 0) by omega, k1, n_add]) (fun j h1 h2 h3 => by
    obtain ⟨t1, t2, t3⟩ := hT j (by omega)
    unfold f_X9_endOfNumber_L2
    simp (disch := omega) only [n_le, show ¬ (n ≤ j) by omega, ↓reduceIte, jaB_n (L_tape hX), t1, Option.bind_some, x_isDn _ t2 t3 h3, k0]) (by
    rw [show q + (n - q) = n by omega]
    unfold f_X9_endOfNumber_L2
    simp (disch := omega) only [n_le, Nat.le_refl, ↓reduceIte]) jF (jF_big (by omega))
  unfold f_X9_endOfNumber
  rw [key]
  rfl
theorem x_num (hX : LX S b) (hT : TXT A (b + 1) T n) {q e : Nat} (hq : q ≤ e) (he : e ≤ n) : f_X9_numberOf (b + 1) (ii (q : Int)) (ii (e : Int)) (mz S A B c) = some (ii (if q + 4 < e then -1 else dv T q (e - q)), mz S A B c) := by
  obtain ⟨hn, hT⟩ := hT
  have key : jloop (f_X9_numberOf_L14 (b + 1) (ii (e : Int))) jF ((0 : Int32), ii (q : Int)) (mz S A B c) = some ((ii (dv T q (e - q)), ii ((q + (e - q) : Nat) : Int)), mz S A B c) :=
    jloop_run (f := f_X9_numberOf_L14 (b + 1) (ii (e : Int))) (fun j => (ii (dv T q j), ii ((q + j : Nat) : Int))) (fun _ => mz S A B c) (e - q) (fun j hj => by
      obtain ⟨t1, t2, t3⟩ := hT (q + j) (by omega)
      unfold f_X9_numberOf_L14
      simp (disch := omega) only [n_le, show ¬ (e ≤ q + j) by omega, ↓reduceIte, jaB_n (L_tape hX), t1, Option.bind_some]
      rw [k1, n_add, k10, k48, ii_mul, ii_sub, ii_add]
      rfl) (by
      unfold f_X9_numberOf_L14
      simp (disch := omega) only [n_le, show e ≤ q + (e - q) by omega, ↓reduceIte]) (jF_big (by omega))
  unfold f_X9_numberOf
  simp (disch := omega) only [n_sub, k4, n_le]
  by_cases g : q + 4 < e
  · rw [if_neg (by omega), if_pos g]
    rfl
  · rw [if_pos (by omega), if_neg g, key]
    rfl
theorem jcmp_T (hX : LX S b) (hT : TXT A (b + 1) T n) : ∀ (l : List Int) (i : Nat), (∀ w ∈ l, 0 ≤ w ∧ w < 128) → i + l.length ≤ n → jcmp (mz S A B c) (b + 1) (ii (i : Int)) (l.map ii) = some (ii ((if wcm T i l = true then 1 else 0 : Nat) : Int)) := by
  intro l
  induction l with
  | nil => intro i _ _; rfl
  | cons w ws ih =>
    intro i hw hi
    obtain ⟨hn, hT'⟩ := hT
    rw [List.length_cons] at hi
    obtain ⟨t1, t2, t3⟩ := hT' i (by omega)
    have hw0 := hw w List.mem_cons_self
    show (jaB (mz S A B c) (b + 1) (ii (i : Int))).bind (fun v => if v = ii w then jcmp (mz S A B c) (b + 1) (ii (i : Int) + 1) (ws.map ii) else some 0) = _
    rw [jaB_n (L_tape hX) (by omega) (by omega), t1]
    simp only [Option.bind_some]
    by_cases g : T i = w
    · rw [if_pos (by rw [g]), k1, n_add, ih (i + 1) (fun w hw' => hw w (List.mem_cons_of_mem _ hw')) (by omega)]
      have e : wcm T i (w :: ws) = wcm T (i + 1) ws := by simp [wcm, g]
      rw [e]
    · rw [if_neg (by rw [i_eq (by omega) (by omega) (by omega) (by omega)]; exact g)]
      have e : wcm T i (w :: ws) = false := by simp [wcm, g]
      rw [e]
      rfl
theorem jword_T (hX : LX S b) (hT : TXT A (b + 1) T n) {q : Nat} (hq : q < n) (h : isL (T q)) (l : List Int) (hl : ∀ w ∈ l, 0 ≤ w ∧ w < 128) (hll : l.length < 100) : jword (mz S A B c) (b + 1) (ii (q : Int)) (ii ((wen T n q : Nat) : Int)) (l.map ii) = some (ii ((if wis T n q l then 1 else 0 : Nat) : Int)) := by
  obtain ⟨a1, a2, a3, a4⟩ := wen_ok hq h
  have hn := hT.1
  unfold jword
  rw [if_pos ⟨by rw [k0, n_le (by omega) (by omega)]; omega, by rw [n_le (by omega) (by omega)]; omega, by rw [show (1000 : Int32) = ii ((1000 : Nat) : Int) from rfl, n_le (by omega) (by omega)]; omega⟩, n_sub (by omega), List.length_map, show Int32.ofNat l.length = ii ((l.length : Nat) : Int) from nI_ii _]
  have cnd : ii ((wen T n q - q : Nat) : Int) = ii ((l.length : Nat) : Int) ↔ wen T n q - q = l.length := n_eq (by omega) (by omega)
  by_cases g : wen T n q - q = l.length
  · rw [if_pos (cnd.mpr g), jcmp_T hX hT l q hl (by omega)]
    by_cases g2 : wcm T q l = true
    · rw [if_pos g2, if_pos ⟨by omega, g2⟩]
    · rw [if_neg g2, if_neg (fun x => g2 x.2)]
  · rw [if_neg (fun x => g (cnd.mp x)), if_neg (fun x => g (by have := x.1; omega))]
    rfl
theorem x_kow (hX : LX S b) (hT : TXT A (b + 1) T n) {q : Nat} (hq : q < n) (h : isL (T q)) : f_X9_kindOfWord (b + 1) (ii (q : Int)) (ii ((wen T n q : Nat) : Int)) (mz S A B c) = some (ii (kdw T n q), mz S A B c) := by
  have j1 := jword_T (A := A) (B := B) (c := c) hX hT hq h wPrime (by decide) (by decide)
  have j2 := jword_T (A := A) (B := B) (c := c) hX hT hq h wLet (by decide) (by decide)
  have j3 := jword_T (A := A) (B := B) (c := c) hX hT hq h wBe (by decide) (by decide)
  have j4 := jword_T (A := A) (B := B) (c := c) hX hT hq h wFour (by decide) (by decide)
  have j5 := jword_T (A := A) (B := B) (c := c) hX hT hq h wSix (by decide) (by decide)
  have j6 := jword_T (A := A) (B := B) (c := c) hX hT hq h wDelta (by decide) (by decide)
  unfold f_X9_kindOfWord kdw
  rw [show ([112, 114, 105, 109, 101] : List Int32) = wPrime.map ii from rfl, show ([108, 101, 116] : List Int32) = wLet.map ii from rfl, show ([98, 101] : List Int32) = wBe.map ii from rfl, show ([102, 111, 117, 114] : List Int32) = wFour.map ii from rfl, show ([115, 105, 120] : List Int32) = wSix.map ii from rfl, show ([100, 101, 108, 116, 97] : List Int32) = wDelta.map ii from rfl, j1, j2, j3, j4, j5, j6]
  simp only [Option.bind_some]
  by_cases g1 : wis T n q wPrime
  · rw [if_pos g1, if_pos g1]; rfl
  rw [if_neg g1, if_neg g1, if_neg (by decide)]
  by_cases g2 : wis T n q wLet
  · rw [if_pos g2, if_pos g2]; rfl
  rw [if_neg g2, if_neg g2, if_neg (by decide)]
  by_cases g3 : wis T n q wBe
  · rw [if_pos g3, if_pos g3]; rfl
  rw [if_neg g3, if_neg g3, if_neg (by decide)]
  by_cases g4 : wis T n q wFour
  · rw [if_pos g4, if_pos g4]; rfl
  rw [if_neg g4, if_neg g4, if_neg (by decide)]
  by_cases g5 : wis T n q wSix
  · rw [if_pos g5, if_pos g5]; rfl
  rw [if_neg g5, if_neg g5, if_neg (by decide)]
  by_cases g6 : wis T n q wDelta
  · rw [if_pos g6, if_pos g6]; rfl
  rw [if_neg g6, if_neg g6, if_neg (by decide)]
  rfl
/-- one token more -/
def tka (A : ZA) (b t : Nat) (k pl v : Int) : ZA := za (za (za (za A (b + 171) (up (A (b + 171)) t k)) (b + 172) (up (A (b + 172)) t pl)) (b + 173) (up (A (b + 173)) t v)) (b + 170) (up (A (b + 170)) 3 ((t + 1 : Nat) : Int))
theorem x_addT (hX : LX S b) {t : Nat} (ht : A (b + 170) 3 = (t : Int)) (h6 : t < 601) (k pl v : Int) : f_X9_addToken (b + 170) (ii k) (ii pl) (ii v) (mz S A B c) = some ((), mz S (tka A b t k pl v) B c) := by
  unfold f_X9_addToken
  simp (disch := omega) only [KR0 hX, KI3 hX, ht, Option.bind_some, jsI_v (L_knd hX), jsI_v (L_plc hX), jsI_v (L_val hX), KR1 hX, KR2 hX, za_ne, k1, n_add, KP3 hX]
  rfl
theorem x_addW (hX : LX S b) (hT : TXT A (b + 1) T n) {q t : Nat} (hq : q < n) (h : isL (T q)) (ht : A (b + 170) 3 = (t : Int)) (h6 : t < 601) : f_X9_addWord (b + 170) (b + 1) (ii (q : Int)) (ii ((wen T n q : Nat) : Int)) (mz S A B c) = some ((), mz S (tka A b t (kdx T n q) (q : Int) (vlx T n q)) B c) := by
  obtain ⟨a1, a2, a3, a4⟩ := wen_ok hq h
  have hn := hT.1
  unfold f_X9_addWord kdx vlx
  rw [if_neg (show ¬ n ≤ q by omega), if_pos h, if_pos h]
  simp (disch := omega) only [n_sub, k6, n_le]
  by_cases g : q + 6 < wen T n q
  · rw [if_neg (by omega), if_pos g, if_pos g, Kv hX]
    simp only [Option.bind_some]
    have := x_addT (A := A) (B := B) (c := c) hX ht h6 1 (q : Int) 0
    rw [show (1 : Int32) = ii 1 from rfl, show (0 : Int32) = ii 0 from rfl, this]
    rfl
  · rw [if_pos (by omega), if_neg g, if_neg g]
    have key : jloop (f_X9_addWord_L22 (b + 170) (b + 1) (ii (q : Int)) (ii ((wen T n q : Nat) : Int))) jF ((0 : Int32), ii (q : Int)) (mz S A B c) = some ((ii (ow T q (wen T n q - q)), ii ((q + (wen T n q - q) : Nat) : Int)), mz S A B c) :=
      jloop_run (f := f_X9_addWord_L22 (b + 170) (b + 1) (ii (q : Int)) (ii ((wen T n q : Nat) : Int))) (fun j => (ii (ow T q j), ii ((q + j : Nat) : Int))) (fun _ => mz S A B c) (wen T n q - q) (fun j hj => by
        obtain ⟨t1, t2, t3⟩ := hT.2 (q + j) (by omega)
        unfold f_X9_addWord_L22
        simp (disch := omega) only [n_le, show ¬ (wen T n q ≤ q + j) by omega, ↓reduceIte, jaB_n (L_tape hX), t1, Option.bind_some]
        rw [k1, n_add, k32, k97, ii_mul, ii_sub, ii_add, ii_add]
        rfl) (by
        unfold f_X9_addWord_L22
        simp (disch := omega) only [n_le, show wen T n q ≤ q + (wen T n q - q) by omega, ↓reduceIte]) (jF_big (by omega))
    rw [key]
    simp only [Option.bind_some]
    rw [x_kow hX hT hq h]
    simp only [Option.bind_some]
    rw [Kv hX]
    simp only [Option.bind_some]
    rw [x_addT hX ht h6]
    rfl
/-- a step of the scan, behind what it looks at -/
def sct (a0 a1 : Nat) (a2 z v3 v37 : Int32) (h : JH) : Option ((Int32 ⊕ Int32) × JH) :=
  (f_X9_isLetter v3 h).bind fun q39 =>
  if q39.1 = (0 : Int32) then
    (f_X9_isDigit v3 q39.2).bind fun q41 =>
    if q41.1 = (0 : Int32) then
      if v3 = (32 : Int32) then
        some (.inl (z + (1 : Int32)), q41.2)
      else
        if v3 = (10 : Int32) then
          some (.inl (z + (1 : Int32)), q41.2)
        else
          (f_X9_isSign v3 q41.2).bind fun q43 =>
          if q43.1 = (0 : Int32) then
            (jrecv q43.2 a0 7).bind fun _ =>
            (f_X9_addToken a0 (1 : Int32) z (0 : Int32) q43.2).bind fun q45 =>
            some (.inl (z + (1 : Int32)), q45.2)
          else
            (jrecv q43.2 a0 7).bind fun _ =>
            (f_X9_addToken a0 v3 z (0 : Int32) q43.2).bind fun q49 =>
            some (.inl (z + (1 : Int32)), q49.2)
    else
      (f_X9_isDigit v37 q41.2).bind fun q53 =>
      if q53.1 = (0 : Int32) then
        (f_X9_endOfNumber a1 z a2 q53.2).bind fun q55 =>
        (f_X9_numberOf a1 z q55.1 q55.2).bind fun q57 =>
        (jrecv q57.2 a0 7).bind fun _ =>
        (f_X9_addToken a0 (3 : Int32) z q57.1 q57.2).bind fun q59 =>
        some (.inl (z + (1 : Int32)), q59.2)
      else
        some (.inl (z + (1 : Int32)), q53.2)
  else
    (f_X9_isLetter v37 q39.2).bind fun q63 =>
    if q63.1 = (0 : Int32) then
      (f_X9_endOfWord a1 z a2 q63.2).bind fun q65 =>
      (jrecv q65.2 a0 7).bind fun _ =>
      (f_X9_addWord a0 a1 z q65.1 q65.2).bind fun q67 =>
      some (.inl (z + (1 : Int32)), q67.2)
    else
      some (.inl (z + (1 : Int32)), q63.2)
theorem scan_sct (a0 a1 : Nat) (a2 z : Int32) (h : JH) : f_X9_scan_L7 a0 a1 a2 z h = if a2 ≤ z then some (.inr z, h) else (jaB h a1 z).bind fun v3 => if z ≤ (0 : Int32) then sct a0 a1 a2 z v3 32 h else (jaB h a1 (z - (1 : Int32))).bind fun v37 => sct a0 a1 a2 z v3 v37 h := rfl
theorem x_sct (hX : LX S b) (hT : TXT A (b + 1) T n) {z t : Nat} (hz : z < n) {v : Int} (hv : v = if z = 0 then 32 else T (z - 1)) (ht : A (b + 170) 3 = (t : Int)) (h6 : t < 601) : sct (b + 170) (b + 1) (ii (n : Int)) (ii (z : Int)) (ii (T z)) (ii v) (mz S A B c) = some (.inl (ii ((z + 1 : Nat) : Int)), mz S (if tst T z then tka A b t (kdx T n z) (z : Int) (vlx T n z) else A) B c) := by
  obtain ⟨t1, t2, t3⟩ := hT.2 z hz
  have hn := hT.1
  have vr : -128 ≤ v ∧ v < 128 := by
    rw [hv]
    by_cases g : z = 0
    · rw [if_pos g]; omega
    · rw [if_neg g]; exact (hT.2 (z - 1) (by omega)).2
  have hL : (z = 0 ∨ ¬ isL (T (z - 1))) ↔ ¬ isL v := by
    rw [hv]
    by_cases g : z = 0
    · rw [if_pos g]; omega
    · rw [if_neg g]; omega
  have hD : (z = 0 ∨ ¬ isD (T (z - 1))) ↔ ¬ isD v := by
    rw [hv]
    by_cases g : z = 0
    · rw [if_pos g]; omega
    · rw [if_neg g]; omega
  unfold sct
  by_cases l : isL (T z)
  · rw [x_isLy _ l]
    simp (disch := omega) only [Option.bind_some, k0, n_eq, show ¬ (1 = 0) by omega, ↓reduceIte]
    by_cases g : isL v
    · rw [x_isLy _ g, if_neg (show ¬ tst T z by omega)]
      simp (disch := omega) only [Option.bind_some, n_eq, show ¬ (1 = 0) by omega, ↓reduceIte, k1, n_add]
    · rw [x_isLn _ vr.1 vr.2 g, if_pos (show tst T z from Or.inl ⟨l, hL.mpr g⟩)]
      simp (disch := omega) only [Option.bind_some, ↓reduceIte, x_eow hX hT (show z ≤ n by omega), Kv hX, x_addW hX hT hz l ht h6, k1, n_add]
  · rw [x_isLn _ t2 t3 l]
    simp only [Option.bind_some, k0, ↓reduceIte]
    by_cases d : isD (T z)
    · rw [x_isDy _ d]
      simp (disch := omega) only [Option.bind_some, n_eq, show ¬ (1 = 0) by omega, ↓reduceIte]
      by_cases g : isD v
      · rw [x_isDy _ g, if_neg (show ¬ tst T z by omega)]
        simp (disch := omega) only [Option.bind_some, n_eq, show ¬ (1 = 0) by omega, ↓reduceIte, k1, n_add]
      · rw [x_isDn _ vr.1 vr.2 g, if_pos (show tst T z from Or.inr (Or.inl ⟨d, hD.mpr g⟩))]
        obtain ⟨b1, b2, -, -⟩ := nen_ok hz d
        have e1 : kdx T n z = 3 := by unfold kdx; rw [if_neg (by omega), if_neg l, if_pos d]
        have e2 : vlx T n z = if z + 4 < nen T n z then -1 else dv T z (nen T n z - z) := by unfold vlx; rw [if_neg l, if_pos d]
        simp (disch := omega) only [Option.bind_some, ↓reduceIte, x_eon hX hT (show z ≤ n by omega), x_num hX hT (show z ≤ nen T n z by omega) b2, Kv hX]
        rw [show (3 : Int32) = ii 3 from rfl, x_addT hX ht h6, e1, e2, k1, n_add]
        rfl
    · rw [x_isDn _ t2 t3 d]
      simp only [Option.bind_some, ↓reduceIte]
      rw [show (32 : Int32) = ii 32 from rfl, show (10 : Int32) = ii 10 from rfl]
      by_cases g : T z = 32
      · rw [if_pos (show ii (T z) = ii 32 by rw [g]), if_neg (show ¬ tst T z by omega), k1, n_add]
      · rw [if_neg (show ¬ ii (T z) = ii 32 by rw [i_eq (by omega) (by omega) (by omega) (by omega)]; exact g)]
        by_cases g' : T z = 10
        · rw [if_pos (show ii (T z) = ii 10 by rw [g']), if_neg (show ¬ tst T z by omega), k1, n_add]
        · rw [if_neg (show ¬ ii (T z) = ii 10 by rw [i_eq (by omega) (by omega) (by omega) (by omega)]; exact g'), if_pos (show tst T z by omega)]
          have e2 : vlx T n z = 0 := by unfold vlx; rw [if_neg l, if_neg d]
          by_cases s : isSg (T z)
          · have e1 : kdx T n z = T z := by unfold kdx; rw [if_neg (by omega), if_neg l, if_neg d, if_pos s]
            rw [x_isSy _ s]
            simp (disch := omega) only [Option.bind_some, n_eq, show ¬ (1 = 0) by omega, ↓reduceIte, Kv hX]
            have e3 := x_addT (A := A) (B := B) (c := c) hX ht h6 (T z) (z : Int) 0
            rw [e1, e2, show ii ((0 : Nat) : Int) = ii 0 from rfl, e3, k1, n_add]
            rfl
          · have e1 : kdx T n z = 1 := by unfold kdx; rw [if_neg (by omega), if_neg l, if_neg d, if_neg s]
            rw [x_isSn _ t2 t3 s]
            simp only [Option.bind_some, ↓reduceIte, Kv hX]
            have e3 := x_addT (A := A) (B := B) (c := c) hX ht h6 1 (z : Int) 0
            rw [e1, e2, show ii ((0 : Nat) : Int) = ii 0 from rfl, show (1 : Int32) = ii 1 from rfl, e3, ii_add]
            rfl
/-- the tokens of a text, as they lie in the class -/
def TOK (A : ZA) (b : Nat) (T : Nat → Int) (n : Nat) : Prop := A (b + 170) 3 = ((tcn T n : Nat) : Int) ∧ (∀ q, q < n → tst T q → A (b + 171) (tcn T q) = kdx T n q ∧ A (b + 172) (tcn T q) = (q : Int) ∧ A (b + 173) (tcn T q) = vlx T n q) ∧ A (b + 171) (tcn T n) = 0 ∧ A (b + 172) (tcn T n) = (n : Int)
theorem x_scan (hX : LX S b) (hT : TXT A (b + 1) T n) : ∃ A' : ZA, f_X9_scan (b + 170) (b + 1) (ii (n : Int)) (mz S A B c) = some ((), mz S A' B c) ∧ TOK A' b T n ∧ (∀ x, x ≠ b + 170 → x ≠ b + 171 → x ≠ b + 172 → x ≠ b + 173 → A' x = A x) := by
  have hn := hT.1
  have key := z_run (S := S) (B := B) (c := c) (f := f_X9_scan_L7 (b + 170) (b + 1) (ii (n : Int))) (fun t => ii (t : Int)) (fun t A' => A' (b + 170) 3 = ((tcn T t : Nat) : Int) ∧ (∀ q, q < t → tst T q → A' (b + 171) (tcn T q) = kdx T n q ∧ A' (b + 172) (tcn T q) = (q : Int) ∧ A' (b + 173) (tcn T q) = vlx T n q) ∧ (∀ x, x ≠ b + 170 → x ≠ b + 171 → x ≠ b + 172 → x ≠ b + 173 → A' x = A x)) n (t := ii (n : Int)) (by omega) (fun z hz A1 ⟨y1, y2, y3⟩ => by
    have hT1 : TXT A1 (b + 1) T n := ⟨hn, fun k hk => by rw [y3 _ (by omega) (by omega) (by omega) (by omega)]; exact hT.2 k hk⟩
    have hc := tcn_le T z
    refine ⟨if tst T z then tka A1 b (tcn T z) (kdx T n z) (z : Int) (vlx T n z) else A1, ?_, ?_⟩
    · rw [scan_sct]
      obtain ⟨t1, t2, t3⟩ := hT1.2 z hz
      simp (disch := omega) only [n_le, show ¬ (n ≤ z) by omega, ↓reduceIte, jaB_n (L_tape hX), t1, Option.bind_some, k0]
      by_cases g : z = 0
      · subst g
        simp only [Nat.le_refl, ↓reduceIte]
        exact x_sct (v := 32) hX hT1 hz rfl y1 (by omega)
      · obtain ⟨u1, u2, u3⟩ := hT1.2 (z - 1) (by omega)
        simp (disch := omega) only [show ¬ (z ≤ 0) by omega, ↓reduceIte, k1, n_sub, jaB_n (L_tape hX), u1, Option.bind_some]
        exact x_sct (v := T (z - 1)) hX hT1 hz (by rw [if_neg g]) y1 (by omega)
    · by_cases g : tst T z
      · rw [if_pos g, tcn_y g]
        unfold tka
        refine ⟨by rw [za_at, up_at], fun q hq htq => ?_, fun x h1 h2 h3 h4 => by rw [za_ne _ _ h1, za_ne _ _ h4, za_ne _ _ h3, za_ne _ _ h2]; exact y3 x h1 h2 h3 h4⟩
        rw [za_ne _ _ (show b + 171 ≠ b + 170 by omega), za_ne _ _ (show b + 171 ≠ b + 173 by omega), za_ne _ _ (show b + 171 ≠ b + 172 by omega), za_at, za_ne _ _ (show b + 172 ≠ b + 170 by omega), za_ne _ _ (show b + 172 ≠ b + 173 by omega), za_at, za_ne _ _ (show b + 173 ≠ b + 170 by omega), za_at]
        by_cases g2 : q = z
        · subst g2
          exact ⟨up_at _ _ _, up_at _ _ _, up_at _ _ _⟩
        · have h5 := tcn_lt (T := T) (show q < z by omega) htq
          rw [up_ne _ _ (by omega), up_ne _ _ (by omega), up_ne _ _ (by omega)]
          exact y2 q (by omega) htq
      · rw [if_neg g, tcn_n g]
        refine ⟨y1, fun q hq htq => y2 q ?_ htq, y3⟩
        have : q ≠ z := fun e => g (e ▸ htq)
        omega) (fun A1 _ => by
    rw [scan_sct, if_pos (by rw [n_le (by omega) (by omega)]; exact Nat.le_refl n)]) (A0 := za A (b + 170) (up (A (b + 170)) 3 ((0 : Nat) : Int))) ⟨by rw [za_at, up_at]; rfl, fun q hq => by omega, fun x h1 _ _ _ => za_ne _ _ h1⟩
  obtain ⟨A1, e1, y1, y2, y3⟩ := key
  have e1' : jloop (f_X9_scan_L7 (b + 170) (b + 1) (ii (n : Int))) jF (0 : Int32) (mz S (za A (b + 170) (up (A (b + 170)) 3 ((0 : Nat) : Int))) B c) = some (ii (n : Int), mz S A1 B c) := e1
  have hc := tcn_le T n
  refine ⟨za (za A1 (b + 171) (up (A1 (b + 171)) (tcn T n) ((0 : Nat) : Int))) (b + 172) (up (A1 (b + 172)) (tcn T n) (n : Int)), ?_, ⟨?_, fun q hq htq => ?_, ?_, ?_⟩, fun x h1 h2 h3 h4 => by rw [za_ne _ _ h3, za_ne _ _ h2]; exact y3 x h1 h2 h3 h4⟩
  · unfold f_X9_scan
    rw [show (0 : Int32) = ii ((0 : Nat) : Int) from rfl, KP3 hX]
    simp only [Option.bind_some]
    rw [show ii ((0 : Nat) : Int) = (0 : Int32) from rfl, e1']
    simp (disch := omega) only [Option.bind_some, KR0 hX, KI3 hX, y1, k0, jsI_v (L_knd hX), KR1 hX, za_ne, jsI_v (L_plc hX)]
  · rw [za_ne _ _ (by omega), za_ne _ _ (by omega)]; exact y1
  · have h5 := tcn_lt (T := T) hq htq
    rw [za_ne _ _ (show b + 171 ≠ b + 172 by omega), za_at, za_at, za_ne _ _ (show b + 173 ≠ b + 172 by omega), za_ne _ _ (show b + 173 ≠ b + 171 by omega), up_ne _ _ (by omega), up_ne _ _ (by omega)]
    exact y2 q hq htq
  · rw [za_ne _ _ (by omega), za_at, up_at]; rfl
  · rw [za_at, up_at]
end scan
