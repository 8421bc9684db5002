/-! P2: class numbers: both sides add up the same. -/
theorem jnz_ii {z : Int} (h : r31 z) (h0 : z ≠ 0) : jnz (ii z) = some () := by
  unfold jnz
  rw [if_neg (by rw [show (0 : Int32) = ii 0 from rfl, ii_eq h (by decide)]; exact h0)]
theorem rem_zero {a z : Int} (ha : r31 a) (hz : r31 z) (h : 0 < z) : jrem (ii a) (ii z) = (0 : Int32) ↔ z ∣ a := by
  rw [ii_rem ha hz (by omega)]
  have ht := tmod_r a h
  rw [show (0 : Int32) = ii 0 from rfl, ii_eq (r31_of (by omega) (by omega)) (by decide)]
  exact ⟨Int.dvd_of_tmod_eq_zero, Int.tmod_eq_zero_of_dvd⟩
/-- the greatest that goes into all three -/
def g3 (a b c : Int) : Nat := Nat.gcd (Nat.gcd a.natAbs b.natAbs) c.natAbs
theorem g3_dvd {t : Nat} {a b c : Int} (h1 : (t : Int) ∣ a) (h2 : (t : Int) ∣ b) (h3 : (t : Int) ∣ c) : t ∣ g3 a b c := by
  have f : ∀ {x : Int}, (t : Int) ∣ x → t ∣ x.natAbs := fun h => Int.ofNat_dvd_left.mp h
  exact Nat.dvd_gcd (Nat.dvd_gcd (f h1) (f h2)) (f h3)
theorem dvd_g3 (a b c : Int) : ((g3 a b c : Nat) : Int) ∣ a ∧ ((g3 a b c : Nat) : Int) ∣ b ∧ ((g3 a b c : Nat) : Int) ∣ c := by
  refine ⟨Int.ofNat_dvd_left.mpr ?_, Int.ofNat_dvd_left.mpr ?_, Int.ofNat_dvd_left.mpr ?_⟩
  · exact Nat.dvd_trans (Nat.gcd_dvd_left _ _) (Nat.gcd_dvd_left _ _)
  · exact Nat.dvd_trans (Nat.gcd_dvd_left _ _) (Nat.gcd_dvd_right _ _)
  · exact Nat.gcd_dvd_right _ _
theorem oip_loop (h : JH) {a b c : Int} (ha : 1 ≤ a ∧ a < 10000) (hb : r31 b) (hc : r31 c) : ∀ (k : Nat) (fuel : Nat), k < fuel → ∀ z : Int, z + k = a + 1 → 2 ≤ z → (∀ t : Int, 2 ≤ t → t < z → ¬ (t ∣ a ∧ t ∣ b ∧ t ∣ c)) → jloop (f_X1_onlyIfPrimitive_L2 (ii a) (ii b) (ii c)) fuel (ii z) h = some (if g3 a b c = 1 then .inr (ii (a + 1)) else .inl 0, h) := by
  intro k
  have ha31 : r31 a := r31_of (by omega) (by omega)
  induction k with
  | zero =>
    intro fuel hf z hz h2 hn
    obtain ⟨n, rfl⟩ : ∃ n, fuel = n + 1 := ⟨fuel - 1, by omega⟩
    have hg : g3 a b c = 1 := by
      have hd := dvd_g3 a b c
      have hle := Int.le_of_dvd (by omega) hd.1
      have hpos : 0 < g3 a b c := Nat.gcd_pos_of_pos_left _ (Nat.gcd_pos_of_pos_left _ (by omega))
      by_cases h1 : g3 a b c = 1
      · exact h1
      · exact absurd hd (hn _ (by omega) (by omega))
    refine jloop_end ?_
    unfold f_X1_onlyIfPrimitive_L2
    rw [if_pos (by rw [ii_lt ha31 (r31_of (by omega) (by omega))]; omega), if_pos hg, show z = a + 1 by omega]
  | succ k ih =>
    intro fuel hf z hz h2 hn
    obtain ⟨n, rfl⟩ : ∃ n, fuel = n + 1 := ⟨fuel - 1, by omega⟩
    have hz31 : r31 z := r31_of (by omega) (by omega)
    by_cases hd : z ∣ a ∧ z ∣ b ∧ z ∣ c
    · have hg : ¬ g3 a b c = 1 := by
        intro h1
        have : z.toNat ∣ g3 a b c := by
          have e : ((z.toNat : Nat) : Int) = z := by omega
          exact g3_dvd (by rw [e]; exact hd.1) (by rw [e]; exact hd.2.1) (by rw [e]; exact hd.2.2)
        rw [h1] at this
        have := Nat.le_of_dvd (by decide) this
        omega
      refine jloop_end ?_
      unfold f_X1_onlyIfPrimitive_L2
      rw [if_neg (by rw [ii_lt ha31 hz31]; omega), jnz_ii hz31 (by omega)]
      simp only [Option.bind_some]
      rw [if_pos ((rem_zero ha31 hz31 (by omega)).mpr hd.1), if_pos ((rem_zero hb hz31 (by omega)).mpr hd.2.1), if_pos ((rem_zero hc hz31 (by omega)).mpr hd.2.2), if_neg hg]
    · rw [← ih n (by omega) (z + 1) (by omega) (by omega) (fun t t1 t2 ht => by
        by_cases e : t = z
        · subst e; exact hd ht
        · exact hn t t1 (by omega) ht)]
      refine jloop_go ?_
      unfold f_X1_onlyIfPrimitive_L2
      rw [if_neg (by rw [ii_lt ha31 hz31]; omega), jnz_ii hz31 (by omega)]
      simp only [Option.bind_some, rem_zero ha31 hz31 (show 0 < z by omega), rem_zero hb hz31 (show 0 < z by omega), rem_zero hc hz31 (show 0 < z by omega), show (1 : Int32) = ii 1 from rfl, ii_add]
      by_cases d1 : z ∣ a
      · rw [if_pos d1]
        by_cases d2 : z ∣ b
        · rw [if_pos d2, if_neg (fun d3 => hd ⟨d1, d2, d3⟩)]
        · rw [if_neg d2]
      · rw [if_neg d1]
theorem oip (h : JH) {a b c : Int} (ha : 1 ≤ a ∧ a < 10000) (hb : r31 b) (hc : r31 c) : f_X1_onlyIfPrimitive (ii a) (ii b) (ii c) h = some (ii (if g3 a b c = 1 then 1 else 0), h) := by
  unfold f_X1_onlyIfPrimitive
  by_cases h1 : a = 1
  · subst h1
    have e := oip_loop h ha hb hc 0 jF (jF_big (by omega)) 2 (by omega) (by omega) (fun t t1 t2 => by omega)
    rw [show (2 : Int32) = ii 2 from rfl, e]
    simp only [Option.bind_some]
    by_cases hg : g3 1 b c = 1
    · rw [if_pos hg, if_pos hg]; rfl
    · rw [if_neg hg, if_neg hg]; rfl
  · have e := oip_loop h ha hb hc (a - 1).toNat jF (jF_big (by omega)) 2 (by omega) (by omega) (fun t t1 t2 => by omega)
    rw [show (2 : Int32) = ii 2 from rfl, e]
    simp only [Option.bind_some]
    by_cases hg : g3 a b c = 1
    · rw [if_pos hg, if_pos hg]; rfl
    · rw [if_neg hg, if_neg hg]; rfl
theorem div_loop (h : JH) : ∀ (fuel y : Nat), y < fuel → y < 2147483648 → ∀ x : Nat, x < 2147483648 → jloop f_X12_divisor_L22 fuel (ii (x : Int), ii (y : Int)) h = some ((ii ((Nat.gcd x y : Nat) : Int), ii 0), h) := by
  intro fuel
  induction fuel with
  | zero => intro y hy; omega
  | succ fuel ih =>
    intro y hy hy2 x hx
    have hy31 : r31 (y : Int) := r31_of (by omega) (by omega)
    by_cases h0 : y = 0
    · subst h0
      refine jloop_end ?_
      unfold f_X12_divisor_L22
      rw [if_pos (by rfl), Nat.gcd_zero_right]
      rfl
    · have hlt := Nat.mod_lt x (show 0 < y by omega)
      rw [show Nat.gcd x y = Nat.gcd y (x % y) by rw [Nat.gcd_comm x y, Nat.gcd_rec y x, Nat.gcd_comm], ← ih (x % y) (by omega) (by omega) y hy2]
      refine jloop_go ?_
      unfold f_X12_divisor_L22
      simp only []
      rw [if_neg (by rw [show (0 : Int32) = ii 0 from rfl, ii_eq hy31 (by decide)]; omega), jnz_ii hy31 (by omega), ii_rem (r31_of (by omega) (by omega)) hy31 (by omega), Int.tmod_eq_emod_of_nonneg (by omega)]
      rfl
theorem divisor (h : JH) {a b : Int} (ha : -20000 < a ∧ a < 20000) (hb : -20000 < b ∧ b < 20000) : f_X12_divisor (ii a) (ii b) h = some (ii ((Nat.gcd a.natAbs b.natAbs : Nat) : Int), h) := by
  have ha31 : r31 a := r31_of (by omega) (by omega)
  have hb31 : r31 b := r31_of (by omega) (by omega)
  have key : ∀ x y : Int, 0 ≤ x → 0 ≤ y → x < 20000 → y < 20000 → jloop f_X12_divisor_L22 jF (ii x, ii y) h = some ((ii ((Nat.gcd x.natAbs y.natAbs : Nat) : Int), ii 0), h) := by
    intro x y hx hy hx2 hy2
    have := div_loop h jF y.natAbs (jF_big (by omega)) (by omega) x.natAbs (by omega)
    rw [show ((x.natAbs : Nat) : Int) = x by omega, show ((y.natAbs : Nat) : Int) = y by omega] at this
    exact this
  have hle : ∀ x : Int, r31 x → ((0 : Int32) ≤ ii x ↔ 0 ≤ x) := fun x hx => ii_le (a := 0) (by decide) hx
  unfold f_X12_divisor
  by_cases h1 : 0 ≤ a
  · rw [if_pos ((hle a ha31).mpr h1)]
    by_cases h2 : 0 ≤ b
    · rw [if_pos ((hle b hb31).mpr h2), key a b h1 h2 ha.2 hb.2]; rfl
    · rw [if_neg (fun q => h2 ((hle b hb31).mp q)), ii_neg, key a (-b) h1 (by omega) ha.2 (by omega), Int.natAbs_neg]; rfl
  · rw [if_neg (fun q => h1 ((hle a ha31).mp q))]
    by_cases h2 : 0 ≤ b
    · rw [if_pos ((hle b hb31).mpr h2), ii_neg, key (-a) b (by omega) h2 (by omega) hb.2, Int.natAbs_neg]; rfl
    · rw [if_neg (fun q => h2 ((hle b hb31).mp q)), ii_neg, ii_neg, key (-a) (-b) (by omega) (by omega) (by omega) (by omega), Int.natAbs_neg, Int.natAbs_neg]; rfl
/-- what the form a, b, c adds -/
def cnC (d a b : Int) : Int := (d + b * b) / (4 * a)
def cnTw (a b c : Int) : Int := if a = c then (if b = 0 then 6 else if a = b then 4 else 12) else 12
def cnT (d sm a b : Int) : Int := if 4 * a ∣ d + b * b ∧ (a < cnC d a b ∨ (cnC d a b = a ∧ 0 ≤ b)) then (if sm = 0 then cnTw a b (cnC d a b) else if g3 a b (cnC d a b) = 1 then 1 else 0) else 0
def cnB (d sm a : Int) : Nat → Int
  | 0 => 0
  | i + 1 => cnB d sm a i + cnT d sm a (1 - a + i)
def cnA (d sm : Int) : Nat → Int
  | 0 => 0
  | k + 1 => cnA d sm k + cnB d sm (k + 1) (2 * (k + 1))
theorem cn_bb {d a b : Int} (hd : 1 ≤ d ∧ d ≤ 2000) (ha : 1 ≤ a ∧ a ≤ 50) (hb : -50 ≤ b ∧ b ≤ 50) : 0 ≤ b * b ∧ b * b ≤ 2500 := by
  have h1 : b * b = b.natAbs * b.natAbs := (Int.natAbs_mul_self (a := b)).symm
  have h2 : b.natAbs ≤ 50 := by omega
  have h3 : b.natAbs * b.natAbs ≤ 50 * 50 := Nat.mul_le_mul h2 h2
  omega
theorem cn_c {d a b : Int} (hd : 1 ≤ d ∧ d ≤ 2000) (ha : 1 ≤ a ∧ a ≤ 50) (hb : -50 ≤ b ∧ b ≤ 50) : 0 ≤ cnC d a b ∧ cnC d a b ≤ 4500 := by
  have hbb := cn_bb hd ha hb
  unfold cnC
  refine ⟨Int.ediv_nonneg (by omega) (by omega), ?_⟩
  exact Int.le_trans (Int.ediv_le_self _ (by omega)) (by omega)
theorem cn_div {d a b : Int} (hd : 1 ≤ d ∧ d ≤ 2000) (ha : 1 ≤ a ∧ a ≤ 50) (hb : -50 ≤ b ∧ b ≤ 50) : (ii d + ii b * ii b) / ((4 : Int32) * ii a) = ii (cnC d a b) := by
  have hbb := cn_bb hd ha hb
  rw [ii_mul, ii_add, show (4 : Int32) = ii 4 from rfl, ii_mul, ii_div (r31_of (by omega) (by omega)) (r31_of (by omega) (by omega)) (by omega), Int.tdiv_eq_ediv_of_nonneg (by omega)]
  rfl
theorem cn_rem {d a b : Int} (hd : 1 ≤ d ∧ d ≤ 2000) (ha : 1 ≤ a ∧ a ≤ 50) (hb : -50 ≤ b ∧ b ≤ 50) : jrem (ii d + ii b * ii b) ((4 : Int32) * ii a) = (0 : Int32) ↔ 4 * a ∣ d + b * b := by
  have hbb := cn_bb hd ha hb
  rw [ii_mul, ii_add, show (4 : Int32) = ii 4 from rfl, ii_mul]
  exact rem_zero (r31_of (by omega) (by omega)) (r31_of (by omega) (by omega)) (by omega)
theorem cn_nz {d a b : Int} (hd : 1 ≤ d ∧ d ≤ 2000) (ha : 1 ≤ a ∧ a ≤ 50) (hb : -50 ≤ b ∧ b ≤ 50) : jnz ((4 : Int32) * ii a) = some () := by
  rw [show (4 : Int32) = ii 4 from rfl, ii_mul]
  exact jnz_ii (r31_of (by omega) (by omega)) (by omega)
theorem cn_tw (h : JH) {d a b : Int} (hd : 1 ≤ d ∧ d ≤ 2000) (ha : 1 ≤ a ∧ a ≤ 50) (hb : -50 ≤ b ∧ b ≤ 50) {c : Int} (hc : 0 ≤ c ∧ c ≤ 4500) : f_X1_twelfths (ii a) (ii b) (ii c) h = some (ii (cnTw a b c), h) := by
  have e1 : ii a = ii c ↔ a = c := ii_eq (r31_of (by omega) (by omega)) (r31_of (by omega) (by omega))
  have e2 : ii b = (0 : Int32) ↔ b = 0 := ii_eq (b := 0) (r31_of (by omega) (by omega)) (by decide)
  have e3 : ii a = ii b ↔ a = b := ii_eq (r31_of (by omega) (by omega)) (r31_of (by omega) (by omega))
  unfold f_X1_twelfths cnTw
  simp only [e1, e2, e3]
  by_cases q1 : a = c
  · simp only [if_pos q1]
    by_cases q2 : b = 0
    · simp only [if_pos q2]; rfl
    · simp only [if_neg q2]
      by_cases q3 : a = b
      · simp only [if_pos q3]; rfl
      · simp only [if_neg q3]; rfl
  · simp only [if_neg q1]; rfl
theorem cn_stepX (h : JH) {d a b : Int} (hd : 1 ≤ d ∧ d ≤ 2000) (ha : 1 ≤ a ∧ a ≤ 50) (hb : -50 ≤ b ∧ b ≤ 50) {sm s : Int} (hsm : sm = 0 ∨ sm = 1) (hba : b ≤ a) : f_X1_addUp_L18 (ii d) (ii sm) (ii a) (ii s, ii b) h = some (.inl (ii (s + cnT d sm a b), ii (b + 1)), h) := by
  have hc := cn_c hd ha hb
  have e1 : ii a < ii (cnC d a b) ↔ a < cnC d a b := ii_lt (r31_of (by omega) (by omega)) (r31_of (by omega) (by omega))
  have e2 : ii (cnC d a b) = ii a ↔ cnC d a b = a := ii_eq (r31_of (by omega) (by omega)) (r31_of (by omega) (by omega))
  have e3 : ii b < (0 : Int32) ↔ b < 0 := ii_lt (b := 0) (r31_of (by omega) (by omega)) (by decide)
  have e4 : ii sm = (0 : Int32) ↔ sm = 0 := ii_eq (b := 0) (r31_of (by omega) (by omega)) (by decide)
  have e5 := oip h (a := a) (b := b) (c := cnC d a b) ⟨ha.1, by omega⟩ (r31_of (by omega) (by omega)) (r31_of (by omega) (by omega))
  have e6 := cn_tw h hd ha hb hc
  unfold f_X1_addUp_L18
  simp only []
  rw [if_neg (by rw [ii_lt (r31_of (by omega) (by omega)) (r31_of (by omega) (by omega))]; omega), cn_nz hd ha hb]
  simp only [Option.bind_some, cn_rem hd ha hb, cn_div hd ha hb, e1, e2, e3, e4, e5, e6, show (1 : Int32) = ii 1 from rfl, ii_add]
  unfold cnT
  by_cases q1 : 4 * a ∣ d + b * b
  · by_cases q2 : a < cnC d a b
    · rcases hsm with rfl | rfl <;> simp [q1, q2]
    · by_cases q3 : cnC d a b = a
      · by_cases q4 : b < 0
        · have q5 : ¬ 0 ≤ b := by omega
          rcases hsm with rfl | rfl <;> simp [q1, q3, q4, q5]
        · have q5 : 0 ≤ b := by omega
          rcases hsm with rfl | rfl <;> simp [q1, q3, q4, q5]
      · rcases hsm with rfl | rfl <;> simp [q1, q2, q3]
  · simp [q1]
theorem cn_stepM (h : JH) {d a b : Int} (hd : 1 ≤ d ∧ d ≤ 2000) (ha : 1 ≤ a ∧ a ≤ 50) (hb : -50 ≤ b ∧ b ≤ 50) {sm s : Int} (hsm : sm = 0 ∨ sm = 1) (hba : b ≤ a) : f_X12_counts_L18 (ii d) (ii (1 - sm)) (ii a) (ii s, ii b) h = some (.inl (ii (s + cnT d sm a b), ii (b + 1)), h) := by
  have hc := cn_c hd ha hb
  have e1 : ii a < ii (cnC d a b) ↔ a < cnC d a b := ii_lt (r31_of (by omega) (by omega)) (r31_of (by omega) (by omega))
  have e1' : ii (cnC d a b) < ii a ↔ cnC d a b < a := ii_lt (r31_of (by omega) (by omega)) (r31_of (by omega) (by omega))
  have e2 : ii a = ii (cnC d a b) ↔ a = cnC d a b := ii_eq (r31_of (by omega) (by omega)) (r31_of (by omega) (by omega))
  have e3 : ii b < (0 : Int32) ↔ b < 0 := ii_lt (b := 0) (r31_of (by omega) (by omega)) (by decide)
  have e3' : ii b = (0 : Int32) ↔ b = 0 := ii_eq (b := 0) (r31_of (by omega) (by omega)) (by decide)
  have e3'' : ii a = ii b ↔ a = b := ii_eq (r31_of (by omega) (by omega)) (r31_of (by omega) (by omega))
  have e4 : ii (1 - sm) = (0 : Int32) ↔ ¬ sm = 0 := by
    rw [show (0 : Int32) = ii 0 from rfl, ii_eq (r31_of (by omega) (by omega)) (by decide)]; omega
  have hg : (Nat.gcd a.natAbs b.natAbs : Nat) ≤ 50 := Nat.le_trans (Nat.le_of_dvd (by omega) (Nat.gcd_dvd_left _ _)) (by omega)
  have e5 := divisor h (a := a) (b := b) ⟨by omega, by omega⟩ ⟨by omega, by omega⟩
  have e6 := divisor h (a := ((Nat.gcd a.natAbs b.natAbs : Nat) : Int)) (b := cnC d a b) ⟨by omega, by omega⟩ ⟨by omega, by omega⟩
  have e7 : Nat.gcd (((Nat.gcd a.natAbs b.natAbs : Nat) : Int)).natAbs (cnC d a b).natAbs = g3 a b (cnC d a b) := rfl
  have hg3 : g3 a b (cnC d a b) ≤ 50 := Nat.le_trans (Nat.le_of_dvd (Nat.gcd_pos_of_pos_left _ (by omega)) (Nat.gcd_dvd_left _ _)) hg
  have e8 : ii ((g3 a b (cnC d a b) : Nat) : Int) = (1 : Int32) ↔ g3 a b (cnC d a b) = 1 := by
    rw [show (1 : Int32) = ii 1 from rfl, ii_eq (r31_of (by omega) (by omega)) (by decide)]; omega
  rw [e7] at e6
  unfold f_X12_counts_L18
  simp only []
  rw [if_neg (by rw [ii_lt (r31_of (by omega) (by omega)) (r31_of (by omega) (by omega))]; omega), cn_nz hd ha hb]
  simp only [Option.bind_some, cn_rem hd ha hb, cn_div hd ha hb, e1, e1', e2, e3, e3', e3'', e4, e5, e6, e8, if_true, show ¬ ((1 : Int32) = 0) from by decide, if_false]
  simp only [show (1 : Int32) = ii 1 from rfl, show (6 : Int32) = ii 6 from rfl, show (4 : Int32) = ii 4 from rfl, show (12 : Int32) = ii 12 from rfl, ii_add]
  unfold cnT cnTw
  by_cases q1 : 4 * a ∣ d + b * b
  · by_cases q2 : a < cnC d a b
    · have q2' : ¬ cnC d a b < a := by omega
      have q2'' : ¬ a = cnC d a b := by omega
      by_cases q6 : g3 a b (cnC d a b) = 1 <;> rcases hsm with rfl | rfl <;> simp [q1, q2, q2', q2'', q6]
    · by_cases q3 : cnC d a b = a
      · by_cases q4 : b < 0
        · have q5 : ¬ 0 ≤ b := by omega
          rcases hsm with rfl | rfl <;> simp [q1, q3, q4, q5]
        · have q5 : 0 ≤ b := by omega
          by_cases q8 : a = b
          · subst q8
            have q9 : ¬ a = 0 := by omega
            by_cases q6 : g3 a a a = 1 <;> rcases hsm with rfl | rfl <;> simp [q1, q3, q4, q5, q6, q9]
          · by_cases q7 : b = 0
            · subst q7
              have q1' : 4 * a ∣ d := by simpa using q1
              by_cases q6 : g3 a 0 a = 1 <;> rcases hsm with rfl | rfl <;> simp [q1', q3, q6, q8]
            · by_cases q6 : g3 a b a = 1 <;> rcases hsm with rfl | rfl <;> simp [q1, q3, q4, q5, q6, q7, q8]
      · have q2' : cnC d a b < a := by omega
        rcases hsm with rfl | rfl <;> simp [q1, q2, q3, q2']
  · simp [q1]
/-- the greatest k with 3 k k at most d -/
def kO (d : Int) : Nat → Nat
  | 0 => 0
  | n + 1 => if 3 * ((n + 1 : Nat) : Int) * ((n + 1 : Nat) : Int) ≤ d then n + 1 else kO d n
theorem cn_k {d : Int} (hd : 1 ≤ d ∧ d ≤ 2000) : kO d 26 ≤ 26 ∧ 3 * (kO d 26 : Int) * (kO d 26 : Int) ≤ d ∧ d < 3 * ((kO d 26 : Int) + 1) * ((kO d 26 : Int) + 1) := by
  have key : ∀ n : Nat, d < 3 * ((n : Int) + 1) * ((n : Int) + 1) → kO d n ≤ n ∧ 3 * (kO d n : Int) * (kO d n : Int) ≤ d ∧ d < 3 * ((kO d n : Int) + 1) * ((kO d n : Int) + 1) := by
    intro n
    induction n with
    | zero => intro h; exact ⟨Nat.le_refl _, by simp [kO]; omega, by simpa [kO] using h⟩
    | succ n ih =>
      intro h
      by_cases h2 : 3 * ((n + 1 : Nat) : Int) * ((n + 1 : Nat) : Int) ≤ d
      · simp only [kO, if_pos h2]
        exact ⟨Nat.le_refl _, h2, h⟩
      · simp only [kO, if_neg h2]
        obtain ⟨a, b, c⟩ := ih (by simpa using h2)
        exact ⟨by omega, b, c⟩
  exact key 26 (by show d < 3 * 27 * 27; omega)
theorem cn_sq {k n : Nat} (h : k ≤ n) : 3 * (k : Int) * k ≤ 3 * (n : Int) * n := by
  have : 3 * k * k ≤ 3 * n * n := Nat.mul_le_mul (Nat.mul_le_mul_left 3 h) h
  exact_mod_cast this
theorem cn_innerX (h : JH) {d a : Int} (hd : 1 ≤ d ∧ d ≤ 2000) (ha : 1 ≤ a ∧ a ≤ 50) {sm s : Int} (hsm : sm = 0 ∨ sm = 1) : jloop (f_X1_addUp_L18 (ii d) (ii sm) (ii a)) jF (ii s, ii (1 - a)) h = some ((ii (s + cnB d sm a (2 * a.toNat)), ii (a + 1)), h) := by
  have key := jloop_run (f := f_X1_addUp_L18 (ii d) (ii sm) (ii a)) (fun i => (ii (s + cnB d sm a i), ii (1 - a + (i : Int)))) (fun _ => h) (2 * a.toNat) (fun i hi => by
    have := cn_stepX h hd ha (b := 1 - a + (i : Int)) ⟨by omega, by omega⟩ hsm (s := s + cnB d sm a i) (by omega)
    rw [this]
    simp only [cnB, Int.add_assoc]
    rfl) (t := (ii (s + cnB d sm a (2 * a.toNat)), ii (a + 1))) (h1 := h) (by
    unfold f_X1_addUp_L18
    simp only []
    rw [show 1 - a + ((2 * a.toNat : Nat) : Int) = a + 1 by omega, if_pos (by rw [ii_lt (r31_of (by omega) (by omega)) (r31_of (by omega) (by omega))]; omega)]) (jF_big (by omega))
  simpa [cnB] using key
theorem cn_innerM (h : JH) {d a : Int} (hd : 1 ≤ d ∧ d ≤ 2000) (ha : 1 ≤ a ∧ a ≤ 50) {sm s : Int} (hsm : sm = 0 ∨ sm = 1) : jloop (f_X12_counts_L18 (ii d) (ii (1 - sm)) (ii a)) jF (ii s, ii (1 - a)) h = some ((ii (s + cnB d sm a (2 * a.toNat)), ii (a + 1)), h) := by
  have key := jloop_run (f := f_X12_counts_L18 (ii d) (ii (1 - sm)) (ii a)) (fun i => (ii (s + cnB d sm a i), ii (1 - a + (i : Int)))) (fun _ => h) (2 * a.toNat) (fun i hi => by
    have := cn_stepM h hd ha (b := 1 - a + (i : Int)) ⟨by omega, by omega⟩ hsm (s := s + cnB d sm a i) (by omega)
    rw [this]
    simp only [cnB, Int.add_assoc]
    rfl) (t := (ii (s + cnB d sm a (2 * a.toNat)), ii (a + 1))) (h1 := h) (by
    unfold f_X12_counts_L18
    simp only []
    rw [show 1 - a + ((2 * a.toNat : Nat) : Int) = a + 1 by omega, if_pos (by rw [ii_lt (r31_of (by omega) (by omega)) (r31_of (by omega) (by omega))]; omega)]) (jF_big (by omega))
  simpa [cnB] using key
/-- the sum over all forms of d -/
theorem cn_both (h : JH) {d : Int} (hd : 1 ≤ d ∧ d ≤ 2000) {sm : Int} (hsm : sm = 0 ∨ sm = 1) : f_X1_addUp (ii d) (ii sm) h = some (ii (cnA d sm (kO d 26)), h) ∧ f_X12_counts (ii d) (ii (1 - sm)) h = some (ii (cnA d sm (kO d 26)), h) := by
  obtain ⟨k1, k2, k3⟩ := cn_k hd
  generalize kO d 26 = k at k1 k2 k3 ⊢
  have hsq : ∀ i : Nat, i ≤ 27 → (((3 : Int32) * ii (1 + (i : Int))) * ii (1 + (i : Int))) = ii (3 * (1 + (i : Int)) * (1 + (i : Int))) ∧ 0 ≤ 3 * (1 + (i : Int)) * (1 + (i : Int)) ∧ 3 * (1 + (i : Int)) * (1 + (i : Int)) ≤ 3000 := by
    intro i hi
    refine ⟨by rw [show (3 : Int32) = ii 3 from rfl, ii_mul, ii_mul], ?_, ?_⟩
    · exact Int.mul_nonneg (by omega) (by omega)
    · have := cn_sq (k := i + 1) (n := 28) (by omega)
      simp only [Int.natCast_add] at this
      rw [show (1 : Int) + (i : Int) = (i : Int) + 1 by omega]
      simpa using Int.le_trans this (by decide)
  have hgo : ∀ i : Nat, i < k → ¬ (ii d < (((3 : Int32) * ii (1 + (i : Int))) * ii (1 + (i : Int)))) := by
    intro i hi
    obtain ⟨a1, a2, a3⟩ := hsq i (by omega)
    rw [a1, ii_lt (r31_of (by omega) (by omega)) (r31_of (by omega) (by omega))]
    have := cn_sq (k := i + 1) (n := k) (by omega)
    simp only [Int.natCast_add] at this
    rw [show (1 : Int) + (i : Int) = (i : Int) + 1 by omega]
    simp at this
    omega
  have hend : ii d < (((3 : Int32) * ii (1 + (k : Int))) * ii (1 + (k : Int))) := by
    obtain ⟨a1, a2, a3⟩ := hsq k (by omega)
    rw [a1, ii_lt (r31_of (by omega) (by omega)) (r31_of (by omega) (by omega)), show (1 : Int) + (k : Int) = (k : Int) + 1 by omega]
    exact k3
  refine ⟨?_, ?_⟩
  · have key := jloop_run (f := f_X1_addUp_L4 (ii d) (ii sm)) (fun i => (ii (cnA d sm i), ii (1 + (i : Int)))) (fun _ => h) k (fun i hi => by
      unfold f_X1_addUp_L4
      simp only []
      rw [if_neg (hgo i hi), show (1 : Int32) = ii 1 from rfl, ii_sub, cn_innerX h hd ⟨by omega, by omega⟩ hsm]
      simp only [Option.bind_some, ii_add, cnA]
      rw [show (1 + (i : Int)).toNat = i + 1 by omega, show (1 : Int) + (i : Int) = (i : Int) + 1 by omega]
      simp [Int.add_comm, Int.add_left_comm, Int.add_assoc]) (t := (ii (cnA d sm k), ii (1 + (k : Int)))) (h1 := h) (by
      unfold f_X1_addUp_L4
      simp only []
      rw [if_pos hend]) (jF_big (by omega))
    unfold f_X1_addUp
    have key' : jloop (f_X1_addUp_L4 (ii d) (ii sm)) jF ((0 : Int32), (1 : Int32)) h = some ((ii (cnA d sm k), ii (1 + (k : Int))), h) := key
    rw [key']
    rfl
  · have key := jloop_run (f := f_X12_counts_L4 (ii d) (ii (1 - sm))) (fun i => (ii (cnA d sm i), ii (1 + (i : Int)))) (fun _ => h) k (fun i hi => by
      unfold f_X12_counts_L4
      simp only []
      rw [if_neg (hgo i hi), show (1 : Int32) = ii 1 from rfl, ii_sub, cn_innerM h hd ⟨by omega, by omega⟩ hsm]
      simp only [Option.bind_some, ii_add, cnA]
      rw [show (1 + (i : Int)).toNat = i + 1 by omega, show (1 : Int) + (i : Int) = (i : Int) + 1 by omega]
      simp [Int.add_comm, Int.add_left_comm, Int.add_assoc]) (t := (ii (cnA d sm k), ii (1 + (k : Int)))) (h1 := h) (by
      unfold f_X12_counts_L4
      simp only []
      rw [if_pos hend]) (jF_big (by omega))
    unfold f_X12_counts
    have key' : jloop (f_X12_counts_L4 (ii d) (ii (1 - sm))) jF ((0 : Int32), (1 : Int32)) h = some ((ii (cnA d sm k), ii (1 + (k : Int))), h) := key
    rw [key']
    rfl
theorem cnT_r (d sm a b : Int) : 0 ≤ cnT d sm a b ∧ cnT d sm a b ≤ 12 := by
  unfold cnT cnTw
  repeat' split
  all_goals omega
theorem cnB_r (d sm a : Int) (i : Nat) : 0 ≤ cnB d sm a i ∧ cnB d sm a i ≤ 12 * i := by
  induction i with
  | zero => simp [cnB]
  | succ i ih =>
    have := cnT_r d sm a (1 - a + i)
    simp only [cnB]
    omega
theorem cnA_r (d sm : Int) (k : Nat) (hk : k ≤ 26) : 0 ≤ cnA d sm k ∧ cnA d sm k ≤ 624 * k := by
  induction k with
  | zero => simp [cnA]
  | succ k ih =>
    have h1 := ih (by omega)
    have h2 := cnB_r d sm (k + 1) (2 * (k + 1))
    simp only [cnA]
    omega
/-- is d one of those numbers -/
def cnD (d : Int) : Bool := decide (1 ≤ d ∧ d ≤ 2000 ∧ (d % 4 = 0 ∨ d % 4 = 3))
def cnW (d : Int) : Int := if d = 0 then -1 else if cnD d then cnA d 0 (kO d 26) else 0
def cnS (d : Int) : Int := if cnD d then cnA d 1 (kO d 26) else 0
theorem cnW_r (d : Int) : -1 ≤ cnW d ∧ cnW d ≤ 20000 := by
  unfold cnW
  split
  · omega
  · split
    · rename_i h
      have hd := of_decide_eq_true h
      have hk := (cn_k ⟨hd.1, hd.2.1⟩).1
      have := cnA_r d 0 (kO d 26) hk
      omega
    · omega
theorem cn_disc (h : JH) {d : Int} (hd : r31 d) : f_X1_isDiscriminant (ii d) h = some (if cnD d then 1 else 0, h) ∧ f_X12_isDisc (ii d) h = some (if cnD d then 1 else 0, h) := by
  have e1 : ii d < (1 : Int32) ↔ d < 1 := ii_lt (b := 1) hd (by decide)
  have e2 : (2000 : Int32) < ii d ↔ 2000 < d := ii_lt (a := 2000) (by decide) hd
  have e1' : ii d ≤ (2000 : Int32) ↔ d ≤ 2000 := ii_le (b := 2000) hd (by decide)
  have e2' : (1 : Int32) ≤ ii d ↔ 1 ≤ d := ii_le (a := 1) (by decide) hd
  have e3 : jrem (ii d) (4 : Int32) = ii (d.tmod 4) := ii_rem (b := 4) hd (by decide) (by decide)
  have ht := tmod_r d (p := 4) (by decide)
  have e4 : ii (d.tmod 4) = (0 : Int32) ↔ d.tmod 4 = 0 := ii_eq (b := 0) (r31_of (by omega) (by omega)) (by decide)
  have e5 : ii (d.tmod 4) = (3 : Int32) ↔ d.tmod 4 = 3 := ii_eq (b := 3) (r31_of (by omega) (by omega)) (by decide)
  unfold f_X1_isDiscriminant f_X12_isDisc f_X12_within cnD
  simp only [e1, e2, e3, e4, e5, e1', e2']
  by_cases q1 : d < 1
  · have q2 : ¬ 1 ≤ d := by omega
    simp [q1, q2]
  · have q2 : 1 ≤ d := by omega
    have q3 : d.tmod 4 = d % 4 := Int.tmod_eq_emod_of_nonneg (by omega)
    by_cases q4 : d ≤ 2000
    · have q5 : ¬ 2000 < d := by omega
      by_cases q6 : d % 4 = 0
      · simp [q1, q2, q3, q4, q5, q6]
      · by_cases q7 : d % 4 = 3
        · simp [q1, q2, q3, q4, q5, q7]
        · simp [q1, q2, q3, q4, q5, q6, q7]
    · have q5 : 2000 < d := by omega
      simp [q1, q2, q4, q5]
theorem cn_whole (h : JH) {d : Int} (hd : r31 d) : f_X1_inTwelfths (ii d) h = some (ii (cnW d), h) ∧ f_X12_wholeOf (ii d) h = some (ii (cnW d), h) := by
  have e0 : ii d = (0 : Int32) ↔ d = 0 := ii_eq (b := 0) hd (by decide)
  obtain ⟨h1, h2⟩ := cn_disc h hd
  unfold f_X1_inTwelfths f_X12_wholeOf cnW
  rw [h1, h2]
  simp only [e0, Option.bind_some]
  by_cases q0 : d = 0
  · simp only [q0, if_true]; exact ⟨rfl, rfl⟩
  · by_cases q1 : cnD d = true
    · have hd2 := of_decide_eq_true q1
      obtain ⟨k1, k2⟩ := cn_both h (d := d) ⟨hd2.1, hd2.2.1⟩ (sm := 0) (Or.inl rfl)
      have k1' : f_X1_addUp (ii d) (0 : Int32) h = some (ii (cnA d 0 (kO d 26)), h) := k1
      have k2' : f_X12_counts (ii d) (1 : Int32) h = some (ii (cnA d 0 (kO d 26)), h) := k2
      simp [q0, q1, k1', k2']
    · simp [q0, q1]; rfl
theorem cn_small (h : JH) {d : Int} (hd : r31 d) : f_X1_ofNothingInCommon (ii d) h = some (ii (cnS d), h) := by
  obtain ⟨h1, h2⟩ := cn_disc h hd
  unfold f_X1_ofNothingInCommon cnS
  rw [h1]
  simp only [Option.bind_some]
  by_cases q1 : cnD d = true
  · have hd2 := of_decide_eq_true q1
    obtain ⟨k1, k2⟩ := cn_both h (d := d) ⟨hd2.1, hd2.2.1⟩ (sm := 1) (Or.inr rfl)
    have k1' : f_X1_addUp (ii d) (1 : Int32) h = some (ii (cnA d 1 (kO d 26)), h) := k1
    simp [q1, k1']
  · simp [q1]; rfl
theorem cn_counts0 (h : JH) {d : Int} (q1 : cnD d = true) : f_X12_counts (ii d) (0 : Int32) h = some (ii (cnA d 1 (kO d 26)), h) := by
  have hd2 := of_decide_eq_true q1
  exact (cn_both h (d := d) ⟨hd2.1, hd2.2.1⟩ (sm := 1) (Or.inr rfl)).2
