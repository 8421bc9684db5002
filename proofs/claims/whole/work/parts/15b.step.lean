/-! The law: one round. Made by tools/gen15b.py. -/
/-- what the law looks at: the script, the two objects -/
def CEL (b a0 L : Nat) (xs : Nat → Int32) (h : JH) : Prop := a0 < b ∧ b + 286 < h.2.1.1 ∧ h.1 a0 = some (.inr (.inr (L, xs))) ∧ (∃ fs, h.1 b = some (.inr (.inl (8, fs)))) ∧ ∃ fs, h.1 (b + 286) = some (.inr (.inl (9, fs)))
theorem CEL_rk {b a0 L : Nat} {xs : Nat → Int32} {h h1 : JH} (c : CEL b a0 L xs h) (k : j_rk h h1) : CEL b a0 L xs h1 := by
  obtain ⟨c1, c2, c3, ⟨f8, c4⟩, f9, c5⟩ := c
  exact ⟨c1, Nat.lt_of_lt_of_le c2 k.1, (k.2 a0 (by omega)).1 _ c3, (k.2 b (by omega)).2 8 f8 c4, (k.2 (b + 286) (by omega)).2 9 f9 c5⟩
theorem CEL_8 {b a0 L : Nat} {xs : Nat → Int32} {h : JH} (c : CEL b a0 L xs h) : jrecv h b 8 = some () := by
  obtain ⟨-, -, -, ⟨fs, e⟩, -⟩ := c
  unfold jrecv jobj
  rw [e]
  rfl
theorem CEL_9 {b a0 L : Nat} {xs : Nat → Int32} {h : JH} (c : CEL b a0 L xs h) : jrecv h (b + 286) 9 = some () := by
  obtain ⟨-, -, -, -, fs, e⟩ := c
  unfold jrecv jobj
  rw [e]
  rfl
theorem CEL_I {b a0 L : Nat} {xs : Nat → Int32} {h : JH} (c : CEL b a0 L xs h) {k : Nat} (hk : k < L) (hL : L < 100000) : jaI h a0 (ii (k : Int)) = some (xs k) := by
  unfold jaI
  rw [c.2.2.1]
  simp only [jin_z (z := (k : Int)) rfl hk (by omega), nat_z (z := (k : Int)) rfl (show k < 2147483648 by omega), if_true]
def RDS (b a0 : Nat) (z v1 v2 v3 v4 v5 : Int32) (h : JH) : Prop := jaI h a0 (z + (1 : Int32)) = some v1 ∧ jaI h a0 (z + (2 : Int32)) = some v2 ∧ jaI h a0 (z + (3 : Int32)) = some v3 ∧ jaI h a0 (z + (4 : Int32)) = some v4 ∧ jaI h a0 (z + (5 : Int32)) = some v5 ∧ jrecv h b 8 = some () ∧ jrecv h (b + 286) 9 = some ()
theorem RDS_of {b a0 L : Nat} {xs : Nat → Int32} {h : JH} (c : CEL b a0 L xs h) {i : Nat} (hi : i + 6 ≤ L) (hL : L < 100000) : RDS b a0 (ii (i : Int)) (xs (i + 1)) (xs (i + 2)) (xs (i + 3)) (xs (i + 4)) (xs (i + 5)) h :=
  ⟨by rw [k1, n_add]; exact CEL_I c (by omega) hL, by rw [k2, n_add]; exact CEL_I c (by omega) hL, by rw [k3, n_add]; exact CEL_I c (by omega) hL, by rw [k4, n_add]; exact CEL_I c (by omega) hL, by rw [k5, n_add]; exact CEL_I c (by omega) hL, CEL_8 c, CEL_9 c⟩
theorem lg_self (x : Int64) : lg_cmp x x = (0 : Int32) := by
  unfold lg_cmp
  rw [if_neg (show ¬ (x > x) from Int64.lt_irrefl), if_pos rfl]
section law
variable {b : Nat} {S0 : SS} {A0 : ZA} {cc : Nat → Nat} {e a0 L : Nat}
theorem IH_e {h : JH} (hI : IH b S0 A0 cc e h) : IH b S0 A0 cc (e + 1) h := by
  obtain ⟨S, A, B, c, p, bs, nb, r, h1, d1, d2, d3, d4⟩ := hI
  exact ⟨S, A, B, c, p, bs, nb, r, h1, d1, d2, ⟨Nat.le_trans d3.1 (by omega), Nat.le_trans d3.2 (by omega)⟩, d4⟩
theorem CEL_IH {h : JH} (hI : IH b S0 A0 cc e h) (ha : a0 < b) (hs : S0 a0 = some (.inr (.inr (.inr L)))) : CEL b a0 L (fun k => ii (A0 a0 k)) h := by
  obtain ⟨S, A, B, c, p, bs, nb, rfl, h1, d1, d2, d3, d4, d5, d6, d7⟩ := hI
  obtain ⟨x1, x2⟩ := d6 a0 ha
  refine ⟨ha, Nat.lt_of_lt_of_le (show b + 286 < b + 321 by omega) d2.2.2, ?_, ⟨mfs (fun k => ii (A b k)) 13 (rfo xoX b), ?_⟩, mfs (fun k => ii (A (b + 286) k)) 51 (rM (b + 286)), ?_⟩
  · show (S a0).map (mc (fun k => ii (A a0 k)) (fun k => ll (B a0 k))) = _
    rw [x1, hs, x2]
    rfl
  · show (S b).map (mc (fun k => ii (A b k)) (fun k => ll (B b k))) = _
    rw [L_oX d1]
    rfl
  · show (S (b + 286)).map (mc (fun k => ii (A (b + 286) k)) (fun k => ll (B (b + 286) k))) = _
    rw [(L_mod d1).1]
    rfl
set_option maxHeartbeats 4000000 in
theorem law_step (hK : KN0 S0 A0 cc b) (ha : a0 < b) (hs : S0 a0 = some (.inr (.inr (.inr L)))) {i : Nat} (hi : i + 6 ≤ L) (hL : L < 100000) {h : JH} (hI : IH b S0 A0 cc e h) : ∃ h', f_L_law_L23 a0 b (b + 286) (b + 320) (ii (i : Int)) h = some (.inl (ii (i : Int) + (6 : Int32)), h') ∧ IH b S0 A0 cc (e + 1) h' := by
  have C := CEL_IH hI ha hs
  have p0 := CEL_I C (show i < L by omega) hL
  have pl : jal h a0 = some (Int32.ofNat L) := by
    unfold jal
    rw [C.2.2.1]
  have go : ∀ h1, j_rk h h1 → RDS b a0 (ii (i : Int)) (ii (A0 a0 (i + 1))) (ii (A0 a0 (i + 2))) (ii (A0 a0 (i + 3))) (ii (A0 a0 (i + 4))) (ii (A0 a0 (i + 5))) h1 := fun h1 k => RDS_of (CEL_rk C k) hi hL
  have ln : ¬ ((Int32.ofNat L) - (6 : Int32) < ii (i : Int)) := by
    rw [show Int32.ofNat L = ii (L : Int) from nI_ii L, k6, n_sub (by omega), n_lt (by omega) (by omega)]
    omega
  generalize ii (A0 a0 (i + 1)) = v1 at go
  generalize ii (A0 a0 (i + 2)) = v2 at go
  generalize ii (A0 a0 (i + 3)) = v3 at go
  generalize ii (A0 a0 (i + 4)) = v4 at go
  generalize ii (A0 a0 (i + 5)) = v5 at go
  generalize ii (i : Int) = z at go p0 ln ⊢
  obtain ⟨p1, p2, p3, p4, p5, p8, p9⟩ := go h (j_rk_refl h)
  have g9 : ∀ e h2, IH b S0 A0 cc e h2 → jrecv h2 (b + 286) 9 = some () := fun e h2 hI2 => CEL_9 (CEL_IH hI2 ha hs)
  unfold f_L_law_L23
  rw [pl]
  simp only [Option.bind_some]
  rw [if_neg ln, p0]
  simp only [Option.bind_some]
  generalize ii (A0 a0 i) = v0
  by_cases c0 : v0 &&& (31 : Int32) = (0 : Int32)
  · rw [if_pos c0]
    obtain ⟨r, h1, h2, e1, e2, hI2⟩ := op_feed v1 v2 v3 v4 v5 h hI
    obtain ⟨q1, q2, q3, q4, q5, q8, q9⟩ := go h1 (rk_X11_feed e1)
    simp only [p1, p2, p3, p4, p5, p8, e1, q1, q2, q3, q4, q5, q9, e2, Option.bind_some, eq_self, ↓reduceIte]
    exact ⟨h2, rfl, IH_e hI2⟩
  rw [if_neg c0]
  by_cases c1 : v0 &&& (31 : Int32) = (1 : Int32)
  · rw [if_pos c1]
    obtain ⟨r, h1, h2, e1, e2, hI2⟩ := op_book hK v1 h hI
    obtain ⟨q1, q2, q3, q4, q5, q8, q9⟩ := go h1 (rk_X11_book e1)
    simp only [p1, p2, p3, p4, p5, p8, e1, q1, q2, q3, q4, q5, q9, e2, Option.bind_some, eq_self, ↓reduceIte]
    exact ⟨h2, rfl, IH_e hI2⟩
  rw [if_neg c1]
  by_cases c2 : v0 &&& (31 : Int32) = (2 : Int32)
  · rw [if_pos c2]
    obtain ⟨r, h1, h2, e1, e2, hI2⟩ := op_count v1 h hI
    obtain ⟨q1, q2, q3, q4, q5, q8, q9⟩ := go h1 (rk_X11_count e1)
    simp only [p1, p2, p3, p4, p5, p8, e1, q1, q2, q3, q4, q5, q9, e2, Option.bind_some, eq_self, ↓reduceIte]
    exact ⟨h2, rfl, IH_e hI2⟩
  rw [if_neg c2]
  by_cases c3 : v0 &&& (31 : Int32) = (3 : Int32)
  · rw [if_pos c3]
    obtain ⟨r, h1, h2, e1, e2, hI2⟩ := op_let v1 v2 h hI
    obtain ⟨q1, q2, q3, q4, q5, q8, q9⟩ := go h1 (rk_X11_let e1)
    simp only [p1, p2, p3, p4, p5, p8, e1, q1, q2, q3, q4, q5, q9, e2, Option.bind_some, eq_self, ↓reduceIte]
    exact ⟨h2, rfl, IH_e hI2⟩
  rw [if_neg c3]
  by_cases c4 : v0 &&& (31 : Int32) = (4 : Int32)
  · rw [if_pos c4]
    obtain ⟨r, h1, h2, e1, e2, hI2⟩ := op_coefficient v1 v2 h hI
    obtain ⟨q1, q2, q3, q4, q5, q8, q9⟩ := go h1 (rk_X11_coefficient e1)
    simp only [p1, p2, p3, p4, p5, p8, e1, q1, q2, q3, q4, q5, q9, e2, Option.bind_some, eq_self, ↓reduceIte]
    exact ⟨h2, rfl, IH_e hI2⟩
  rw [if_neg c4]
  by_cases c5 : v0 &&& (31 : Int32) = (5 : Int32)
  · rw [if_pos c5]
    obtain ⟨r, h1, h2, e1, e2, hI2⟩ := op_weight v1 h hI
    obtain ⟨q1, q2, q3, q4, q5, q8, q9⟩ := go h1 (rk_X11_weight e1)
    simp only [p1, p2, p3, p4, p5, p8, e1, q1, q2, q3, q4, q5, q9, e2, Option.bind_some, eq_self, ↓reduceIte]
    exact ⟨h2, rfl, IH_e hI2⟩
  rw [if_neg c5]
  by_cases c6 : v0 &&& (31 : Int32) = (6 : Int32)
  · rw [if_pos c6]
    by_cases w : v2 = (0 : Int32)
    · subst w
      obtain ⟨r, h1, h2, e1, e2, hI2⟩ := op_makes v1 (0 : Int32) h hI
      obtain ⟨q1, q2, q3, q4, q5, q8, q9⟩ := go h1 (rk_X11_makes e1)
      simp only [p1, p2, p3, p4, p5, p8, e1, q1, q2, q3, q4, q5, q9, e2, Option.bind_some, eq_self, ↓reduceIte]
      exact ⟨h2, rfl, IH_e hI2⟩
    · skip
      obtain ⟨r, h1, h2, e1, e2, hI2⟩ := op_makes v1 (1 : Int32) h hI
      obtain ⟨q1, q2, q3, q4, q5, q8, q9⟩ := go h1 (rk_X11_makes e1)
      simp only [p1, p2, p3, p4, p5, p8, e1, q1, q2, q3, q4, q5, q9, e2, Option.bind_some, eq_self, ↓reduceIte, w]
      exact ⟨h2, rfl, IH_e hI2⟩
  rw [if_neg c6]
  by_cases c7 : v0 &&& (31 : Int32) = (7 : Int32)
  · rw [if_pos c7]
    obtain ⟨k, h1, r, h2, e1, e2, e3, e4, hI2⟩ := op_whole v1 h hI
    obtain ⟨q1, q2, q3, q4, q5, q8, q9⟩ := go h1 (rk_L_whole e1)
    have q9' := g9 _ h2 hI2
    simp only [p1, p2, p3, e1, q1, q2, q3, q9, e2, q9', e3, Option.bind_some, eq_self, ↓reduceIte]
    by_cases w : k = (0 : Int32)
    · obtain ⟨x, x1, x2⟩ := e4 w
      have x1' : jaJ h2 (b + 320) (0 : Int32) = some x := x1
      simp only [w, x1', x2, Option.bind_some, eq_self, ↓reduceIte]
      exact ⟨h2, rfl, hI2⟩
    · simp only [w, ↓reduceIte]
      exact ⟨h2, rfl, hI2⟩
  rw [if_neg c7]
  by_cases c8 : v0 &&& (31 : Int32) = (8 : Int32)
  · rw [if_pos c8]
    obtain ⟨r, h1, h2, e1, e2, hI2⟩ := op_small v1 h hI
    obtain ⟨q1, q2, q3, q4, q5, q8, q9⟩ := go h1 (rk_X11_small e1)
    simp only [p1, p2, p3, p4, p5, p8, e1, q1, q2, q3, q4, q5, q9, e2, Option.bind_some, eq_self, ↓reduceIte]
    exact ⟨h2, rfl, IH_e hI2⟩
  rw [if_neg c8]
  by_cases c9 : v0 &&& (31 : Int32) = (9 : Int32)
  · rw [if_pos c9]
    obtain ⟨r, h1, h2, e1, e2, hI2⟩ := op_trace v1 v2 h hI
    obtain ⟨q1, q2, q3, q4, q5, q8, q9⟩ := go h1 (rk_X11_trace e1)
    simp only [p1, p2, p3, p4, p5, p8, e1, q1, q2, q3, q4, q5, q9, e2, Option.bind_some, eq_self, ↓reduceIte, lg_self]
    exact ⟨h2, rfl, IH_e hI2⟩
  rw [if_neg c9]
  by_cases c10 : v0 &&& (31 : Int32) = (10 : Int32)
  · rw [if_pos c10]
    obtain ⟨r, h1, h2, e1, e2, hI2⟩ := op_traceLeft v1 v2 h hI
    obtain ⟨q1, q2, q3, q4, q5, q8, q9⟩ := go h1 (rk_X11_traceLeft e1)
    simp only [p1, p2, p3, p4, p5, p8, e1, q1, q2, q3, q4, q5, q9, e2, Option.bind_some, eq_self, ↓reduceIte]
    exact ⟨h2, rfl, IH_e hI2⟩
  rw [if_neg c10]
  by_cases c11 : v0 &&& (31 : Int32) = (11 : Int32)
  · rw [if_pos c11]
    obtain ⟨r, h1, h2, e1, e2, hI2⟩ := op_share v1 v2 h hI
    obtain ⟨q1, q2, q3, q4, q5, q8, q9⟩ := go h1 (rk_X11_share e1)
    simp only [p1, p2, p3, p4, p5, p8, e1, q1, q2, q3, q4, q5, q9, e2, Option.bind_some, eq_self, ↓reduceIte]
    exact ⟨h2, rfl, IH_e hI2⟩
  rw [if_neg c11]
  by_cases c12 : v0 &&& (31 : Int32) = (12 : Int32)
  · rw [if_pos c12]
    obtain ⟨r, h1, h2, e1, e2, hI2⟩ := op_take v1 v2 h hI
    obtain ⟨q1, q2, q3, q4, q5, q8, q9⟩ := go h1 (rk_X11_take e1)
    simp only [p1, p2, p3, p4, p5, p8, e1, q1, q2, q3, q4, q5, q9, e2, Option.bind_some, eq_self, ↓reduceIte]
    exact ⟨h2, rfl, IH_e hI2⟩
  rw [if_neg c12]
  by_cases c13 : v0 &&& (31 : Int32) = (13 : Int32)
  · rw [if_pos c13]
    obtain ⟨r, h1, h2, e1, e2, hI2⟩ := op_plus v1 v2 v3 h hI
    obtain ⟨q1, q2, q3, q4, q5, q8, q9⟩ := go h1 (rk_X11_plus e1)
    simp only [p1, p2, p3, p4, p5, p8, e1, q1, q2, q3, q4, q5, q9, e2, Option.bind_some, eq_self, ↓reduceIte]
    exact ⟨h2, rfl, IH_e hI2⟩
  rw [if_neg c13]
  by_cases c14 : v0 &&& (31 : Int32) = (14 : Int32)
  · rw [if_pos c14]
    obtain ⟨r, h1, h2, e1, e2, hI2⟩ := op_times v1 v2 h hI
    obtain ⟨q1, q2, q3, q4, q5, q8, q9⟩ := go h1 (rk_X11_times e1)
    simp only [p1, p2, p3, p4, p5, p8, e1, q1, q2, q3, q4, q5, q9, e2, Option.bind_some, eq_self, ↓reduceIte]
    exact ⟨h2, rfl, IH_e hI2⟩
  rw [if_neg c14]
  by_cases c15 : v0 &&& (31 : Int32) = (15 : Int32)
  · rw [if_pos c15]
    obtain ⟨r, h1, h2, e1, e2, hI2⟩ := op_hecke v1 v2 h hI
    obtain ⟨q1, q2, q3, q4, q5, q8, q9⟩ := go h1 (rk_X11_hecke e1)
    simp only [p1, p2, p3, p4, p5, p8, e1, q1, q2, q3, q4, q5, q9, e2, Option.bind_some, eq_self, ↓reduceIte]
    exact ⟨h2, rfl, IH_e hI2⟩
  rw [if_neg c15]
  by_cases c16 : v0 &&& (31 : Int32) = (16 : Int32)
  · rw [if_pos c16]
    obtain ⟨r, h1, h2, e1, e2, hI2⟩ := op_multiplies v1 v2 h hI
    obtain ⟨q1, q2, q3, q4, q5, q8, q9⟩ := go h1 (rk_X11_multiplies e1)
    simp only [p1, p2, p3, p4, p5, p8, e1, q1, q2, q3, q4, q5, q9, e2, Option.bind_some, eq_self, ↓reduceIte]
    exact ⟨h2, rfl, IH_e hI2⟩
  rw [if_neg c16]
  by_cases c17 : v0 &&& (31 : Int32) = (17 : Int32)
  · rw [if_pos c17]
    obtain ⟨r, h1, h2, e1, e2, hI2⟩ := op_alike v1 v2 v3 h hI
    obtain ⟨q1, q2, q3, q4, q5, q8, q9⟩ := go h1 (rk_X11_alike e1)
    simp only [p1, p2, p3, p4, p5, p8, e1, q1, q2, q3, q4, q5, q9, e2, Option.bind_some, eq_self, ↓reduceIte]
    exact ⟨h2, rfl, IH_e hI2⟩
  rw [if_neg c17]
  by_cases c18 : v0 &&& (31 : Int32) = (18 : Int32)
  · rw [if_pos c18]
    obtain ⟨r, h1, h2, e1, e2, hI2⟩ := op_parts v1 v2 h hI
    obtain ⟨q1, q2, q3, q4, q5, q8, q9⟩ := go h1 (rk_X11_parts e1)
    simp only [p1, p2, p3, p4, p5, p8, e1, q1, q2, q3, q4, q5, q9, e2, Option.bind_some, eq_self, ↓reduceIte]
    exact ⟨h2, rfl, IH_e hI2⟩
  rw [if_neg c18]
  by_cases c19 : v0 &&& (31 : Int32) = (19 : Int32)
  · rw [if_pos c19]
    obtain ⟨r, h1, h2, e1, e2, hI2⟩ := op_table v1 v2 v3 v4 h hI
    obtain ⟨q1, q2, q3, q4, q5, q8, q9⟩ := go h1 (rk_X11_table e1)
    simp only [p1, p2, p3, p4, p5, p8, e1, q1, q2, q3, q4, q5, q9, e2, Option.bind_some, eq_self, ↓reduceIte]
    exact ⟨h2, rfl, IH_e hI2⟩
  rw [if_neg c19]
  by_cases c20 : v0 &&& (31 : Int32) = (20 : Int32)
  · rw [if_pos c20]
    obtain ⟨r, h1, h2, e1, e2, hI2⟩ := op_polynomial v1 v2 v3 h hI
    obtain ⟨q1, q2, q3, q4, q5, q8, q9⟩ := go h1 (rk_X11_polynomial e1)
    simp only [p1, p2, p3, p4, p5, p8, e1, q1, q2, q3, q4, q5, q9, e2, Option.bind_some, eq_self, ↓reduceIte]
    exact ⟨h2, rfl, IH_e hI2⟩
  rw [if_neg c20]
  by_cases c21 : v0 &&& (31 : Int32) = (21 : Int32)
  · rw [if_pos c21]
    obtain ⟨r, h1, h2, e1, e2, hI2⟩ := op_root v1 v2 h hI
    obtain ⟨q1, q2, q3, q4, q5, q8, q9⟩ := go h1 (rk_X11_root e1)
    simp only [p1, p2, p3, p4, p5, p8, e1, q1, q2, q3, q4, q5, q9, e2, Option.bind_some, eq_self, ↓reduceIte]
    exact ⟨h2, rfl, IH_e hI2⟩
  rw [if_neg c21]
  by_cases c22 : v0 &&& (31 : Int32) = (22 : Int32)
  · rw [if_pos c22]
    obtain ⟨r, h1, h2, e1, e2, hI2⟩ := op_own v1 v2 v3 h hI
    obtain ⟨q1, q2, q3, q4, q5, q8, q9⟩ := go h1 (rk_X11_own e1)
    simp only [p1, p2, p3, p4, p5, p8, e1, q1, q2, q3, q4, q5, q9, e2, Option.bind_some, eq_self, ↓reduceIte]
    exact ⟨h2, rfl, IH_e hI2⟩
  rw [if_neg c22]
  by_cases c23 : v0 &&& (31 : Int32) = (23 : Int32)
  · rw [if_pos c23]
    by_cases w : v3 = (0 : Int32)
    · subst w
      obtain ⟨r, h1, h2, e1, e2, hI2⟩ := op_put v1 v2 0 (by omega) v4 h hI
      have e1 : f_X11_put b v1 v2 (0 : Int32) v4 h = some (r, h1) := e1
      have e2 : f_X12_put (b + 286) v1 v2 (0 : Int32) v4 h1 = some (r, h2) := e2
      obtain ⟨q1, q2, q3, q4, q5, q8, q9⟩ := go h1 (rk_X11_put e1)
      simp only [p1, p2, p3, p4, p5, p8, e1, q1, q2, q3, q4, q5, q9, e2, Option.bind_some, eq_self, ↓reduceIte]
      exact ⟨h2, rfl, IH_e hI2⟩
    · skip
      obtain ⟨r, h1, h2, e1, e2, hI2⟩ := op_put v1 v2 1 (by omega) v4 h hI
      have e1 : f_X11_put b v1 v2 (1 : Int32) v4 h = some (r, h1) := e1
      have e2 : f_X12_put (b + 286) v1 v2 (1 : Int32) v4 h1 = some (r, h2) := e2
      obtain ⟨q1, q2, q3, q4, q5, q8, q9⟩ := go h1 (rk_X11_put e1)
      simp only [p1, p2, p3, p4, p5, p8, e1, q1, q2, q3, q4, q5, q9, e2, Option.bind_some, eq_self, ↓reduceIte, w]
      exact ⟨h2, rfl, IH_e hI2⟩
  rw [if_neg c23]
  by_cases c24 : v0 &&& (31 : Int32) = (24 : Int32)
  · rw [if_pos c24]
    obtain ⟨k, h1, r, h2, e1, e2, e3, e4, hI2⟩ := op_row v1 v2 v3 h hI
    obtain ⟨q1, q2, q3, q4, q5, q8, q9⟩ := go h1 (rk_L_row e1)
    have q9' := g9 _ h2 hI2
    simp only [p1, p2, p3, e1, q1, q2, q3, q9, e2, q9', e3, Option.bind_some, eq_self, ↓reduceIte]
    by_cases w : k = (0 : Int32)
    · obtain ⟨x, x1, x2⟩ := e4 w
      have x1' : jaJ h2 (b + 320) (0 : Int32) = some x := x1
      simp only [w, x1', x2, Option.bind_some, eq_self, ↓reduceIte]
      exact ⟨h2, rfl, hI2⟩
    · simp only [w, ↓reduceIte]
      exact ⟨h2, rfl, hI2⟩
  rw [if_neg c24]
  by_cases c25 : v0 &&& (31 : Int32) = (25 : Int32)
  · rw [if_pos c25]
    obtain ⟨r, h1, h2, e1, e2, hI2⟩ := op_swap  h hI
    obtain ⟨q1, q2, q3, q4, q5, q8, q9⟩ := go h1 (rk_X11_swap e1)
    simp only [p1, p2, p3, p4, p5, p8, e1, q1, q2, q3, q4, q5, q9, e2, Option.bind_some, eq_self, ↓reduceIte]
    exact ⟨h2, rfl, IH_e hI2⟩
  rw [if_neg c25]
  by_cases c26 : v0 &&& (31 : Int32) = (26 : Int32)
  · rw [if_pos c26]
    by_cases w : v2 = (0 : Int32)
    · subst w
      obtain ⟨r, h1, h2, e1, e2, hI2⟩ := op_image v1 0 (by omega) h hI
      have e1 : f_X11_image b v1 (0 : Int32) h = some (r, h1) := e1
      have e2 : f_X12_image (b + 286) v1 (0 : Int32) h1 = some (r, h2) := e2
      obtain ⟨q1, q2, q3, q4, q5, q8, q9⟩ := go h1 (rk_X11_image e1)
      simp only [p1, p2, p3, p4, p5, p8, e1, q1, q2, q3, q4, q5, q9, e2, Option.bind_some, eq_self, ↓reduceIte]
      exact ⟨h2, rfl, IH_e hI2⟩
    · skip
      obtain ⟨r, h1, h2, e1, e2, hI2⟩ := op_image v1 1 (by omega) h hI
      have e1 : f_X11_image b v1 (1 : Int32) h = some (r, h1) := e1
      have e2 : f_X12_image (b + 286) v1 (1 : Int32) h1 = some (r, h2) := e2
      obtain ⟨q1, q2, q3, q4, q5, q8, q9⟩ := go h1 (rk_X11_image e1)
      simp only [p1, p2, p3, p4, p5, p8, e1, q1, q2, q3, q4, q5, q9, e2, Option.bind_some, eq_self, ↓reduceIte, w]
      exact ⟨h2, rfl, IH_e hI2⟩
  rw [if_neg c26]
  exact ⟨h, rfl, IH_e hI⟩
end law
