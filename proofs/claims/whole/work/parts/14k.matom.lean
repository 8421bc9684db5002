/-! The reference reads an atom, a power. -/
/-- the reference stands at q, in d brackets, with t on its stack -/
def ST (A : ZA) (m : Nat) (T : Nat → Int) (n q d t : Nat) : Prop := TM A m T n q ∧ A m 18 = 0 ∧ A m 30 = (d : Int) ∧ A m 27 = (t : Int)
def RM (A : ZA) (m : Nat) (T : Nat → Int) (n d t : Nat) (r : PRs) : Prop := Sum.elim (fun (g : Nat) => A m 18 = (g : Int)) (fun s => ST A m T n s.1 d (t + 1) ∧ A (m + 16) t = ((s.2.1 : Nat) : Int) ∧ ∀ k, k < 181 → A (m + 17) (181 * t + k) = s.2.2 k) r
def MOK (S : SS) (B : ZA) (c : (Nat × Nat) × (Nat → Nat)) (m : Nat) (T : Nat → Int) (n : Nat) (r : PRs) (A : ZA) (d t : Nat) (res : Option (Int32 × JH)) : Prop := ∃ A' : ZA, res = some (ii ((rb r : Nat) : Int), mz S A' B c) ∧ MF m A A' t ∧ RM A' m T n d t r
def MRec (S : SS) (B : ZA) (c : (Nat × Nat) × (Nat → Nat)) (m : Nat) (T : Nat → Int) (n : Nat) (p : Int) (nl : Nat) (L : LT) (re : Nat → JH → Option (Int32 × JH)) (rc : Nat → Nat → PRs) (d : Nat) : Prop :=
  ∀ (A : ZA) (q t : Nat), MS A m T n p nl L → ST A m T n q d t → q ≤ n → tok T n q → t ≤ 2 * d → MOK S B c m T n (rc d q) A d t (re m (mz S A B c))
section rd
variable {S : SS} {A B : ZA} {c : (Nat × Nat) × (Nat → Nat)} {m n nl : Nat} {T : Nat → Int} {p : Int} {L : LT} {q d t : Nat} {re : Nat → JH → Option (Int32 × JH)} {rc : Nat → Nat → PRs}
theorem MOK_fail {g : Nat} {res : Option (Int32 × JH)} (h : res = some (ii ((0 : Nat) : Int), mz S (za A m (up (A m) 18 ((g : Nat) : Int))) B c)) : MOK S B c m T n (.inl g) A d t res :=
  ⟨_, h, MF_up (by omega), by show za A m (up (A m) 18 ((g : Nat) : Int)) m 18 = _; rw [za_at, up_at]⟩
theorem MOK_from {A1 : ZA} {r : PRs} {res : Option (Int32 × JH)} (h1 : MF m A A1 t) (h : MOK S B c m T n r A1 d t res) : MOK S B c m T n r A d t res := by
  obtain ⟨A', e, f1, f2⟩ := h
  exact ⟨A', e, MF_trans h1 f1 (Nat.le_refl _), f2⟩
theorem m_next (hM : LM S m) (hB : MB A m T n) (hT : TM A m T n q) (hq : q < n) : ∃ A' : ZA, f_X12_go m (mz S A B c) = some ((), mz S A' B c) ∧ TM A' m T n (nxt T n q) ∧ (∀ x, x ≠ m → A' x = A x) ∧ (∀ k, ¬ (14 ≤ k ∧ k ≤ 17) → A' m k = A m k) := m_go hM hB (ten_ok hq).2.1 hT.2.1
theorem TM_of {A' : ZA} (h : TM A m T n q) (h1 : ∀ k, 14 ≤ k ∧ k ≤ 17 → A' m k = A m k) : TM A' m T n q := by
  unfold TM
  rw [h1 14 (by omega), h1 15 (by omega), h1 16 (by omega), h1 17 (by omega)]
  exact h
/-- what was pushed stands there: on to the next token -/
theorem MOK_go {A1 : ZA} (hM : LM S m) (hS : MS A m T n p nl L) (hf : MF m A A1 t) (hs : ST A1 m T n q d (t + 1)) (hq : q < n) {v : Nat} {R : Nat → Int} (h2 : A1 (m + 16) t = (v : Int)) (h3 : ∀ k, k < 181 → A1 (m + 17) (181 * t + k) = R k) :
    MOK S B c m T n (.inr (nxt T n q, v, R)) A d t ((f_X12_go m (mz S A1 B c)).bind fun q => some (ii ((1 : Nat) : Int), q.2)) := by
  have hS1 := MS_MF hS hf
  obtain ⟨A2, e, g1, g2, g3⟩ := m_next (B := B) (c := c) hM hS1.2.1 hs.1 hq
  rw [e]
  refine ⟨A2, rfl, MF_trans hf (MF_k (t := t) g2 (fun k h1 _ _ => g3 k (by omega))) (Nat.le_refl _), ⟨g1, by rw [g3 18 (by omega)]; exact hs.2.1, by rw [g3 30 (by omega)]; exact hs.2.2.1, by rw [g3 27 (by omega)]; exact hs.2.2.2⟩, by rw [g2 _ (by omega)]; exact h2, fun k hk => by rw [g2 _ (by omega)]; exact h3 k hk⟩
theorem MF_push {A1 : ZA} (h2 : ∀ k, k ≠ 27 → A1 m k = A m k) (h4 : ∀ i, i ≠ t → A1 (m + 16) i = A (m + 16) i) (h6 : ∀ i, i < 181 * t → A1 (m + 17) i = A (m + 17) i) (h7 : ∀ x, x ≠ m → x ≠ m + 4 → x ≠ m + 16 → x ≠ m + 17 → A1 x = A x) : MF m A A1 t := ⟨fun x a b _ d e => h7 x a b d e, fun k _ h _ => h2 k h, fun i hi => h4 i (by omega), h6⟩
theorem ST_push {A1 : ZA} (hs : ST A m T n q d t) (h1 : A1 m 27 = ((t + 1 : Nat) : Int)) (h2 : ∀ k, k ≠ 27 → A1 m k = A m k) : ST A1 m T n q d (t + 1) := ⟨TM_of hs.1 (fun k hk => h2 k (by omega)), by rw [h2 18 (by omega)]; exact hs.2.1, by rw [h2 30 (by omega)]; exact hs.2.2.1, h1⟩
theorem m_known (hM : LM S m) (hS : MS A m T n p nl L) (hs : ST A m T n q d t) (hq : q < n) (ht2 : t < 30) {w a o N : Nat} {R : Nat → Int} (ha : S a = some (.inr (.inl (.int, N)))) (n1 : a ≠ m + 16) (n2 : a ≠ m + 17) (ho : o + 181 ≤ N) (hN : N < 100000) (hR : ∀ k, k < 181 → A a (o + k) = R k) :
    MOK S B c m T n (.inr (nxt T n q, w, R)) A d t ((f_X12_pushes m (ii (w : Int)) a (ii (o : Int)) (mz S A B c)).bind fun q55 => (jrecv q55.2 m 9).bind fun _ => (f_X12_go m q55.2).bind fun q57 => some (ii ((1 : Nat) : Int), q57.2)) := by
  obtain ⟨A1, e, y1, y2, y3, y4, y5, y6, y7⟩ := m_push (A := A) (B := B) (c := c) (w := w) hM hs.2.2.2 ht2 ha n1 n2 ho hN
  rw [e]
  simp only [Option.bind_some, Mv hM]
  exact MOK_go hM hS (MF_push y2 y4 y6 (fun x a _ c d => y7 x a c d)) (ST_push hs y1 y2) hq y3 (fun k hk => by rw [y5 k hk, hR k hk])
theorem vlx_3 {T : Nat → Int} {n q : Nat} (h : kdx T n q = 3) : q < n ∧ ten T n q = nen T n q ∧ q < nen T n q ∧ nen T n q ≤ n ∧ ((nen T n q - q ≤ 4 ∧ 0 ≤ vlx T n q ∧ vlx T n q < 10000 ∧ mval T n q = vlx T n q) ∨ (4 < nen T n q - q ∧ vlx T n q = -1 ∧ mval T n q = 99999)) := by
  have hq := kdx_n (T := T) (n := n) (q := q) (by omega)
  have htk := kdx_tk T n q
  have h2 := htk.2.1.mpr h
  have l : ¬ isL (T q) := fun l => by have := htk.2.2.1.mpr ⟨hq, l⟩; omega
  have dd : isD (T q) := by
    by_cases d : isD (T q)
    · exact d
    · unfold tk at h2
      rw [if_neg (by omega), if_neg l, if_neg d] at h2
      by_cases s : isSg (T q)
      · rw [if_pos s] at h2; omega
      · rw [if_neg s] at h2; omega
  obtain ⟨x, y, z, w⟩ := nen_ok hq dd
  refine ⟨hq, by unfold ten; rw [if_neg (by omega), if_neg l, if_pos dd], x, y, ?_⟩
  unfold mval vlx
  rw [if_neg l, if_pos dd]
  by_cases g : q + 4 < nen T n q
  · rw [if_pos g, if_pos g]; exact Or.inr ⟨by omega, rfl, rfl⟩
  · rw [if_neg g, if_neg g]
    have h3 := dv_r (T := T) (q := q) (k := nen T n q - q) (by omega) (fun j hj => z (q + j) (by omega) (by omega))
    have h4 := pow10 (nen T n q - q) (by omega)
    exact Or.inl ⟨by omega, by omega, by omega, rfl⟩
theorem bitY {P : Prop} [Decidable P] (h : P) : ((if P then 1 else 0 : Nat)) = 1 := if_pos h
theorem bitN {P : Prop} [Decidable P] (h : ¬ P) : ((if P then 1 else 0 : Nat)) = 0 := if_neg h
theorem m_atom (hM : LM S m) (hP : PR p) (hS : MS A m T n p nl L) (hs : ST A m T n q d t) (hq : q ≤ n) (ht : tok T n q) (hd : d ≤ 8) (htd : t ≤ 2 * d + 2) (hr : d < 8 → MRec S B c m T n p nl L re rc (d + 1)) (hg : d < 8 → ∀ q, q ≤ n → tok T n q → GR T n p q (rc (d + 1) q)) :
    MOK S B c m T n (patom T n p (FL T n nl L) rc d q) A d t (f_X12_atom re m (mz S A B c)) := by
  have hp := PR_p hP
  have htk := kdx_tk T n q
  have hkr := kdx_r T n q
  obtain ⟨hT, h18, h30, h27⟩ := id hs
  have hrng : q < n → -128 ≤ T q ∧ T q < 128 := fun h => (hS.2.1.2.2 q h).2
  have n1 : A m 1 = p := hS.1.1
  unfold f_X12_atom patom
  rw [MI16 hM, hT.2.2.1]
  simp only [Option.bind_some]
  by_cases c3 : kdx T n q = 3
  · rw [if_pos (show ii (tk T n q) = (2 : Int32) by rw [htk.2.1.mpr c3]; rfl), if_neg (show ¬ kdx T n q = 2 by omega), if_pos c3]
    obtain ⟨v1, v2, v3, v4, v5⟩ := vlx_3 c3
    have hn := hS.2.1.2.1
    simp (disch := omega) only [MI15 hM, MI14 hM, hT.1, hT.2.1, v2, Option.bind_some, n_sub, k4, n_le]
    rcases v5 with ⟨w1, w2, w3, w4⟩ | ⟨w1, w2, w3⟩
    · rw [if_pos w1, if_pos w2]
      have e17 : A m 17 = vlx T n q := by rw [hT.2.2.2.1 (htk.2.1.mpr c3), w4]
      obtain ⟨A1, e, y1, y2, y3, y4, y5, y6, y7⟩ := m_pushN (A := A) (B := B) (c := c) (v := vlx T n q) hM (by omega) hp.2 n1 (by omega) h27 (by omega)
      simp only [MI17 hM, e17, Option.bind_some, Mv hM, e, k1]
      exact MOK_go hM hS (MF_push y2 y4 y6 y7) (ST_push hs y1 y2) v1 y3 y5
    · rw [if_neg (by omega), if_neg (by omega)]
      simp only [Mv hM, Option.bind_some, m_bad hM h18 hT.1, jzb_n (Or.inl rfl)]
      exact MOK_fail rfl
  · rw [if_neg (show ¬ ii (tk T n q) = (2 : Int32) by rw [show (2 : Int32) = ii 2 from rfl, i_eq (by omega) (by omega) (by omega) (by omega)]; intro x; exact c3 (htk.2.1.mp x))]
    have hq40 := m_is (A := A) (B := B) (c := c) (s := 40) hM hT (by omega) (by omega) hrng
    simp only [Mv hM, Option.bind_some, k40, hq40]
    by_cases c40 : kdx T n q = 40
    · have hqn := kdx_n (T := T) (n := n) (q := q) (by omega)
      obtain ⟨x1, x2, x3, x4⟩ := nxt_ok hqn (tok_t ht hqn)
      rw [bitY (show kdx T n q = ((40 : Nat) : Int) by omega), if_neg (show ¬ kdx T n q = 2 by omega), if_neg c3, if_neg (show ¬ kdx T n q = 7 by omega), if_neg (show ¬ kdx T n q = 8 by omega), if_neg (show ¬ kdx T n q = 9 by omega), if_pos c40, if_neg (show ¬ ii ((1 : Nat) : Int) = (0 : Int32) by decide), MI30 hM, h30]
      simp (disch := omega) only [Option.bind_some, k8, n_eq]
      by_cases g : d < 8
      · rw [if_pos g, if_neg (by omega)]
        simp (disch := omega) only [k1, n_add, MP30 hM, Option.bind_some, Mv hM]
        generalize hA1 : za A m (up (A m) 30 ((d + 1 : Nat) : Int)) = A1
        have f1 : MF m A A1 t := by rw [← hA1]; exact MF_up (by omega)
        have a1 : ∀ k, k ≠ 30 → A1 m k = A m k := fun k hk => by rw [← hA1, za_at, up_ne _ _ hk]
        have T1 : TM A1 m T n q := TM_of hT (fun k hk => a1 k (by omega))
        obtain ⟨A2, e2, g1, g2, g3⟩ := m_next (B := B) (c := c) hM (MS_MF hS f1).2.1 T1 hqn
        have f2 : MF m A1 A2 t := MF_k g2 (fun k h1 _ _ => g3 k (by omega))
        have f12 := MF_trans f1 f2 (Nat.le_refl _)
        have s2 : ST A2 m T n (nxt T n q) (d + 1) t := ⟨g1, by rw [g3 18 (by omega), a1 18 (by omega)]; exact h18, by rw [g3 30 (by omega), ← hA1, za_at, up_at], by rw [g3 27 (by omega), a1 27 (by omega)]; exact h27⟩
        obtain ⟨A3, e3, f3, r3⟩ := hr g A2 (nxt T n q) t (MS_MF hS f12) s2 x2 x3 (by omega)
        have f13 := MF_trans f12 f3 (Nat.le_refl _)
        have hgr := hg g _ x2 x3
        simp only [e2, Option.bind_some, Mv hM, e3]
        cases e : rc (d + 1) (nxt T n q) with
        | inl f =>
          rw [e] at r3
          rw [if_pos (show ii ((rb (Sum.inl f) : Nat) : Int) = (0 : Int32) from rfl), MI30 hM]
          simp only [Option.bind_some]
          rw [ii_sub, MP30 hM]
          refine ⟨_, rfl, MF_trans f13 (MF_up (t := t) (by omega)) (Nat.le_refl _), ?_⟩
          show za A3 m _ m 18 = _
          rw [za_at, up_ne _ _ (by omega)]
          exact r3
        | inr s =>
          rw [e] at r3 hgr
          obtain ⟨⟨z1, z2, z3, z4⟩, z5, z6⟩ := r3
          obtain ⟨w1, w2, w3, w4⟩ := hgr
          rw [if_neg (show ¬ ii ((rb (Sum.inr s) : Nat) : Int) = (0 : Int32) from (show ¬ ii ((1 : Nat) : Int) = (0 : Int32) by decide))]
          simp only [Sum.elim_inr]
          unfold f_X12_sign
          have hq41 := m_is (A := A3) (B := B) (c := c) (s := 41) hM z1 (by omega) (by omega) (fun h => (hS.2.1.2.2 s.1 h).2)
          simp only [Mv hM, Option.bind_some, k41, hq41]
          by_cases c41 : kdx T n s.1 = 41
          · have hsn := kdx_n (T := T) (n := n) (q := s.1) (by omega)
            obtain ⟨A4, e4, j1, j2, j3⟩ := m_next (B := B) (c := c) hM (MS_MF hS f13).2.1 z1 hsn
            rw [bitY (show kdx T n s.1 = ((41 : Nat) : Int) by omega), if_neg (show ¬ ii ((1 : Nat) : Int) = (0 : Int32) by decide), if_pos c41, e4]
            simp only [Option.bind_some]
            rw [if_neg (show ¬ (1 : Int32) = (0 : Int32) by decide), MI30 hM, j3 30 (by omega), z3]
            simp (disch := omega) only [Option.bind_some, k1, n_sub, MP30 hM]
            have f4 : MF m A3 A4 t := MF_k j2 (fun k h1 _ _ => j3 k (by omega))
            refine ⟨_, rfl, MF_trans (MF_trans f13 f4 (Nat.le_refl _)) (MF_up (t := t) (by omega)) (Nat.le_refl _), ⟨TM_of j1 (fun k hk => by rw [za_at, up_ne _ _ (by omega)]), ?_, ?_, ?_⟩, ?_, fun k hk => ?_⟩
            · rw [za_at, up_ne _ _ (by omega), j3 18 (by omega)]; exact z2
            · rw [za_at, up_at]; rfl
            · rw [za_at, up_ne _ _ (by omega), j3 27 (by omega)]; exact z4
            · rw [za_ne _ _ (by omega), j2 _ (by omega)]; exact z5
            · rw [za_ne _ _ (by omega), j2 _ (by omega)]; exact z6 k hk
          · rw [bitN (show ¬ kdx T n s.1 = ((41 : Nat) : Int) by omega), if_pos (show ii ((0 : Nat) : Int) = (0 : Int32) from rfl), if_neg c41]
            simp only [k1, m_bad hM z2 z1.1, Option.bind_some, jzb_n (Or.inl rfl)]
            rw [if_pos (show ii ((0 : Nat) : Int) = (0 : Int32) from rfl), MI30 hM]
            simp only [Option.bind_some]
            rw [ii_sub, MP30 hM]
            refine ⟨_, rfl, MF_trans (MF_trans f13 (MF_up (t := t) (by omega)) (Nat.le_refl _)) (MF_up (t := t) (by omega)) (Nat.le_refl _), ?_⟩
            show za (za A3 m _) m _ m 18 = _
            rw [za_at, up_ne _ _ (by omega), za_at, up_at]
      · rw [if_neg g, if_pos (by omega)]
        simp only [Mv hM, Option.bind_some, k5, m_bad hM h18 hT.1, jzb_n (Or.inl rfl)]
        exact MOK_fail rfl
    · rw [bitN (show ¬ kdx T n q = ((40 : Nat) : Int) by omega), if_pos (show ii ((0 : Nat) : Int) = (0 : Int32) from rfl), if_neg c3, if_neg c40]
      simp only [Mv hM, Option.bind_some, m_isFourW hM hS.2.1 hT, m_isSixW hM hS.2.1 hT, m_isDeltaW hM hS.2.1 hT, m_isName hM hS.2.1 hT]
      by_cases c7 : kdx T n q = 7
      · have hqn := kdx_n (T := T) (n := n) (q := q) (by omega)
        rw [bitY c7, if_neg (show ¬ ii ((1 : Nat) : Int) = (0 : Int32) by decide), if_neg (show ¬ kdx T n q = 2 by omega), if_pos c7, MR2 hM]
        have := m_known (B := B) (c := c) (w := 4) (a := m + 1) (o := 0) (R := e4 p) hM hS hs hqn (by omega) (MS1 hM) (by omega) (by omega) (by omega) (by omega) (fun k hk => by rw [Nat.zero_add]; exact (hS.1.2 k hk).1)
        exact this
      rw [bitN c7, if_pos (show ii ((0 : Nat) : Int) = (0 : Int32) from rfl), if_neg c7]
      by_cases c8 : kdx T n q = 8
      · have hqn := kdx_n (T := T) (n := n) (q := q) (by omega)
        rw [bitY c8, if_neg (show ¬ ii ((1 : Nat) : Int) = (0 : Int32) by decide), if_neg (show ¬ kdx T n q = 2 by omega), if_pos c8, MR3 hM]
        have := m_known (B := B) (c := c) (w := 6) (a := m + 2) (o := 0) (R := e6 p) hM hS hs hqn (by omega) (MS2 hM) (by omega) (by omega) (by omega) (by omega) (fun k hk => by rw [Nat.zero_add]; exact (hS.1.2 k hk).2.1)
        exact this
      rw [bitN c8, if_pos (show ii ((0 : Nat) : Int) = (0 : Int32) from rfl), if_neg c8]
      by_cases c9 : kdx T n q = 9
      · have hqn := kdx_n (T := T) (n := n) (q := q) (by omega)
        rw [bitY c9, if_neg (show ¬ ii ((1 : Nat) : Int) = (0 : Int32) by decide), if_neg (show ¬ kdx T n q = 2 by omega), if_pos c9, MR4 hM]
        have := m_known (B := B) (c := c) (w := 12) (a := m + 3) (o := 0) (R := dt p) hM hS hs hqn (by omega) (MS3 hM) (by omega) (by omega) (by omega) (by omega) (fun k hk => by rw [Nat.zero_add]; exact (hS.1.2 k hk).2.2)
        exact this
      rw [bitN c9, if_pos (show ii ((0 : Nat) : Int) = (0 : Int32) from rfl), if_neg c9]
      by_cases c2 : kdx T n q = 2
      · have hqn := kdx_n (T := T) (n := n) (q := q) (by omega)
        rw [bitY c2, if_neg (show ¬ ii ((1 : Nat) : Int) = (0 : Int32) by decide), if_pos c2]
        simp only [m_named hM hS hT c2, Option.bind_some, Mv hM]
        unfold FL
        have h6 := hS.2.2.2.1
        by_cases g : fnd (fun i => vlx T n (L i).1 = vlx T n q) nl 0 < nl
        · simp only [if_pos g]
          generalize fnd (fun i => vlx T n (L i).1 = vlx T n q) nl 0 = r at g
          obtain ⟨-, -, -, g4, g5⟩ := hS.2.2.2.2 r g
          rw [if_neg (show ¬ ii (r : Int) = (-1 : Int32) by rw [show (-1 : Int32) = ii (-1) from rfl, i_eq (by omega) (by omega) (by omega) (by omega)]; omega)]
          simp (disch := omega) only [MR25 hM, MR26 hM, Option.bind_some, Ma14 hM, g4, k181, n_mul]
          exact m_known (B := B) (c := c) (a := m + 15) (o := 181 * r) (R := (L r).2.2) hM hS hs hqn (by omega) (MS15 hM) (by omega) (by omega) (by omega) (by omega) g5
        · simp only [if_neg g]
          rw [if_pos (show ii (-1) = (-1 : Int32) from rfl)]
          simp only [k3, m_bad hM h18 hT.1, Option.bind_some, jzb_n (Or.inl rfl)]
          exact MOK_fail rfl
      · rw [bitN c2, if_pos (show ii ((0 : Nat) : Int) = (0 : Int32) from rfl), if_neg c2]
        simp only [k1, m_bad hM h18 hT.1, Option.bind_some, jzb_n (Or.inl rfl)]
        exact MOK_fail rfl
end rd
