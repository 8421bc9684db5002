/-! The reference reads a book. -/
def MBK (S : SS) (B : ZA) (c : (Nat × Nat) × (Nat → Nat)) (m : Nat) (p0 : Int) (A : ZA) (r : Nat ⊕ (Int × Nat × LT)) (res : Option (Int32 × JH)) : Prop :=
  ∃ A' : ZA, (∀ k, k ≠ 1 → k ≠ 7 → k ≠ 19 → ¬ (14 ≤ k ∧ k ≤ 18) → k ≠ 22 → k ≠ 27 → k ≠ 30 → A' m k = A m k) ∧ Sum.elim (fun (g : Nat) => res = some ((-2 : Int32) - ii (g : Int), mz S A' B c) ∧ Bas A' m p0 ∧ A' m 7 = A m 7 ∧ A' m 19 = A m 19 ∧ (∀ x, x ≠ m → ¬ (m + 1 ≤ x ∧ x ≤ m + 5) → ¬ (m + 12 ≤ x ∧ x ≤ m + 17) → A' x = A x))
    (fun s => res = some (ii ((s.2.1 : Nat) : Int), mz S A' B c) ∧ Bas A' m s.1 ∧ A' m 7 = -1 ∧ A' m 19 = ((s.2.1 : Nat) : Int) ∧ (∀ i, i < s.2.1 → A' (m + 10) i = (((s.2.2 i).2.1 : Nat) : Int) ∧ ∀ k, k < 181 → A' (m + 11) (181 * i + k) = (s.2.2 i).2.2 k) ∧ (∀ r, r < 4 → A' (m + 18) r = 0) ∧ (∀ r, r < 4 → ∀ n, n < 181 → A' (m + 19) (181 * r + n) = if n = 0 then 1 else 0) ∧ (∀ i, i < 8 → A' (m + 26) i = 0) ∧ (∀ i, i < 2 → A' (m + 28) i = 0) ∧ (∀ x, x ≠ m → ¬ (m + 1 ≤ x ∧ x ≤ m + 5) → ¬ (m + 10 ≤ x ∧ x ≤ m + 19) → x ≠ m + 26 → x ≠ m + 28 → A' x = A x)) r
theorem MBK_from {S : SS} {B : ZA} {c : (Nat × Nat) × (Nat → Nat)} {m : Nat} {p0 : Int} {A A1 : ZA} {r : Nat ⊕ (Int × Nat × LT)} {res : Option (Int32 × JH)} (h : RF m A A1) (h' : MBK S B c m p0 A1 r res) : MBK S B c m p0 A r res := by
  obtain ⟨A', y1, y2⟩ := h'
  refine ⟨A', fun k a1 a2 a3 a4 a5 a6 a7 => by rw [y1 k a1 a2 a3 a4 a5 a6 a7, h.2 k a1 a4 a5 a6 a7], ?_⟩
  cases r with
  | inl g =>
    obtain ⟨z1, z2, z3, z4, z5⟩ := y2
    exact ⟨z1, z2, by rw [z3, h.2 7 (by omega) (by omega) (by omega) (by omega) (by omega)], by rw [z4, h.2 19 (by omega) (by omega) (by omega) (by omega) (by omega)], fun x a1 a2 a3 => by rw [z5 x a1 a2 a3, h.1 x a1 a2 a3]⟩
  | inr s =>
    obtain ⟨z1, z2, z3, z4, z5, z6, z7, z8, z9, z10⟩ := y2
    exact ⟨z1, z2, z3, z4, z5, z6, z7, z8, z9, fun x a1 a2 a3 a4 a5 => by rw [z10 x a1 a2 a3 a4 a5, h.1 x a1 a2 (by omega)]⟩
section rd
variable {S : SS} {A B : ZA} {c : (Nat × Nat) × (Nat → Nat)} {m n : Nat} {T : Nat → Int} {L : LT} {q : Nat} {p p0 : Int}
theorem m_tailN (hM : LM S m) (hP0 : PR p0) {g : Nat} (h18 : A m 18 = (g : Int)) : MBK S B c m p0 A (.inl g) ((jput (mz S A B c) m 9 1 (.int (ii p0))).bind fun h45 => (jrecv h45 m 9).bind fun _ => (f_X12_laysBasic m h45).bind fun q47 => (jgI q47.2 m 9 18).bind fun v49 => some ((-2 : Int32) - v49, q47.2)) := by
  have j2 : ∀ k, k ≠ 1 → za A m (up (A m) 1 p0) m k = A m k := fun k hk => by rw [za_at, up_ne _ _ hk]
  have o2 : za A m (up (A m) 1 p0) m 1 = p0 := by rw [za_at, up_at]
  have k2' : ∀ x, x ≠ m → za A m (up (A m) 1 p0) x = A x := fun x hx => za_ne _ _ hx
  simp only [MP1 hM, Option.bind_some, Mv hM]
  generalize za A m (up (A m) 1 p0) = A2 at j2 o2 k2' ⊢
  obtain ⟨A3, e3, b3, m3, k3'⟩ := m_lay (B := B) (c := c) hM hP0 o2
  simp only [Mv hM, e3, Option.bind_some, MI18 hM]
  refine ⟨A3, fun k a1 _ _ _ _ _ _ => by rw [m3, j2 k a1], ?_, b3, by rw [m3, j2 7 (by omega)], by rw [m3, j2 19 (by omega)], fun x a1 a2 _ => by rw [k3' x (by omega), k2' x a1]⟩
  rw [m3, j2 18 (by omega), h18]
theorem m_tailY (hM : LM S m) {nl : Nat} {L : LT} (hS : MS A m T n p nl L) : MBK S B c m p0 A (.inr (p, nl, L)) ((jrecv (mz S A B c) m 9).bind fun _ => (f_X12_takes m (mz S A B c)).bind fun q39 => (jgI q39.2 m 9 19).bind fun v41 => some (v41, q39.2)) := by
  obtain ⟨A', e, y1, y2, y3, y4, y5, y6, y7, y8, y9, y10⟩ := m_takes (A := A) (B := B) (c := c) hM
  obtain ⟨r1, r2, r3, r4, r5⟩ := hS
  simp only [Mv hM, e, Option.bind_some, MI19 hM, y2, r3]
  refine ⟨A', fun k a1 a2 a3 _ _ _ _ => y3 k a2 a3, rfl, ⟨by rw [y3 1 (by omega) (by omega)]; exact r1.1, fun k hk => ?_⟩, y1, by rw [y2, r3], fun i hi => ?_, y6, y7, y8, y9, fun x a1 a2 a3 a4 a5 => y10 x a1 (by omega) (by omega) (by omega) (by omega) a4 a5⟩
  · rw [y10 _ (by omega) (by omega) (by omega) (by omega) (by omega) (by omega) (by omega), y10 _ (by omega) (by omega) (by omega) (by omega) (by omega) (by omega) (by omega), y10 _ (by omega) (by omega) (by omega) (by omega) (by omega) (by omega) (by omega)]
    exact r1.2 k hk
  · have hi6 : i < 6 := Nat.lt_of_lt_of_le (show i < nl from hi) r4
    obtain ⟨v1, v2, v3, v4, v5⟩ := r5 i hi
    exact ⟨by rw [y4 i (by omega)]; exact v4, fun k hk => by rw [y5 _ (by omega)]; exact v5 k hk⟩
theorem m_rest (hM : LM S m) (hP : PR p) (hP0 : PR p0) (hS : MS A m T n p 0 L00) (hs : SM A m T n q) (hq : q ≤ n) (ht : tok T n q) : MBK S B c m p0 A (Sum.elim Sum.inl (fun r => .inr (p, r)) (plts T n p 7 0 L00 q)) ((jloop (f_X12_book_L99 m (ii p0)) jF (1 : Int32) (mz S A B c)).bind fun q37 =>
      if q37.1 = (0 : Int32) then
        (jput q37.2 m 9 1 (.int (ii p0))).bind fun h45 =>
        (jrecv h45 m 9).bind fun u51 =>
        (f_X12_laysBasic m h45).bind fun q47 =>
        (jgI q47.2 m 9 18).bind fun v49 =>
        some ((-2 : Int32) - v49, q47.2)
      else
        (jrecv q37.2 m 9).bind fun u43 =>
        (f_X12_takes m q37.2).bind fun q39 =>
        (jgI q39.2 m 9 19).bind fun v41 =>
        some (v41, q39.2)) := by
  obtain ⟨A1, f1, r1⟩ := m_lets (B := B) (c := c) hM hP (ii p0) 7 0 L00 q A rfl hS hs hq ht jF (jF_big (by omega))
  cases e : plts T n p 7 0 L00 q with
  | inl g =>
    rw [e] at r1
    obtain ⟨r1, r2⟩ := r1
    have r1' : jloop (f_X12_book_L99 m (ii p0)) jF (1 : Int32) (mz S A B c) = _ := r1
    rw [r1']
    simp only [Option.bind_some]
    rw [if_pos (show ii ((0 : Nat) : Int) = (0 : Int32) from rfl)]
    exact MBK_from (RF_NF f1) (m_tailN hM hP0 r2)
  | inr r =>
    rw [e] at r1
    obtain ⟨r1, r2⟩ := r1
    have r1' : jloop (f_X12_book_L99 m (ii p0)) jF (1 : Int32) (mz S A B c) = _ := r1
    rw [r1']
    simp only [Option.bind_some]
    rw [if_neg (show ¬ ii ((1 : Nat) : Int) = (0 : Int32) by decide)]
    exact MBK_from (RF_NF f1) (m_tailY hM r2)
theorem m_book (hM : LM S m) (hT : TXT A (m + 9) T n) {t : Nat} (h12 : A m 12 = (t : Int)) (hn : n ≤ t) (ht6 : t ≤ 600) (hP0 : PR p0) (h1 : A m 1 = p0) :
    ∃ A1 : ZA, A1 m 12 = 0 ∧ (∀ k, k ≠ 0 → k ≠ 12 → k ≠ 13 → k ≠ 1 → ¬ (14 ≤ k ∧ k ≤ 18) → k ≠ 22 → k ≠ 30 → A1 m k = A m k) ∧ (∀ x, x ≠ m → ¬ (m + 1 ≤ x ∧ x ≤ m + 4) → A1 x = A x) ∧ MBK S B c m p0 A1 (pbk T n) (f_X12_book m (ii (n : Int)) (mz S A B c)) := by
  have e0 : ∃ F : Nat → Int, F 13 = (n : Int) ∧ F 12 = 0 ∧ F 15 = 0 ∧ F 18 = 0 ∧ F 22 = 0 ∧ F 30 = 0 ∧ F 1 = 1009 ∧ (∀ k, k ≠ 0 → k ≠ 12 → k ≠ 13 → k ≠ 1 → ¬ (14 ≤ k ∧ k ≤ 18) → k ≠ 22 → k ≠ 30 → F k = A m k) ∧ f_X12_book m (ii (n : Int)) (mz S A B c) = (f_X12_laysBasic m (mz S (za A m F) B c)).bind fun q23 =>
    (jrecv q23.2 m 9).bind fun u91 =>
    (f_X12_go m q23.2).bind fun q25 =>
    (jrecv q25.2 m 9).bind fun u89 =>
    (f_X12_isWord m (112 : Int32) (114 : Int32) (105 : Int32) (109 : Int32) (101 : Int32) q25.2).bind fun q27 =>
    if q27.1 = (0 : Int32) then
      (jloop (f_X12_book_L99 m (ii p0)) jF (1 : Int32) q27.2).bind fun q37 =>
      if q37.1 = (0 : Int32) then
        (jput q37.2 m 9 1 (.int (ii p0))).bind fun h45 =>
        (jrecv h45 m 9).bind fun u51 =>
        (f_X12_laysBasic m h45).bind fun q47 =>
        (jgI q47.2 m 9 18).bind fun v49 =>
        some ((-2 : Int32) - v49, q47.2)
      else
        (jrecv q37.2 m 9).bind fun u43 =>
        (f_X12_takes m q37.2).bind fun q39 =>
        (jgI q39.2 m 9 19).bind fun v41 =>
        some (v41, q39.2)
    else
      (jrecv q27.2 m 9).bind fun u87 =>
      (f_X12_primeLine m q27.2).bind fun q53 =>
      if q53.1 = (0 : Int32) then
        (jloop (f_X12_book_L99 m (ii p0)) jF (0 : Int32) q53.2).bind fun q55 =>
        if q55.1 = (0 : Int32) then
          (jput q55.2 m 9 1 (.int (ii p0))).bind fun h63 =>
          (jrecv h63 m 9).bind fun u69 =>
          (f_X12_laysBasic m h63).bind fun q65 =>
          (jgI q65.2 m 9 18).bind fun v67 =>
          some ((-2 : Int32) - v67, q65.2)
        else
          (jrecv q55.2 m 9).bind fun u61 =>
          (f_X12_takes m q55.2).bind fun q57 =>
          (jgI q57.2 m 9 19).bind fun v59 =>
          some (v59, q57.2)
      else
        (jloop (f_X12_book_L99 m (ii p0)) jF (1 : Int32) q53.2).bind fun q71 =>
        if q71.1 = (0 : Int32) then
          (jput q71.2 m 9 1 (.int (ii p0))).bind fun h79 =>
          (jrecv h79 m 9).bind fun u85 =>
          (f_X12_laysBasic m h79).bind fun q81 =>
          (jgI q81.2 m 9 18).bind fun v83 =>
          some ((-2 : Int32) - v83, q81.2)
        else
          (jrecv q71.2 m 9).bind fun u77 =>
          (f_X12_takes m q71.2).bind fun q73 =>
          (jgI q73.2 m 9 19).bind fun v75 =>
          some (v75, q73.2) := by
    refine ⟨up (up (up (up (up (up (up (up (A m) 0 ((0 : Nat) : Int)) 13 (n : Int)) 12 ((0 : Nat) : Int)) 15 ((0 : Nat) : Int)) 18 ((0 : Nat) : Int)) 22 ((0 : Nat) : Int)) 30 ((0 : Nat) : Int)) 1 ((1009 : Nat) : Int), rfl, rfl, rfl, rfl, rfl, rfl, rfl, fun k a0 a12 a13 a1 a14 a22 a30 => ?_, ?_⟩
    · rw [up_ne _ _ a1, up_ne _ _ a30, up_ne _ _ a22, up_ne _ _ (by omega), up_ne _ _ (by omega), up_ne _ _ a12, up_ne _ _ a13, up_ne _ _ a0]
    · have w : f_X12_within (ii (n : Int)) (ii ((0 : Nat) : Int)) (ii (t : Int)) (mz S (za A m (up (A m) 0 ((0 : Nat) : Int))) B c) = some (ii ((1 : Nat) : Int), mz S (za A m (up (A m) 0 ((0 : Nat) : Int))) B c) := m_winY _ (by omega) (by omega) (by omega)
      have p0' : jput (mz S A B c) m 9 0 (.int (0 : Int32)) = some (mz S (za A m (up (A m) 0 ((0 : Nat) : Int))) B c) := MP0 (v := ((0 : Nat) : Int)) hM
      unfold f_X12_book
      rw [p0']
      simp only [Option.bind_some, Mv hM, MI12 hM]
      rw [za_at, up_ne _ _ (show 12 ≠ 0 by omega), h12]
      have w' : f_X12_within (ii (n : Int)) (0 : Int32) (ii (t : Int)) (mz S (za A m (up (A m) 0 ((0 : Nat) : Int))) B c) = _ := w
      rw [w']
      simp only [Option.bind_some, Mv hM]
      rw [if_neg (show ¬ ii ((1 : Nat) : Int) = (0 : Int32) by decide)]
      have p12 : ∀ A : ZA, jput (mz S A B c) m 9 12 (.int (0 : Int32)) = some (mz S (za A m (up (A m) 12 ((0 : Nat) : Int))) B c) := fun A => MP12 (v := ((0 : Nat) : Int)) hM
      have p15 : ∀ A : ZA, jput (mz S A B c) m 9 15 (.int (0 : Int32)) = some (mz S (za A m (up (A m) 15 ((0 : Nat) : Int))) B c) := fun A => MP15 (v := ((0 : Nat) : Int)) hM
      have p18 : ∀ A : ZA, jput (mz S A B c) m 9 18 (.int (0 : Int32)) = some (mz S (za A m (up (A m) 18 ((0 : Nat) : Int))) B c) := fun A => MP18 (v := ((0 : Nat) : Int)) hM
      have p22 : ∀ A : ZA, jput (mz S A B c) m 9 22 (.int (0 : Int32)) = some (mz S (za A m (up (A m) 22 ((0 : Nat) : Int))) B c) := fun A => MP22 (v := ((0 : Nat) : Int)) hM
      have p30 : ∀ A : ZA, jput (mz S A B c) m 9 30 (.int (0 : Int32)) = some (mz S (za A m (up (A m) 30 ((0 : Nat) : Int))) B c) := fun A => MP30 (v := ((0 : Nat) : Int)) hM
      have p1 : ∀ A : ZA, jput (mz S A B c) m 9 1 (.int (1009 : Int32)) = some (mz S (za A m (up (A m) 1 ((1009 : Nat) : Int))) B c) := fun A => MP1 (v := ((1009 : Nat) : Int)) hM
      have hr : up (up (up (up (up (up (up (A m) 0 ((0 : Nat) : Int)) 13 (n : Int)) 12 ((0 : Nat) : Int)) 15 ((0 : Nat) : Int)) 18 ((0 : Nat) : Int)) 22 ((0 : Nat) : Int)) 30 ((0 : Nat) : Int) 1 = p0 := h1
      simp only [MP13 hM, p12, p15, p18, p22, p30, MI1 hM, p1, Option.bind_some, za_za, za_at, Mv hM, hr]
  obtain ⟨F, F13, F12, F15, F18, F22, F30, F1, Fk, e0⟩ := e0
  have k1' : ∀ x, x ≠ m → za A m F x = A x := fun x hx => za_ne _ _ hx
  have m1 : za A m F m = F := za_at _ _ _
  rw [e0]
  generalize za A m F = A1 at k1' m1 ⊢
  obtain ⟨A2, e2, b2, m2, k2'⟩ := m_lay (A := A1) (B := B) (c := c) hM PR_1009 (by rw [m1]; exact F1)
  have B2 : MB A2 m T n := ⟨by rw [m2, m1]; exact F13, hT.1, fun k hk => by rw [k2' _ (by omega), k1' _ (by omega)]; exact hT.2 k hk⟩
  obtain ⟨A3, e3, T3, g3, h3⟩ := m_go (B := B) (c := c) (e := 0) hM B2 (by omega) (by rw [m2, m1]; exact F15)
  obtain ⟨s1, s2, s3⟩ := skp_0 T n
  have f3 : MF m A2 A3 0 := MF_k g3 (fun k h1 _ _ => h3 k (by omega))
  have hS2 : MS A2 m T n 1009 0 L00 := ⟨b2, B2, by rw [m2, m1]; exact F22, by omega, fun i hi => absurd hi (by omega)⟩
  have hS3 := MS_MF hS2 f3
  have hs3 : SM A3 m T n (skp T n 0) := ⟨T3, by rw [h3 18 (by omega), m2, m1]; exact F18, by rw [h3 30 (by omega), m2, m1]; exact F30⟩
  have w := m_isPrimeW (B := B) (c := c) hM hS3.2.1 T3
  refine ⟨A2, by rw [m2, m1]; exact F12, fun k a0 a12 a13 a1 a14 a22 a30 => by rw [m2, m1, Fk k a0 a12 a13 a1 a14 a22 a30], fun x a1 a2 => by rw [k2' x a2, k1' x a1], MBK_from (RF_NF (NF_MF f3)) ?_⟩
  simp only [e2, e3, w, Option.bind_some, Mv hM]
  unfold pbk
  by_cases c4 : kdx T n (skp T n 0) = 4
  · rw [bitY c4, if_neg (show ¬ ii ((1 : Nat) : Int) = (0 : Int32) by decide)]
    obtain ⟨A4, f4, r4⟩ := m_primeL (B := B) (c := c) hM hS3 hs3 s1 s2 c4
    cases e : pprm T n (skp T n 0) with
    | inl g =>
      rw [e] at r4
      obtain ⟨r4, r5⟩ := r4
      rw [r4]
      simp only [Option.bind_some, Mv hM]
      rw [if_pos (show ii ((0 : Nat) : Int) = (0 : Int32) from rfl)]
      have j : jloop (f_X12_book_L99 m (ii p0)) jF (0 : Int32) (mz S A4 B c) = some ((0 : Int32), mz S A4 B c) := by
        refine jloop_end (n := 19999) ?_
        unfold f_X12_book_L99
        rw [if_pos rfl]
      rw [j]
      simp only [Option.bind_some, ↓reduceIte]
      exact MBK_from f4 (m_tailN hM hP0 r5)
    | inr s =>
      rw [e] at r4
      obtain ⟨r4, hS4, hs4⟩ := r4
      obtain ⟨hPR, t2, t3⟩ := pprm_ok s1 s2 e
      rw [r4]
      simp only [Option.bind_some, Mv hM, Sum.elim_inr]
      rw [if_neg (show ¬ ii ((1 : Nat) : Int) = (0 : Int32) by decide)]
      exact MBK_from f4 (m_rest hM hPR hP0 hS4 hs4 t2 t3)
  · rw [bitN c4, if_pos (show ii ((0 : Nat) : Int) = (0 : Int32) from rfl)]
    have e : pprm T n (skp T n 0) = .inr (1009, skp T n 0) := by unfold pprm; rw [if_neg c4]
    rw [e]
    exact m_rest hM PR_1009 hP0 hS3 hs3 s1 s2
end rd
