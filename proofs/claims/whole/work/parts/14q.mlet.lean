/-! The reference reads a let. -/
def NF (m : Nat) (A A' : ZA) : Prop := (∀ x, x ≠ m → x ≠ m + 4 → x ≠ m + 5 → ¬ (m + 12 ≤ x ∧ x ≤ m + 17) → A' x = A x) ∧ (∀ k, ¬ (14 ≤ k ∧ k ≤ 18) → k ≠ 22 → k ≠ 27 → k ≠ 30 → A' m k = A m k)
theorem NF_refl (m : Nat) (A : ZA) : NF m A A := ⟨fun _ _ _ _ _ => rfl, fun _ _ _ _ _ => rfl⟩
theorem NF_trans {m : Nat} {A A' A'' : ZA} (h : NF m A A') (h' : NF m A' A'') : NF m A A'' :=
  ⟨fun x a b c d => by rw [h'.1 x a b c d, h.1 x a b c d], fun k a b c d => by rw [h'.2 k a b c d, h.2 k a b c d]⟩
theorem NF_MF {m : Nat} {A A' : ZA} {t : Nat} (h : MF m A A' t) : NF m A A' := ⟨fun x a b c d => h.1 x a b c (by omega) (by omega), fun k a _ b c => h.2.1 k a b c⟩
theorem NF_a {m o : Nat} {A : ZA} {F : Nat → Int} (ho : 12 ≤ o ∧ o ≤ 17) : NF m A (za A (m + o) F) := ⟨fun x a b c d => za_ne _ _ (by omega), fun k _ _ _ _ => by rw [za_ne _ _ (by omega)]⟩
theorem NF_k {m k : Nat} {A : ZA} {v : Int} (hk : (14 ≤ k ∧ k ≤ 18) ∨ k = 22 ∨ k = 27 ∨ k = 30) : NF m A (za A m (up (A m) k v)) := ⟨fun x a _ _ _ => za_ne _ _ a, fun j _ _ _ _ => by rw [za_at, up_ne _ _ (by omega)]⟩
def SM (A : ZA) (m : Nat) (T : Nat → Int) (n q : Nat) : Prop := TM A m T n q ∧ A m 18 = 0 ∧ A m 30 = 0
def MLC (S : SS) (B : ZA) (c : (Nat × Nat) × (Nat → Nat)) (m : Nat) (T : Nat → Int) (n : Nat) (p : Int) (nl : Nat) (L : LT) (A : ZA) (r : LR) (res : Option (Int32 × JH)) : Prop :=
  ∃ A' : ZA, NF m A A' ∧ Sum.elim (fun (g : Nat) => res = some (ii ((0 : Nat) : Int), mz S A' B c) ∧ A' m 18 = (g : Int)) (fun s => res = some (ii ((1 : Nat) : Int), mz S A' B c) ∧ MS A' m T n p (nl + 1) (uL L nl s.2) ∧ SM A' m T n s.1) r
section rd
variable {S : SS} {A B : ZA} {c : (Nat × Nat) × (Nat → Nat)} {m n nl : Nat} {T : Nat → Int} {p : Int} {L : LT} {q : Nat}
theorem MLC_fail {A1 : ZA} {g : Nat} (h : NF m A A1) : MLC S B c m T n p nl L A (.inl g) (some (ii ((0 : Nat) : Int), mz S (za A1 m (up (A1 m) 18 ((g : Nat) : Int))) B c)) :=
  ⟨_, NF_trans h (NF_k (by omega)), rfl, by rw [za_at, up_at]⟩
theorem m_signY (hM : LM S m) (hB : MB A m T n) (hT : TM A m T n q) {s : Nat} (hs : 40 ≤ s) (hs2 : s < 1000) (hk : kdx T n q = (s : Int)) : ∃ A' : ZA, f_X12_sign m (ii (s : Int)) (mz S A B c) = some (ii ((1 : Nat) : Int), mz S A' B c) ∧ TM A' m T n (nxt T n q) ∧ (∀ x, x ≠ m → A' x = A x) ∧ (∀ k, ¬ (14 ≤ k ∧ k ≤ 17) → A' m k = A m k) := by
  have hqn := kdx_n (T := T) (n := n) (q := q) (by omega)
  have w := m_is (A := A) (B := B) (c := c) (s := s) hM hT hs hs2 (fun h => (hB.2.2 q h).2)
  rw [bitY hk] at w
  obtain ⟨A1, e1, g1, g2, g3⟩ := m_next (B := B) (c := c) hM hB hT hqn
  refine ⟨A1, ?_, g1, g2, g3⟩
  unfold f_X12_sign
  simp only [Mv hM, Option.bind_some, w]
  rw [if_neg (show ¬ ii ((1 : Nat) : Int) = (0 : Int32) by decide)]
  simp only [e1, Option.bind_some, Mv hM, k1]
theorem m_signN (hM : LM S m) (hB : MB A m T n) (hT : TM A m T n q) (h18 : A m 18 = 0) {s : Nat} (hs : 40 ≤ s) (hs2 : s < 1000) (hk : ¬ kdx T n q = (s : Int)) : f_X12_sign m (ii (s : Int)) (mz S A B c) = some (ii ((0 : Nat) : Int), mz S (za A m (up (A m) 18 ((8 * q + 1 : Nat) : Int))) B c) := by
  have w := m_is (A := A) (B := B) (c := c) (s := s) hM hT hs hs2 (fun h => (hB.2.2 q h).2)
  rw [bitN hk] at w
  unfold f_X12_sign
  simp only [Mv hM, Option.bind_some, w]
  rw [if_pos (show ii ((0 : Nat) : Int) = (0 : Int32) from rfl)]
  simp only [k1, m_bad hM h18 hT.1, Option.bind_some, Mv hM, jzb_n (Or.inl rfl)]
theorem m_lname (hM : LM S m) (hB : MB A m T n) (hT : TM A m T n q) (hq : kdx T n q = 2) (h22 : A m 22 = (nl : Int)) (h6 : nl < 6) (h12 : A (m + 12) nl = ((wen T n q - q : Nat) : Int)) : jloop (f_X12_letLine_L87 m) jF (0 : Int32) (mz S A B c) = some (ii ((wen T n q - q : Nat) : Int), mz S (za A (m + 13) (mo (fun j => T (q + j)) (A (m + 13)) (6 * nl) (wen T n q - q))) B c) := by
  obtain ⟨b1, b2, b3, b4, b5, b6, b7⟩ := kdx_2 hq
  have hn := hB.2.1
  have key := fill_run (S := S) (A := A) (B := B) (c := c) (a := m + 13) (o := 6 * nl) (f := f_X12_letLine_L87 m) (fun j => T (q + j)) (wen T n q - q) (by omega) (fun i hi => by
    have l1 := b6 i hi
    have hBj : MB (za A (m + 13) (mo (fun j => T (q + j)) (A (m + 13)) (6 * nl) i)) m T n := MB_of hB (by rw [za_ne _ _ (by omega)]) (za_ne _ _ (by omega))
    unfold f_X12_letLine_L87
    simp (disch := omega) only [MR23 hM, MI22 hM, MR24 hM, MI14 hM, za_ne, h22, Option.bind_some, Ma12 hM, h12, n_le, show ¬ (wen T n q - q ≤ i) by omega, ↓reduceIte, hT.1, Mv hM, n_add, m_byte hM hBj (show q + i < n by omega), k6, n_mul, k1]
    rw [show T (q + i) % 256 = T (q + i) by omega, jsI_m (MS13 hM) (by omega) (by omega) rfl]
    rfl) (by
    unfold f_X12_letLine_L87
    simp (disch := omega) only [MR23 hM, MI22 hM, za_ne, h22, Option.bind_some, Mv hM, Ma12 hM, h12, n_le, Nat.le_refl, ↓reduceIte])
  exact key
theorem m_let (hM : LM S m) (hP : PR p) (hS : MS A m T n p nl L) (hs : SM A m T n q) (hq : q ≤ n) (ht : tok T n q) (h0 : kdx T n q ≠ 0) :
    MLC S B c m T n p nl L A (plet T n p nl L q) (f_X12_letLine m (mz S A B c)) := by
  have h6 := hS.2.2.2.1
  have h22 : A m 22 = (nl : Int) := hS.2.2.1
  have hF : ∀ i, i < nl → isF p (L i).2.1 (L i).2.2 := fun i hi => (hS.2.2.2.2 i hi).1.2
  have hn := hS.2.1.2.1
  obtain ⟨hT, h18, h30⟩ := hs
  have hqn := kdx_n h0
  obtain ⟨x1, x2, x3⟩ := nxt_k h0 ht
  have w := m_isLetW (B := B) (c := c) hM hS.2.1 hT
  unfold f_X12_letLine plet
  simp only [Mv hM, Option.bind_some, w]
  by_cases c5 : kdx T n q = 5
  · rw [bitY c5, if_neg (show ¬ ii ((1 : Nat) : Int) = (0 : Int32) by decide), if_pos c5]
    simp only [MI22 hM, h22, Option.bind_some, Mv hM]
    by_cases c6 : nl < 6
    · rw [if_neg (show ¬ ii (nl : Int) = (6 : Int32) by rw [k6, n_eq (by omega) (by omega)]; omega), if_pos c6]
      obtain ⟨A1, e1, T1, g2, g3⟩ := m_next (B := B) (c := c) hM hS.2.1 hT hqn
      simp only [e1, Option.bind_some, Mv hM]
      generalize nxt T n q = q1 at x1 x2 x3 T1 ⊢
      have f1 : MF m A A1 0 := MF_k g2 (fun k h1 _ _ => g3 k (by omega))
      have hS1 := MS_MF hS f1
      have w1 := m_isName (B := B) (c := c) hM hS1.2.1 T1
      have a18 : A1 m 18 = 0 := by rw [g3 18 (by omega)]; exact h18
      have a30 : A1 m 30 = 0 := by rw [g3 30 (by omega)]; exact h30
      simp only [w1, Option.bind_some, Mv hM]
      by_cases c2 : kdx T n q1 = 2
      · rw [bitY c2, if_neg (show ¬ ii ((1 : Nat) : Int) = (0 : Int32) by decide), if_pos c2]
        have hq1 := kdx_n (T := T) (n := n) (q := q1) (by omega)
        obtain ⟨y1, y2, y3⟩ := nxt_k (show kdx T n q1 ≠ 0 by omega) x3
        obtain ⟨b1, b2, b3, b4, b5, b6, b7⟩ := kdx_2 c2
        have et : ten T n q1 = wen T n q1 := by unfold ten; rw [if_neg (by omega), if_pos b2]
        have w2 := m_named (B := B) (c := c) hM hS1 T1 c2
        simp only [w2, Option.bind_some, Mv hM]
        by_cases g : fnd (fun i => vlx T n (L i).1 = vlx T n q1) nl 0 < nl
        · rw [if_pos g, if_pos g]
          generalize fnd (fun i => vlx T n (L i).1 = vlx T n q1) nl 0 = r at g ⊢
          rw [if_neg (show ¬ ii (r : Int) = (-1 : Int32) by rw [show (-1 : Int32) = ii (-1) from rfl, i_eq (by omega) (by omega) (by omega) (by omega)]; omega)]
          simp only [k2, m_bad hM a18 T1.1, Option.bind_some, Mv hM, jzb_n (Or.inl rfl)]
          exact MLC_fail (NF_MF f1)
        · rw [if_neg g, if_neg g, if_pos (show ii (-1) = (-1 : Int32) from rfl)]
          have h221 : A1 m 22 = (nl : Int) := hS1.2.2.1
          simp (disch := omega) only [MR23 hM, MI22 hM, h221, MI15 hM, MI14 hM, T1.1, T1.2.1, et, Option.bind_some, Mv hM, n_sub, Ms12 hM]
          have n2 : NF m A1 (za A1 (m + 12) (up (A1 (m + 12)) nl ((wen T n q1 - q1 : Nat) : Int))) := NF_a (by omega)
          generalize hA2 : za A1 (m + 12) (up (A1 (m + 12)) nl ((wen T n q1 - q1 : Nat) : Int)) = A2 at n2 ⊢
          have k2' : ∀ x, x ≠ m + 12 → A2 x = A1 x := fun x hx => by rw [← hA2, za_ne _ _ hx]
          have s2 : A2 (m + 12) = up (A1 (m + 12)) nl ((wen T n q1 - q1 : Nat) : Int) := by rw [← hA2, za_at]
          have B2 : MB A2 m T n := MB_of hS1.2.1 (by rw [k2' _ (by omega)]) (k2' _ (by omega))
          have T2 : TM A2 m T n q1 := TM_of T1 (fun k _ => by rw [k2' _ (by omega)])
          rw [m_lname hM B2 T2 c2 (by rw [k2' _ (by omega)]; exact h221) c6 (by rw [s2, up_at])]
          have n3 : NF m A2 (za A2 (m + 13) (mo (fun j => T (q1 + j)) (A2 (m + 13)) (6 * nl) (wen T n q1 - q1))) := NF_a (by omega)
          generalize hA3 : za A2 (m + 13) (mo (fun j => T (q1 + j)) (A2 (m + 13)) (6 * nl) (wen T n q1 - q1)) = A3 at n3 ⊢
          have k3' : ∀ x, x ≠ m + 13 → A3 x = A2 x := fun x hx => by rw [← hA3, za_ne _ _ hx]
          have s3 : A3 (m + 13) = mo (fun j => T (q1 + j)) (A1 (m + 13)) (6 * nl) (wen T n q1 - q1) := by rw [← hA3, za_at, k2' _ (by omega)]
          have B3 : MB A3 m T n := MB_of B2 (by rw [k3' _ (by omega)]) (k3' _ (by omega))
          have T3 : TM A3 m T n q1 := TM_of T2 (fun k _ => by rw [k3' _ (by omega)])
          have m3 : A3 m = A1 m := by rw [k3' _ (by omega), k2' _ (by omega)]
          have hS3 : MS A3 m T n p nl L := by
            obtain ⟨r1, r2, r3, r4, r5⟩ := hS1
            refine ⟨⟨by rw [m3]; exact r1.1, fun k hk => ?_⟩, B3, by rw [m3]; exact r3, r4, fun i hi => ?_⟩
            · rw [k3' _ (by omega), k2' _ (by omega), k3' _ (by omega), k2' _ (by omega), k3' _ (by omega), k2' _ (by omega)]
              exact r1.2 k hk
            · obtain ⟨v1, v2, v3, v4, v5⟩ := r5 i hi
              obtain ⟨-, -, -, d4, -, -, -⟩ := kdx_2 v1.1
              refine ⟨v1, ?_, fun j hj => ?_, ?_, fun k hk => ?_⟩
              · rw [k3' _ (by omega), s2, up_ne _ _ (by omega)]; exact v2
              · rw [s3, mo_out _ _ (by omega)]; exact v3 j hj
              · rw [k3' _ (by omega), k2' _ (by omega)]; exact v4
              · rw [k3' _ (by omega), k2' _ (by omega)]; exact v5 k hk
          have n13 := NF_trans (NF_MF f1) (NF_trans n2 n3)
          obtain ⟨A4, e4, T4, g4, h4⟩ := m_next (B := B) (c := c) hM B3 T3 hq1
          simp only [Option.bind_some, Mv hM, e4]
          generalize nxt T n q1 = q2 at y1 y2 y3 T4 ⊢
          have f4 : MF m A3 A4 0 := MF_k g4 (fun k h1 _ _ => h4 k (by omega))
          have hS4 := MS_MF hS3 f4
          have n14 := NF_trans n13 (NF_MF f4)
          have b18 : A4 m 18 = 0 := by rw [h4 18 (by omega), m3]; exact a18
          have b30 : A4 m 30 = 0 := by rw [h4 30 (by omega), m3]; exact a30
          have w4 := m_isBeW (B := B) (c := c) hM hS4.2.1 T4
          simp only [w4, Option.bind_some, Mv hM]
          by_cases c6' : kdx T n q2 = 6
          · rw [bitY c6', if_neg (show ¬ ii ((1 : Nat) : Int) = (0 : Int32) by decide), if_pos c6']
            have hq2 := kdx_n (T := T) (n := n) (q := q2) (by omega)
            obtain ⟨z1, z2, z3⟩ := nxt_k (show kdx T n q2 ≠ 0 by omega) y3
            obtain ⟨A5, e5, T5, g5, h5⟩ := m_next (B := B) (c := c) hM hS4.2.1 T4 hq2
            simp only [e5, Option.bind_some, Mv hM, k0, MP27 hM]
            generalize nxt T n q2 = q3 at z1 z2 z3 T5 ⊢
            have f5 : MF m A4 A5 0 := MF_k g5 (fun k h1 _ _ => h5 k (by omega))
            have f6 : MF m A5 (za A5 m (up (A5 m) 27 ((0 : Nat) : Int))) 0 := MF_up (by omega)
            have i6 : za A5 m (up (A5 m) 27 ((0 : Nat) : Int)) m 27 = ((0 : Nat) : Int) := by rw [za_at, up_at]
            have j6 : ∀ k, k ≠ 27 → za A5 m (up (A5 m) 27 ((0 : Nat) : Int)) m k = A5 m k := fun k hk => by rw [za_at, up_ne _ _ hk]
            generalize za A5 m (up (A5 m) 27 ((0 : Nat) : Int)) = A6 at f6 i6 j6 ⊢
            have f46 := MF_trans f5 f6 (Nat.le_refl _)
            have hS6 := MS_MF hS4 f46
            have n16 := NF_trans n14 (NF_MF f46)
            have s6 : ST A6 m T n q3 0 0 := ⟨TM_of T5 (fun k hk => j6 k (by omega)), by rw [j6 18 (by omega), h5 18 (by omega)]; exact b18, by rw [j6 30 (by omega), h5 30 (by omega)]; exact b30, i6⟩
            obtain ⟨A7, e7, f7, r7⟩ := m_reads (S := S) (B := B) (c := c) hM hP hF 10 0 rfl (by omega) A6 q3 0 hS6 s6 z2 z3 (by omega)
            have hg := psum_ok (T := T) (n := n) hP (FL_ok (T := T) (n := n) hF) 10 0 q3 z2 z3
            simp only [e7, Option.bind_some, Mv hM]
            have n17 := NF_trans n16 (NF_MF f7)
            have hS7 := MS_MF hS6 f7
            cases e : psum T n p (FL T n nl L) 10 0 q3 with
            | inl f =>
              rw [e] at r7
              rw [if_pos (show ii ((rb (Sum.inl f) : Nat) : Int) = ii ((0 : Nat) : Int) from rfl)]
              exact ⟨A7, n17, rfl, r7⟩
            | inr s =>
              rw [e] at r7 hg
              obtain ⟨s7, u2, u3⟩ := r7
              obtain ⟨T7, c18, c30, -⟩ := s7
              obtain ⟨w1, w2, w3, w4⟩ := hg
              rw [if_neg (show ¬ ii ((rb (Sum.inr s) : Nat) : Int) = ii ((0 : Nat) : Int) from show ¬ ii ((1 : Nat) : Int) = ii ((0 : Nat) : Int) by decide)]
              have h227 : A7 m 22 = (nl : Int) := hS7.2.2.1
              simp (disch := omega) only [MR25 hM, MI22 hM, h227, MR28 hM, Ma16 hM, u2, Option.bind_some, Mv hM, Ms14 hM, Sum.elim_inr]
              have n8 : NF m A7 (za A7 (m + 14) (up (A7 (m + 14)) nl ((s.2.1 : Nat) : Int))) := NF_a (by omega)
              generalize hA8 : za A7 (m + 14) (up (A7 (m + 14)) nl ((s.2.1 : Nat) : Int)) = A8 at n8 ⊢
              have k8' : ∀ x, x ≠ m + 14 → A8 x = A7 x := fun x hx => by rw [← hA8, za_ne _ _ hx]
              have s8 : A8 (m + 14) = up (A7 (m + 14)) nl ((s.2.1 : Nat) : Int) := by rw [← hA8, za_at]
              have h228 : A8 m 22 = (nl : Int) := by rw [k8' _ (by omega)]; exact h227
              simp (disch := omega) only [MR29 hM, MR26 hM, MI22 hM, h228, k181, n_mul, Option.bind_some, Mv hM]
              rw [m_copies (MS17 hM) (MS15 hM) (by omega) (by omega) (by omega) (by omega) (by omega)]
              have n9 : NF m A8 (za A8 (m + 15) (mo (fun k => A8 (m + 17) (0 + k)) (A8 (m + 15)) (181 * nl) 181)) := NF_a (by omega)
              generalize hA9 : za A8 (m + 15) (mo (fun k => A8 (m + 17) (0 + k)) (A8 (m + 15)) (181 * nl) 181) = A9 at n9 ⊢
              have k9' : ∀ x, x ≠ m + 15 → A9 x = A8 x := fun x hx => by rw [← hA9, za_ne _ _ hx]
              have s9 : A9 (m + 15) = mo (fun k => A7 (m + 17) (0 + k)) (A7 (m + 15)) (181 * nl) 181 := by rw [← hA9, za_at, k8' _ (by omega), k8' _ (by omega)]
              have h229 : A9 m 22 = (nl : Int) := by rw [k9' _ (by omega)]; exact h228
              simp (disch := omega) only [MI22 hM, h229, Option.bind_some, Mv hM, k1, n_add, MP22 hM]
              have n10 : NF m A9 (za A9 m (up (A9 m) 22 ((nl + 1 : Nat) : Int))) := NF_k (by omega)
              have j10 : ∀ k, k ≠ 22 → za A9 m (up (A9 m) 22 ((nl + 1 : Nat) : Int)) m k = A7 m k := fun k hk => by rw [za_at, up_ne _ _ hk, k9' _ (by omega), k8' _ (by omega)]
              have i10 : za A9 m (up (A9 m) 22 ((nl + 1 : Nat) : Int)) m 22 = ((nl + 1 : Nat) : Int) := by rw [za_at, up_at]
              have k10' : ∀ x, x ≠ m → za A9 m (up (A9 m) 22 ((nl + 1 : Nat) : Int)) x = A9 x := fun x hx => za_ne _ _ hx
              generalize za A9 m (up (A9 m) 22 ((nl + 1 : Nat) : Int)) = A10 at n10 j10 i10 k10' ⊢
              have n110 := NF_trans n17 (NF_trans n8 (NF_trans n9 n10))
              have B10 : MB A10 m T n := MB_of hS7.2.1 (j10 13 (by omega)) (by rw [k10' _ (by omega), k9' _ (by omega), k8' _ (by omega)])
              have T10 : TM A10 m T n s.1 := TM_of T7 (fun k hk => j10 k (by omega))
              have d18 : A10 m 18 = 0 := by rw [j10 18 (by omega)]; exact c18
              have d30 : A10 m 30 = 0 := by rw [j10 30 (by omega)]; exact c30
              by_cases c59 : kdx T n s.1 = 59
              · obtain ⟨A11, e11, T11, g11, h11⟩ := m_signY (B := B) (c := c) hM B10 T10 (s := 59) (by omega) (by omega) (by omega)
                rw [if_pos c59]
                simp only [k59, e11, Option.bind_some, Mv hM, jzb_n (Or.inr rfl)]
                have f11 : MF m A10 A11 0 := MF_k g11 (fun k h1 _ _ => h11 k (by omega))
                refine ⟨A11, NF_trans n110 (NF_MF f11), rfl, ?_, T11, by rw [h11 18 (by omega)]; exact d18, by rw [h11 30 (by omega)]; exact d30⟩
                refine MS_MF (A := A10) ?_ f11
                obtain ⟨r1, r2, r3, r4, r5⟩ := hS7
                have q7 : ∀ x, x ≠ m → x ≠ m + 14 → x ≠ m + 15 → A10 x = A7 x := fun x a1 a2 a3 => by rw [k10' x a1, k9' x a3, k8' x a2]
                have t12 : A7 (m + 12) nl = ((wen T n q1 - q1 : Nat) : Int) := by
                  rw [f7.1 _ (by omega) (by omega) (by omega) (by omega) (by omega), f46.1 _ (by omega) (by omega) (by omega) (by omega) (by omega), g4 _ (by omega), k3' _ (by omega), s2, up_at]
                have t13 : ∀ j, j < wen T n q1 - q1 → A7 (m + 13) (6 * nl + j) = T (q1 + j) := fun j hj => by
                  rw [f7.1 _ (by omega) (by omega) (by omega) (by omega) (by omega), f46.1 _ (by omega) (by omega) (by omega) (by omega) (by omega), g4 _ (by omega), s3, mo_in _ _ hj]
                refine ⟨⟨by rw [j10 1 (by omega)]; exact r1.1, fun k hk => ?_⟩, B10, i10, by omega, fun i hi => ?_⟩
                · rw [q7 _ (by omega) (by omega) (by omega), q7 _ (by omega) (by omega) (by omega), q7 _ (by omega) (by omega) (by omega)]
                  exact r1.2 k hk
                · rw [q7 (m + 12) (by omega) (by omega) (by omega), q7 (m + 13) (by omega) (by omega) (by omega)]
                  have e14 : A10 (m + 14) = up (A7 (m + 14)) nl ((s.2.1 : Nat) : Int) := by rw [k10' _ (by omega), k9' _ (by omega), s8]
                  have e15 : A10 (m + 15) = mo (fun k => A7 (m + 17) (0 + k)) (A7 (m + 15)) (181 * nl) 181 := by rw [k10' _ (by omega), s9]
                  rw [e14, e15]
                  by_cases gi : i = nl
                  · subst gi
                    rw [uL_at]
                    refine ⟨⟨c2, w4⟩, t12, t13, by rw [up_at], fun k hk => ?_⟩
                    rw [mo_in _ _ hk]
                    exact u3 k hk
                  · rw [uL_ne _ _ gi, up_ne _ _ gi]
                    obtain ⟨v1, v2, v3, v4, v5⟩ := r5 i (by omega)
                    refine ⟨v1, v2, v3, v4, fun k hk => ?_⟩
                    rw [mo_out _ _ (by omega)]
                    exact v5 k hk
              · rw [if_neg c59]
                simp only [k59, m_signN hM B10 T10 d18 (s := 59) (by omega) (by omega) (show ¬ kdx T n s.1 = ((59 : Nat) : Int) by omega), Option.bind_some, Mv hM, jzb_n (Or.inl rfl)]
                exact MLC_fail n110
          · rw [bitN c6', if_pos (show ii ((0 : Nat) : Int) = (0 : Int32) from rfl), if_neg c6']
            simp only [k1, m_bad hM b18 T4.1, Option.bind_some, Mv hM, jzb_n (Or.inl rfl)]
            exact MLC_fail n14
      · rw [bitN c2, if_pos (show ii ((0 : Nat) : Int) = (0 : Int32) from rfl), if_neg c2]
        simp only [k1, m_bad hM a18 T1.1, Option.bind_some, Mv hM, jzb_n (Or.inl rfl)]
        exact MLC_fail (NF_MF f1)
    · rw [if_pos (show ii (nl : Int) = (6 : Int32) by rw [k6, n_eq (by omega) (by omega)]; omega), if_neg c6]
      simp only [k5, m_bad hM h18 hT.1, Option.bind_some, Mv hM, jzb_n (Or.inl rfl)]
      exact MLC_fail (NF_refl m A)
  · rw [bitN c5, if_pos (show ii ((0 : Nat) : Int) = (0 : Int32) from rfl), if_neg c5]
    simp only [k1, m_bad hM h18 hT.1, Option.bind_some, Mv hM, jzb_n (Or.inl rfl)]
    exact MLC_fail (NF_refl m A)
/-- the reference reads its lets -/
theorem m_lets (hM : LM S m) (hP : PR p) (x : Int32) : ∀ (k nl : Nat) (L : LT) (q : Nat) (A : ZA), nl + k = 7 → MS A m T n p nl L → SM A m T n q → q ≤ n → tok T n q → ∀ fuel, k + 1 < fuel →
    ∃ A' : ZA, NF m A A' ∧ Sum.elim (fun (g : Nat) => jloop (f_X12_book_L99 m x) fuel (ii ((1 : Nat) : Int)) (mz S A B c) = some (ii ((0 : Nat) : Int), mz S A' B c) ∧ A' m 18 = (g : Int)) (fun s => jloop (f_X12_book_L99 m x) fuel (ii ((1 : Nat) : Int)) (mz S A B c) = some (ii ((1 : Nat) : Int), mz S A' B c) ∧ MS A' m T n p s.1 s.2) (plts T n p k nl L q) := by
  intro k
  induction k with
  | zero => intro nl L q A h1 h2; have := h2.2.2.2.1; omega
  | succ k ih =>
    intro nl L q A h1 hS hs hq ht fuel hf
    obtain ⟨fu, rfl⟩ : ∃ x, fuel = x + 1 := ⟨fuel - 1, by omega⟩
    have htk := kdx_tk T n q
    unfold plts
    by_cases c0 : kdx T n q = 0
    · rw [if_pos c0]
      refine ⟨A, NF_refl m A, jloop_end ?_, hS⟩
      unfold f_X12_book_L99
      rw [if_neg (show ¬ ii ((1 : Nat) : Int) = (0 : Int32) by decide), MI16 hM, hs.1.2.2.1]
      simp only [Option.bind_some, Mv hM]
      rw [if_pos (show ii (tk T n q) = (0 : Int32) by rw [htk.1.mpr c0]; rfl)]
    · rw [if_neg c0]
      have hF : ∀ i, i < nl → isF p (L i).2.1 (L i).2.2 := fun i hi => (hS.2.2.2.2 i hi).1.2
      have st : ∀ r : Int32 × JH, f_X12_letLine m (mz S A B c) = some r → f_X12_book_L99 m x (ii ((1 : Nat) : Int)) (mz S A B c) = some (.inl r.1, r.2) := fun r hr => by
        unfold f_X12_book_L99
        rw [if_neg (show ¬ ii ((1 : Nat) : Int) = (0 : Int32) by decide), MI16 hM, hs.1.2.2.1]
        simp only [Option.bind_some, Mv hM]
        rw [if_neg (show ¬ ii (tk T n q) = (0 : Int32) by rw [k0, i_eq (by omega) (by omega) (by omega) (by omega)]; intro z; exact c0 (htk.1.mp z))]
        simp only [Mv hM, Option.bind_some, hr]
      obtain ⟨A1, f1, r1⟩ := m_let (B := B) (c := c) hM hP hS hs hq ht c0
      cases e : plet T n p nl L q with
      | inl g =>
        rw [e] at r1
        obtain ⟨fv, rfl⟩ : ∃ x, fu = x + 1 := ⟨fu - 1, by omega⟩
        refine ⟨A1, f1, ?_, r1.2⟩
        rw [jloop_go (st _ r1.1)]
        refine jloop_end ?_
        unfold f_X12_book_L99
        rw [if_pos (show ii ((0 : Nat) : Int) = (0 : Int32) from rfl)]
      | inr s =>
        rw [e] at r1
        obtain ⟨r1, r2, r3⟩ := r1
        obtain ⟨p1, p2, p3, p4, p5⟩ := plet_ok hP hF ht e
        simp only [Sum.elim_inr, jloop_go (st _ r1)]
        obtain ⟨A2, f2, r4⟩ := ih (nl + 1) (uL L nl s.2) s.1 A1 (by omega) r2 r3 p2 p3 fu (by omega)
        exact ⟨A2, NF_trans f1 f2, r4⟩
end rd
