/-! The prime's line, in the class and in the reference. -/
def pprm (T : Nat → Int) (n q : Nat) : Nat ⊕ (Int × Nat) :=
  if kdx T n q = 4 then
    (if kdx T n (nxt T n q) = 3 then
      (if isPm (vlx T n (nxt T n q)) then
        (if kdx T n (nxt T n (nxt T n q)) = 59 then .inr (vlx T n (nxt T n q), nxt T n (nxt T n (nxt T n q))) else .inl (8 * nxt T n (nxt T n q) + 1))
      else .inl (8 * nxt T n q + 4))
    else .inl (8 * nxt T n q + 1))
  else .inr (1009, q)
theorem pprm_ok {T : Nat → Int} {n q : Nat} (hq : q ≤ n) (ht : tok T n q) {s : Int × Nat} (h : pprm T n q = .inr s) : PR s.1 ∧ s.2 ≤ n ∧ tok T n s.2 := by
  unfold pprm at h
  by_cases c4 : kdx T n q = 4
  · rw [if_pos c4] at h
    obtain ⟨-, b1, t1⟩ := nxt_k (show kdx T n q ≠ 0 by omega) ht
    generalize nxt T n q = q1 at b1 t1 h
    by_cases c3 : kdx T n q1 = 3
    · rw [if_pos c3] at h
      obtain ⟨-, b2, t2⟩ := nxt_k (show kdx T n q1 ≠ 0 by omega) t1
      generalize nxt T n q1 = q2 at b2 t2 h
      by_cases g : isPm (vlx T n q1)
      · rw [if_pos g] at h
        by_cases c59 : kdx T n q2 = 59
        · rw [if_pos c59] at h
          obtain ⟨-, b3, t3⟩ := nxt_k (show kdx T n q2 ≠ 0 by omega) t2
          cases h
          exact ⟨isPm_PR g, b3, t3⟩
        · rw [if_neg c59] at h; cases h
      · rw [if_neg g] at h; cases h
    · rw [if_neg c3] at h; cases h
  · rw [if_neg c4] at h
    cases h
    exact ⟨PR_1009, hq, ht⟩
section rd
variable {S : SS} {A B : ZA} {c : (Nat × Nat) × (Nat → Nat)} {b n : Nat} {T : Nat → Int} {L : LT} {q : Nat}
theorem x_prime (hX : LX S b) (hC : CS S A c b T n 1009 0 L) (hi : A (b + 155) 6 = ((tcn T q : Nat) : Int)) (hq : q ≤ n) (ht : tok T n q) :
    ∃ A' : ZA, XF b A A' ∧ Sum.elim (fun (g : Nat) => f_X0_readPrime (b + 155) (mz S A B c) = some (ii ((0 : Nat) : Int), mz S A' B c) ∧ A' (b + 155) 0 = (g : Int)) (fun s => f_X0_readPrime (b + 155) (mz S A B c) = some (ii ((1 : Nat) : Int), mz S A' B c) ∧ CS S A' c b T n s.1 0 L ∧ A' (b + 155) 6 = ((tcn T s.2 : Nat) : Int)) (pprm T n q) := by
  have hkr := kdx_r T n q
  unfold f_X0_readPrime pprm
  simp only [Dv hX, Option.bind_some, x_kind hX hC hi hq ht]
  by_cases c4 : kdx T n q = 4
  · rw [if_pos (show ii (kdx T n q) = (4 : Int32) by rw [c4]; rfl), if_pos c4]
    have hqn := kdx_n (T := T) (n := n) (q := q) (by omega)
    obtain ⟨x1, x2, x3⟩ := nxt_k (show kdx T n q ≠ 0 by omega) ht
    rw [x_goOn hX hC hi hqn ht]
    have f1 : PF b A (za A (b + 155) (up (A (b + 155)) 6 ((tcn T (nxt T n q) : Nat) : Int))) 0 0 0 := PF_k (Or.inr rfl)
    generalize nxt T n q = q1 at x1 x2 x3 f1 ⊢
    generalize hA1 : za A (b + 155) (up (A (b + 155)) 6 ((tcn T q1 : Nat) : Int)) = A1 at f1 ⊢
    have i1 : A1 (b + 155) 6 = ((tcn T q1 : Nat) : Int) := by rw [← hA1, za_at, up_at]
    have hC1 := CS_PF hC f1
    have hkr1 := kdx_r T n q1
    simp only [Option.bind_some, Dv hX, x_kind hX hC1 i1 x2 x3]
    by_cases c3 : kdx T n q1 = 3
    · rw [if_pos (show ii (kdx T n q1) = (3 : Int32) by rw [c3]; rfl), if_pos c3]
      have hq1 := kdx_n (T := T) (n := n) (q := q1) (by omega)
      obtain ⟨y1, y2, y3⟩ := nxt_k (show kdx T n q1 ≠ 0 by omega) x3
      have hv := vlx_r (T := T) hq1
      simp only [x_value hX hC1 i1 hq1 x3, Option.bind_some, x_isPm _ hv.1 hv.2]
      by_cases g : isPm (vlx T n q1)
      · rw [bitY g, if_neg (show ¬ ii ((1 : Nat) : Int) = (0 : Int32) by decide), if_pos g]
        simp only [DP1 hX, Option.bind_some]
        have g2 : ∀ x, x ≠ b + 155 → za A1 (b + 155) (up (A1 (b + 155)) 1 (vlx T n q1)) x = A1 x := fun x hx => za_ne _ _ hx
        have o2 : za A1 (b + 155) (up (A1 (b + 155)) 1 (vlx T n q1)) (b + 155) = up (A1 (b + 155)) 1 (vlx T n q1) := za_at _ _ _
        generalize za A1 (b + 155) (up (A1 (b + 155)) 1 (vlx T n q1)) = A2 at g2 o2 ⊢
        have hC2 : CS S A2 c b T n (vlx T n q1) 0 L := by
          obtain ⟨j1, j2, j3, j4, j5, j6, j7⟩ := hC1
          refine ⟨fun i hi => ⟨(j1 i hi).1, (j1 i hi).2.1, fun k hk => ?_⟩, ?_, j3, by rw [o2, up_at], by rw [o2, up_ne _ _ (by omega)]; exact j5, j6, fun i hi => absurd hi (by omega)⟩
          · have := (j1 i hi).1
            rw [g2 _ (by omega)]
            exact (j1 i hi).2.2 k hk
          · unfold TOK
            rw [g2 (b + 170) (by omega), g2 (b + 171) (by omega), g2 (b + 172) (by omega), g2 (b + 173) (by omega)]
            exact j2
        have i2 : A2 (b + 155) 6 = ((tcn T q1 : Nat) : Int) := by rw [o2, up_ne _ _ (by omega)]; exact i1
        have f12 : XF b A A2 := XF_trans (XF_PF f1) (fun x hx => g2 x (by omega))
        rw [x_goOn hX hC2 i2 hq1 x3]
        have f3 : PF b A2 (za A2 (b + 155) (up (A2 (b + 155)) 6 ((tcn T (nxt T n q1) : Nat) : Int))) 0 0 0 := PF_k (Or.inr rfl)
        generalize nxt T n q1 = q2 at y1 y2 y3 f3 ⊢
        generalize hA3 : za A2 (b + 155) (up (A2 (b + 155)) 6 ((tcn T q2 : Nat) : Int)) = A3 at f3 ⊢
        have i3 : A3 (b + 155) 6 = ((tcn T q2 : Nat) : Int) := by rw [← hA3, za_at, up_at]
        have hC3 := CS_PF hC2 f3
        have f13 := XF_trans f12 (XF_PF f3)
        simp only [Option.bind_some, Dv hX]
        by_cases c59 : kdx T n q2 = 59
        · rw [if_pos c59, k59, x_expY hX hC3 i3 y3 (k := 59) (by omega) (by omega)]
          simp only [Option.bind_some, jzb_n (Or.inr rfl)]
          exact ⟨_, XF_trans f13 XF_k, rfl, CS_PF hC3 (PF_k (s := 0) (r := 0) (w := 0) (Or.inr rfl)), by rw [za_at, up_at]⟩
        · rw [if_neg c59, k59, x_expN hX hC3 i3 y2 y3 (k := 59) (by omega) (by omega)]
          simp only [Option.bind_some, jzb_n (Or.inl rfl)]
          exact ⟨_, XF_trans f13 XF_k, rfl, by rw [za_at, up_at]⟩
      · rw [bitN g, if_pos (show ii ((0 : Nat) : Int) = (0 : Int32) from rfl), if_neg g]
        simp only [DI6 hX, i1, Option.bind_some, k4, x_fail hX hC1 x2 x3, jzb_n (Or.inl rfl), Dv hX]
        exact ⟨_, XF_trans (XF_PF f1) XF_k, rfl, by rw [za_at, up_at]⟩
    · rw [if_neg (show ¬ ii (kdx T n q1) = (3 : Int32) by rw [k3, i_eq (by omega) (by omega) (by omega) (by omega)]; omega), if_neg c3]
      simp only [DI6 hX, i1, Option.bind_some, k1, x_fail hX hC1 x2 x3, jzb_n (Or.inl rfl), Dv hX]
      exact ⟨_, XF_trans (XF_PF f1) XF_k, rfl, by rw [za_at, up_at]⟩
  · rw [if_neg (show ¬ ii (kdx T n q) = (4 : Int32) by rw [k4, i_eq (by omega) (by omega) (by omega) (by omega)]; omega), if_neg c4]
    exact ⟨A, fun _ _ => rfl, rfl, hC, hi⟩
end rd
/-- what reading a book changes of the reference -/
def RF (m : Nat) (A A' : ZA) : Prop := (∀ x, x ≠ m → ¬ (m + 1 ≤ x ∧ x ≤ m + 5) → ¬ (m + 12 ≤ x ∧ x ≤ m + 17) → A' x = A x) ∧ (∀ k, k ≠ 1 → ¬ (14 ≤ k ∧ k ≤ 18) → k ≠ 22 → k ≠ 27 → k ≠ 30 → A' m k = A m k)
theorem RF_refl (m : Nat) (A : ZA) : RF m A A := ⟨fun _ _ _ _ => rfl, fun _ _ _ _ _ _ => rfl⟩
theorem RF_trans {m : Nat} {A A' A'' : ZA} (h : RF m A A') (h' : RF m A' A'') : RF m A A'' :=
  ⟨fun x a b c => by rw [h'.1 x a b c, h.1 x a b c], fun k a b c d e => by rw [h'.2 k a b c d e, h.2 k a b c d e]⟩
theorem RF_NF {m : Nat} {A A' : ZA} (h : NF m A A') : RF m A A' := ⟨fun x a b c => h.1 x a (by omega) (by omega) c, fun k _ b c d e => h.2 k b c d e⟩
theorem RF_k {m k : Nat} {A : ZA} {v : Int} (hk : k = 1 ∨ (14 ≤ k ∧ k ≤ 18) ∨ k = 22 ∨ k = 27 ∨ k = 30) : RF m A (za A m (up (A m) k v)) := ⟨fun x a _ _ => za_ne _ _ a, fun j _ _ _ _ _ => by rw [za_at, up_ne _ _ (by omega)]⟩
section rd
variable {S : SS} {A B : ZA} {c : (Nat × Nat) × (Nat → Nat)} {m n : Nat} {T : Nat → Int} {L : LT} {q : Nat}
theorem m_lay (hM : LM S m) {p : Int} (hP : PR p) (h1 : A m 1 = p) : ∃ A' : ZA, f_X12_laysBasic m (mz S A B c) = some ((), mz S A' B c) ∧ Bas A' m p ∧ A' m = A m ∧ (∀ x, ¬ (m + 1 ≤ x ∧ x ≤ m + 4) → A' x = A x) := by
  have hp := PR_p hP
  obtain ⟨A', e, y1, y2⟩ := m_basic (B := B) (c := c) hM h1 hP.1 (by omega)
  exact ⟨A', e, ⟨by rw [y2 _ (by omega) (by omega) (by omega) (by omega)]; exact h1, y1⟩, y2 _ (by omega) (by omega) (by omega) (by omega), fun x hx => y2 x (by omega) (by omega) (by omega) (by omega)⟩
theorem m_primeL (hM : LM S m) (hS : MS A m T n 1009 0 L) (hs : SM A m T n q) (hq : q ≤ n) (ht : tok T n q) (c4 : kdx T n q = 4) :
    ∃ A' : ZA, RF m A A' ∧ Sum.elim (fun (g : Nat) => f_X12_primeLine m (mz S A B c) = some (ii ((0 : Nat) : Int), mz S A' B c) ∧ A' m 18 = (g : Int)) (fun s => f_X12_primeLine m (mz S A B c) = some (ii ((1 : Nat) : Int), mz S A' B c) ∧ MS A' m T n s.1 0 L ∧ SM A' m T n s.2) (pprm T n q) := by
  obtain ⟨hT, h18, h30⟩ := hs
  have hqn := kdx_n (T := T) (n := n) (q := q) (by omega)
  obtain ⟨x1, x2, x3⟩ := nxt_k (show kdx T n q ≠ 0 by omega) ht
  obtain ⟨A1, e1, T1, g2, g3⟩ := m_next (B := B) (c := c) hM hS.2.1 hT hqn
  unfold f_X12_primeLine pprm
  rw [if_pos c4]
  simp only [Mv hM, Option.bind_some, e1]
  generalize nxt T n q = q1 at x1 x2 x3 T1 ⊢
  have f1 : MF m A A1 0 := MF_k g2 (fun k h1 _ _ => g3 k (by omega))
  have r1 : RF m A A1 := RF_NF (NF_MF f1)
  have hS1 := MS_MF hS f1
  have a18 : A1 m 18 = 0 := by rw [g3 18 (by omega)]; exact h18
  have a30 : A1 m 30 = 0 := by rw [g3 30 (by omega)]; exact h30
  have htk := kdx_tk T n q1
  simp only [MI16 hM, T1.2.2.1, Option.bind_some, Mv hM]
  by_cases c3 : kdx T n q1 = 3
  · rw [if_pos (show ii (tk T n q1) = (2 : Int32) by rw [htk.2.1.mpr c3]; rfl), if_pos c3]
    obtain ⟨v1, v2, v3, v4, v5⟩ := vlx_3 c3
    have e17 : A1 m 17 = mval T n q1 := T1.2.2.2.1 (htk.2.1.mpr c3)
    have hmv : -2147483648 ≤ mval T n q1 ∧ mval T n q1 < 2147483648 ∧ (mval T n q1 ≤ 9973 → mval T n q1 = vlx T n q1 ∧ 0 ≤ mval T n q1) ∧ (¬ mval T n q1 ≤ 9973 → ¬ vlx T n q1 ≤ 9973 ∨ vlx T n q1 < 101) := by omega
    obtain ⟨m1, m2, m3, m4⟩ := hmv
    simp only [MI17 hM, e17, Option.bind_some, Mv hM]
    rw [k101, k9973, m_win _ m1 m2 (by omega) (by omega) (by omega) (by omega)]
    simp only [Option.bind_some, Mv hM]
    by_cases g : ((101 : Nat) : Int) ≤ mval T n q1 ∧ mval T n q1 ≤ ((9973 : Nat) : Int)
    · rw [bitY g, if_neg (show ¬ ii ((1 : Nat) : Int) = (0 : Int32) by decide)]
      obtain ⟨m5, m6⟩ := m3 (by omega)
      obtain ⟨N, hN⟩ : ∃ N : Nat, vlx T n q1 = (N : Int) := ⟨(vlx T n q1).toNat, by omega⟩
      have iff : isPm (vlx T n q1) ↔ N < prq N * prq N := by
        rw [hN]
        constructor
        · intro h
          have := h.2.2
          rw [Int.toNat_natCast] at this
          exact this
        · intro h
          exact ⟨by omega, by omega, by rw [Int.toNat_natCast]; exact h⟩
      have e17' : A1 m 17 = vlx T n q1 := by rw [e17, m5]
      simp only [MI17 hM, e17', Option.bind_some, Mv hM]
      rw [hN, m_isPm _ (by omega), ← hN]
      simp only [MI17 hM, e17', Option.bind_some, Mv hM]
      by_cases g2 : isPm (vlx T n q1)
      · have hPR := isPm_PR g2
        rw [bitY (iff.mp g2), if_neg (show ¬ ii ((1 : Nat) : Int) = (0 : Int32) by decide), if_pos g2]
        simp only [MP1 hM, Option.bind_some, Mv hM]
        have r2 : RF m A1 (za A1 m (up (A1 m) 1 (vlx T n q1))) := RF_k (by omega)
        have j2 : ∀ k, k ≠ 1 → za A1 m (up (A1 m) 1 (vlx T n q1)) m k = A1 m k := fun k hk => by rw [za_at, up_ne _ _ hk]
        have o2 : za A1 m (up (A1 m) 1 (vlx T n q1)) m 1 = vlx T n q1 := by rw [za_at, up_at]
        have k2' : ∀ x, x ≠ m → za A1 m (up (A1 m) 1 (vlx T n q1)) x = A1 x := fun x hx => za_ne _ _ hx
        generalize za A1 m (up (A1 m) 1 (vlx T n q1)) = A2 at r2 j2 o2 k2' ⊢
        obtain ⟨A3, e3, b3, m3, k3'⟩ := m_lay (B := B) (c := c) hM hPR o2
        have r3 : RF m A2 A3 := ⟨fun x _ h _ => k3' x (by omega), fun k _ _ _ _ _ => by rw [m3]⟩
        have B3 : MB A3 m T n := MB_of hS1.2.1 (by rw [m3, j2 _ (by omega)]) (by rw [k3' _ (by omega), k2' _ (by omega)])
        have T3 : TM A3 m T n q1 := TM_of T1 (fun k hk => by rw [m3, j2 _ (by omega)])
        have hS3 : MS A3 m T n (vlx T n q1) 0 L := ⟨b3, B3, by rw [m3, j2 _ (by omega)]; exact hS1.2.2.1, by omega, fun i hi => absurd hi (by omega)⟩
        obtain ⟨A4, e4, T4, g4, h4⟩ := m_next (B := B) (c := c) hM B3 T3 v1
        obtain ⟨y1, y2, y3⟩ := nxt_k (show kdx T n q1 ≠ 0 by omega) x3
        simp only [e3, e4, Option.bind_some, Mv hM]
        generalize nxt T n q1 = q2 at y1 y2 y3 T4 ⊢
        have f4 : MF m A3 A4 0 := MF_k g4 (fun k h1 _ _ => h4 k (by omega))
        have hS4 := MS_MF hS3 f4
        have r14 := RF_trans r1 (RF_trans r2 (RF_trans r3 (RF_NF (NF_MF f4))))
        have b18 : A4 m 18 = 0 := by rw [h4 18 (by omega), m3, j2 _ (by omega)]; exact a18
        have b30 : A4 m 30 = 0 := by rw [h4 30 (by omega), m3, j2 _ (by omega)]; exact a30
        by_cases c59 : kdx T n q2 = 59
        · obtain ⟨A5, e5, T5, g5, h5⟩ := m_signY (B := B) (c := c) hM hS4.2.1 T4 (s := 59) (by omega) (by omega) (by omega)
          rw [if_pos c59]
          simp only [k59, e5, Option.bind_some, Mv hM, jzb_n (Or.inr rfl)]
          have f5 : MF m A4 A5 0 := MF_k g5 (fun k h1 _ _ => h5 k (by omega))
          exact ⟨A5, RF_trans r14 (RF_NF (NF_MF f5)), rfl, MS_MF hS4 f5, T5, by rw [h5 18 (by omega)]; exact b18, by rw [h5 30 (by omega)]; exact b30⟩
        · rw [if_neg c59]
          simp only [k59, m_signN hM hS4.2.1 T4 b18 (s := 59) (by omega) (by omega) (show ¬ kdx T n q2 = ((59 : Nat) : Int) by omega), Option.bind_some, Mv hM, jzb_n (Or.inl rfl)]
          exact ⟨_, RF_trans r14 (RF_k (k := 18) (by omega)), rfl, by rw [za_at, up_at]⟩
      · rw [bitN (fun x => g2 (iff.mpr x)), if_pos (show ii ((0 : Nat) : Int) = (0 : Int32) from rfl), if_neg g2]
        simp only [k4, m_bad hM a18 T1.1, Option.bind_some, Mv hM, jzb_n (Or.inl rfl)]
        exact ⟨_, RF_trans r1 (RF_k (k := 18) (by omega)), rfl, by rw [za_at, up_at]⟩
    · have ng : ¬ isPm (vlx T n q1) := by
        intro h
        have h1 := h.1
        have h2 := h.2.1
        omega
      rw [bitN g, if_pos (show ii ((0 : Nat) : Int) = (0 : Int32) from rfl), if_neg ng]
      simp only [k4, m_bad hM a18 T1.1, Option.bind_some, Mv hM, jzb_n (Or.inl rfl)]
      exact ⟨_, RF_trans r1 (RF_k (k := 18) (by omega)), rfl, by rw [za_at, up_at]⟩
  · rw [if_neg (show ¬ ii (tk T n q1) = (2 : Int32) by rw [show (2 : Int32) = ii 2 from rfl, i_eq (by omega) (by omega) (by omega) (by omega)]; intro x; exact c3 (htk.2.1.mp x)), if_neg c3]
    simp only [k1, m_bad hM a18 T1.1, Option.bind_some, Mv hM, jzb_n (Or.inl rfl)]
    exact ⟨_, RF_trans r1 (RF_k (k := 18) (by omega)), rfl, by rw [za_at, up_at]⟩
end rd
