/-! The reference takes what it has read. -/
section ops
theorem m_takes {S : SS} {A B : ZA} {c : (Nat × Nat) × (Nat → Nat)} {m : Nat} (hM : LM S m) :
    ∃ A' : ZA, f_X12_takes m (mz S A B c) = some ((), mz S A' B c) ∧ A' m 7 = -1 ∧ A' m 19 = A m 22 ∧ (∀ k, k ≠ 7 → k ≠ 19 → A' m k = A m k) ∧ (∀ i, i < 6 → A' (m + 10) i = A (m + 14) i) ∧ (∀ i, i < 1086 → A' (m + 11) i = A (m + 15) i) ∧ (∀ r, r < 4 → A' (m + 18) r = 0) ∧ (∀ r, r < 4 → ∀ n, n < 181 → A' (m + 19) (181 * r + n) = if n = 0 then 1 else 0) ∧ (∀ i, i < 8 → A' (m + 26) i = 0) ∧ (∀ i, i < 2 → A' (m + 28) i = 0) ∧ (∀ x, x ≠ m → x ≠ m + 10 → x ≠ m + 11 → x ≠ m + 18 → x ≠ m + 19 → x ≠ m + 26 → x ≠ m + 28 → A' x = A x) := by
  generalize hA1 : za A m (up (up (A m) 7 (-1)) 19 (A m 22)) = A1
  have key1 := z_run (S := S) (B := B) (c := c) (f := f_X12_takes_L15 m) (fun t => ii (t : Int)) (fun t A' => (∀ i, i < t → A' (m + 10) i = A1 (m + 14) i) ∧ (∀ x, x ≠ m + 10 → A' x = A1 x)) 6 (t := ii ((6 : Nat) : Int)) (by omega) (fun t ht A2 ⟨y1, y2⟩ => by
    refine ⟨za A2 (m + 10) (up (A2 (m + 10)) t (A2 (m + 14) t)), ?_, fun i hi => ?_, fun x hx => by rw [za_ne _ _ hx]; exact y2 x hx⟩
    · unfold f_X12_takes_L15
      simp (disch := omega) only [k6, n_le, show ¬ (6 ≤ t) by omega, ↓reduceIte, MR20 hM, MR25 hM, Option.bind_some, Ma14 hM, Ms10 hM, k1, n_add]
    · rw [za_at]
      by_cases q : i = t
      · subst q; rw [up_at, y2 _ (by omega)]
      · rw [up_ne _ _ q]; exact y1 i (by omega)) (fun A2 _ => by
    unfold f_X12_takes_L15
    rw [if_pos (by decide)]) (A0 := A1) ⟨fun i hi => by omega, fun _ _ => rfl⟩
  obtain ⟨A2, e2, a2, b2⟩ := key1
  have key2 := z_run (S := S) (B := B) (c := c) (f := f_X12_takes_L41 m) (fun t => ii (t : Int)) (fun t A' => (∀ i, i < t → A' (m + 11) i = A2 (m + 15) i) ∧ (∀ x, x ≠ m + 11 → A' x = A2 x)) 1086 (t := ii ((1086 : Nat) : Int)) (by omega) (fun t ht A3 ⟨y1, y2⟩ => by
    refine ⟨za A3 (m + 11) (up (A3 (m + 11)) t (A3 (m + 15) t)), ?_, fun i hi => ?_, fun x hx => by rw [za_ne _ _ hx]; exact y2 x hx⟩
    · unfold f_X12_takes_L41
      simp (disch := omega) only [k1086, n_le, show ¬ (1086 ≤ t) by omega, ↓reduceIte, MR21 hM, MR26 hM, Option.bind_some, Ma15 hM, Ms11 hM, k1, n_add]
    · rw [za_at]
      by_cases q : i = t
      · subst q; rw [up_at, y2 _ (by omega)]
      · rw [up_ne _ _ q]; exact y1 i (by omega)) (fun A3 _ => by
    unfold f_X12_takes_L41
    rw [if_pos (by decide)]) (A0 := A2) ⟨fun i hi => by omega, fun _ _ => rfl⟩
  obtain ⟨A3, e3, a3, b3⟩ := key2
  have key3 := z_run (S := S) (B := B) (c := c) (f := f_X12_takes_L68 m) (fun t => ii (t : Int)) (fun t A' => (∀ r, r < t → A' (m + 18) r = 0) ∧ (∀ r, r < t → ∀ n, n < 181 → A' (m + 19) (181 * r + n) = if n = 0 then 1 else 0) ∧ (∀ x, x ≠ m + 18 → x ≠ m + 19 → A' x = A3 x)) 4 (t := ii ((4 : Nat) : Int)) (by omega) (fun t ht A4 ⟨y1, y2, y3⟩ => by
    generalize hA5 : za A4 (m + 18) (up (A4 (m + 18)) t ((0 : Nat) : Int)) = A5
    have g5 : ∀ x, x ≠ m + 18 → A5 x = A4 x := fun x hx => by rw [← hA5, za_ne _ _ hx]
    have key := z_run (S := S) (B := B) (c := c) (f := f_X12_takes_L82 m (ii (t : Int))) (fun u => ii (u : Int)) (fun u A' => (∀ r, r < t → ∀ n, n < 181 → A' (m + 19) (181 * r + n) = if n = 0 then 1 else 0) ∧ (∀ n, n < u → A' (m + 19) (181 * t + n) = if n = 0 then 1 else 0) ∧ (∀ x, x ≠ m + 19 → A' x = A5 x)) 181 (t := ii ((181 : Nat) : Int)) (by omega) (fun u hu A6 ⟨z1, z2, z3⟩ => by
      refine ⟨za A6 (m + 19) (up (A6 (m + 19)) (181 * t + u) (if u = 0 then ((1 : Nat) : Int) else ((0 : Nat) : Int))), ?_, fun r hr n hn => ?_, fun n hn => ?_, fun x hx => by rw [za_ne _ _ hx]; exact z3 x hx⟩
      · unfold f_X12_takes_L82
        simp (disch := omega) only [k181, n_le, show ¬ (181 ≤ u) by omega, ↓reduceIte, MR32 hM, Option.bind_some, k0, n_eq, n_mul, n_add, k1]
        by_cases q : u = 0
        · rw [if_pos q, if_pos q]
          simp (disch := omega) only [Ms19 hM, Option.bind_some]
        · rw [if_neg q, if_neg q]
          simp (disch := omega) only [Ms19 hM, Option.bind_some]
      · rw [za_at, up_ne _ _ (by omega)]; exact z1 r hr n hn
      · rw [za_at]
        by_cases q : n = u
        · subst q
          rw [up_at]
          rfl
        · rw [up_ne _ _ (by omega)]; exact z2 n (by omega)) (fun A6 _ => by
      unfold f_X12_takes_L82
      rw [if_pos (by decide)]) (A0 := A5) ⟨fun r hr n hn => by rw [g5 _ (by omega)]; exact y2 r hr n hn, fun n hn => by omega, fun _ _ => rfl⟩
    obtain ⟨A6, e6, z1, z2, z3⟩ := key
    have e6' : jloop (f_X12_takes_L82 m (ii (t : Int))) jF (ii ((0 : Nat) : Int)) (mz S A5 B c) = some (ii ((181 : Nat) : Int), mz S A6 B c) := e6
    refine ⟨A6, ?_, fun r hr => ?_, fun r hr n hn => ?_, fun x h1 h2 => by rw [z3 x h2, g5 x h1]; exact y3 x h1 h2⟩
    · unfold f_X12_takes_L68
      simp (disch := omega) only [k4, n_le, show ¬ (4 ≤ t) by omega, ↓reduceIte, MR31 hM, Option.bind_some, k0, Ms18 hM, hA5, e6', k1, n_add]
    · rw [z3 _ (by omega), ← hA5, za_at]
      by_cases q : r = t
      · subst q; rw [up_at]; rfl
      · rw [up_ne _ _ q]; exact y1 r (by omega)
    · by_cases q : r = t
      · subst q; exact z2 n hn
      · exact z1 r (by omega) n hn) (fun A4 _ => by
    unfold f_X12_takes_L68
    rw [if_pos (by decide)]) (A0 := A3) ⟨fun r hr => by omega, fun r hr => by omega, fun _ _ _ => rfl⟩
  obtain ⟨A4, e4, a4, b4, c4⟩ := key3
  have key4 := z_run (S := S) (B := B) (c := c) (f := f_X12_takes_L124 m) (fun t => ii (t : Int)) (fun t A' => (∀ i, i < t → A' (m + 26) i = 0) ∧ (∀ x, x ≠ m + 26 → A' x = A4 x)) 8 (t := ii ((8 : Nat) : Int)) (by omega) (fun t ht A5 ⟨y1, y2⟩ => by
    have st := jsB_zb (A := A5) (B := B) (n := c) (MS26 hM) (z := (t : Int)) (k := t) (v := ((0 : Nat) : Int)) rfl (by omega) (by omega) (Or.inl rfl)
    refine ⟨za A5 (m + 26) (up (A5 (m + 26)) t ((0 : Nat) : Int)), ?_, fun i hi => ?_, fun x hx => by rw [za_ne _ _ hx]; exact y2 x hx⟩
    · unfold f_X12_takes_L124
      simp (disch := omega) only [k8, n_le, show ¬ (8 ≤ t) by omega, ↓reduceIte, MR43 hM, Option.bind_some, k0, st, k1, n_add]
    · rw [za_at]
      by_cases q : i = t
      · subst q; rw [up_at]; rfl
      · rw [up_ne _ _ q]; exact y1 i (by omega)) (fun A5 _ => by
    unfold f_X12_takes_L124
    rw [if_pos (by decide)]) (A0 := A4) ⟨fun i hi => by omega, fun _ _ => rfl⟩
  obtain ⟨A5, e5, a5, b5⟩ := key4
  have key5 := z_run (S := S) (B := B) (c := c) (f := f_X12_takes_L145 m) (fun t => ii (t : Int)) (fun t A' => (∀ i, i < t → A' (m + 28) i = 0) ∧ (∀ x, x ≠ m + 28 → A' x = A5 x)) 2 (t := ii ((2 : Nat) : Int)) (by omega) (fun t ht A6 ⟨y1, y2⟩ => by
    have st := jsB_zb (A := A6) (B := B) (n := c) (MS28 hM) (z := (t : Int)) (k := t) (v := ((0 : Nat) : Int)) rfl (by omega) (by omega) (Or.inl rfl)
    refine ⟨za A6 (m + 28) (up (A6 (m + 28)) t ((0 : Nat) : Int)), ?_, fun i hi => ?_, fun x hx => by rw [za_ne _ _ hx]; exact y2 x hx⟩
    · unfold f_X12_takes_L145
      simp (disch := omega) only [k2, n_le, show ¬ (2 ≤ t) by omega, ↓reduceIte, MR45 hM, Option.bind_some, k0, st, k1, n_add]
    · rw [za_at]
      by_cases q : i = t
      · subst q; rw [up_at]; rfl
      · rw [up_ne _ _ q]; exact y1 i (by omega)) (fun A6 _ => by
    unfold f_X12_takes_L145
    rw [if_pos (by decide)]) (A0 := A5) ⟨fun i hi => by omega, fun _ _ => rfl⟩
  obtain ⟨A6, e6, a6, b6⟩ := key5
  have f1 : ∀ x, x ≠ m → A1 x = A x := fun x hx => by rw [← hA1, za_ne _ _ hx]
  have m6 : A6 m = A1 m := by rw [b6 _ (by omega), b5 _ (by omega), c4 _ (by omega) (by omega), b3 _ (by omega), b2 _ (by omega)]
  refine ⟨A6, ?_, by rw [m6, ← hA1, za_at, up_ne _ _ (by omega), up_at], by rw [m6, ← hA1, za_at, up_at], fun k h1 h2 => by rw [m6, ← hA1, za_at, up_ne _ _ h2, up_ne _ _ h1], fun i hi => by rw [b6 _ (by omega), b5 _ (by omega), c4 _ (by omega) (by omega), b3 _ (by omega), a2 i hi, f1 _ (by omega)], fun i hi => by rw [b6 _ (by omega), b5 _ (by omega), c4 _ (by omega) (by omega), a3 i hi, b2 _ (by omega), f1 _ (by omega)], fun r hr => by rw [b6 _ (by omega), b5 _ (by omega)]; exact a4 r hr, fun r hr n hn => by rw [b6 _ (by omega), b5 _ (by omega)]; exact b4 r hr n hn, fun i hi => by rw [b6 _ (by omega)]; exact a5 i hi, a6, fun x x1 x2 x3 x4 x5 x6 x7 => by rw [b6 x x7, b5 x x6, c4 x x4 x5, b3 x x3, b2 x x2, f1 x x1]⟩
  have g2 : jloop (f_X12_takes_L15 m) jF (0 : Int32) (mz S A1 B c) = some (ii ((6 : Nat) : Int), mz S A2 B c) := e2
  have g3 : jloop (f_X12_takes_L41 m) jF (0 : Int32) (mz S A2 B c) = some (ii ((1086 : Nat) : Int), mz S A3 B c) := e3
  have g4 : jloop (f_X12_takes_L68 m) jF (0 : Int32) (mz S A3 B c) = some (ii ((4 : Nat) : Int), mz S A4 B c) := e4
  have g5 : jloop (f_X12_takes_L124 m) jF (0 : Int32) (mz S A4 B c) = some (ii ((8 : Nat) : Int), mz S A5 B c) := e5
  have g6 : jloop (f_X12_takes_L145 m) jF (0 : Int32) (mz S A5 B c) = some (ii ((2 : Nat) : Int), mz S A6 B c) := e6
  unfold f_X12_takes
  rw [show (-1 : Int32) = ii (-1) from rfl, MP7 hM]
  simp only [Option.bind_some, MI22 hM]
  rw [za_at, up_ne _ _ (show 22 ≠ 7 by omega), MP19 hM, za_za, za_at]
  simp only [Option.bind_some, hA1]
  rw [g2]
  simp only [Option.bind_some]
  rw [g3]
  simp only [Option.bind_some]
  rw [g4]
  simp only [Option.bind_some]
  rw [g5]
  simp only [Option.bind_some]
  rw [g6]
  rfl
end ops
