/-! The class forgets: registers 1, shelves empty, no images. -/
section ops
variable {b : Nat}
theorem x_forget' {S : SS} {A B : ZA} {c : (Nat × Nat) × (Nat → Nat)} (hO : S b = some (.inl (8, 13, rfo xoX b))) (hR : fg S (b + 15) 4) (hH : sg S (b + 24)) (hI : S (b + 39) = some (.inr (.inr (.inl (.object "HeckeSeries$Image", 2, fun i => if i < 2 then some (b + 236 + 25 * i) else none))))) (hK : ∀ k, k < 2 → S (b + 236 + 25 * k) = some (.inl (2, 3, rSh (b + 237 + 25 * k) (b + 246 + 25 * k)))) :
    ∃ A' : ZA, f_X11_forget b (mz S A B c) = some ((), mz S A' B c) ∧ (∀ r, r < 4 → A' (b + 15 + 1 + 2 * r) 0 = 0 ∧ ∀ n, n < 6 → A' (b + 15 + 2 + 2 * r) n = if n = 0 then 1 else 0) ∧ (∀ s, s < 2 → ∀ r, r < 4 → A' (b + 24 + 2 + 7 * s) r = 0) ∧ (∀ k, k < 2 → A' (b + 236 + 25 * k) 0 = 0) ∧ (∀ x, (∀ r, r < 4 → x ≠ b + 15 + 1 + 2 * r ∧ x ≠ b + 15 + 2 + 2 * r) → (∀ s, s < 2 → x ≠ b + 24 + 2 + 7 * s) → (∀ k, k < 2 → x ≠ b + 236 + 25 * k) → A' x = A x) := by
  have r5 : ∀ A, jgR (mz S A B c) b 8 5 = some (b + 15) := fun A => jgR_z hO (by decide) rfl
  have r6 : ∀ A, jgR (mz S A B c) b 8 6 = some (b + 24) := fun A => jgR_z hO (by decide) rfl
  have r7 : ∀ A, jgR (mz S A B c) b 8 7 = some (b + 39) := fun A => jgR_z hO (by decide) rfl
  have key1 := z_run (S := S) (B := B) (c := c) (f := f_X11_forget_L2 b) (fun t => ii (t : Int)) (fun t A' => (∀ r, r < t → A' (b + 15 + 1 + 2 * r) 0 = 0 ∧ ∀ n, n < 6 → A' (b + 15 + 2 + 2 * r) n = if n = 0 then 1 else 0) ∧ (∀ x, (∀ r, r < 4 → x ≠ b + 15 + 1 + 2 * r ∧ x ≠ b + 15 + 2 + 2 * r) → A' x = A x)) 4 (t := ii ((4 : Nat) : Int)) (by omega) (fun t ht A1 ⟨y1, y2⟩ => by
    obtain ⟨A2, e2, z1, z2, z3⟩ := x_setNum (S := S) (A := A1) (B := B) (c := c) (v := ((1 : Nat) : Int)) (hR.2 t ht)
    refine ⟨A2, ?_, fun r hr => ?_, fun x hx => by rw [z3 x (hx t ht).1 (hx t ht).2]; exact y2 x hx⟩
    · unfold f_X11_forget_L2
      simp (disch := omega) only [k4, n_le, show ¬ (4 ≤ t) by omega, ↓reduceIte, r5, Option.bind_some, fgR hR, FV (hR.2 t ht), k1, e2, n_add]
    · by_cases q : r = t
      · subst q
        exact ⟨z1, z2⟩
      · obtain ⟨w1, w2⟩ := y1 r (by omega)
        exact ⟨by rw [z3 _ (by omega) (by omega)]; exact w1, fun n hn => by rw [z3 _ (by omega) (by omega)]; exact w2 n hn⟩) (fun A1 _ => by
    unfold f_X11_forget_L2
    rw [if_pos (by decide)]) (A0 := A) ⟨fun r hr => by omega, fun _ _ => rfl⟩
  obtain ⟨A1, e1, y1, y2⟩ := key1
  have key2 := z_run (S := S) (B := B) (c := c) (f := f_X11_forget_L25 b) (fun t => ii (t : Int)) (fun t A' => (∀ s, s < t → ∀ r, r < 4 → A' (b + 24 + 2 + 7 * s) r = 0) ∧ (∀ x, (∀ s, s < 2 → x ≠ b + 24 + 2 + 7 * s) → A' x = A1 x)) 2 (t := ii ((2 : Nat) : Int)) (by omega) (fun t ht A2 ⟨z1, z2⟩ => by
    obtain ⟨A3, e3, w1, w2⟩ := x_empty (A := A2) (B := B) (c := c) hH ht
    refine ⟨A3, ?_, fun s hs r hr => ?_, fun x hx => by rw [w2 x (hx t ht)]; exact z2 x hx⟩
    · unfold f_X11_forget_L25
      simp (disch := omega) only [k2, n_le, show ¬ (2 ≤ t) by omega, ↓reduceIte, r6, Option.bind_some, sgR hH, sgv hH, e3, k1, n_add]
    · by_cases q : s = t
      · subst q; exact w1 r hr
      · rw [w2 _ (by omega)]; exact z1 s (by omega) r hr) (fun A2 _ => by
    unfold f_X11_forget_L25
    rw [if_pos (by decide)]) (A0 := A1) ⟨fun s hs => by omega, fun _ _ => rfl⟩
  obtain ⟨A2, e2, z1, z2⟩ := key2
  have key3 := z_run (S := S) (B := B) (c := c) (f := f_X11_forget_L47 b) (fun t => ii (t : Int)) (fun t A' => (∀ k, k < t → A' (b + 236 + 25 * k) 0 = 0) ∧ (∀ x, (∀ k, k < 2 → x ≠ b + 236 + 25 * k) → A' x = A2 x)) 2 (t := ii ((2 : Nat) : Int)) (by omega) (fun t ht A3 ⟨w1, w2⟩ => by
    refine ⟨za A3 (b + 236 + 25 * t) (up (A3 (b + 236 + 25 * t)) 0 ((0 : Nat) : Int)), ?_, fun k hk => ?_, fun x hx => by rw [za_ne _ _ (hx t ht)]; exact w2 x hx⟩
    · have ra := jaR_n (A := A3) (B := B) (n := c) hI rfl ht (by omega)
      rw [if_pos ht] at ra
      unfold f_X11_forget_L47
      simp (disch := omega) only [k2, n_le, show ¬ (2 ≤ t) by omega, ↓reduceIte, r7, Option.bind_some, ra, k0, jput_z (hK t ht) (show 0 < 3 by omega) (show rSh (b + 237 + 25 * t) (b + 246 + 25 * t) 0 = none from rfl), k1, n_add]
    · by_cases q : k = t
      · subst q; rw [za_at, up_at]; rfl
      · rw [za_ne _ _ (by omega)]; exact w1 k (by omega)) (fun A3 _ => by
    unfold f_X11_forget_L47
    rw [if_pos (by decide)]) (A0 := A2) ⟨fun k hk => by omega, fun _ _ => rfl⟩
  obtain ⟨A3, e3, w1, w2⟩ := key3
  have e1' : jloop (f_X11_forget_L2 b) jF (0 : Int32) (mz S A B c) = some (ii ((4 : Nat) : Int), mz S A1 B c) := e1
  have e2' : jloop (f_X11_forget_L25 b) jF (0 : Int32) (mz S A1 B c) = some (ii ((2 : Nat) : Int), mz S A2 B c) := e2
  have e3' : jloop (f_X11_forget_L47 b) jF (0 : Int32) (mz S A2 B c) = some (ii ((2 : Nat) : Int), mz S A3 B c) := e3
  refine ⟨A3, ?_, fun r hr => ?_, fun s hs r hr => ?_, w1, fun x h1 h2 h3 => by rw [w2 x h3, z2 x h2, y2 x h1]⟩
  · unfold f_X11_forget
    rw [e1']
    simp only [Option.bind_some]
    rw [e2']
    simp only [Option.bind_some]
    rw [e3']
    rfl
  · obtain ⟨v1, v2⟩ := y1 r hr
    exact ⟨by rw [w2 _ (fun k hk => by omega), z2 _ (fun s hs => by omega)]; exact v1, fun n hn => by rw [w2 _ (fun k hk => by omega), z2 _ (fun s hs => by omega)]; exact v2 n hn⟩
  · rw [w2 _ (fun k hk => by omega)]; exact z1 s hs r hr
theorem x_forget {S : SS} {A B : ZA} {c : (Nat × Nat) × (Nat → Nat)} (hX : LX S b) :
    ∃ A' : ZA, f_X11_forget b (mz S A B c) = some ((), mz S A' B c) ∧ (∀ r, r < 4 → A' (b + 15 + 1 + 2 * r) 0 = 0 ∧ ∀ n, n < 6 → A' (b + 15 + 2 + 2 * r) n = if n = 0 then 1 else 0) ∧ (∀ s, s < 2 → ∀ r, r < 4 → A' (b + 24 + 2 + 7 * s) r = 0) ∧ (∀ k, k < 2 → A' (b + 236 + 25 * k) 0 = 0) ∧ (∀ x, (∀ r, r < 4 → x ≠ b + 15 + 1 + 2 * r ∧ x ≠ b + 15 + 2 + 2 * r) → (∀ s, s < 2 → x ≠ b + 24 + 2 + 7 * s) → (∀ k, k < 2 → x ≠ b + 236 + 25 * k) → A' x = A x) := x_forget' (L_oX hX) (L_regs hX) (L_shv hX) (L_imga hX) (fun k hk => (L_img hX k hk).1)
end ops
