/-! The class's constructor. Made by tools/gen15e.py. -/
theorem put_b {S : SS} {A B : ZA} {n : (Nat × Nat) × (Nat → Nat)} {b k q : Nat} {rf : Nat → Option (Option Nat)} (h : S b = some (.inl (8, 13, rf))) (hk : k < 13) : ∃ S' : SS, jput (mz S A B n) b 8 k (.ref q) = some (mz S' A B n) ∧ S' b = some (.inl (8, 13, fun j => if j = k then some (some q) else rf j)) ∧ ∀ x, x ≠ b → S' x = S x :=
  ⟨_, jputR_z h hk, by rw [ms_at], fun x hx => ms_ne _ _ hx⟩
theorem rO_eq {b : Nat} {rf : Nat → Option (Option Nat)} (h : ∀ k, rf k = (if k = 0 then some (some (b + 135 + 1)) else if k = 1 then some (some (b + 135 + 2)) else if k = 2 then some (some (b + 135 + 8)) else if k = 3 then some (some (b + 135 + 14)) else none)) : rf = rfo xoO b := by
  funext k
  rw [h k]
  rcases k with _ | _ | _ | _ | _ | _ | k
  · rfl
  · rfl
  · rfl
  · rfl
  · rfl
  · rfl
  · rw [if_neg (by omega), if_neg (by omega), if_neg (by omega), if_neg (by omega)]; rfl
theorem rK_eq {b : Nat} {rf : Nat → Option (Option Nat)} (h : ∀ k, rf k = (if k = 0 then some (some (b + 155 + 16)) else if k = 1 then some (some (b + 155 + 17)) else if k = 2 then some (some (b + 155 + 18)) else none)) : rf = rfo xoK b := by
  funext k
  rw [h k]
  rcases k with _ | _ | _ | _ | k
  · rfl
  · rfl
  · rfl
  · rfl
  · rw [if_neg (by omega), if_neg (by omega), if_neg (by omega)]; rfl
theorem rD_eq {b : Nat} {rf : Nat → Option (Option Nat)} (h : ∀ k, rf k = (if k = 3 then some (some (b + 155 + 1)) else if k = 4 then some (some (b + 155 + 14)) else if k = 5 then some (some (b + 155 + 15)) else if k = 7 then some (some (b + 155 + 19)) else if k = 8 then some (some (b + 155 + 38)) else if k = 9 then some (some (b + 155 + 57)) else if k = 10 then some (some (b + 155 + 76)) else none)) : rf = rfo xoD b := by
  funext k
  rw [h k]
  rcases k with _ | _ | _ | _ | _ | _ | _ | _ | _ | _ | _ | k
  · rfl
  · rfl
  · rfl
  · rfl
  · rfl
  · rfl
  · rfl
  · rfl
  · rfl
  · rfl
  · rfl
  · rw [if_neg (by omega), if_neg (by omega), if_neg (by omega), if_neg (by omega), if_neg (by omega), if_neg (by omega), if_neg (by omega)]; rfl
def rX (b j : Nat) : Option (Option Nat) := if j = 12 then some (some (b + 235)) else if j = 11 then some (some (b + 233)) else if j = 10 then some (some (b + 155)) else if j = 9 then some (some (b + 135)) else if j = 8 then some (some (b + 40)) else if j = 7 then some (some (b + 39)) else if j = 6 then some (some (b + 24)) else if j = 5 then some (some (b + 15)) else if j = 4 then some (some (b + 2)) else if j = 0 then some (some (b + 1)) else rfz [.null, .int 0, .int 0, .int 0, .null, .null, .null, .null, .null, .null, .null, .null, .null] j
theorem rX_eq (b : Nat) : rX b = rfo xoX b := by
  funext j
  rcases j with _ | _ | _ | _ | _ | _ | _ | _ | _ | _ | _ | _ | _ | j
  · rfl
  · rfl
  · rfl
  · rfl
  · rfl
  · rfl
  · rfl
  · rfl
  · rfl
  · rfl
  · rfl
  · rfl
  · rfl
  · unfold rX
    rw [if_neg (by omega), if_neg (by omega), if_neg (by omega), if_neg (by omega), if_neg (by omega), if_neg (by omega), if_neg (by omega), if_neg (by omega), if_neg (by omega), if_neg (by omega)]
    rfl
section new
variable {S : SS} {A B : ZA} {c : Nat → Nat} {b s : Nat}
set_option maxHeartbeats 4000000 in
theorem new_class (hz : Z0 A B b) : ∃ (S1 S2 : SS) (A' : ZA) (s' : Nat), s' ≤ s + 20000 ∧ jnO (mz S A B ((b, s), c)) 8 [.null, .int 0, .int 0, .int 0, .null, .null, .null, .null, .null, .null, .null, .null, .null] = some (b, mz S1 A B ((b + 1, s + 13), c)) ∧ f_X11_init b (mz S1 A B ((b + 1, s + 13), c)) = some ((), mz S2 A' B ((b + 286, s'), c)) ∧
    (∀ x, x < b ∨ b + 286 ≤ x → S2 x = S x) ∧
    (∀ S' : SS, (∀ x, b ≤ x → x < b + 286 → S' x = S2 x) → LM S' (b + 286) → S' (b + 320) = some (.inr (.inl (.long, 1))) → LX S' b ∧ ∀ i, i < 31 → spS S' (b + 42 + 3 * i) (b + 43 + 3 * i) (b + 44 + 3 * i) 0) ∧
    A' b 1 = 0 ∧ A' b 2 = 1009 ∧ A' b 3 = 0 ∧ (∀ r, r < 4 → A' (b + 15 + 1 + 2 * r) 0 = 0 ∧ ∀ n, n < 6 → A' (b + 15 + 2 + 2 * r) n = if n = 0 then 1 else 0) ∧ (∀ s, s < 2 → ∀ r, r < 4 → A' (b + 24 + 2 + 7 * s) r = 0) ∧ (∀ k, k < 2 → A' (b + 236 + 25 * k) 0 = 0) ∧ A' (b + 24 + 1 + 7 * 0) 0 = 0 ∧ A' (b + 24 + 1 + 7 * 1) 0 = 1 ∧
    (∀ i, i < 31 → A' (b + 42 + 3 * i) 0 = ((2 * i : Nat) : Int) ∧ A' (b + 42 + 3 * i) 1 = ((Lk (2 * i) : Nat) : Int) ∧ A' (b + 42 + 3 * i) 3 = 0 ∧ A' (b + 42 + 3 * i) 7 = 0) ∧ (∀ x, x < b ∨ b + 286 ≤ x → A' x = A x) := by
  have en : jnO (mz S A B ((b, s), c)) 8 [.null, .int 0, .int 0, .int 0, .null, .null, .null, .null, .null, .null, .null, .null, .null] = some (b, mz (ms S b (.inl (8, 13, rfz [.null, .int 0, .int 0, .int 0, .null, .null, .null, .null, .null, .null, .null, .null, .null]))) A B ((b + 1, s + 13), c)) := jnO_z (fun k => (hz b (Nat.le_refl _) k).1) (by simp)
  have o0 : ms S b (.inl (8, 13, rfz [.null, .int 0, .int 0, .int 0, .null, .null, .null, .null, .null, .null, .null, .null, .null])) b = some (.inl (8, 13, rfz [.null, .int 0, .int 0, .int 0, .null, .null, .null, .null, .null, .null, .null, .null, .null])) := by rw [ms_at]
  have x0 : ∀ x, x ≠ b → ms S b (.inl (8, 13, rfz [.null, .int 0, .int 0, .int 0, .null, .null, .null, .null, .null, .null, .null, .null, .null])) x = S x := fun x hx => ms_ne _ _ hx
  generalize ms S b (.inl (8, 13, rfz [.null, .int 0, .int 0, .int 0, .null, .null, .null, .null, .null, .null, .null, .null, .null])) = T0 at en o0 x0
  have e1 : jnA (mz T0 A B ((b + 1, s + 13), c)) .byte (600 : Int32) = some (b + 1, mz (ms T0 (b + 1) (.inr (.inl (.byte, 600)))) A B ((b + 1 + 1, s + 13 + 600), c)) := jnA_z (k := 600) (z := ((600 : Nat) : Int)) (fun k => (hz (b + 1) (by omega) k).1) (fun k => (hz (b + 1) (by omega) k).2) rfl (by omega) (Or.inr (Or.inr (Or.inl rfl)))
  obtain ⟨s1, hs1⟩ : ∃ x, x = s + 13 + 600 := ⟨_, rfl⟩
  rw [← hs1, show b + 1 + 1 = b + 2 by omega] at e1
  have c1 : ms T0 (b + 1) (.inr (.inl (.byte, 600))) (b + 1) = some (.inr (.inl (.byte, 600))) := by rw [ms_at]
  have x1 : ∀ x, x ≠ b + 1 → ms T0 (b + 1) (.inr (.inl (.byte, 600))) x = T0 x := fun x hx => ms_ne _ _ hx
  generalize ms T0 (b + 1) (.inr (.inl (.byte, 600))) = T1 at e1 c1 x1
  obtain ⟨U1, p1, o1, y1⟩ := put_b (A := A) (B := B) (n := ((b + 2, s1), c)) (k := 0) (q := b + 1) ((x1 b (by omega)).trans o0) (by omega)
  have f2 : jput (mz U1 A B ((b + 2, s1), c)) b 8 2 (.int (1009 : Int32)) = some (mz U1 (za A b (up (A b) 2 ((1009 : Nat) : Int))) B ((b + 2, s1), c)) := jput_z (v := ((1009 : Nat) : Int)) o1 (by decide) rfl
  have zA : Z0 (za A b (up (A b) 2 ((1009 : Nat) : Int))) B (b + 1) := fun a ha k => ⟨by rw [za_ne _ _ (by omega)]; exact (hz a (by omega) k).1, (hz a (by omega) k).2⟩
  have iA : za A b (up (A b) 2 ((1009 : Nat) : Int)) b = up (A b) 2 ((1009 : Nat) : Int) := za_at _ _ _
  have jA : ∀ x, x ≠ b → za A b (up (A b) 2 ((1009 : Nat) : Int)) x = A x := fun x hx => za_ne _ _ hx
  generalize za A b (up (A b) 2 ((1009 : Nat) : Int)) = A1 at f2 zA iA jA
  have cc1 : U1 (b + 1) = some (.inr (.inl (.byte, 600))) := by rw [y1 _ (by omega)]; exact c1
  have xx1 : ∀ x, x ≠ b → x ≠ b + 1 → U1 x = S x := fun x h1 h2 => by rw [y1 x h1, x1 x h2, x0 x h1]
  obtain ⟨T2, e2, c2, x2⟩ := new_forms (S := U1) (A := A1) (B := B) (c := c) (N := b + 2) (s := s1) (Z0_le zA (by omega)) (n := 6) (by omega)
  obtain ⟨s2, hs2⟩ : ∃ x, x = s1 + 6 + 8 * 6 := ⟨_, rfl⟩
  rw [← hs2, show b + 2 + 1 + 2 * 6 = b + 15 by omega] at e2
  rw [show b + 2 + 1 + 2 * 6 = b + 15 by omega] at x2
  have e2 : f_X11_newForms (6 : Int32) (mz U1 A1 B ((b + 2, s1), c)) = some (b + 2, mz T2 A1 B ((b + 15, s2), c)) := e2
  obtain ⟨U2, p2, o2, y2⟩ := put_b (A := A1) (B := B) (n := ((b + 15, s2), c)) (k := 4) (q := b + 2) ((x2.1 b (by omega)).trans o1) (by omega)
  have d2 : ∀ x, x ≠ b → x < b + 2 → U2 x = U1 x := fun x h1 h2 => by rw [y2 x h1, x2.1 x h2]
  have u2 : ∀ x, b + 15 ≤ x → U2 x = U1 x := fun x h1 => by rw [y2 x (by omega), x2.2 x (by omega)]
  have cc2 : fg U2 (b + 2) 6 := fg_of c2 (fun x h1 h2 => y2 x (by omega))
  obtain ⟨T3, e3, c3, x3⟩ := new_forms (S := U2) (A := A1) (B := B) (c := c) (N := b + 15) (s := s2) (Z0_le zA (by omega)) (n := 4) (by omega)
  obtain ⟨s3, hs3⟩ : ∃ x, x = s2 + 4 + 8 * 4 := ⟨_, rfl⟩
  rw [← hs3, show b + 15 + 1 + 2 * 4 = b + 24 by omega] at e3
  rw [show b + 15 + 1 + 2 * 4 = b + 24 by omega] at x3
  have e3 : f_X11_newForms (4 : Int32) (mz U2 A1 B ((b + 15, s2), c)) = some (b + 15, mz T3 A1 B ((b + 24, s3), c)) := e3
  obtain ⟨U3, p3, o3, y3⟩ := put_b (A := A1) (B := B) (n := ((b + 24, s3), c)) (k := 5) (q := b + 15) ((x3.1 b (by omega)).trans o2) (by omega)
  have d3 : ∀ x, x ≠ b → x < b + 15 → U3 x = U2 x := fun x h1 h2 => by rw [y3 x h1, x3.1 x h2]
  have u3 : ∀ x, b + 24 ≤ x → U3 x = U2 x := fun x h1 => by rw [y3 x (by omega), x3.2 x (by omega)]
  have cc3 : fg U3 (b + 15) 4 := fg_of c3 (fun x h1 h2 => y3 x (by omega))
  obtain ⟨T4, e4, c4, x4⟩ := new_shelves (S := U3) (A := A1) (B := B) (c := c) (N := b + 24) (s := s3) (Z0_le zA (by omega))
  obtain ⟨s4, hs4⟩ : ∃ x, x = s3 + 128 := ⟨_, rfl⟩
  rw [← hs4, show b + 24 + 15 = b + 39 by omega] at e4
  rw [show b + 24 + 15 = b + 39 by omega] at x4
  obtain ⟨U4, p4, o4, y4⟩ := put_b (A := A1) (B := B) (n := ((b + 39, s4), c)) (k := 6) (q := b + 24) ((x4.1 b (by omega)).trans o3) (by omega)
  have d4 : ∀ x, x ≠ b → x < b + 24 → U4 x = U3 x := fun x h1 h2 => by rw [y4 x h1, x4.1 x h2]
  have u4 : ∀ x, b + 39 ≤ x → U4 x = U3 x := fun x h1 => by rw [y4 x (by omega), x4.2 x (by omega)]
  have cc4 : sg U4 (b + 24) := sg_of' c4 (fun x h1 h2 => y4 x (by omega))
  have e5 : jnA (mz U4 A1 B ((b + 39, s4), c)) (.object "HeckeSeries$Image") (2 : Int32) = some (b + 39, mz (ms U4 (b + 39) (.inr (.inr (.inl (.object "HeckeSeries$Image", 2, fun _ => none))))) A1 B ((b + 39 + 1, s4 + 2), c)) := jnAo_z (k := 2) (z := ((2 : Nat) : Int)) rfl (by omega)
  obtain ⟨s5, hs5⟩ : ∃ x, x = s4 + 2 := ⟨_, rfl⟩
  rw [← hs5, show b + 39 + 1 = b + 40 by omega] at e5
  have c5 : ms U4 (b + 39) (.inr (.inr (.inl (.object "HeckeSeries$Image", 2, fun _ => none)))) (b + 39) = some (.inr (.inr (.inl (.object "HeckeSeries$Image", 2, fun _ => none)))) := by rw [ms_at]
  have x5 : EXT U4 (ms U4 (b + 39) (.inr (.inr (.inl (.object "HeckeSeries$Image", 2, fun _ => none))))) (b + 39) (b + 40) := ⟨fun x hx => ms_ne _ _ (by omega), fun x hx => ms_ne _ _ (by omega)⟩
  generalize ms U4 (b + 39) (.inr (.inr (.inl (.object "HeckeSeries$Image", 2, fun _ => none)))) = T5 at e5 c5 x5
  obtain ⟨U5, p5, o5, y5⟩ := put_b (A := A1) (B := B) (n := ((b + 40, s5), c)) (k := 7) (q := b + 39) ((x5.1 b (by omega)).trans o4) (by omega)
  have d5 : ∀ x, x ≠ b → x < b + 39 → U5 x = U4 x := fun x h1 h2 => by rw [y5 x h1, x5.1 x h2]
  have u5 : ∀ x, b + 40 ≤ x → U5 x = U4 x := fun x h1 => by rw [y5 x (by omega), x5.2 x (by omega)]
  have cc5 : U5 (b + 39) = some (.inr (.inr (.inl (.object "HeckeSeries$Image", 2, fun _ => none)))) := by rw [y5 _ (by omega)]; exact c5
  obtain ⟨T6a, T6, A2, e6a, e6, c6a, c6b, c6c, kA, x6⟩ := new_spaces (S := U5) (A := A1) (B := B) (c := c) (N := b + 40) (s := s5) (Z0_le zA (by omega))
  obtain ⟨s6, hs6⟩ : ∃ x, x = s5 + 466 := ⟨_, rfl⟩
  rw [← hs6, show b + 40 + 95 = b + 135 by omega] at e6
  rw [show b + 40 + 95 = b + 135 by omega] at x6
  obtain ⟨U6, p6, o6, y6⟩ := put_b (A := A2) (B := B) (n := ((b + 135, s6), c)) (k := 8) (q := b + 40) ((x6.1 b (by omega)).trans o5) (by omega)
  have d6 : ∀ x, x ≠ b → x < b + 40 → U6 x = U5 x := fun x h1 h2 => by rw [y6 x h1, x6.1 x h2]
  have u6 : ∀ x, b + 135 ≤ x → U6 x = U5 x := fun x h1 => by rw [y6 x (by omega), x6.2 x (by omega)]
  have zA2 : Z0 A2 B (b + 135) := fun a ha k => ⟨by rw [kA a (fun i hi => by omega)]; exact (zA a (by omega) k).1, (zA a (by omega) k).2⟩
  obtain ⟨T7a, T7, e7a, e7, ⟨r7, c7, c7r⟩, c7b, c7c, c7d, c7e, x7⟩ := new_oper (S := U6) (A := A2) (B := B) (c := c) (N := b + 135) (s := s6) zA2
  obtain ⟨s7, hs7⟩ : ∃ x, x = s6 + 102 := ⟨_, rfl⟩
  rw [← hs7, show b + 135 + 20 = b + 155 by omega] at e7
  rw [show b + 135 + 20 = b + 155 by omega] at x7
  rw [rO_eq c7r] at c7
  obtain ⟨U7, p7, o7, y7⟩ := put_b (A := A2) (B := B) (n := ((b + 155, s7), c)) (k := 9) (q := b + 135) ((x7.1 b (by omega)).trans o6) (by omega)
  have d7 : ∀ x, x ≠ b → x < b + 135 → U7 x = U6 x := fun x h1 h2 => by rw [y7 x h1, x7.1 x h2]
  have u7 : ∀ x, b + 155 ≤ x → U7 x = U6 x := fun x h1 => by rw [y7 x (by omega), x7.2 x (by omega)]
  obtain ⟨T8a, T8, e8a, e8, ⟨r8, c8, c8r⟩, c8b, c8c, ⟨r9, c8d, c8s⟩, c8e, c8f, c8g, c8h, c8i, c8j, c8k, x8⟩ := new_reader (S := U7) (A := A2) (B := B) (c := c) (N := b + 155) (s := s7) (Z0_le zA2 (by omega))
  obtain ⟨s8, hs8⟩ : ∃ x, x = s7 + 2129 := ⟨_, rfl⟩
  rw [← hs8, show b + 155 + 78 = b + 233 by omega] at e8
  rw [show b + 155 + 78 = b + 233 by omega] at x8
  rw [rD_eq c8r] at c8
  rw [rK_eq c8s] at c8d
  obtain ⟨U8, p8, o8, y8⟩ := put_b (A := A2) (B := B) (n := ((b + 233, s8), c)) (k := 10) (q := b + 155) ((x8.1 b (by omega)).trans o7) (by omega)
  have d8 : ∀ x, x ≠ b → x < b + 155 → U8 x = U7 x := fun x h1 h2 => by rw [y8 x h1, x8.1 x h2]
  have u8 : ∀ x, b + 233 ≤ x → U8 x = U7 x := fun x h1 => by rw [y8 x (by omega), x8.2 x (by omega)]
  obtain ⟨T9a, T9, e9a, e9, c9, x9⟩ := new_form (S := U8) (A := A2) (B := B) (c := c) (N := b + 233) (s := s8) (Z0_le zA2 (by omega))
  obtain ⟨s9, hs9⟩ : ∃ x, x = s8 + 8 := ⟨_, rfl⟩
  rw [← hs9, show b + 233 + 2 = b + 235 by omega] at e9
  rw [show b + 233 + 2 = b + 235 by omega] at x9
  obtain ⟨U9, p9, o9, y9⟩ := put_b (A := A2) (B := B) (n := ((b + 235, s9), c)) (k := 11) (q := b + 233) ((x9.1 b (by omega)).trans o8) (by omega)
  have d9 : ∀ x, x ≠ b → x < b + 233 → U9 x = U8 x := fun x h1 h2 => by rw [y9 x h1, x9.1 x h2]
  have u9 : ∀ x, b + 235 ≤ x → U9 x = U8 x := fun x h1 => by rw [y9 x (by omega), x9.2 x (by omega)]
  have e10 : jnA (mz U9 A2 B ((b + 235, s9), c)) .long (12 : Int32) = some (b + 235, mz (ms U9 (b + 235) (.inr (.inl (.long, 12)))) A2 B ((b + 235 + 1, s9 + 12), c)) := jnA_z (k := 12) (z := ((12 : Nat) : Int)) (fun k => (zA2 (b + 235) (by omega) k).1) (fun k => (zA2 (b + 235) (by omega) k).2) rfl (by omega) (Or.inr (Or.inl rfl))
  obtain ⟨s10, hs10⟩ : ∃ x, x = s9 + 12 := ⟨_, rfl⟩
  rw [← hs10, show b + 235 + 1 = b + 236 by omega] at e10
  have c10 : ms U9 (b + 235) (.inr (.inl (.long, 12))) (b + 235) = some (.inr (.inl (.long, 12))) := by rw [ms_at]
  have x10 : EXT U9 (ms U9 (b + 235) (.inr (.inl (.long, 12)))) (b + 235) (b + 236) := ⟨fun x hx => ms_ne _ _ (by omega), fun x hx => ms_ne _ _ (by omega)⟩
  generalize ms U9 (b + 235) (.inr (.inl (.long, 12))) = T10 at e10 c10 x10
  obtain ⟨U10, p10, o10, y10⟩ := put_b (A := A2) (B := B) (n := ((b + 236, s10), c)) (k := 12) (q := b + 235) ((x10.1 b (by omega)).trans o9) (by omega)
  have d10 : ∀ x, x ≠ b → x < b + 235 → U10 x = U9 x := fun x h1 h2 => by rw [y10 x h1, x10.1 x h2]
  have u10 : ∀ x, b + 236 ≤ x → U10 x = U9 x := fun x h1 => by rw [y10 x (by omega), x10.2 x (by omega)]
  have h39 : U10 (b + 39) = some (.inr (.inr (.inl (.object "HeckeSeries$Image", 2, fun _ => none)))) := by rw [d10 _ (by omega) (by omega), d9 _ (by omega) (by omega), d8 _ (by omega) (by omega), d7 _ (by omega) (by omega), d6 _ (by omega) (by omega)]; exact cc5
  obtain ⟨T11, e11, c11a, c11b, x11a, x11b⟩ := new_images (S := U10) (A := A2) (B := B) (c := c) (N := b + 236) (s := s10) (b := b) (G := b + 39) (Z0_le zA2 (by omega)) (by omega) (by omega) (by omega) o10 rfl h39
  obtain ⟨s11, hs11⟩ : ∃ x, x = s10 + 334 := ⟨_, rfl⟩
  rw [← hs11, show b + 236 + 50 = b + 286 by omega] at e11
  rw [show b + 236 + 50 = b + 286 by omega] at x11b
  have hO : T11 b = some (.inl (8, 13, rfo xoX b)) := by
    rw [← rX_eq b]
    exact (x11a b (by omega) (by omega)).trans o10
  have k10 : ∀ x, b < x → x < b + 236 → x ≠ b + 39 → T11 x = U10 x := fun x _ h2 h3 => x11a x h2 h3
  have k9 : ∀ x, b < x → x < b + 235 → x ≠ b + 39 → T11 x = U9 x := fun x h1 h2 h3 => by rw [k10 x h1 (by omega) h3, d10 x (by omega) h2]
  have k8 : ∀ x, b < x → x < b + 233 → x ≠ b + 39 → T11 x = U8 x := fun x h1 h2 h3 => by rw [k9 x h1 (by omega) h3, d9 x (by omega) h2]
  have k7 : ∀ x, b < x → x < b + 155 → x ≠ b + 39 → T11 x = U7 x := fun x h1 h2 h3 => by rw [k8 x h1 (by omega) h3, d8 x (by omega) h2]
  have k6 : ∀ x, b < x → x < b + 135 → x ≠ b + 39 → T11 x = U6 x := fun x h1 h2 h3 => by rw [k7 x h1 (by omega) h3, d7 x (by omega) h2]
  have k5 : ∀ x, b < x → x < b + 40 → x ≠ b + 39 → T11 x = U5 x := fun x h1 h2 h3 => by rw [k6 x h1 (by omega) h3, d6 x (by omega) h2]
  have k4 : ∀ x, b < x → x < b + 39 → x ≠ b + 39 → T11 x = U4 x := fun x h1 h2 h3 => by rw [k5 x h1 (by omega) h3, d5 x (by omega) h2]
  have k3 : ∀ x, b < x → x < b + 24 → x ≠ b + 39 → T11 x = U3 x := fun x h1 h2 h3 => by rw [k4 x h1 (by omega) h3, d4 x (by omega) h2]
  have k2 : ∀ x, b < x → x < b + 15 → x ≠ b + 39 → T11 x = U2 x := fun x h1 h2 h3 => by rw [k3 x h1 (by omega) h3, d3 x (by omega) h2]
  have k1 : ∀ x, b < x → x < b + 2 → x ≠ b + 39 → T11 x = U1 x := fun x h1 h2 h3 => by rw [k2 x h1 (by omega) h3, d2 x (by omega) h2]
  have hR : fg T11 (b + 15) 4 := fg_of cc3 (fun x h1 h2 => k3 x (by omega) (by omega) (by omega))
  have hH : sg T11 (b + 24) := sg_of' cc4 (fun x h1 h2 => k4 x (by omega) (by omega) (by omega))
  have hI : T11 (b + 39) = some (.inr (.inr (.inl (.object "HeckeSeries$Image", 2, fun i => if i < 2 then some (b + 236 + 25 * i) else none)))) := c11a
  have hK : ∀ k, k < 2 → T11 (b + 236 + 25 * k) = some (.inl (2, 3, rSh (b + 237 + 25 * k) (b + 246 + 25 * k))) ∧ fg T11 (b + 237 + 25 * k) 4 ∧ sg T11 (b + 246 + 25 * k) := fun k hk => by
    have := c11b k hk
    rw [show b + 236 + 1 + 25 * k = b + 237 + 25 * k by omega, show b + 236 + 10 + 25 * k = b + 246 + 25 * k by omega] at this
    exact this
  have g1 : jgR (mz T11 A2 B ((b + 286, s11), c)) b 8 6 = some (b + 24) := jgR_z hO (by decide) rfl
  have g2 : jaR (mz T11 A2 B ((b + 286, s11), c)) (b + 24) (1 : Int32) = some (b + 24 + 1 + 7 * 1) := sgR (s := 1) hH (by omega)
  have g3 : jput (mz T11 A2 B ((b + 286, s11), c)) (b + 24 + 1 + 7 * 1) 4 0 (.int (1 : Int32)) = some (mz T11 (za A2 (b + 24 + 1 + 7 * 1) (up (A2 (b + 24 + 1 + 7 * 1)) 0 ((1 : Nat) : Int))) B ((b + 286, s11), c)) := sgP (s := 1) (v := ((1 : Nat) : Int)) hH (by omega)
  have iA3 : za A2 (b + 24 + 1 + 7 * 1) (up (A2 (b + 24 + 1 + 7 * 1)) 0 ((1 : Nat) : Int)) (b + 24 + 1 + 7 * 1) = up (A2 (b + 24 + 1 + 7 * 1)) 0 ((1 : Nat) : Int) := za_at _ _ _
  have jA3 : ∀ x, x ≠ b + 24 + 1 + 7 * 1 → za A2 (b + 24 + 1 + 7 * 1) (up (A2 (b + 24 + 1 + 7 * 1)) 0 ((1 : Nat) : Int)) x = A2 x := fun x hx => za_ne _ _ hx
  generalize za A2 (b + 24 + 1 + 7 * 1) (up (A2 (b + 24 + 1 + 7 * 1)) 0 ((1 : Nat) : Int)) = A3 at g3 iA3 jA3
  have g4 : jrecv (mz T11 A3 B ((b + 286, s11), c)) b 8 = some () := jrecv_z hO
  obtain ⟨A4, e12, w1, w2, w3, w4⟩ := x_forget' (b := b) (S := T11) (A := A3) (B := B) (c := ((b + 286, s11), c)) hO hR hH hI (fun k hk => (hK k hk).1)
  have v4 : ∀ x, x < b + 16 ∨ (b + 24 ≤ x ∧ x < b + 236 ∧ x ≠ b + 26 ∧ x ≠ b + 33) ∨ b + 286 ≤ x → A4 x = A3 x := fun x hx => w4 x (fun r hr => by omega) (fun s hs => by omega) (fun k hk => by omega)
  have b4 : A4 b = up (A b) 2 ((1009 : Nat) : Int) := by rw [v4 b (by omega), jA3 b (by omega), kA b (fun i hi => by omega), iA]
  refine ⟨T0, T11, A4, s11, by omega, en, ?_, fun x hx => ?_, fun S' hS hM hout => ?_, ?_, by rw [b4, up_at]; rfl, ?_, w1, w2, w3, ?_, ?_, fun i hi => ?_, fun x hx => ?_⟩
  · unfold f_X11_init
    refine j_bs e1 ?_
    refine j_bs p1 ?_
    refine j_bs f2 ?_
    refine j_bs e2 ?_
    refine j_bs p2 ?_
    refine j_bs e3 ?_
    refine j_bs p3 ?_
    refine j_bs e4 ?_
    refine j_bs p4 ?_
    refine j_bs e5 ?_
    refine j_bs p5 ?_
    refine j_bs e6a ?_
    refine j_bs e6 ?_
    refine j_bs p6 ?_
    refine j_bs e7a ?_
    refine j_bs e7 ?_
    refine j_bs p7 ?_
    refine j_bs e8a ?_
    refine j_bs e8 ?_
    refine j_bs p8 ?_
    refine j_bs e9a ?_
    refine j_bs e9 ?_
    refine j_bs p9 ?_
    refine j_bs e10 ?_
    refine j_bs p10 ?_
    refine j_bs e11 ?_
    refine j_bs g1 ?_
    refine j_bs g2 ?_
    refine j_bs g3 ?_
    refine j_bs g4 ?_
    refine j_bs e12 ?_
    rfl
  · rcases hx with hx | hx
    · rw [x11a x (by omega) (by omega), d10 x (by omega) (by omega), d9 x (by omega) (by omega), d8 x (by omega) (by omega), d7 x (by omega) (by omega), d6 x (by omega) (by omega), d5 x (by omega) (by omega), d4 x (by omega) (by omega), d3 x (by omega) (by omega), d2 x (by omega) (by omega), xx1 x (by omega) (by omega)]
    · rw [x11b x hx, u10 x (by omega), u9 x (by omega), u8 x (by omega), u7 x (by omega), u6 x (by omega), u5 x (by omega), u4 x (by omega), u3 x (by omega), u2 x (by omega), xx1 x (by omega) (by omega)]
  · have l10 : ∀ x, b < x → x < b + 236 → x ≠ b + 39 → S' x = U10 x := fun x h1 h2 h3 => by rw [hS x (by omega) (by omega), k10 x h1 h2 h3]
    have l9 : ∀ x, b < x → x < b + 235 → x ≠ b + 39 → S' x = U9 x := fun x h1 h2 h3 => by rw [hS x (by omega) (by omega), k9 x h1 h2 h3]
    have l8 : ∀ x, b < x → x < b + 233 → x ≠ b + 39 → S' x = U8 x := fun x h1 h2 h3 => by rw [hS x (by omega) (by omega), k8 x h1 h2 h3]
    have l7 : ∀ x, b < x → x < b + 155 → x ≠ b + 39 → S' x = U7 x := fun x h1 h2 h3 => by rw [hS x (by omega) (by omega), k7 x h1 h2 h3]
    have l6 : ∀ x, b < x → x < b + 135 → x ≠ b + 39 → S' x = U6 x := fun x h1 h2 h3 => by rw [hS x (by omega) (by omega), k6 x h1 h2 h3]
    have l5 : ∀ x, b < x → x < b + 40 → x ≠ b + 39 → S' x = U5 x := fun x h1 h2 h3 => by rw [hS x (by omega) (by omega), k5 x h1 h2 h3]
    have l4 : ∀ x, b < x → x < b + 39 → x ≠ b + 39 → S' x = U4 x := fun x h1 h2 h3 => by rw [hS x (by omega) (by omega), k4 x h1 h2 h3]
    have l3 : ∀ x, b < x → x < b + 24 → x ≠ b + 39 → S' x = U3 x := fun x h1 h2 h3 => by rw [hS x (by omega) (by omega), k3 x h1 h2 h3]
    have l2 : ∀ x, b < x → x < b + 15 → x ≠ b + 39 → S' x = U2 x := fun x h1 h2 h3 => by rw [hS x (by omega) (by omega), k2 x h1 h2 h3]
    have l1 : ∀ x, b < x → x < b + 2 → x ≠ b + 39 → S' x = U1 x := fun x h1 h2 h3 => by rw [hS x (by omega) (by omega), k1 x h1 h2 h3]
    refine ⟨⟨by rw [hS b (by omega) (by omega)]; exact hO, ?_, ?_, ?_, by rw [l1 _ (by omega) (by omega) (by omega)]; exact cc1, fg_of cc2 (fun x h1 h2 => l2 x (by omega) (by omega) (by omega)), fg_of hR (fun x h1 h2 => hS x (by omega) (by omega)), sg_of' hH (fun x h1 h2 => hS x (by omega) (by omega)), by rw [hS _ (by omega) (by omega)]; exact hI, fun k hk => ⟨by rw [hS _ (by omega) (by omega)]; exact (hK k hk).1, fg_of (hK k hk).2.1 (fun x h1 h2 => hS x (by omega) (by omega)), sg_of' (hK k hk).2.2 (fun x h1 h2 => hS x (by omega) (by omega))⟩, ⟨?_, ?_⟩, fun i hi => ?_, ?_, ?_, ?_, ?_, ?_, ?_, ?_, ?_, ?_, ?_, ?_, ?_, ?_, ?_, ?_, hM, hout⟩, fun i hi => ?_⟩
    · rw [l7 _ (by omega) (by omega) (by omega), y7 _ (by omega)]; exact c7
    · rw [l8 _ (by omega) (by omega) (by omega), y8 _ (by omega)]; exact c8
    · rw [l8 _ (by omega) (by omega) (by omega), y8 _ (by omega)]; exact c8d
    · rw [l6 _ (by omega) (by omega) (by omega), y6 _ (by omega)]; exact c6a
    · rw [l6 _ (by omega) (by omega) (by omega), y6 _ (by omega)]; exact c6b
    · rw [l6 _ (by omega) (by omega) (by omega), y6 _ (by omega)]; exact (by have := (c6c i hi).2.1; rw [show b + 40 + 4 + 3 * i = b + 44 + 3 * i by omega] at this; exact this)
    · rw [l7 _ (by omega) (by omega) (by omega), y7 _ (by omega)]; exact c7b
    · exact ar_of' c7c (fun x h1 h2 => by rw [l7 x (by omega) (by omega) (by omega), y7 x (by omega)])
    · exact ar_of' c7d (fun x h1 h2 => by rw [l7 x (by omega) (by omega) (by omega), y7 x (by omega)])
    · exact ar_of' c7e (fun x h1 h2 => by rw [l7 x (by omega) (by omega) (by omega), y7 x (by omega)])
    · exact fg_of c8b (fun x h1 h2 => by rw [l8 x (by omega) (by omega) (by omega), y8 x (by omega)])
    · rw [l8 _ (by omega) (by omega) (by omega), y8 _ (by omega)]; exact c8c
    · rw [l8 _ (by omega) (by omega) (by omega), y8 _ (by omega)]; exact c8e
    · rw [l8 _ (by omega) (by omega) (by omega), y8 _ (by omega)]; exact c8f
    · rw [l8 _ (by omega) (by omega) (by omega), y8 _ (by omega)]; exact c8g
    · exact fg_of c8h (fun x h1 h2 => by rw [l8 x (by omega) (by omega) (by omega), y8 x (by omega)])
    · exact fg_of c8i (fun x h1 h2 => by rw [l8 x (by omega) (by omega) (by omega), y8 x (by omega)])
    · exact fg_of c8j (fun x h1 h2 => by rw [l8 x (by omega) (by omega) (by omega), y8 x (by omega)])
    · exact ⟨by rw [l8 _ (by omega) (by omega) (by omega), y8 _ (by omega)]; exact c8k.1, by rw [l8 _ (by omega) (by omega) (by omega), y8 _ (by omega)]; exact c8k.2⟩
    · exact ⟨by rw [l9 _ (by omega) (by omega) (by omega), y9 _ (by omega)]; exact c9.1, by rw [l9 _ (by omega) (by omega) (by omega), y9 _ (by omega)]; exact c9.2⟩
    · rw [l10 _ (by omega) (by omega) (by omega), y10 _ (by omega)]; exact c10
    · obtain ⟨q1, q2, q3⟩ := (c6c i hi).1
      refine ⟨?_, ?_, fun j hj => absurd hj (by omega)⟩
      · rw [l6 _ (by omega) (by omega) (by omega), y6 _ (by omega), show b + 43 + 3 * i = b + 40 + 3 + 3 * i by omega, show b + 44 + 3 * i = b + 40 + 4 + 3 * i by omega, show b + 42 + 3 * i = b + 40 + 2 + 3 * i by omega]; exact q1
      · rw [l6 _ (by omega) (by omega) (by omega), y6 _ (by omega), show b + 43 + 3 * i = b + 40 + 3 + 3 * i by omega]; exact q2
  · rw [b4, up_ne _ _ (by omega)]; exact (hz b (Nat.le_refl _) 1).1
  · rw [b4, up_ne _ _ (by omega)]; exact (hz b (Nat.le_refl _) 3).1
  · rw [v4 _ (by omega), jA3 _ (by omega), kA _ (fun i hi => by omega)]; exact (zA _ (by omega) 0).1
  · rw [v4 _ (by omega), iA3, up_at]; rfl
  · obtain ⟨-, -, a0, a1, a2⟩ := c6c i hi
    rw [show b + 40 + 2 + 3 * i = b + 42 + 3 * i by omega] at a0 a1 a2
    rw [v4 _ (by omega), jA3 _ (by omega)]
    exact ⟨a0, a1, a2 3 (by omega) (by omega), a2 7 (by omega) (by omega)⟩
  · rw [v4 x (by omega), jA3 x (by omega), kA x (fun i hi => by omega), jA x (by omega)]
end new
