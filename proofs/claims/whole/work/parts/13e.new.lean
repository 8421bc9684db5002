/-! The constructors: the reader. -/
section new
variable {S : SS} {A B : ZA} {c : Nat → Nat} {N s : Nat}
theorem new_reader (hz : Z0 A B N) : ∃ S1 S2 : SS, jnO (mz S A B ((N, s), c)) 0 [.int 0, .int 0, .int 0, .null, .null, .null, .int 0, .null, .null, .null, .null] = some (N, mz S1 A B ((N + 1, s + 11), c)) ∧ f_X0_init N (mz S1 A B ((N + 1, s + 11), c)) = some ((), mz S2 A B ((N + 78, s + 2129), c)) ∧ (∃ rf, S2 N = some (.inl (0, 11, rf)) ∧ ∀ k, rf k = (if k = 3 then some (some (N + 1)) else if k = 4 then some (some (N + 14)) else if k = 5 then some (some (N + 15)) else if k = 7 then some (some (N + 19)) else if k = 8 then some (some (N + 38)) else if k = 9 then some (some (N + 57)) else if k = 10 then some (some (N + 76)) else none)) ∧ fg S2 (N + 1) 6 ∧ S2 (N + 14) = some (.inr (.inl (.int, 6))) ∧ (∃ rf, S2 (N + 15) = some (.inl (7, 4, rf)) ∧ ∀ k, rf k = (if k = 0 then some (some (N + 16)) else if k = 1 then some (some (N + 17)) else if k = 2 then some (some (N + 18)) else none)) ∧ S2 (N + 16) = some (.inr (.inl (.int, 601))) ∧ S2 (N + 17) = some (.inr (.inl (.int, 601))) ∧ S2 (N + 18) = some (.inr (.inl (.int, 601))) ∧ fg S2 (N + 19) 9 ∧ fg S2 (N + 38) 9 ∧ fg S2 (N + 57) 9 ∧ fm S2 (N + 76) (N + 77) ∧ EXT S S2 N (N + 78) := by
  generalize hr0 : rfz [.int 0, .int 0, .int 0, .null, .null, .null, .int 0, .null, .null, .null, .null] = r0
  generalize e1 : ms S N (.inl (0, 11, r0)) = S1
  have n1 : S1 N = some (.inl (0, 11, r0)) := by rw [← e1, ms_at]
  obtain ⟨S2, e2, a2, x2⟩ := new_forms (S := S1) (c := c) (s := s + 11) (n := 6) (Z0_le hz (show N ≤ N + 1 by omega)) (by omega)
  generalize hr1 : (fun j => if j = 3 then some (some (N + 1)) else r0 j) = r1
  generalize e3 : ms S2 N (.inl (0, 11, r1)) = S3
  generalize e4 : ms S3 (N + 14) (.inr (.inl (.int, 6))) = S4
  have n4 : S4 N = some (.inl (0, 11, r1)) := by rw [← e4, ms_ne _ _ (by omega), ← e3, ms_at]
  generalize hr2 : (fun j => if j = 4 then some (some (N + 14)) else r1 j) = r2
  generalize e5 : ms S4 N (.inl (0, 11, r2)) = S5
  obtain ⟨S6, S7, e6, e7, a7, ⟨rk, b7⟩, c7, d7, f7, x7⟩ := new_tokens (S := S5) (c := c) (s := s + 11 + 6 + 8 * 6 + 6) (Z0_le hz (show N ≤ N + 15 by omega))
  have n7 : S7 N = some (.inl (0, 11, r2)) := by rw [x7.1 N (by omega), ← e5, ms_at]
  generalize hr3 : (fun j => if j = 5 then some (some (N + 15)) else r2 j) = r3
  generalize e8 : ms S7 N (.inl (0, 11, r3)) = S8
  obtain ⟨S9, e9, a9, x9⟩ := new_forms (S := S8) (c := c) (s := s + 11 + 6 + 8 * 6 + 6 + 1807) (n := 9) (Z0_le hz (show N ≤ N + 15 + 4 by omega)) (by omega)
  have n9 : S9 N = some (.inl (0, 11, r3)) := by rw [x9.1 N (by omega), ← e8, ms_at]
  generalize hr4 : (fun j => if j = 7 then some (some (N + 19)) else r3 j) = r4
  generalize e10 : ms S9 N (.inl (0, 11, r4)) = S10
  obtain ⟨S11, e11, a11, x11⟩ := new_forms (S := S10) (c := c) (s := s + 11 + 6 + 8 * 6 + 6 + 1807 + 9 + 8 * 9) (n := 9) (Z0_le hz (show N ≤ N + 15 + 4 + 1 + 2 * 9 by omega)) (by omega)
  have n11 : S11 N = some (.inl (0, 11, r4)) := by rw [x11.1 N (by omega), ← e10, ms_at]
  generalize hr5 : (fun j => if j = 8 then some (some (N + 38)) else r4 j) = r5
  generalize e12 : ms S11 N (.inl (0, 11, r5)) = S12
  obtain ⟨S13, e13, a13, x13⟩ := new_forms (S := S12) (c := c) (s := s + 11 + 6 + 8 * 6 + 6 + 1807 + 9 + 8 * 9 + 9 + 8 * 9) (n := 9) (Z0_le hz (show N ≤ N + 15 + 4 + 1 + 2 * 9 + 1 + 2 * 9 by omega)) (by omega)
  have n13 : S13 N = some (.inl (0, 11, r5)) := by rw [x13.1 N (by omega), ← e12, ms_at]
  generalize hr6 : (fun j => if j = 9 then some (some (N + 57)) else r5 j) = r6
  generalize e14 : ms S13 N (.inl (0, 11, r6)) = S14
  obtain ⟨S15, S16, e15, e16, a16, x16⟩ := new_form (S := S14) (c := c) (s := s + 11 + 6 + 8 * 6 + 6 + 1807 + 9 + 8 * 9 + 9 + 8 * 9 + 9 + 8 * 9) (Z0_le hz (show N ≤ N + 15 + 4 + 1 + 2 * 9 + 1 + 2 * 9 + 1 + 2 * 9 by omega))
  have n16 : S16 N = some (.inl (0, 11, r6)) := by rw [x16.1 N (by omega), ← e14, ms_at]
  generalize hr7 : (fun j => if j = 10 then some (some (N + 76)) else r6 j) = r7
  generalize e17 : ms S16 N (.inl (0, 11, r7)) = S17
  -- from the back
  have t16 : ∀ x, x ≠ N → x < N + 76 → S17 x = S13 x := fun x h1 h2 => by rw [← e17, ms_ne _ _ h1, x16.1 x (by omega), ← e14, ms_ne _ _ h1]
  have t12 : ∀ x, x ≠ N → x < N + 57 → S17 x = S11 x := fun x h1 h2 => by rw [t16 x h1 (by omega), x13.1 x (by omega), ← e12, ms_ne _ _ h1]
  have t10 : ∀ x, x ≠ N → x < N + 38 → S17 x = S9 x := fun x h1 h2 => by rw [t12 x h1 (by omega), x11.1 x (by omega), ← e10, ms_ne _ _ h1]
  have t8 : ∀ x, x ≠ N → x < N + 19 → S17 x = S7 x := fun x h1 h2 => by rw [t10 x h1 (by omega), x9.1 x (by omega), ← e8, ms_ne _ _ h1]
  have t5 : ∀ x, x ≠ N → x < N + 15 → S17 x = S4 x := fun x h1 h2 => by rw [t8 x h1 (by omega), x7.1 x (by omega), ← e5, ms_ne _ _ h1]
  have t3 : ∀ x, x ≠ N → x < N + 14 → S17 x = S2 x := fun x h1 h2 => by rw [t5 x h1 (by omega), ← e4, ms_ne _ _ (by omega), ← e3, ms_ne _ _ h1]
  refine ⟨S1, S17, ?_, ?_, ⟨r7, by rw [← e17, ms_at], fun k => ?_⟩, fg_of a2 (fun x h1 h2 => t3 x (by omega) (by omega)), by rw [t5 _ (by omega) (by omega), ← e4, ms_at], ⟨rk, by rw [t8 _ (by omega) (by omega)]; exact b7, fun k => by rw [a7 k rk b7]⟩, by rw [t8 _ (by omega) (by omega)]; exact c7, by rw [t8 _ (by omega) (by omega)]; exact d7, by rw [t8 _ (by omega) (by omega)]; exact f7, fg_of a9 (fun x h1 h2 => t10 x (by omega) (by omega)), fg_of a11 (fun x h1 h2 => t12 x (by omega) (by omega)), fg_of a13 (fun x h1 h2 => t16 x (by omega) (by omega)), ⟨by rw [← e17, ms_ne _ _ (by omega)]; exact a16.1, by rw [← e17, ms_ne _ _ (by omega)]; exact a16.2⟩, fun x hx => by rw [t3 x (by omega) (by omega), x2.1 x (by omega), ← e1, ms_ne _ _ (by omega)], fun x hx => by rw [← e17, ms_ne _ _ (by omega), x16.2 x (by omega), ← e14, ms_ne _ _ (by omega), x13.2 x (by omega), ← e12, ms_ne _ _ (by omega), x11.2 x (by omega), ← e10, ms_ne _ _ (by omega), x9.2 x (by omega), ← e8, ms_ne _ _ (by omega), x7.2 x (by omega), ← e5, ms_ne _ _ (by omega), ← e4, ms_ne _ _ (by omega), ← e3, ms_ne _ _ (by omega), x2.2 x (by omega), ← e1, ms_ne _ _ (by omega)]⟩
  · rw [← e1, ← hr0]
    exact jnO_z (fun k => (hz N (Nat.le_refl _) k).1) (by simp)
  · have f2 : f_X11_newForms (ii ((6 : Nat) : Int)) (mz S1 A B ((N + 1, s + 11), c)) = some (N + 1, mz S2 A B ((N + 14, s + 11 + 6 + 8 * 6), c)) := by rw [show N + 14 = N + 1 + 1 + 2 * 6 by omega]; exact e2
    have f9 : f_X11_newForms (ii ((9 : Nat) : Int)) (mz S8 A B ((N + 19, s + 11 + 6 + 8 * 6 + 6 + 1807), c)) = some (N + 19, mz S9 A B ((N + 38, s + 11 + 6 + 8 * 6 + 6 + 1807 + 9 + 8 * 9), c)) := by rw [show N + 38 = N + 15 + 4 + 1 + 2 * 9 by omega, show N + 19 = N + 15 + 4 by omega]; exact e9
    have f11 : f_X11_newForms (ii ((9 : Nat) : Int)) (mz S10 A B ((N + 38, s + 11 + 6 + 8 * 6 + 6 + 1807 + 9 + 8 * 9), c)) = some (N + 38, mz S11 A B ((N + 57, s + 11 + 6 + 8 * 6 + 6 + 1807 + 9 + 8 * 9 + 9 + 8 * 9), c)) := by rw [show N + 57 = N + 15 + 4 + 1 + 2 * 9 + 1 + 2 * 9 by omega, show N + 38 = N + 15 + 4 + 1 + 2 * 9 by omega]; exact e11
    have f13 : f_X11_newForms (ii ((9 : Nat) : Int)) (mz S12 A B ((N + 57, s + 11 + 6 + 8 * 6 + 6 + 1807 + 9 + 8 * 9 + 9 + 8 * 9), c)) = some (N + 57, mz S13 A B ((N + 76, s + 11 + 6 + 8 * 6 + 6 + 1807 + 9 + 8 * 9 + 9 + 8 * 9 + 9 + 8 * 9), c)) := by rw [show N + 76 = N + 15 + 4 + 1 + 2 * 9 + 1 + 2 * 9 + 1 + 2 * 9 by omega, show N + 57 = N + 15 + 4 + 1 + 2 * 9 + 1 + 2 * 9 by omega]; exact e13
    have q76 : N + 15 + 4 + 1 + 2 * 9 + 1 + 2 * 9 + 1 + 2 * 9 = N + 76 := by omega
    rw [q76] at e15 e16
    unfold f_X0_init
    rw [k6, f2]
    simp only [Option.bind_some]
    rw [jputR_z (rf := r0) (N := 11) (by rw [x2.1 N (by omega)]; exact n1) (by omega), hr1, e3]
    simp only [Option.bind_some]
    rw [jnA_z (k := 6) (fun k => (hz (N + 14) (by omega) k).1) (fun k => (hz (N + 14) (by omega) k).2) rfl (by omega) (Or.inl rfl), e4]
    simp only [Option.bind_some]
    rw [jputR_z n4 (by omega), hr2, e5]
    simp only [Option.bind_some, show N + 14 + 1 = N + 15 by omega]
    rw [e6]
    simp only [Option.bind_some]
    rw [e7]
    simp only [Option.bind_some]
    rw [jputR_z n7 (by omega), hr3, e8]
    simp only [Option.bind_some, show N + 15 + 4 = N + 19 by omega, k9]
    rw [f9]
    simp only [Option.bind_some]
    rw [jputR_z n9 (by omega), hr4, e10]
    simp only [Option.bind_some]
    rw [f11]
    simp only [Option.bind_some]
    rw [jputR_z n11 (by omega), hr5, e12]
    simp only [Option.bind_some]
    rw [f13]
    simp only [Option.bind_some]
    rw [jputR_z n13 (by omega), hr6, e14]
    simp only [Option.bind_some]
    rw [e15]
    simp only [Option.bind_some]
    rw [e16]
    simp only [Option.bind_some]
    rw [jputR_z n16 (by omega), hr7, e17]
    rfl
  · rw [← hr7, ← hr6, ← hr5, ← hr4, ← hr3, ← hr2, ← hr1, ← hr0]
    rcases k with _ | _ | _ | _ | _ | _ | _ | _ | _ | _ | _ | k
    · rfl
    · rfl
    · rfl
    · rfl
    · rfl
    · rfl
    · rfl
    · rfl
    · rfl
    · rfl
    · rfl
    · rw [if_neg (by omega), if_neg (by omega), if_neg (by omega), if_neg (by omega), if_neg (by omega), if_neg (by omega), if_neg (by omega)]
      dsimp only
      rw [if_neg (by omega), if_neg (by omega), if_neg (by omega), if_neg (by omega), if_neg (by omega), if_neg (by omega), if_neg (by omega)]
      rfl
end new
