/-! The constructors: the operator. -/
section new
variable {S : SS} {A B : ZA} {c : Nat → Nat} {N s : Nat}
theorem new_oper (hz : Z0 A B N) : ∃ S1 S2 : SS, jnO (mz S A B ((N, s), c)) 3 [.null, .null, .null, .null, .int 0, .int 0] = some (N, mz S1 A B ((N + 1, s + 6), c)) ∧ f_X5_init N (mz S1 A B ((N + 1, s + 6), c)) = some ((), mz S2 A B ((N + 20, s + 102), c)) ∧ (∃ rf, S2 N = some (.inl (3, 6, rf)) ∧ ∀ k, rf k = (if k = 0 then some (some (N + 1)) else if k = 1 then some (some (N + 2)) else if k = 2 then some (some (N + 8)) else if k = 3 then some (some (N + 14)) else none)) ∧ S2 (N + 1) = some (.inr (.inl (.int, 6))) ∧ ar S2 (N + 2) 5 5 ∧ ar S2 (N + 8) 5 5 ∧ ar S2 (N + 14) 5 5 ∧ EXT S S2 N (N + 20) := by
  generalize hr0 : rfz [.null, .null, .null, .null, .int 0, .int 0] = r0
  generalize e1 : ms S N (.inl (3, 6, r0)) = S1
  generalize e2 : ms S1 (N + 1) (.inr (.inl (.int, 6))) = S2
  generalize hr1 : (fun j => if j = 0 then some (some (N + 1)) else r0 j) = r1
  generalize e3 : ms S2 N (.inl (3, 6, r1)) = S3
  generalize e4 : msM S3 (N + 2) .int 5 5 = S4
  have n4 : S4 N = some (.inl (3, 6, r1)) := by rw [← e4, msM_ne _ _ _ (by omega), ← e3, ms_at]
  generalize hr2 : (fun j => if j = 1 then some (some (N + 2)) else r1 j) = r2
  generalize e5 : ms S4 N (.inl (3, 6, r2)) = S5
  generalize e6 : msM S5 (N + 8) .int 5 5 = S6
  have n6 : S6 N = some (.inl (3, 6, r2)) := by rw [← e6, msM_ne _ _ _ (by omega), ← e5, ms_at]
  generalize hr3 : (fun j => if j = 2 then some (some (N + 8)) else r2 j) = r3
  generalize e7 : ms S6 N (.inl (3, 6, r3)) = S7
  generalize e8 : msM S7 (N + 14) .int 5 5 = S8
  have n8 : S8 N = some (.inl (3, 6, r3)) := by rw [← e8, msM_ne _ _ _ (by omega), ← e7, ms_at]
  generalize hr4 : (fun j => if j = 3 then some (some (N + 14)) else r3 j) = r4
  generalize e9 : ms S8 N (.inl (3, 6, r4)) = S9
  have g : ∀ x, x < N ∨ N + 20 ≤ x → S9 x = S x := fun x hx => by rw [← e9, ms_ne _ _ (by omega), ← e8, msM_ne _ _ _ (by omega), ← e7, ms_ne _ _ (by omega), ← e6, msM_ne _ _ _ (by omega), ← e5, ms_ne _ _ (by omega), ← e4, msM_ne _ _ _ (by omega), ← e3, ms_ne _ _ (by omega), ← e2, ms_ne _ _ (by omega), ← e1, ms_ne _ _ (by omega)]
  refine ⟨S1, S9, ?_, ?_, ⟨r4, by rw [← e9, ms_at], fun k => ?_⟩, ?_, ?_, ?_, ?_, fun x hx => g x (by omega), fun x hx => g x (by omega)⟩
  · rw [← e1, ← hr0]
    exact jnO_z (fun k => (hz N (Nat.le_refl _) k).1) (by simp)
  · unfold f_X5_init
    rw [k6, k5, jnA_z (k := 6) (fun k => (hz (N + 1) (by omega) k).1) (fun k => (hz (N + 1) (by omega) k).2) rfl (by omega) (Or.inl rfl), e2]
    simp only [Option.bind_some]
    rw [jputR_z (rf := r0) (N := 6) (by rw [← e2, ms_ne _ _ (by omega), ← e1, ms_at]) (by omega), hr1, e3]
    simp only [Option.bind_some]
    rw [jnM_z (r := 5) (k := 5) (fun a ha k => (hz a (by omega) k).1) (fun a ha k => (hz a (by omega) k).2) rfl rfl (by omega) (by omega) (Or.inl rfl), show N + 1 + 1 = N + 2 by omega, e4]
    simp only [Option.bind_some]
    rw [jputR_z n4 (by omega), hr2, e5]
    simp only [Option.bind_some]
    rw [jnM_z (r := 5) (k := 5) (fun a ha k => (hz a (by omega) k).1) (fun a ha k => (hz a (by omega) k).2) rfl rfl (by omega) (by omega) (Or.inl rfl), show N + 2 + 1 + 5 = N + 8 by omega, e6]
    simp only [Option.bind_some]
    rw [jputR_z n6 (by omega), hr3, e7]
    simp only [Option.bind_some]
    rw [jnM_z (r := 5) (k := 5) (fun a ha k => (hz a (by omega) k).1) (fun a ha k => (hz a (by omega) k).2) rfl rfl (by omega) (by omega) (Or.inl rfl), show N + 8 + 1 + 5 = N + 14 by omega, e8]
    simp only [Option.bind_some]
    rw [jputR_z n8 (by omega), hr4, e9]
    rfl
  · rw [← hr4, ← hr3, ← hr2, ← hr1, ← hr0]
    rcases k with _ | _ | _ | _ | k
    · rfl
    · rfl
    · rfl
    · rfl
    · rw [if_neg (by omega), if_neg (by omega), if_neg (by omega), if_neg (by omega)]
      dsimp only
      rw [if_neg (by omega), if_neg (by omega), if_neg (by omega), if_neg (by omega)]
      rcases k with _ | _ | k
      · rfl
      · rfl
      · rfl
  · rw [← e9, ms_ne _ _ (by omega), ← e8, msM_ne _ _ _ (by omega), ← e7, ms_ne _ _ (by omega), ← e6, msM_ne _ _ _ (by omega), ← e5, ms_ne _ _ (by omega), ← e4, msM_ne _ _ _ (by omega), ← e3, ms_ne _ _ (by omega), ← e2, ms_at]
  · refine ar_of' (ar_msM S3 (N + 2) 5 5) (fun x h1 h2 => ?_)
    rw [← e9, ms_ne _ _ (by omega), ← e8, msM_ne _ _ _ (by omega), ← e7, ms_ne _ _ (by omega), ← e6, msM_ne _ _ _ (by omega), ← e5, ms_ne _ _ (by omega), ← e4]
  · refine ar_of' (ar_msM S5 (N + 8) 5 5) (fun x h1 h2 => ?_)
    rw [← e9, ms_ne _ _ (by omega), ← e8, msM_ne _ _ _ (by omega), ← e7, ms_ne _ _ (by omega), ← e6]
  · refine ar_of' (ar_msM S7 (N + 14) 5 5) (fun x h1 h2 => ?_)
    rw [← e9, ms_ne _ _ (by omega), ← e8]
end new
