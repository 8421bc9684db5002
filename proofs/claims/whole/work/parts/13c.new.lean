/-! The constructors: images, the operator, tokens. -/
theorem fg_of {S S' : SS} {G n : Nat} (h : fg S G n) (e : ∀ x, G ≤ x → x < G + 1 + 2 * n → S' x = S x) : fg S' G n := ⟨by rw [e G (by omega) (by omega)]; exact h.1, fun i hi => ⟨by rw [e _ (by omega) (by omega)]; exact (h.2 i hi).1, by rw [e _ (by omega) (by omega)]; exact (h.2 i hi).2⟩⟩
theorem sg_of' {S S' : SS} {G : Nat} (h : sg S G) (e : ∀ x, G ≤ x → x < G + 15 → S' x = S x) : sg S' G := ⟨by rw [e G (by omega) (by omega)]; exact h.1, fun i hi => ⟨by rw [e _ (by omega) (by omega)]; exact (h.2 i hi).1, by rw [e _ (by omega) (by omega)]; exact (h.2 i hi).2.1, by rw [e _ (by omega) (by omega)]; exact (h.2 i hi).2.2.1, fun r hr => by rw [e _ (by omega) (by omega)]; exact (h.2 i hi).2.2.2 r hr⟩⟩
theorem ar_of' {S S' : SS} {G n k : Nat} (h : ar S G n k) (e : ∀ x, G ≤ x → x < G + 1 + n → S' x = S x) : ar S' G n k := ⟨by rw [e G (by omega) (by omega)]; exact h.1, fun i hi => by rw [e _ (by omega) (by omega)]; exact h.2 i hi⟩
theorem ar_msM (S : SS) (N r k : Nat) : ar (msM S N .int r k) N r k := ⟨msM_0 _ _ _ _ _, fun i hi => msM_i _ _ _ hi⟩
section new
variable {S : SS} {A B : ZA} {c : Nat → Nat} {N s : Nat}
theorem new_image (hz : Z0 A B N) : ∃ S1 S2 : SS, jnO (mz S A B ((N, s), c)) 2 [.int 0, .null, .null] = some (N, mz S1 A B ((N + 1, s + 3), c)) ∧ f_X3_init N (mz S1 A B ((N + 1, s + 3), c)) = some ((), mz S2 A B ((N + 25, s + 167), c)) ∧ S2 N = some (.inl (2, 3, rSh (N + 1) (N + 10))) ∧ fg S2 (N + 1) 4 ∧ sg S2 (N + 10) ∧ EXT S S2 N (N + 25) := by
  generalize e1 : ms S N (.inl (2, 3, rfz [.int 0, .null, .null])) = S1
  obtain ⟨S2, e2, y1, y2⟩ := new_forms (S := S1) (c := c) (s := s + 3) (n := 4) (Z0_le hz (show N ≤ N + 1 by omega)) (by omega)
  generalize e3 : ms S2 N (.inl (2, 3, fun j => if j = 1 then some (some (N + 1)) else rfz [.int 0, .null, .null] j)) = S3
  obtain ⟨S4, e4, z1, z2⟩ := new_shelves (S := S3) (c := c) (s := s + 3 + 4 + 8 * 4) (Z0_le hz (show N ≤ N + 1 + 1 + 2 * 4 by omega))
  have n4 : S4 N = some (.inl (2, 3, fun j => if j = 1 then some (some (N + 1)) else rfz [.int 0, .null, .null] j)) := by rw [z2.1 N (by omega), ← e3, ms_at]
  refine ⟨S1, ms S4 N (.inl (2, 3, rSh (N + 1) (N + 10))), ?_, ?_, by rw [ms_at], fg_of y1 (fun x h1 h2 => by rw [ms_ne _ _ (by omega), z2.1 x (by omega), ← e3, ms_ne _ _ (by omega)]), sg_of' z1 (fun x h1 h2 => by rw [ms_ne _ _ (by omega)]), fun x hx => by rw [ms_ne _ _ (by omega), z2.1 x (by omega), ← e3, ms_ne _ _ (by omega), y2.1 x (by omega), ← e1, ms_ne _ _ (by omega)], fun x hx => by rw [ms_ne _ _ (by omega), z2.2 x (by omega), ← e3, ms_ne _ _ (by omega), y2.2 x (by omega), ← e1, ms_ne _ _ (by omega)]⟩
  · rw [← e1]
    exact jnO_z (fun k => (hz N (Nat.le_refl _) k).1) (by simp)
  · have e2' : f_X11_newForms (ii ((4 : Nat) : Int)) (mz S1 A B ((N + 1, s + 3), c)) = some (N + 1, mz S2 A B ((N + 1 + 1 + 2 * 4, s + 3 + 4 + 8 * 4), c)) := e2
    unfold f_X3_init
    rw [k4, e2']
    simp only [Option.bind_some]
    rw [jputR_z (rf := rfz [.int 0, .null, .null]) (N := 3) (by rw [y2.1 N (by omega), ← e1, ms_at]) (by omega), e3]
    simp only [Option.bind_some]
    rw [e4]
    simp only [Option.bind_some]
    rw [jputR_z n4 (by omega), show N + 1 + 1 + 2 * 4 = N + 10 by omega, rfz_shelf]
    rfl
theorem new_tokens (hz : Z0 A B N) : ∃ S1 S2 : SS, jnO (mz S A B ((N, s), c)) 7 [.null, .null, .null, .int 0] = some (N, mz S1 A B ((N + 1, s + 4), c)) ∧ f_X9_init N (mz S1 A B ((N + 1, s + 4), c)) = some ((), mz S2 A B ((N + 4, s + 1807), c)) ∧ (∀ k, ∀ rf, S2 N = some (.inl (7, 4, rf)) → rf k = (if k = 0 then some (some (N + 1)) else if k = 1 then some (some (N + 2)) else if k = 2 then some (some (N + 3)) else none)) ∧ (∃ rf, S2 N = some (.inl (7, 4, rf))) ∧ S2 (N + 1) = some (.inr (.inl (.int, 601))) ∧ S2 (N + 2) = some (.inr (.inl (.int, 601))) ∧ S2 (N + 3) = some (.inr (.inl (.int, 601))) ∧ EXT S S2 N (N + 4) := by
  generalize e1 : ms S N (.inl (7, 4, rfz [.null, .null, .null, .int 0])) = S1
  generalize e2 : ms S1 (N + 1) (.inr (.inl (.int, 601))) = S2
  generalize e3 : ms S2 N (.inl (7, 4, fun j => if j = 0 then some (some (N + 1)) else rfz [.null, .null, .null, .int 0] j)) = S3
  generalize e4 : ms S3 (N + 2) (.inr (.inl (.int, 601))) = S4
  have n4 : S4 N = some (.inl (7, 4, fun j => if j = 0 then some (some (N + 1)) else rfz [.null, .null, .null, .int 0] j)) := by rw [← e4, ms_ne _ _ (by omega), ← e3, ms_at]
  generalize e5 : ms S4 N (.inl (7, 4, fun j => if j = 1 then some (some (N + 2)) else (fun j => if j = 0 then some (some (N + 1)) else rfz [.null, .null, .null, .int 0] j) j)) = S5
  generalize e6 : ms S5 (N + 3) (.inr (.inl (.int, 601))) = S6
  have n6 : S6 N = some (.inl (7, 4, fun j => if j = 1 then some (some (N + 2)) else (fun j => if j = 0 then some (some (N + 1)) else rfz [.null, .null, .null, .int 0] j) j)) := by rw [← e6, ms_ne _ _ (by omega), ← e5, ms_at]
  generalize e7 : ms S6 N (.inl (7, 4, fun j => if j = 2 then some (some (N + 3)) else (fun j => if j = 1 then some (some (N + 2)) else (fun j => if j = 0 then some (some (N + 1)) else rfz [.null, .null, .null, .int 0] j) j) j)) = S7
  have n7 : S7 N = some (.inl (7, 4, fun j => if j = 2 then some (some (N + 3)) else (fun j => if j = 1 then some (some (N + 2)) else (fun j => if j = 0 then some (some (N + 1)) else rfz [.null, .null, .null, .int 0] j) j) j)) := by rw [← e7, ms_at]
  have g : ∀ x, x < N ∨ N + 4 ≤ x → S7 x = S x := fun x hx => by rw [← e7, ms_ne _ _ (by omega), ← e6, ms_ne _ _ (by omega), ← e5, ms_ne _ _ (by omega), ← e4, ms_ne _ _ (by omega), ← e3, ms_ne _ _ (by omega), ← e2, ms_ne _ _ (by omega), ← e1, ms_ne _ _ (by omega)]
  refine ⟨S1, S7, ?_, ?_, fun k rf h => ?_, ⟨_, n7⟩, by rw [← e7, ms_ne _ _ (by omega), ← e6, ms_ne _ _ (by omega), ← e5, ms_ne _ _ (by omega), ← e4, ms_ne _ _ (by omega), ← e3, ms_ne _ _ (by omega), ← e2, ms_at], by rw [← e7, ms_ne _ _ (by omega), ← e6, ms_ne _ _ (by omega), ← e5, ms_ne _ _ (by omega), ← e4, ms_at], by rw [← e7, ms_ne _ _ (by omega), ← e6, ms_at], fun x hx => g x (by omega), fun x hx => g x (by omega)⟩
  · rw [← e1]
    exact jnO_z (fun k => (hz N (Nat.le_refl _) k).1) (by simp)
  · unfold f_X9_init
    rw [k601, jnA_z (k := 601) (fun k => (hz (N + 1) (by omega) k).1) (fun k => (hz (N + 1) (by omega) k).2) rfl (by omega) (Or.inl rfl), e2]
    simp only [Option.bind_some]
    rw [jputR_z (rf := rfz [.null, .null, .null, .int 0]) (N := 4) (by rw [← e2, ms_ne _ _ (by omega), ← e1, ms_at]) (by omega), e3]
    simp only [Option.bind_some]
    rw [jnA_z (k := 601) (fun k => (hz (N + 1 + 1) (by omega) k).1) (fun k => (hz (N + 1 + 1) (by omega) k).2) rfl (by omega) (Or.inl rfl), show N + 1 + 1 = N + 2 by omega, e4]
    simp only [Option.bind_some]
    rw [jputR_z n4 (by omega), e5]
    simp only [Option.bind_some]
    rw [jnA_z (k := 601) (fun k => (hz (N + 2 + 1) (by omega) k).1) (fun k => (hz (N + 2 + 1) (by omega) k).2) rfl (by omega) (Or.inl rfl), show N + 2 + 1 = N + 3 by omega, e6]
    simp only [Option.bind_some]
    rw [jputR_z n6 (by omega), e7]
    rfl
  · rw [n7] at h
    have h' := Option.some.inj h
    have h'' := Sum.inl.inj h'
    have h3 : (fun j => if j = 2 then some (some (N + 3)) else (fun j => if j = 1 then some (some (N + 2)) else (fun j => if j = 0 then some (some (N + 1)) else rfz [.null, .null, .null, .int 0] j) j) j) = rf := (Prod.mk.inj (Prod.mk.inj h'').2).2
    rw [← h3]
    rcases k with _ | _ | _ | k
    · rfl
    · rfl
    · rfl
    · rw [if_neg (by omega), if_neg (by omega), if_neg (by omega)]
      show (if k + 1 + 1 + 1 = 2 then some (some (N + 3)) else if k + 1 + 1 + 1 = 1 then some (some (N + 2)) else if k + 1 + 1 + 1 = 0 then some (some (N + 1)) else rfz [.null, .null, .null, .int 0] (k + 1 + 1 + 1)) = none
      rw [if_neg (by omega), if_neg (by omega), if_neg (by omega)]
      rcases k with _ | k
      · rfl
      · rfl
end new
