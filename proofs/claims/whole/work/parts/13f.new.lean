/-! The constructors: the spaces. -/
theorem rfz_space (q r : Nat) : (fun j => if j = 5 then some (some r) else (fun j => if j = 2 then some (some q) else rfz [.int 0, .int 0, .null, .int 0, .int 0, .null, .int 0, .int 0] j) j) = rSp q r := by
  funext j
  unfold rSp
  rcases j with _ | _ | _ | _ | _ | _ | _ | _ | j
  · rfl
  · rfl
  · rfl
  · rfl
  · rfl
  · rfl
  · rfl
  · rfl
  · dsimp only
    rw [if_neg (by omega), if_neg (by omega), if_neg (by omega), if_neg (by omega)]; rfl
section new
variable {S : SS} {A B : ZA} {c : Nat → Nat} {N s : Nat}
theorem new_space (hz : Z0 A B N) {i : Nat} (hi : i < 31) : ∃ S1 S2 : SS, jnO (mz S A B ((N, s), c)) 5 [.int 0, .int 0, .null, .int 0, .int 0, .null, .int 0, .int 0] = some (N, mz S1 A B ((N + 1, s + 8), c)) ∧ f_X7_init N (ii ((2 * i : Nat) : Int)) (mz S1 A B ((N + 1, s + 8), c)) = some ((), mz S2 (za A N (up (up (A N) 0 ((2 * i : Nat) : Int)) 1 ((Lk (2 * i) : Nat) : Int))) B ((N + 3, s + 14), c)) ∧ spS S2 N (N + 1) (N + 2) 0 ∧ S2 (N + 2) = some (.inr (.inl (.int, 6))) ∧ EXT S S2 N (N + 3) := by
  generalize hr0 : rfz [.int 0, .int 0, .null, .int 0, .int 0, .null, .int 0, .int 0] = r0
  generalize e1 : ms S N (.inl (5, 8, r0)) = S1
  generalize e2 : msM S1 (N + 1) .int 0 0 = S2
  generalize hr1 : (fun j => if j = 2 then some (some (N + 1)) else r0 j) = r1
  generalize e3 : ms S2 N (.inl (5, 8, r1)) = S3
  generalize e4 : ms S3 (N + 2) (.inr (.inl (.int, 6))) = S4
  have n4 : S4 N = some (.inl (5, 8, r1)) := by rw [← e4, ms_ne _ _ (by omega), ← e3, ms_at]
  have er : (fun j => if j = 5 then some (some (N + 2)) else r1 j) = rSp (N + 1) (N + 2) := by rw [← hr1, ← hr0]; exact rfz_space _ _
  generalize e5 : ms S4 N (.inl (5, 8, rSp (N + 1) (N + 2))) = S5
  have n5 : S5 N = some (.inl (5, 8, rSp (N + 1) (N + 2))) := by rw [← e5, ms_at]
  have g : ∀ x, x < N ∨ N + 3 ≤ x → S5 x = S x := fun x hx => by rw [← e5, ms_ne _ _ (by omega), ← e4, ms_ne _ _ (by omega), ← e3, ms_ne _ _ (by omega), ← e2, msM_ne _ _ _ (by omega), ← e1, ms_ne _ _ (by omega)]
  refine ⟨S1, S5, ?_, ?_, ⟨n5, by rw [← e5, ms_ne _ _ (by omega), ← e4, ms_ne _ _ (by omega), ← e3, ms_ne _ _ (by omega), ← e2, msM_0], fun i hi => by omega⟩, by rw [← e5, ms_ne _ _ (by omega), ← e4, ms_at], fun x hx => g x (by omega), fun x hx => g x (by omega)⟩
  · rw [← e1, ← hr0]
    exact jnO_z (fun k => (hz N (Nat.le_refl _) k).1) (by simp)
  · unfold f_X7_init
    rw [k0, jnM_z (r := 0) (k := 0) (fun a ha k => (hz a (by omega) k).1) (fun a ha k => (hz a (by omega) k).2) rfl rfl (by omega) (by omega) (Or.inl rfl), e2]
    simp only [Option.bind_some]
    rw [jputR_z (rf := r0) (N := 8) (by rw [← e2, msM_ne _ _ _ (by omega), ← e1, ms_at]) (by omega), hr1, e3]
    simp only [Option.bind_some]
    rw [show N + 1 + 1 + 0 = N + 2 by omega, k6, jnA_z (k := 6) (fun k => (hz (N + 2) (by omega) k).1) (fun k => (hz (N + 2) (by omega) k).2) rfl (by omega) (Or.inl rfl), e4]
    simp only [Option.bind_some]
    rw [jputR_z n4 (by omega), er, e5]
    simp only [Option.bind_some]
    rw [jput_z n5 (by omega) rfl]
    simp only [Option.bind_some, x_long _ (show 2 * i ≤ 60 by omega)]
    rw [jput_z n5 (by omega) rfl, za_za, za_at]
    rfl
theorem new_spaces (hz : Z0 A B N) : ∃ (S1 S2 : SS) (A' : ZA), jnO (mz S A B ((N, s), c)) 6 [.null] = some (N, mz S1 A B ((N + 1, s + 1), c)) ∧ f_X8_init N (mz S1 A B ((N + 1, s + 1), c)) = some ((), mz S2 A' B ((N + 95, s + 466), c)) ∧ S2 N = some (.inl (6, 1, rSs (N + 1))) ∧ S2 (N + 1) = some (.inr (.inr (.inl (.object "HeckeSeries$Space", 31, fun i => if i < 31 then some (N + 2 + 3 * i) else none)))) ∧ (∀ i, i < 31 → spS S2 (N + 2 + 3 * i) (N + 3 + 3 * i) (N + 4 + 3 * i) 0 ∧ S2 (N + 4 + 3 * i) = some (.inr (.inl (.int, 6))) ∧ A' (N + 2 + 3 * i) 0 = ((2 * i : Nat) : Int) ∧ A' (N + 2 + 3 * i) 1 = ((Lk (2 * i) : Nat) : Int) ∧ ∀ k, k ≠ 0 → k ≠ 1 → A' (N + 2 + 3 * i) k = 0) ∧ (∀ x, (∀ i, i < 31 → x ≠ N + 2 + 3 * i) → A' x = A x) ∧ EXT S S2 N (N + 95) := by
  generalize e1 : ms S N (.inl (6, 1, rfz [.null])) = S1
  generalize e2 : ms S1 (N + 1) (.inr (.inr (.inl (.object "HeckeSeries$Space", 31, fun _ => none)))) = S2
  have er : (fun j => if j = 0 then some (some (N + 1)) else rfz [.null] j) = rSs (N + 1) := by
    funext j
    unfold rSs
    rcases j with _ | j
    · rfl
    · rw [if_neg (by omega), if_neg (by omega)]; rfl
  generalize e3 : ms S2 N (.inl (6, 1, rSs (N + 1))) = S3
  have g3 : ∀ x, x < N ∨ N + 2 ≤ x → S3 x = S x := fun x hx => by rw [← e3, ms_ne _ _ (by omega), ← e2, ms_ne _ _ (by omega), ← e1, ms_ne _ _ (by omega)]
  have key := j_run (f := f_X8_init_L15 N) (fun i => ii (i : Int)) (fun i h => ∃ (S' : SS) (A' : ZA), h = mz S' A' B ((N + 2 + 3 * i, s + 1 + 31 + 14 * i), c) ∧ S' N = some (.inl (6, 1, rSs (N + 1))) ∧ S' (N + 1) = some (.inr (.inr (.inl (.object "HeckeSeries$Space", 31, fun j => if j < i then some (N + 2 + 3 * j) else none)))) ∧ (∀ j, j < i → spS S' (N + 2 + 3 * j) (N + 3 + 3 * j) (N + 4 + 3 * j) 0 ∧ S' (N + 4 + 3 * j) = some (.inr (.inl (.int, 6))) ∧ A' (N + 2 + 3 * j) 0 = ((2 * j : Nat) : Int) ∧ A' (N + 2 + 3 * j) 1 = ((Lk (2 * j) : Nat) : Int) ∧ ∀ k, k ≠ 0 → k ≠ 1 → A' (N + 2 + 3 * j) k = 0) ∧ (∀ x, (∀ j, j < i → x ≠ N + 2 + 3 * j) → A' x = A x) ∧ (∀ x, x < N ∨ N + 2 + 3 * i ≤ x → S' x = S x)) 31 (t := ii ((31 : Nat) : Int)) (by omega) (fun i hi h ⟨S4, A4, e, y1, y2, y3, y4, y5⟩ => by
    subst e
    have hz4 : Z0 A4 B (N + 2 + 3 * i) := fun a ha k => by rw [y4 a (fun j hj => by omega)]; exact hz a (by omega) k
    obtain ⟨S5, S6, e5, e6, z1, z2, z3⟩ := new_space (S := S4) (c := c) (s := s + 1 + 31 + 14 * i) hz4 hi
    have o6 : S6 (N + 1) = some (.inr (.inr (.inl (.object "HeckeSeries$Space", 31, fun j => if j < i then some (N + 2 + 3 * j) else none)))) := by rw [z3.1 _ (by omega)]; exact y2
    refine ⟨mz (ms S6 (N + 1) (.inr (.inr (.inl (.object "HeckeSeries$Space", 31, fun j => if j < i + 1 then some (N + 2 + 3 * j) else none))))) (za A4 (N + 2 + 3 * i) (up (up (A4 (N + 2 + 3 * i)) 0 ((2 * i : Nat) : Int)) 1 ((Lk (2 * i) : Nat) : Int))) B ((N + 2 + 3 * (i + 1), s + 1 + 31 + 14 * (i + 1)), c), ?_, _, _, rfl, by rw [ms_ne _ _ (by omega), z3.1 _ (by omega)]; exact y1, by rw [ms_at], fun j hj => ?_, fun x hx => by rw [za_ne _ _ (hx i (by omega))]; exact y4 x (fun j hj => hx j (by omega)), fun x hx => ?_⟩
    · have o4 := jal_zo (A := A4) (B := B) (n := ((N + 2 + 3 * i, s + 1 + 31 + 14 * i), c)) y2
      have r4 := jgR_z (A := A4) (B := B) (n := ((N + 2 + 3 * i, s + 1 + 31 + 14 * i), c)) y1 (show 0 < 1 by omega) (show rSs (N + 1) 0 = some (some (N + 1)) from rfl)
      unfold f_X8_init_L15
      rw [r4]
      simp only [Option.bind_some]
      rw [o4]
      simp only [Option.bind_some]
      rw [if_neg (by rw [n_le (by omega) (by omega)]; omega), e5]
      simp only [Option.bind_some]
      rw [k2, n_mul, e6]
      simp only [Option.bind_some]
      rw [jsR_z (k := i) o6 z1.1 rfl rfl hi (by omega), k1, n_add]
      have ef : va_up (fun j => if j < i then some (N + 2 + 3 * j) else none) i (some (N + 2 + 3 * i)) = fun j => if j < i + 1 then some (N + 2 + 3 * j) else none := by
        funext j
        unfold va_up
        by_cases q : j = i
        · subst q; simp
        · by_cases q2 : j < i
          · simp [q, q2, show j < i + 1 by omega]
          · simp [q, q2, show ¬ (j < i + 1) by omega]
      rw [ef]
      rfl
    · by_cases q : j = i
      · subst q
        rw [show N + 3 + 3 * j = N + 2 + 3 * j + 1 by omega, show N + 4 + 3 * j = N + 2 + 3 * j + 2 by omega]
        refine ⟨⟨by rw [ms_ne _ _ (by omega)]; exact z1.1, by rw [ms_ne _ _ (by omega)]; exact z1.2.1, fun _ h => by omega⟩, by rw [ms_ne _ _ (by omega)]; exact z2, by rw [za_at, up_ne _ _ (by omega), up_at], by rw [za_at, up_at], fun k h0 h1 => by rw [za_at, up_ne _ _ h1, up_ne _ _ h0]; exact (hz4 _ (Nat.le_refl _) k).1⟩
      · obtain ⟨w1, w2, w3, w4, w5⟩ := y3 j (by omega)
        refine ⟨⟨by rw [ms_ne _ _ (by omega), z3.1 _ (by omega)]; exact w1.1, by rw [ms_ne _ _ (by omega), z3.1 _ (by omega)]; exact w1.2.1, fun _ h => by omega⟩, by rw [ms_ne _ _ (by omega), z3.1 _ (by omega)]; exact w2, by rw [za_ne _ _ (by omega)]; exact w3, by rw [za_ne _ _ (by omega)]; exact w4, fun k h0 h1 => by rw [za_ne _ _ (by omega)]; exact w5 k h0 h1⟩
    · rw [ms_ne _ _ (by omega)]
      rcases hx with q | q
      · rw [z3.1 x (by omega)]; exact y5 x (by omega)
      · rw [z3.2 x (by omega)]; exact y5 x (by omega)) (fun h ⟨S4, A4, e, y1, y2, _⟩ => by
    subst e
    have o4 := jal_zo (A := A4) (B := B) (n := ((N + 2 + 3 * 31, s + 1 + 31 + 14 * 31), c)) y2
    have r4 := jgR_z (A := A4) (B := B) (n := ((N + 2 + 3 * 31, s + 1 + 31 + 14 * 31), c)) y1 (show 0 < 1 by omega) (show rSs (N + 1) 0 = some (some (N + 1)) from rfl)
    unfold f_X8_init_L15
    rw [r4]
    simp only [Option.bind_some]
    rw [o4]
    simp only [Option.bind_some]
    rw [if_pos (by decide)]) (h0 := mz S3 A B ((N + 2, s + 1 + 31), c)) ⟨S3, A, rfl, by rw [← e3, ms_at], by
      rw [← e3, ms_ne _ _ (by omega), ← e2, ms_at]
      have : (fun j => if j < 0 then some (N + 2 + 3 * j) else none) = fun _ : Nat => (none : Option Nat) := by funext j; rw [if_neg (by omega)]
      rw [this], fun j hj => by omega, fun _ _ => rfl, fun x hx => g3 x (by omega)⟩
  obtain ⟨h', f1, S', A', rfl, y1, y2, y3, y4, y5⟩ := key
  refine ⟨S1, S', A', ?_, ?_, y1, y2, y3, y4, fun x hx => y5 x (by omega), fun x hx => y5 x (by omega)⟩
  · rw [← e1]
    exact jnO_z (fun k => (hz N (Nat.le_refl _) k).1) (by simp)
  · unfold f_X8_init
    rw [k31, jnAo_z (k := 31) rfl (by omega), e2]
    simp only [Option.bind_some]
    rw [jputR_z (rf := rfz [.null]) (N := 1) (by rw [← e2, ms_ne _ _ (by omega), ← e1, ms_at]) (by omega), er, e3]
    simp only [Option.bind_some]
    have f1' : jloop (f_X8_init_L15 N) jF (0 : Int32) (mz S3 A B ((N + 1 + 1, s + 1 + 31), c)) = some (ii ((31 : Nat) : Int), mz S' A' B ((N + 2 + 3 * 31, s + 1 + 31 + 14 * 31), c)) := f1
    rw [f1']
    rfl
end new
