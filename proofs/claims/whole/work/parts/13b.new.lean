/-! The constructors: shelves, images. -/
theorem rfz_shelf (g r : Nat) : (fun j => if j = 2 then some (some r) else (fun j => if j = 1 then some (some g) else rfz [.int 0, .null, .null] j) j) = rSh g r := by
  funext j
  unfold rSh
  rcases j with _ | _ | _ | j
  · rfl
  · rfl
  · rfl
  · rw [if_neg (by omega), if_neg (by omega), if_neg (by omega)]
    show (if j + 1 + 1 + 1 = 1 then some (some g) else rfz [.int 0, .null, .null] (j + 1 + 1 + 1)) = none
    rw [if_neg (by omega)]; rfl
theorem msM_0 (S : SS) (N : Nat) (t : FieldType) (r k : Nat) : msM S N t r k N = some (.inr (.inr (.inl (.array t, r, fun i => if i < r then some (N + 1 + i) else none)))) := by unfold msM; rw [if_pos rfl]
theorem msM_i (S : SS) (N : Nat) (t : FieldType) {r k i : Nat} (hi : i < r) : msM S N t r k (N + 1 + i) = some (.inr (.inl (t, k))) := by unfold msM; rw [if_neg (by omega), if_pos (by omega)]
theorem msM_ne (S : SS) (N : Nat) (t : FieldType) {r k x : Nat} (hx : x < N ∨ N + 1 + r ≤ x) : msM S N t r k x = S x := by unfold msM; rw [if_neg (by omega), if_neg (by omega)]
/-- one shelf at G -/
def sg1 (S : SS) (G : Nat) : Prop := S G = some (.inl (4, 3, rSh (G + 1) (G + 2))) ∧ S (G + 1) = some (.inr (.inl (.boolean, 4))) ∧ S (G + 2) = some (.inr (.inr (.inl (.array .long, 4, fun r => if r < 4 then some (G + 2 + 1 + r) else none)))) ∧ ∀ r, r < 4 → S (G + 2 + 1 + r) = some (.inr (.inl (.long, 13)))
section new
variable {S : SS} {A B : ZA} {c : Nat → Nat} {N s : Nat}
theorem new_shelf (hz : Z0 A B N) : ∃ S1 S2 : SS, jnO (mz S A B ((N, s), c)) 4 [.int 0, .null, .null] = some (N, mz S1 A B ((N + 1, s + 3), c)) ∧ f_X6_init N (mz S1 A B ((N + 1, s + 3), c)) = some ((), mz S2 A B ((N + 7, s + 63), c)) ∧ sg1 S2 N ∧ EXT S S2 N (N + 7) := by
  generalize e1 : ms S N (.inl (4, 3, rfz [.int 0, .null, .null])) = S1
  generalize e2 : ms S1 (N + 1) (.inr (.inl (.boolean, 4))) = S2
  generalize e3 : ms S2 N (.inl (4, 3, fun j => if j = 1 then some (some (N + 1)) else rfz [.int 0, .null, .null] j)) = S3
  generalize e4 : msM S3 (N + 2) .long 4 13 = S4
  have n4 : S4 N = some (.inl (4, 3, fun j => if j = 1 then some (some (N + 1)) else rfz [.int 0, .null, .null] j)) := by rw [← e4, msM_ne _ _ _ (by omega), ← e3, ms_at]
  refine ⟨S1, ms S4 N (.inl (4, 3, rSh (N + 1) (N + 2))), ?_, ?_, ⟨by rw [ms_at], by rw [ms_ne _ _ (by omega), ← e4, msM_ne _ _ _ (by omega), ← e3, ms_ne _ _ (by omega), ← e2, ms_at], by rw [ms_ne _ _ (by omega), ← e4, msM_0], fun r hr => by rw [ms_ne _ _ (by omega), ← e4, msM_i _ _ _ hr]⟩, fun x hx => by rw [ms_ne _ _ (by omega), ← e4, msM_ne _ _ _ (by omega), ← e3, ms_ne _ _ (by omega), ← e2, ms_ne _ _ (by omega), ← e1, ms_ne _ _ (by omega)], fun x hx => by rw [ms_ne _ _ (by omega), ← e4, msM_ne _ _ _ (by omega), ← e3, ms_ne _ _ (by omega), ← e2, ms_ne _ _ (by omega), ← e1, ms_ne _ _ (by omega)]⟩
  · rw [← e1]
    exact jnO_z (fun k => (hz N (Nat.le_refl _) k).1) (by simp)
  · unfold f_X6_init
    rw [k4, k13, jnA_z (k := 4) (fun k => (hz (N + 1) (by omega) k).1) (fun k => (hz (N + 1) (by omega) k).2) rfl (by omega) (Or.inr (Or.inr (Or.inr rfl))), e2]
    simp only [Option.bind_some]
    rw [jputR_z (rf := rfz [.int 0, .null, .null]) (N := 3) (by rw [← e2, ms_ne _ _ (by omega), ← e1, ms_at]) (by omega), e3]
    simp only [Option.bind_some]
    rw [jnM_z (r := 4) (k := 13) (fun a ha k => (hz a (by omega) k).1) (fun a ha k => (hz a (by omega) k).2) rfl rfl (by omega) (by omega) (Or.inr rfl)]
    simp only [Option.bind_some, show N + 1 + 1 = N + 2 by omega]
    rw [e4, jputR_z n4 (by omega), rfz_shelf]
    rfl
theorem new_shelves (hz : Z0 A B N) : ∃ S' : SS, f_X11_newShelves (mz S A B ((N, s), c)) = some (N, mz S' A B ((N + 15, s + 128), c)) ∧ sg S' N ∧ EXT S S' N (N + 15) := by
  have key := j_run (f := f_X11_newShelves_L7 N) (fun i => ii (i : Int)) (fun i h => ∃ S' : SS, h = mz S' A B ((N + 1 + 7 * i, s + 2 + 63 * i), c) ∧ S' N = some (.inr (.inr (.inl (.object "HeckeSeries$Shelf", 2, fun j => if j < i then some (N + 1 + 7 * j) else none)))) ∧ (∀ j, j < i → sg1 S' (N + 1 + 7 * j)) ∧ EXT S S' N (N + 1 + 7 * i)) 2 (t := ii ((2 : Nat) : Int)) (by omega) (fun i hi h ⟨S1, e, y1, y2, y3⟩ => by
    subst e
    obtain ⟨S2, S3, e2, e3, z1, z2⟩ := new_shelf (S := S1) (c := c) (s := s + 2 + 63 * i) (Z0_le hz (show N ≤ N + 1 + 7 * i by omega))
    have o3 : S3 N = some (.inr (.inr (.inl (.object "HeckeSeries$Shelf", 2, fun j => if j < i then some (N + 1 + 7 * j) else none)))) := by rw [z2.1 N (by omega)]; exact y1
    refine ⟨mz (ms S3 N (.inr (.inr (.inl (.object "HeckeSeries$Shelf", 2, fun j => if j < i + 1 then some (N + 1 + 7 * j) else none))))) A B ((N + 1 + 7 * (i + 1), s + 2 + 63 * (i + 1)), c), ?_, _, rfl, by rw [ms_at], fun j hj => ?_, fun x hx => by rw [ms_ne _ _ (by omega), z2.1 x (by omega), y3.1 x hx], fun x hx => by rw [ms_ne _ _ (by omega), z2.2 x (by omega), y3.2 x (by omega)]⟩
    · unfold f_X11_newShelves_L7
      rw [if_neg (by rw [k2, n_le (by omega) (by omega)]; omega), e2]
      simp only [Option.bind_some]
      rw [e3]
      simp only [Option.bind_some]
      rw [jsR_z (k := i) o3 z1.1 rfl rfl hi (by omega), k1, n_add]
      have ef : va_up (fun j => if j < i then some (N + 1 + 7 * j) else none) i (some (N + 1 + 7 * i)) = fun j => if j < i + 1 then some (N + 1 + 7 * j) else none := by
        funext j
        unfold va_up
        by_cases q : j = i
        · subst q; simp
        · by_cases q2 : j < i
          · simp [q, q2, show j < i + 1 by omega]
          · simp [q, q2, show ¬ (j < i + 1) by omega]
      rw [ef]
      rfl
    · by_cases q : j = i
      · subst q
        exact ⟨by rw [ms_ne _ _ (by omega)]; exact z1.1, by rw [ms_ne _ _ (by omega)]; exact z1.2.1, by rw [ms_ne _ _ (by omega)]; exact z1.2.2.1, fun r hr => by rw [ms_ne _ _ (by omega)]; exact z1.2.2.2 r hr⟩
      · have y := y2 j (by omega)
        exact ⟨by rw [ms_ne _ _ (by omega), z2.1 _ (by omega)]; exact y.1, by rw [ms_ne _ _ (by omega), z2.1 _ (by omega)]; exact y.2.1, by rw [ms_ne _ _ (by omega), z2.1 _ (by omega)]; exact y.2.2.1, fun r hr => by rw [ms_ne _ _ (by omega), z2.1 _ (by omega)]; exact y.2.2.2 r hr⟩) (fun h ⟨S1, e, _⟩ => by
    unfold f_X11_newShelves_L7
    rw [if_pos (by decide)]) (h0 := mz (ms S N (.inr (.inr (.inl (.object "HeckeSeries$Shelf", 2, fun _ => none))))) A B ((N + 1, s + 2), c)) ⟨_, rfl, by
      rw [ms_at]
      have : (fun j => if j < 0 then some (N + 1 + 7 * j) else none) = fun _ : Nat => (none : Option Nat) := by funext j; rw [if_neg (by omega)]
      rw [this], fun j hj => by omega, fun x hx => ms_ne _ _ (by omega), fun x hx => ms_ne _ _ (by omega)⟩
  obtain ⟨h', e1, S', rfl, y1, y2, y3⟩ := key
  refine ⟨S', ?_, ⟨y1, fun j hj => ?_⟩, y3⟩
  · unfold f_X11_newShelves
    rw [k2, jnAo_z (k := 2) rfl (by omega)]
    simp only [Option.bind_some]
    have e1' : jloop (f_X11_newShelves_L7 N) jF (0 : Int32) (mz (ms S N (.inr (.inr (.inl (.object "HeckeSeries$Shelf", 2, fun _ => none))))) A B ((N + 1, s + 2), c)) = some (ii ((2 : Nat) : Int), mz S' A B ((N + 1 + 7 * 2, s + 2 + 63 * 2), c)) := e1
    rw [e1']
    rfl
  · have y := y2 j hj
    rw [show N + 2 + 7 * j = N + 1 + 7 * j + 1 by omega, show N + 3 + 7 * j = N + 1 + 7 * j + 2 by omega]
    exact ⟨y.1, y.2.1, y.2.2.1, y.2.2.2⟩
end new
