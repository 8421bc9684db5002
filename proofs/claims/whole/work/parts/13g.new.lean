/-! The constructors: two images in their row. -/
section new
variable {S : SS} {A B : ZA} {c : Nat → Nat} {N s b G : Nat} {rf : Nat → Option (Option Nat)}
theorem new_images (hz : Z0 A B N) (hb : b < N) (hG : G < N) (hbG : b ≠ G) (ho : S b = some (.inl (8, 13, rf))) (hr : rf 7 = some (some G)) (ha : S G = some (.inr (.inr (.inl (.object "HeckeSeries$Image", 2, fun _ => none))))) :
    ∃ S' : SS, jloop (f_X11_init_L106 b) jF (0 : Int32) (mz S A B ((N, s), c)) = some (ii ((2 : Nat) : Int), mz S' A B ((N + 50, s + 334), c)) ∧ S' G = some (.inr (.inr (.inl (.object "HeckeSeries$Image", 2, fun i => if i < 2 then some (N + 25 * i) else none)))) ∧ (∀ k, k < 2 → S' (N + 25 * k) = some (.inl (2, 3, rSh (N + 1 + 25 * k) (N + 10 + 25 * k))) ∧ fg S' (N + 1 + 25 * k) 4 ∧ sg S' (N + 10 + 25 * k)) ∧ (∀ x, x < N → x ≠ G → S' x = S x) ∧ (∀ x, N + 50 ≤ x → S' x = S x) := by
  have key := j_run (f := f_X11_init_L106 b) (fun i => ii (i : Int)) (fun i h => ∃ S' : SS, h = mz S' A B ((N + 25 * i, s + 167 * i), c) ∧ S' G = some (.inr (.inr (.inl (.object "HeckeSeries$Image", 2, fun j => if j < i then some (N + 25 * j) else none)))) ∧ (∀ k, k < i → S' (N + 25 * k) = some (.inl (2, 3, rSh (N + 25 * k + 1) (N + 25 * k + 10))) ∧ fg S' (N + 25 * k + 1) 4 ∧ sg S' (N + 25 * k + 10)) ∧ (∀ x, x < N → x ≠ G → S' x = S x) ∧ (∀ x, N + 25 * i ≤ x → S' x = S x)) 2 (t := ii ((2 : Nat) : Int)) (by omega) (fun i hi h ⟨S1, e, y1, y2, y3, y4⟩ => by
    subst e
    obtain ⟨S2, S3, e2, e3, z0, z1, z2, z3⟩ := new_image (S := S1) (c := c) (s := s + 167 * i) (Z0_le hz (show N ≤ N + 25 * i by omega))
    have o3 : S3 G = some (.inr (.inr (.inl (.object "HeckeSeries$Image", 2, fun j => if j < i then some (N + 25 * j) else none)))) := by rw [z3.1 G (by omega)]; exact y1
    have r1 := jgR_z (A := A) (B := B) (n := ((N + 25 * i, s + 167 * i), c)) (show S1 b = some (.inl (8, 13, rf)) by rw [y3 b hb hbG]; exact ho) (show 7 < 13 by omega) hr
    refine ⟨mz (ms S3 G (.inr (.inr (.inl (.object "HeckeSeries$Image", 2, fun j => if j < i + 1 then some (N + 25 * j) else none))))) A B ((N + 25 * (i + 1), s + 167 * (i + 1)), c), ?_, _, rfl, by rw [ms_at], fun j hj => ?_, fun x h1 h2 => by rw [ms_ne _ _ h2, z3.1 x (by omega)]; exact y3 x h1 h2, fun x hx => by rw [ms_ne _ _ (by omega), z3.2 x (by omega)]; exact y4 x (by omega)⟩
    · unfold f_X11_init_L106
      rw [if_neg (by rw [k2, n_le (by omega) (by omega)]; omega), r1]
      simp only [Option.bind_some]
      rw [e2]
      simp only [Option.bind_some]
      rw [e3]
      simp only [Option.bind_some]
      rw [jsR_z (k := i) o3 z0 rfl rfl hi (by omega), k1, n_add]
      have ef : va_up (fun j => if j < i then some (N + 25 * j) else none) i (some (N + 25 * i)) = fun j => if j < i + 1 then some (N + 25 * j) else none := by
        funext j
        unfold va_up
        by_cases q : j = i
        · subst q; simp
        · by_cases q2 : j < i
          · simp [q, q2, show j < i + 1 by omega]
          · simp [q, q2, show ¬ (j < i + 1) by omega]
      rw [ef, show N + 25 * (i + 1) = N + 25 * i + 25 by omega, show s + 167 * (i + 1) = s + 167 * i + 167 by omega]
      rfl
    · by_cases q : j = i
      · subst q
        exact ⟨by rw [ms_ne _ _ (by omega)]; exact z0, fg_of z1 (fun x h1 h2 => ms_ne _ _ (by omega)), sg_of' z2 (fun x h1 h2 => ms_ne _ _ (by omega))⟩
      · obtain ⟨w1, w2, w3⟩ := y2 j (by omega)
        exact ⟨by rw [ms_ne _ _ (by omega), z3.1 _ (by omega)]; exact w1, fg_of w2 (fun x h1 h2 => by rw [ms_ne _ _ (by omega), z3.1 _ (by omega)]), sg_of' w3 (fun x h1 h2 => by rw [ms_ne _ _ (by omega), z3.1 _ (by omega)])⟩) (fun h ⟨S1, e, _⟩ => by
    unfold f_X11_init_L106
    rw [if_pos (by decide)]) (h0 := mz S A B ((N, s), c)) ⟨S, rfl, by
      rw [ha]
      have : (fun j => if j < 0 then some (N + 25 * j) else none) = fun _ : Nat => (none : Option Nat) := by funext j; rw [if_neg (by omega)]
      rw [this], fun j hj => by omega, fun _ _ _ => rfl, fun _ _ => rfl⟩
  obtain ⟨h', e1, S', rfl, y1, y2, y3, y4⟩ := key
  refine ⟨S', e1, y1, fun k hk => ?_, y3, y4⟩
  rw [show N + 1 + 25 * k = N + 25 * k + 1 by omega, show N + 10 + 25 * k = N + 25 * k + 10 by omega]
  exact y2 k hk
end new
