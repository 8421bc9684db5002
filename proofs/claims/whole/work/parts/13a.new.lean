/-! The constructors: what is made stands behind what was. -/
def Z0 (A B : ZA) (N : Nat) : Prop := ∀ a, N ≤ a → ∀ k, A a k = 0 ∧ B a k = 0
def EXT (S S' : SS) (N M : Nat) : Prop := (∀ x, x < N → S' x = S x) ∧ (∀ x, M ≤ x → S' x = S x)
theorem Z0_le {A B : ZA} {N M : Nat} (h : Z0 A B N) (hm : N ≤ M) : Z0 A B M := fun a ha k => h a (by omega) k
theorem fm_ext {S S' : SS} {f g N M : Nat} (h : fm S f g) (he : EXT S S' N M) (hf : f < N ∨ M ≤ f) (hg : g < N ∨ M ≤ g) : fm S' f g := by
  refine ⟨?_, ?_⟩
  · rcases hf with q | q
    · rw [he.1 f q]; exact h.1
    · rw [he.2 f q]; exact h.1
  · rcases hg with q | q
    · rw [he.1 g q]; exact h.2
    · rw [he.2 g q]; exact h.2
theorem rfz_form (g : Nat) : (fun j => if j = 1 then some (some g) else rfz [.int 0, .null] j) = rF g := by
  funext j
  unfold rF
  rcases j with _ | _ | j
  · rfl
  · rfl
  · rw [if_neg (by omega), if_neg (by omega)]; rfl
section new
variable {S : SS} {A B : ZA} {c : Nat → Nat} {N s : Nat}
theorem new_form (hz : Z0 A B N) : ∃ S1 S2 : SS, jnO (mz S A B ((N, s), c)) 1 [.int 0, .null] = some (N, mz S1 A B ((N + 1, s + 2), c)) ∧ f_X2_init N (mz S1 A B ((N + 1, s + 2), c)) = some ((), mz S2 A B ((N + 2, s + 8), c)) ∧ fm S2 N (N + 1) ∧ EXT S S2 N (N + 2) := by
  refine ⟨ms S N (.inl (1, 2, rfz [.int 0, .null])), ms (ms (ms S N (.inl (1, 2, rfz [.int 0, .null]))) (N + 1) (.inr (.inl (.int, 6)))) N (.inl (1, 2, rF (N + 1))), ?_, ?_, ⟨by rw [ms_at], by rw [ms_ne _ _ (by omega), ms_at]⟩, fun x hx => by rw [ms_ne _ _ (by omega), ms_ne _ _ (by omega), ms_ne _ _ (by omega)], fun x hx => by rw [ms_ne _ _ (by omega), ms_ne _ _ (by omega), ms_ne _ _ (by omega)]⟩
  · exact jnO_z (fun k => (hz N (Nat.le_refl _) k).1) (by simp)
  · unfold f_X2_init
    rw [k6, jnA_z (k := 6) (fun k => (hz (N + 1) (by omega) k).1) (fun k => (hz (N + 1) (by omega) k).2) rfl (by omega) (Or.inl rfl)]
    simp only [Option.bind_some]
    rw [jputR_z (rf := rfz [.int 0, .null]) (N := 2) (by rw [ms_ne _ _ (by omega), ms_at]) (by omega), rfz_form]
    rfl
theorem new_forms (hz : Z0 A B N) {n : Nat} (hn : n < 100) : ∃ S' : SS, f_X11_newForms (ii (n : Int)) (mz S A B ((N, s), c)) = some (N, mz S' A B ((N + 1 + 2 * n, s + n + 8 * n), c)) ∧ fg S' N n ∧ EXT S S' N (N + 1 + 2 * n) := by
  have key := j_run (f := f_X11_newForms_L7 (ii (n : Int)) N) (fun i => ii (i : Int)) (fun i h => ∃ S' : SS, h = mz S' A B ((N + 1 + 2 * i, s + n + 8 * i), c) ∧ S' N = some (.inr (.inr (.inl (.object "HeckeSeries$Form", n, fun j => if j < i then some (N + 1 + 2 * j) else none)))) ∧ (∀ j, j < i → fm S' (N + 1 + 2 * j) (N + 2 + 2 * j)) ∧ EXT S S' N (N + 1 + 2 * i)) n (t := ii (n : Int)) (by omega) (fun i hi h ⟨S1, e, y1, y2, y3⟩ => by
    subst e
    obtain ⟨S2, S3, e2, e3, z1, z2⟩ := new_form (S := S1) (c := c) (s := s + n + 8 * i) (Z0_le hz (show N ≤ N + 1 + 2 * i by omega))
    have o3 : S3 N = some (.inr (.inr (.inl (.object "HeckeSeries$Form", n, fun j => if j < i then some (N + 1 + 2 * j) else none)))) := by rw [z2.1 N (by omega)]; exact y1
    refine ⟨mz (ms S3 N (.inr (.inr (.inl (.object "HeckeSeries$Form", n, fun j => if j < i + 1 then some (N + 1 + 2 * j) else none))))) A B ((N + 1 + 2 * (i + 1), s + n + 8 * (i + 1)), c), ?_, _, rfl, by rw [ms_at], fun j hj => ?_, fun x hx => by rw [ms_ne _ _ (by omega), z2.1 x (by omega), y3.1 x hx], fun x hx => by rw [ms_ne _ _ (by omega), z2.2 x (by omega), y3.2 x (by omega)]⟩
    · unfold f_X11_newForms_L7
      rw [if_neg (by rw [n_le (by omega) (by omega)]; omega), e2]
      simp only [Option.bind_some]
      rw [e3]
      simp only [Option.bind_some]
      rw [jsR_z (k := i) o3 z1.1 rfl rfl hi (by omega), k1, n_add]
      have ef : va_up (fun j => if j < i then some (N + 1 + 2 * j) else none) i (some (N + 1 + 2 * i)) = fun j => if j < i + 1 then some (N + 1 + 2 * j) else none := by
        funext j
        unfold va_up
        by_cases q : j = i
        · subst q; simp
        · by_cases q2 : j < i
          · simp [q, q2, show j < i + 1 by omega]
          · simp [q, q2, show ¬ (j < i + 1) by omega]
      rw [ef]
      rfl
    · by_cases q : j = i
      · subst q
        rw [show N + 2 + 2 * j = N + 1 + 2 * j + 1 by omega]
        exact ⟨by rw [ms_ne _ _ (by omega)]; exact z1.1, by rw [ms_ne _ _ (by omega)]; exact z1.2⟩
      · have := fm_ext (y2 j (by omega)) z2 (by omega) (by omega)
        exact ⟨by rw [ms_ne _ _ (by omega)]; exact this.1, by rw [ms_ne _ _ (by omega)]; exact this.2⟩) (fun h ⟨S1, e, _⟩ => by
    unfold f_X11_newForms_L7
    rw [if_pos (by rw [n_le (by omega) (by omega)]; omega)]) (h0 := mz (ms S N (.inr (.inr (.inl (.object "HeckeSeries$Form", n, fun _ => none))))) A B ((N + 1, s + n), c)) ⟨_, rfl, by
      rw [ms_at]
      have : (fun j => if j < 0 then some (N + 1 + 2 * j) else none) = fun _ : Nat => (none : Option Nat) := by funext j; rw [if_neg (by omega)]
      rw [this], fun j hj => by omega, fun x hx => ms_ne _ _ (by omega), fun x hx => ms_ne _ _ (by omega)⟩
  obtain ⟨h', e1, S', rfl, y1, y2, y3⟩ := key
  refine ⟨S', ?_, ⟨y1, y2⟩, y3⟩
  unfold f_X11_newForms
  rw [jnAo_z (k := n) rfl (by omega)]
  simp only [Option.bind_some]
  have e1' : jloop (f_X11_newForms_L7 (ii (n : Int)) N) jF (0 : Int32) (mz (ms S N (.inr (.inr (.inl (.object "HeckeSeries$Form", n, fun _ => none))))) A B ((N + 1, s + n), c)) = some (ii (n : Int), mz S' A B ((N + 1 + 2 * n, s + n + 8 * n), c)) := e1
  rw [e1']
  rfl
end new
