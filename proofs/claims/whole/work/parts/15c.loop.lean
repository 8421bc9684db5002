/-! The law's loop; the room. -/
theorem snn_le {g : Nat → Nat} {M : Nat} : ∀ {n : Nat}, (∀ i, i < n → g i ≤ M) → snn g n ≤ M * n := by
  intro n
  induction n with
  | zero => intro _; exact Nat.zero_le _
  | succ n ih =>
    intro h
    have h1 := ih (fun i hi => h i (by omega))
    have h2 := h n (by omega)
    show snn g n + g n ≤ M * (n + 1)
    rw [Nat.mul_succ]
    omega
section law
variable {b : Nat} {S0 : SS} {A0 : ZA} {cc : Nat → Nat} {e a0 L : Nat}
theorem IH_room {h : JH} (hI : IH b S0 A0 cc e h) (he : e ≤ 512) : h.2.1.1 ≤ b + 601024 ∧ h.2.1.2 ≤ 7293034 := by
  obtain ⟨S, A, B, c, p, bs, nb, rfl, h1, d1, d2, d3, d4⟩ := hI
  have hn : ∀ i, i < 31 → nb i ≤ 6 := fun i hi => by
    have hL6 := Lk_r (k := 2 * i) (by omega)
    rcases (d2.1.1 i hi).2.1 with q | q
    · omega
    · rw [q]; exact hL6
  have s1 : sN nb ≤ 7 * 31 := snn_le (fun i hi => by have := hn i hi; split <;> omega)
  have s2 : sT nb ≤ 6 * 31 := snn_le hn
  obtain ⟨c1, c2⟩ := d3
  refine ⟨?_, ?_⟩
  · show c.1.1 ≤ _
    omega
  · show c.1.2 ≤ _
    omega
theorem law_loop (hK : KN0 S0 A0 cc b) (ha : a0 < b) (hs : S0 a0 = some (.inr (.inr (.inr L)))) (hL : L ≤ 3072) : ∀ (k t : Nat), t + k = L / 6 → ∀ h, IH b S0 A0 cc t h → ∀ fuel, k < fuel → ∃ (z : Int32) (h' : JH), jloop (f_L_law_L23 a0 b (b + 286) (b + 320)) fuel (ii ((6 * t : Nat) : Int)) h = some (.inr z, h') ∧ IH b S0 A0 cc (L / 6) h' := by
  intro k
  induction k with
  | zero =>
    intro t ht h hI fuel hf
    obtain ⟨fu, rfl⟩ : ∃ x, fuel = x + 1 := ⟨fuel - 1, by omega⟩
    have C := CEL_IH hI ha hs
    have pl : jal h a0 = some (ii (L : Int)) := by
      unfold jal
      rw [C.2.2.1]
      exact congrArg some (nI_ii L)
    refine ⟨ii ((6 * t : Nat) : Int), h, jloop_end ?_, by rw [← ht]; exact hI⟩
    unfold f_L_law_L23
    rw [pl]
    simp only [Option.bind_some]
    rw [if_pos (show ii (L : Int) - (6 : Int32) < ii ((6 * t : Nat) : Int) by rw [k6, ii_sub, i_lt (by omega) (by omega) (by omega) (by omega)]; omega)]
  | succ k ih =>
    intro t ht h hI fuel hf
    obtain ⟨fu, rfl⟩ : ∃ x, fuel = x + 1 := ⟨fuel - 1, by omega⟩
    obtain ⟨h1, e1, hI1⟩ := law_step hK ha hs (i := 6 * t) (by omega) (by omega) hI
    rw [k6, n_add, show 6 * t + 6 = 6 * (t + 1) by omega] at e1
    rw [jloop_go e1]
    exact ih (t + 1) (by omega) h1 hI1 fu (by omega)
end law
