/-! The prime that a book tells, its lets: what is said. -/
def prq (v : Nat) : Nat := fnd (fun d => v < d * d ∨ v % d = 0) 100 2
abbrev isPm (v : Int) : Prop := 101 ≤ v ∧ v ≤ 9973 ∧ v.toNat < prq v.toNat * prq v.toNat
theorem isPm_PR {v : Int} (h : isPm v) : PR v := by
  refine ⟨h.1, h.2.1, fun d h1 h2 h3 => ?_⟩
  obtain ⟨a, b, c, -⟩ := fnd_ok (fun d => v.toNat < d * d ∨ v.toNat % d = 0) 100 2
  have h4 : v.toNat < prq v.toNat * prq v.toNat := h.2.2
  have er : prq v.toNat = fnd (fun d => v.toNat < d * d ∨ v.toNat % d = 0) 100 2 := rfl
  rw [← er] at a b c
  by_cases g : d < prq v.toNat
  · exact c d h1 g (Or.inr (Nat.mod_eq_zero_of_dvd h3))
  · have := Nat.mul_le_mul (show prq v.toNat ≤ d by omega) (show prq v.toNat ≤ d by omega)
    omega
theorem PR_1009 : PR 1009 := isPm_PR (by decide +kernel)
theorem x_isPm (h : JH) {v : Int} (h1 : -1 ≤ v) (h2 : v < 1073741824) : f_X0_isPrime (ii v) h = some (ii ((if isPm v then 1 else 0 : Nat) : Int), h) := by
  unfold f_X0_isPrime
  simp (disch := omega) only [k101, k9973, i_lt, i_le]
  by_cases g1 : v < 101
  · rw [if_pos (show v < ((101 : Nat) : Int) by omega), if_neg (fun x => absurd x.1 (by omega))]
    rfl
  rw [if_neg (show ¬ v < ((101 : Nat) : Int) by omega)]
  by_cases g2 : v ≤ 9973
  · rw [if_pos (show v ≤ ((9973 : Nat) : Int) by omega)]
    obtain ⟨N, rfl⟩ : ∃ N : Nat, v = (N : Int) := ⟨v.toNat, by omega⟩
    have key := fnd_run (h := h) (f := f_X0_isPrime_L17 (ii (N : Int))) (fun d => N < d * d ∨ N % d = 0) (fun j => if N < j * j then Sum.inr (ii (j : Int)) else Sum.inl (ii ((0 : Nat) : Int))) 100 2 (fun j a1 a2 a3 => by
      have b1 : j * j ≤ 102 * 102 := Nat.mul_le_mul (by omega) (by omega)
      have b2 : N % j ≤ N := Nat.mod_le _ _
      have a4 : ¬ N < j * j := fun x => a3 (Or.inl x)
      have a5 : ¬ N % j = 0 := fun x => a3 (Or.inr x)
      unfold f_X0_isPrime_L17
      rw [n_mul, if_neg (by rw [n_lt (by omega) (by omega)]; exact a4), n_nz (by omega) (by omega), Option.bind_some, n_rem (by omega) (by omega) (by omega), if_neg (by rw [k0, n_eq (by omega) (by omega)]; exact a5), k1, n_add]) (fun j a1 a2 a3 => by
      have b1 : j * j ≤ 102 * 102 := Nat.mul_le_mul (by omega) (by omega)
      have b2 : N % j ≤ N := Nat.mod_le _ _
      unfold f_X0_isPrime_L17
      by_cases g : N < j * j
      · rw [n_mul, if_pos (by rw [n_lt (by omega) (by omega)]; exact g), if_pos g]
      · have a5 : N % j = 0 := by
          rcases a3 with a3 | a3
          · exact absurd a3 g
          · exact a3
        rw [n_mul, if_neg (by rw [n_lt (by omega) (by omega)]; exact g), n_nz (by omega) (by omega), Option.bind_some, n_rem (by omega) (by omega) (by omega), if_pos (by rw [k0, n_eq (by omega) (by omega)]; exact a5), if_neg g]
        rfl) (by
      unfold f_X0_isPrime_L17
      rw [n_mul, if_pos (by rw [n_lt (by omega) (by omega)]; omega), if_pos (by omega)]) jF (jF_big (by omega))
    have key' : jloop (f_X0_isPrime_L17 (ii (N : Int))) jF (2 : Int32) h = _ := key
    rw [key']
    simp only [Option.bind_some]
    have er : prq N = fnd (fun d => N < d * d ∨ N % d = 0) 100 2 := rfl
    rw [← er]
    by_cases g : N < prq N * prq N
    · rw [if_pos g, if_pos (show isPm (N : Int) from ⟨by omega, by omega, by rw [Int.toNat_natCast]; exact g⟩)]
      rfl
    · rw [if_neg g, if_neg (show ¬ isPm (N : Int) from fun x => g (by have := x.2.2; rw [Int.toNat_natCast] at this; exact this))]
      rfl
  · rw [if_neg (show ¬ v ≤ ((9973 : Nat) : Int) by omega), if_neg (fun x => absurd x.2.1 (by omega))]
    rfl
theorem m_isPmL (h : JH) {N : Nat} (h2 : N < 10000) : ∀ (k d : Nat), 2 ≤ d → d + k = 102 → ∀ fuel, k + 1 < fuel → ∃ z : Int32, jloop (f_X12_isPrime_L4 (ii (N : Int))) fuel ((1 : Int32), ii (d : Int)) h = some ((ii ((if N < fnd (fun d => N < d * d ∨ N % d = 0) k d * fnd (fun d => N < d * d ∨ N % d = 0) k d then 1 else 0 : Nat) : Int), z), h) := by
  intro k
  induction k with
  | zero =>
    intro d h3 h4 fuel hf
    obtain ⟨fu, rfl⟩ : ∃ x, fuel = x + 1 := ⟨fuel - 1, by omega⟩
    have e : d = 102 := by omega
    subst e
    refine ⟨ii ((102 : Nat) : Int), jloop_end ?_⟩
    unfold f_X12_isPrime_L4
    rw [n_mul, if_pos (by rw [n_lt (by omega) (by omega)]; omega)]
    rw [show fnd (fun d => N < d * d ∨ N % d = 0) 0 102 = 102 from rfl, if_pos (by omega)]
    rfl
  | succ k ih =>
    intro d h3 h4 fuel hf
    obtain ⟨fu, rfl⟩ : ∃ x, fuel = x + 1 := ⟨fuel - 1, by omega⟩
    have b1 : d * d ≤ 102 * 102 := Nat.mul_le_mul (by omega) (by omega)
    have b2 : N % d ≤ N := Nat.mod_le _ _
    by_cases g : N < d * d
    · rw [show fnd (fun d => N < d * d ∨ N % d = 0) (k + 1) d = d from if_pos (Or.inl g)]
      refine ⟨ii (d : Int), jloop_end ?_⟩
      unfold f_X12_isPrime_L4
      rw [if_pos (show ii (N : Int) < ii (d : Int) * ii (d : Int) by rw [n_mul, n_lt (by omega) (by omega)]; exact g), if_pos g]
      rfl
    · by_cases g2 : N % d = 0
      · rw [show fnd (fun d => N < d * d ∨ N % d = 0) (k + 1) d = d from if_pos (Or.inr g2), if_neg g]
        have st : f_X12_isPrime_L4 (ii (N : Int)) ((1 : Int32), ii (d : Int)) h = some (.inl ((0 : Int32), ii ((d + 1 : Nat) : Int)), h) := by
          unfold f_X12_isPrime_L4
          rw [if_neg (show ¬ ii (N : Int) < ii (d : Int) * ii (d : Int) by rw [n_mul, n_lt (by omega) (by omega)]; exact g), if_neg (show ¬ (1 : Int32) = 0 by decide)]
          rw [n_nz (by omega) (by omega), Option.bind_some, n_rem (by omega) (by omega) (by omega), if_pos (by rw [k0, n_eq (by omega) (by omega)]; exact g2), k1, n_add]
        rw [jloop_go st]
        obtain ⟨fv, rfl⟩ : ∃ x, fu = x + 1 := ⟨fu - 1, by omega⟩
        refine ⟨ii ((d + 1 : Nat) : Int), jloop_end ?_⟩
        unfold f_X12_isPrime_L4
        by_cases g3 : ii (N : Int) < ii ((d + 1 : Nat) : Int) * ii ((d + 1 : Nat) : Int)
        · rw [if_pos g3]; rfl
        · rw [if_neg g3, if_pos rfl]; rfl
      · rw [show fnd (fun d => N < d * d ∨ N % d = 0) (k + 1) d = fnd (fun d => N < d * d ∨ N % d = 0) k (d + 1) from if_neg (by omega)]
        have st : f_X12_isPrime_L4 (ii (N : Int)) ((1 : Int32), ii (d : Int)) h = some (.inl ((1 : Int32), ii ((d + 1 : Nat) : Int)), h) := by
          unfold f_X12_isPrime_L4
          rw [if_neg (show ¬ ii (N : Int) < ii (d : Int) * ii (d : Int) by rw [n_mul, n_lt (by omega) (by omega)]; exact g), if_neg (show ¬ (1 : Int32) = 0 by decide)]
          rw [n_nz (by omega) (by omega), Option.bind_some, n_rem (by omega) (by omega) (by omega), if_neg (by rw [k0, n_eq (by omega) (by omega)]; exact g2), k1, n_add]
        rw [jloop_go st]
        exact ih (d + 1) (by omega) (by omega) fu (by omega)
theorem m_isPm (h : JH) {N : Nat} (h2 : N < 10000) : f_X12_isPrime (ii (N : Int)) h = some (ii ((if N < prq N * prq N then 1 else 0 : Nat) : Int), h) := by
  obtain ⟨z, hz⟩ := m_isPmL h h2 100 2 (by omega) (by omega) jF (jF_big (by omega))
  have hz' : jloop (f_X12_isPrime_L4 (ii (N : Int))) jF ((1 : Int32), (2 : Int32)) h = _ := hz
  have er : prq N = fnd (fun d => N < d * d ∨ N % d = 0) 100 2 := rfl
  unfold f_X12_isPrime
  rw [hz', ← er]
  simp only [Option.bind_some]
  rw [jzb_n (by by_cases g : N < prq N * prq N <;> simp [g])]
  rfl
/-- one let -/
abbrev LR : Type := Nat ⊕ (Nat × Nat × Nat × (Nat → Int))
def plet (T : Nat → Int) (n : Nat) (p : Int) (nl : Nat) (L : LT) (q : Nat) : LR :=
  if kdx T n q = 5 then
    (if nl < 6 then
      (if kdx T n (nxt T n q) = 2 then
        (if fnd (fun i => vlx T n (L i).1 = vlx T n (nxt T n q)) nl 0 < nl then .inl (8 * nxt T n q + 2)
        else if kdx T n (nxt T n (nxt T n q)) = 6 then Sum.elim Sum.inl (fun s => if kdx T n s.1 = 59 then .inr (nxt T n s.1, nxt T n q, s.2) else .inl (8 * s.1 + 1)) (psum T n p (FL T n nl L) 10 0 (nxt T n (nxt T n (nxt T n q))))
        else .inl (8 * nxt T n (nxt T n q) + 1))
      else .inl (8 * nxt T n q + 1))
    else .inl (8 * q + 5))
  else .inl (8 * q + 1)
def uL (L : LT) (k : Nat) (v : Nat × Nat × (Nat → Int)) : LT := fun i => if i = k then v else L i
theorem uL_at (L : LT) (k : Nat) (v : Nat × Nat × (Nat → Int)) : uL L k v k = v := if_pos rfl
theorem uL_ne (L : LT) {k i : Nat} (v : Nat × Nat × (Nat → Int)) (h : i ≠ k) : uL L k v i = L i := if_neg h
def plts (T : Nat → Int) (n : Nat) (p : Int) : Nat → Nat → LT → Nat → Nat ⊕ (Nat × LT)
  | 0, _, _, _ => .inl 1
  | m + 1, nl, L, q => if kdx T n q = 0 then .inr (nl, L) else Sum.elim Sum.inl (fun s => plts T n p m (nl + 1) (uL L nl s.2) s.1) (plet T n p nl L q)
section ok
variable {T : Nat → Int} {n nl : Nat} {p : Int} {L : LT} {q : Nat}
theorem nxt_k (hk : kdx T n q ≠ 0) (ht : tok T n q) : q < nxt T n q ∧ nxt T n q ≤ n ∧ tok T n (nxt T n q) := by
  have h1 := kdx_n hk
  obtain ⟨a, b, c, -⟩ := nxt_ok h1 (tok_t ht h1)
  exact ⟨a, b, c⟩
theorem plet_ok (hP : PR p) (hF : ∀ i, i < nl → isF p (L i).2.1 (L i).2.2) (ht : tok T n q) {s : Nat × Nat × Nat × (Nat → Int)} (h : plet T n p nl L q = .inr s) : nl < 6 ∧ s.1 ≤ n ∧ tok T n s.1 ∧ kdx T n s.2.1 = 2 ∧ isF p s.2.2.1 s.2.2.2 := by
  unfold plet at h
  by_cases c5 : kdx T n q = 5
  · rw [if_pos c5] at h
    obtain ⟨-, b1, t1⟩ := nxt_k (show kdx T n q ≠ 0 by omega) ht
    generalize nxt T n q = q1 at b1 t1 h
    by_cases c6 : nl < 6
    · rw [if_pos c6] at h
      by_cases c2 : kdx T n q1 = 2
      · rw [if_pos c2] at h
        obtain ⟨-, b2, t2⟩ := nxt_k (show kdx T n q1 ≠ 0 by omega) t1
        generalize nxt T n q1 = q2 at b2 t2 h
        by_cases g : fnd (fun i => vlx T n (L i).1 = vlx T n q1) nl 0 < nl
        · rw [if_pos g] at h; cases h
        · rw [if_neg g] at h
          by_cases k6 : kdx T n q2 = 6
          · rw [if_pos k6] at h
            obtain ⟨-, b3, t3⟩ := nxt_k (show kdx T n q2 ≠ 0 by omega) t2
            generalize nxt T n q2 = q3 at b3 t3 h
            have hg := psum_ok (T := T) (n := n) hP (FL_ok (T := T) (n := n) hF) 10 0 q3 b3 t3
            cases e : psum T n p (FL T n nl L) 10 0 q3 with
            | inl f => rw [e] at h; cases h
            | inr r =>
              rw [e] at h hg
              obtain ⟨w1, w2, w3, w4⟩ := hg
              simp only [Sum.elim_inr] at h
              by_cases c59 : kdx T n r.1 = 59
              · rw [if_pos c59] at h
                obtain ⟨-, b5, t5⟩ := nxt_k (show kdx T n r.1 ≠ 0 by omega) w3
                cases h
                exact ⟨c6, b5, t5, c2, w4⟩
              · rw [if_neg c59] at h; cases h
          · rw [if_neg k6] at h; cases h
      · rw [if_neg c2] at h; cases h
    · rw [if_neg c6] at h; cases h
  · rw [if_neg c5] at h; cases h
end ok
