/-! The reference's constructor. Made by tools/gen15d.py. -/
def rMk (m k : Nat) : Nat → Option (Option Nat) := fun j => match mofs[j]? with
  | some (some o) => if o ≤ k then some (some (m + o)) else some none
  | _ => none
theorem j_bs {α β : Type} {x : Option α} {f : α → Option β} {v : α} {y : Option β} (e : x = some v) (k : f v = y) : x.bind f = y := by
  rw [e]
  exact k
theorem mofs_r : ∀ j, j < 51 → ∀ o, o < 100 → mofs[j]? = some (some o) → 1 ≤ o ∧ o ≤ 33 := by decide +kernel
theorem mofs_b : ∀ x ∈ mofs, x.getD 1 < 100 := by decide +kernel
theorem mofs_u : ∀ j, j < 51 → ∀ i, i < 51 → mofs[j]? = mofs[i]? → mofs[i]? = some none ∨ j = i := by decide +kernel
theorem mofs_l {j o : Nat} (h : mofs[j]? = some (some o)) : j < 51 ∧ 1 ≤ o ∧ o ≤ 33 := by
  obtain ⟨h1, h2⟩ := List.getElem?_eq_some_iff.mp h
  have h3 : j < 51 := h1
  have h4 := mofs_b _ (List.mem_of_getElem? h)
  exact ⟨h3, mofs_r j h3 o h4 h⟩
theorem rMk_up {m k f : Nat} (hf : mofs[f]? = some (some (k + 1))) : (fun j => if j = f then some (some (m + 1 + k)) else rMk m k j) = rMk m (k + 1) := by
  have hf1 := (mofs_l hf).1
  funext j
  by_cases g : j = f
  · subst g
    rw [if_pos rfl]
    unfold rMk
    rw [hf]
    simp only
    rw [if_pos (Nat.le_refl _), show m + 1 + k = m + (k + 1) by omega]
  · rw [if_neg g]
    unfold rMk
    cases e : mofs[j]? with
    | none => rfl
    | some x =>
      cases x with
      | none => rfl
      | some o =>
        have ho := mofs_l e
        have hne : o ≠ k + 1 := fun q => by
          rcases mofs_u j ho.1 f hf1 (by rw [e, hf, q]) with z | z
          · rw [hf] at z; cases z
          · exact g z
        simp only
        by_cases q : o ≤ k
        · rw [if_pos q, if_pos (by omega)]
        · rw [if_neg q, if_neg (by omega)]
theorem rMk_33 (m : Nat) : rMk m 33 = rM m := by
  funext j
  unfold rMk rM
  cases e : mofs[j]? with
  | none => rfl
  | some x =>
    cases x with
    | none => rfl
    | some o =>
      have ho := mofs_l e
      simp only
      rw [if_pos ho.2.2]
def gV (x : Option Nat) : Value := match x with
  | none => .int 0
  | some _ => .null
theorem rMk_0 (m : Nat) : rfz (mofs.map gV) = rMk m 0 := by
  funext j
  unfold rfz rMk
  rw [List.getElem?_map]
  cases e : mofs[j]? with
  | none => rfl
  | some x =>
    cases x with
    | none => rfl
    | some o =>
      have ho := mofs_l e
      simp only
      rw [if_neg (by omega)]
      rfl
theorem mtab_u : ∀ x ∈ mtab, ∀ y ∈ mtab, x.1 = y.1 → x = y := by decide +kernel
theorem mtab_t : ∀ x ∈ mtab, (x.2.1 = .int ∨ x.2.1 = .long ∨ x.2.1 = .byte ∨ x.2.1 = .boolean) ∧ x.2.2 ≤ 100000 ∧ 1 ≤ x.1 := by decide +kernel
def MST (m k : Nat) (S : SS) : Prop := S m = some (.inl (9, 51, rMk m k)) ∧ ∀ o t N, (o, t, N) ∈ mtab → o ≤ k → S (m + o) = some (.inr (.inl (t, N)))
section new
variable {S : SS} {A B : ZA} {c : Nat → Nat} {m s : Nat}
theorem m_mk {k k' N N' s' f n : Nat} {t : FieldType} (h : MST m k S) (hz : Z0 A B (m + 1)) (hk : k' = k + 1) (hN : N = m + 1 + k) (hN' : N' = N + 1) (hs : s' = s + n) (ht : (k', t, n) ∈ mtab) (hf : mofs[f]? = some (some k')) : ∃ S1 S2 : SS, jnA (mz S A B ((N, s), c)) t (ii (n : Int)) = some (N, mz S1 A B ((N', s'), c)) ∧ jput (mz S1 A B ((N', s'), c)) m 9 f (.ref N) = some (mz S2 A B ((N', s'), c)) ∧ MST m k' S2 ∧ ∀ x, x < m ∨ N' ≤ x → S2 x = S x := by
  subst hk hN' hs
  obtain ⟨t1, t2, t3⟩ := mtab_t _ ht
  refine ⟨ms S N (.inr (.inl (t, n))), ms (ms S N (.inr (.inl (t, n)))) m (.inl (9, 51, rMk m (k + 1))), ?_, ?_, ⟨by rw [ms_at], fun o t' N1 hm ho => ?_⟩, fun x hx => ?_⟩
  · exact jnA_z (fun j => (hz _ (by omega) j).1) (fun j => (hz _ (by omega) j).2) rfl t2 t1
  · rw [jputR_z (rf := rMk m k) (N := 51) (by rw [ms_ne _ _ (by omega)]; exact h.1) (mofs_l hf).1, hN, rMk_up hf]
  · obtain ⟨-, -, o1⟩ := mtab_t _ hm
    have o1 : 1 ≤ o := o1
    rw [ms_ne _ _ (by omega)]
    by_cases g : o = k + 1
    · have := mtab_u _ hm _ ht g
      cases this
      rw [show m + (k + 1) = N by omega, ms_at]
    · rw [ms_ne _ _ (by omega)]
      exact h.2 o t' N1 hm (by omega)
  · rw [ms_ne _ _ (by omega), ms_ne _ _ (by omega)]
set_option maxHeartbeats 4000000 in
theorem new_model (hz : Z0 A B m) : ∃ (S1 S2 : SS) (A' : ZA), jnO (mz S A B ((m, s), c)) 9 [.int 0, .int 0, .null, .null, .null, .null, .null, .int 0, .null, .null, .null, .null, .int 0, .int 0, .int 0, .int 0, .int 0, .int 0, .int 0, .int 0, .null, .null, .int 0, .null, .null, .null, .null, .int 0, .null, .null, .int 0, .null, .null, .int 0, .null, .int 0, .null, .null, .null, .int 0, .null, .null, .int 0, .null, .null, .null, .null, .null, .null, .null, .null] = some (m, mz S1 A B ((m + 1, s + 51), c)) ∧ f_X12_init m (mz S1 A B ((m + 1, s + 51), c)) = some ((), mz S2 A' B ((m + 34, s + 13196), c)) ∧ LM S2 m ∧ (∀ x, x < m ∨ m + 34 ≤ x → S2 x = S x) ∧ Bas A' m 1009 ∧ A' m 7 = -1 ∧ A' m 19 = 0 ∧ A' m 12 = 0 ∧ A' m 42 = 0 ∧ (∀ r, r < 4 → A' (m + 18) r = 0) ∧ (∀ r, r < 4 → ∀ n, n < 181 → A' (m + 19) (181 * r + n) = if n = 0 then 1 else 0) ∧ (∀ i, i < 8 → A' (m + 26) i = 0) ∧ (∀ i, i < 2 → A' (m + 28) i = 0) ∧ (∀ x, x < m ∨ m + 34 ≤ x → A' x = A x) := by
  have q0 : MST m 0 (ms S m (.inl (9, 51, rMk m 0))) := ⟨by rw [ms_at], fun o t N hm ho => absurd (mtab_t _ hm).2.2 (by show ¬ 1 ≤ o; omega)⟩
  have g0 : ∀ x, x < m ∨ m + 1 ≤ x → ms S m (.inl (9, 51, rMk m 0)) x = S x := fun x hx => ms_ne _ _ (by omega)
  have en : jnO (mz S A B ((m, s), c)) 9 [.int 0, .int 0, .null, .null, .null, .null, .null, .int 0, .null, .null, .null, .null, .int 0, .int 0, .int 0, .int 0, .int 0, .int 0, .int 0, .int 0, .null, .null, .int 0, .null, .null, .null, .null, .int 0, .null, .null, .int 0, .null, .null, .int 0, .null, .int 0, .null, .null, .null, .int 0, .null, .null, .int 0, .null, .null, .null, .null, .null, .null, .null, .null] = some (m, mz (ms S m (.inl (9, 51, rMk m 0))) A B ((m + 1, s + 51), c)) := by
    have := jnO_z (S := S) (A := A) (B := B) (c := c) (N := m) (s := s) (ci := 9) (fs := mofs.map gV) (fun k => (hz m (Nat.le_refl _) k).1) (by decide)
    rw [rMk_0 m] at this
    exact this
  generalize ms S m (.inl (9, 51, rMk m 0)) = S0 at q0 g0 en
  have f1 : jput (mz S0 A B ((m + 1, s + 51), c)) m 9 1 (.int (1009 : Int32)) = some (mz S0 (za A m (up (A m) 1 ((1009 : Nat) : Int))) B ((m + 1, s + 51), c)) := jput_z (v := ((1009 : Nat) : Int)) q0.1 (by decide) rfl
  have z1 : Z0 (za A m (up (A m) 1 ((1009 : Nat) : Int))) B (m + 1) := fun a ha k => ⟨by rw [za_ne _ _ (by omega)]; exact (hz a (by omega) k).1, (hz a (by omega) k).2⟩
  have i1 : za A m (up (A m) 1 ((1009 : Nat) : Int)) m = up (A m) 1 ((1009 : Nat) : Int) := za_at _ _ _
  have j1 : ∀ x, x ≠ m → za A m (up (A m) 1 ((1009 : Nat) : Int)) x = A x := fun x hx => za_ne _ _ hx
  generalize za A m (up (A m) 1 ((1009 : Nat) : Int)) = A1 at f1 z1 i1 j1
  obtain ⟨S1a, S1, a1, b1, q1, g1⟩ := m_mk (s := s + 51) (c := c) (k' := 1) (N := m + 1) (N' := m + 2) (s' := s + 232) q0 z1 (t := .int) (n := 181) (f := 2) rfl (by omega) (by omega) (by omega) (by decide) rfl
  have a1 : jnA (mz S0 A1 B ((m + 1, s + 51), c)) .int (181 : Int32) = some (m + 1, mz S1a A1 B ((m + 2, s + 232), c)) := a1
  have b1 : jput (mz S1a A1 B ((m + 2, s + 232), c)) m 9 2 (.ref (m + 1)) = some (mz S1 A1 B ((m + 2, s + 232), c)) := b1
  obtain ⟨S2a, S2, a2, b2, q2, g2⟩ := m_mk (s := s + 232) (c := c) (k' := 2) (N := m + 2) (N' := m + 3) (s' := s + 413) q1 z1 (t := .int) (n := 181) (f := 3) rfl (by omega) (by omega) (by omega) (by decide) rfl
  have a2 : jnA (mz S1 A1 B ((m + 2, s + 232), c)) .int (181 : Int32) = some (m + 2, mz S2a A1 B ((m + 3, s + 413), c)) := a2
  have b2 : jput (mz S2a A1 B ((m + 3, s + 413), c)) m 9 3 (.ref (m + 2)) = some (mz S2 A1 B ((m + 3, s + 413), c)) := b2
  obtain ⟨S3a, S3, a3, b3, q3, g3⟩ := m_mk (s := s + 413) (c := c) (k' := 3) (N := m + 3) (N' := m + 4) (s' := s + 594) q2 z1 (t := .int) (n := 181) (f := 4) rfl (by omega) (by omega) (by omega) (by decide) rfl
  have a3 : jnA (mz S2 A1 B ((m + 3, s + 413), c)) .int (181 : Int32) = some (m + 3, mz S3a A1 B ((m + 4, s + 594), c)) := a3
  have b3 : jput (mz S3a A1 B ((m + 4, s + 594), c)) m 9 4 (.ref (m + 3)) = some (mz S3 A1 B ((m + 4, s + 594), c)) := b3
  obtain ⟨S4a, S4, a4, b4, q4, g4⟩ := m_mk (s := s + 594) (c := c) (k' := 4) (N := m + 4) (N' := m + 5) (s' := s + 775) q3 z1 (t := .int) (n := 181) (f := 5) rfl (by omega) (by omega) (by omega) (by decide) rfl
  have a4 : jnA (mz S3 A1 B ((m + 4, s + 594), c)) .int (181 : Int32) = some (m + 4, mz S4a A1 B ((m + 5, s + 775), c)) := a4
  have b4 : jput (mz S4a A1 B ((m + 5, s + 775), c)) m 9 5 (.ref (m + 4)) = some (mz S4 A1 B ((m + 5, s + 775), c)) := b4
  obtain ⟨S5a, S5, a5, b5, q5, g5⟩ := m_mk (s := s + 775) (c := c) (k' := 5) (N := m + 5) (N' := m + 6) (s' := s + 956) q4 z1 (t := .int) (n := 181) (f := 6) rfl (by omega) (by omega) (by omega) (by decide) rfl
  have a5 : jnA (mz S4 A1 B ((m + 5, s + 775), c)) .int (181 : Int32) = some (m + 5, mz S5a A1 B ((m + 6, s + 956), c)) := a5
  have b5 : jput (mz S5a A1 B ((m + 6, s + 956), c)) m 9 6 (.ref (m + 5)) = some (mz S5 A1 B ((m + 6, s + 956), c)) := b5
  have f2 : jput (mz S5 A1 B ((m + 6, s + 956), c)) m 9 7 (.int (-1 : Int32)) = some (mz S5 (za A1 m (up (A1 m) 7 (-1))) B ((m + 6, s + 956), c)) := jput_z (v := -1) q5.1 (by decide) rfl
  have z2 : Z0 (za A1 m (up (A1 m) 7 (-1))) B (m + 1) := fun a ha k => ⟨by rw [za_ne _ _ (by omega)]; exact (z1 a (by omega) k).1, (z1 a (by omega) k).2⟩
  have i2 : za A1 m (up (A1 m) 7 (-1)) m = up (A1 m) 7 (-1) := za_at _ _ _
  have j2 : ∀ x, x ≠ m → za A1 m (up (A1 m) 7 (-1)) x = A1 x := fun x hx => za_ne _ _ hx
  generalize za A1 m (up (A1 m) 7 (-1)) = A2 at f2 z2 i2 j2
  obtain ⟨S6a, S6, a6, b6, q6, g6⟩ := m_mk (s := s + 956) (c := c) (k' := 6) (N := m + 6) (N' := m + 7) (s' := s + 2042) q5 z2 (t := .int) (n := 1086) (f := 8) rfl (by omega) (by omega) (by omega) (by decide) rfl
  have a6 : jnA (mz S5 A2 B ((m + 6, s + 956), c)) .int (1086 : Int32) = some (m + 6, mz S6a A2 B ((m + 7, s + 2042), c)) := a6
  have b6 : jput (mz S6a A2 B ((m + 7, s + 2042), c)) m 9 8 (.ref (m + 6)) = some (mz S6 A2 B ((m + 7, s + 2042), c)) := b6
  obtain ⟨S7a, S7, a7, b7, q7, g7⟩ := m_mk (s := s + 2042) (c := c) (k' := 7) (N := m + 7) (N' := m + 8) (s' := s + 2048) q6 z2 (t := .int) (n := 6) (f := 9) rfl (by omega) (by omega) (by omega) (by decide) rfl
  have a7 : jnA (mz S6 A2 B ((m + 7, s + 2042), c)) .int (6 : Int32) = some (m + 7, mz S7a A2 B ((m + 8, s + 2048), c)) := a7
  have b7 : jput (mz S7a A2 B ((m + 8, s + 2048), c)) m 9 9 (.ref (m + 7)) = some (mz S7 A2 B ((m + 8, s + 2048), c)) := b7
  obtain ⟨S8a, S8, a8, b8, q8, g8⟩ := m_mk (s := s + 2048) (c := c) (k' := 8) (N := m + 8) (N' := m + 9) (s' := s + 2229) q7 z2 (t := .int) (n := 181) (f := 10) rfl (by omega) (by omega) (by omega) (by decide) rfl
  have a8 : jnA (mz S7 A2 B ((m + 8, s + 2048), c)) .int (181 : Int32) = some (m + 8, mz S8a A2 B ((m + 9, s + 2229), c)) := a8
  have b8 : jput (mz S8a A2 B ((m + 9, s + 2229), c)) m 9 10 (.ref (m + 8)) = some (mz S8 A2 B ((m + 9, s + 2229), c)) := b8
  obtain ⟨S9a, S9, a9, b9, q9, g9⟩ := m_mk (s := s + 2229) (c := c) (k' := 9) (N := m + 9) (N' := m + 10) (s' := s + 2829) q8 z2 (t := .byte) (n := 600) (f := 11) rfl (by omega) (by omega) (by omega) (by decide) rfl
  have a9 : jnA (mz S8 A2 B ((m + 9, s + 2229), c)) .byte (600 : Int32) = some (m + 9, mz S9a A2 B ((m + 10, s + 2829), c)) := a9
  have b9 : jput (mz S9a A2 B ((m + 10, s + 2829), c)) m 9 11 (.ref (m + 9)) = some (mz S9 A2 B ((m + 10, s + 2829), c)) := b9
  obtain ⟨S10a, S10, a10, b10, q10, g10⟩ := m_mk (s := s + 2829) (c := c) (k' := 10) (N := m + 10) (N' := m + 11) (s' := s + 2835) q9 z2 (t := .int) (n := 6) (f := 20) rfl (by omega) (by omega) (by omega) (by decide) rfl
  have a10 : jnA (mz S9 A2 B ((m + 10, s + 2829), c)) .int (6 : Int32) = some (m + 10, mz S10a A2 B ((m + 11, s + 2835), c)) := a10
  have b10 : jput (mz S10a A2 B ((m + 11, s + 2835), c)) m 9 20 (.ref (m + 10)) = some (mz S10 A2 B ((m + 11, s + 2835), c)) := b10
  obtain ⟨S11a, S11, a11, b11, q11, g11⟩ := m_mk (s := s + 2835) (c := c) (k' := 11) (N := m + 11) (N' := m + 12) (s' := s + 3921) q10 z2 (t := .int) (n := 1086) (f := 21) rfl (by omega) (by omega) (by omega) (by decide) rfl
  have a11 : jnA (mz S10 A2 B ((m + 11, s + 2835), c)) .int (1086 : Int32) = some (m + 11, mz S11a A2 B ((m + 12, s + 3921), c)) := a11
  have b11 : jput (mz S11a A2 B ((m + 12, s + 3921), c)) m 9 21 (.ref (m + 11)) = some (mz S11 A2 B ((m + 12, s + 3921), c)) := b11
  obtain ⟨S12a, S12, a12, b12, q12, g12⟩ := m_mk (s := s + 3921) (c := c) (k' := 12) (N := m + 12) (N' := m + 13) (s' := s + 3927) q11 z2 (t := .int) (n := 6) (f := 23) rfl (by omega) (by omega) (by omega) (by decide) rfl
  have a12 : jnA (mz S11 A2 B ((m + 12, s + 3921), c)) .int (6 : Int32) = some (m + 12, mz S12a A2 B ((m + 13, s + 3927), c)) := a12
  have b12 : jput (mz S12a A2 B ((m + 13, s + 3927), c)) m 9 23 (.ref (m + 12)) = some (mz S12 A2 B ((m + 13, s + 3927), c)) := b12
  obtain ⟨S13a, S13, a13, b13, q13, g13⟩ := m_mk (s := s + 3927) (c := c) (k' := 13) (N := m + 13) (N' := m + 14) (s' := s + 3963) q12 z2 (t := .int) (n := 36) (f := 24) rfl (by omega) (by omega) (by omega) (by decide) rfl
  have a13 : jnA (mz S12 A2 B ((m + 13, s + 3927), c)) .int (36 : Int32) = some (m + 13, mz S13a A2 B ((m + 14, s + 3963), c)) := a13
  have b13 : jput (mz S13a A2 B ((m + 14, s + 3963), c)) m 9 24 (.ref (m + 13)) = some (mz S13 A2 B ((m + 14, s + 3963), c)) := b13
  obtain ⟨S14a, S14, a14, b14, q14, g14⟩ := m_mk (s := s + 3963) (c := c) (k' := 14) (N := m + 14) (N' := m + 15) (s' := s + 3969) q13 z2 (t := .int) (n := 6) (f := 25) rfl (by omega) (by omega) (by omega) (by decide) rfl
  have a14 : jnA (mz S13 A2 B ((m + 14, s + 3963), c)) .int (6 : Int32) = some (m + 14, mz S14a A2 B ((m + 15, s + 3969), c)) := a14
  have b14 : jput (mz S14a A2 B ((m + 15, s + 3969), c)) m 9 25 (.ref (m + 14)) = some (mz S14 A2 B ((m + 15, s + 3969), c)) := b14
  obtain ⟨S15a, S15, a15, b15, q15, g15⟩ := m_mk (s := s + 3969) (c := c) (k' := 15) (N := m + 15) (N' := m + 16) (s' := s + 5055) q14 z2 (t := .int) (n := 1086) (f := 26) rfl (by omega) (by omega) (by omega) (by decide) rfl
  have a15 : jnA (mz S14 A2 B ((m + 15, s + 3969), c)) .int (1086 : Int32) = some (m + 15, mz S15a A2 B ((m + 16, s + 5055), c)) := a15
  have b15 : jput (mz S15a A2 B ((m + 16, s + 5055), c)) m 9 26 (.ref (m + 15)) = some (mz S15 A2 B ((m + 16, s + 5055), c)) := b15
  obtain ⟨S16a, S16, a16, b16, q16, g16⟩ := m_mk (s := s + 5055) (c := c) (k' := 16) (N := m + 16) (N' := m + 17) (s' := s + 5085) q15 z2 (t := .int) (n := 30) (f := 28) rfl (by omega) (by omega) (by omega) (by decide) rfl
  have a16 : jnA (mz S15 A2 B ((m + 16, s + 5055), c)) .int (30 : Int32) = some (m + 16, mz S16a A2 B ((m + 17, s + 5085), c)) := a16
  have b16 : jput (mz S16a A2 B ((m + 17, s + 5085), c)) m 9 28 (.ref (m + 16)) = some (mz S16 A2 B ((m + 17, s + 5085), c)) := b16
  obtain ⟨S17a, S17, a17, b17, q17, g17⟩ := m_mk (s := s + 5085) (c := c) (k' := 17) (N := m + 17) (N' := m + 18) (s' := s + 10515) q16 z2 (t := .int) (n := 5430) (f := 29) rfl (by omega) (by omega) (by omega) (by decide) rfl
  have a17 : jnA (mz S16 A2 B ((m + 17, s + 5085), c)) .int (5430 : Int32) = some (m + 17, mz S17a A2 B ((m + 18, s + 10515), c)) := a17
  have b17 : jput (mz S17a A2 B ((m + 18, s + 10515), c)) m 9 29 (.ref (m + 17)) = some (mz S17 A2 B ((m + 18, s + 10515), c)) := b17
  obtain ⟨S18a, S18, a18, b18, q18, g18⟩ := m_mk (s := s + 10515) (c := c) (k' := 18) (N := m + 18) (N' := m + 19) (s' := s + 10519) q17 z2 (t := .int) (n := 4) (f := 31) rfl (by omega) (by omega) (by omega) (by decide) rfl
  have a18 : jnA (mz S17 A2 B ((m + 18, s + 10515), c)) .int (4 : Int32) = some (m + 18, mz S18a A2 B ((m + 19, s + 10519), c)) := a18
  have b18 : jput (mz S18a A2 B ((m + 19, s + 10519), c)) m 9 31 (.ref (m + 18)) = some (mz S18 A2 B ((m + 19, s + 10519), c)) := b18
  obtain ⟨S19a, S19, a19, b19, q19, g19⟩ := m_mk (s := s + 10519) (c := c) (k' := 19) (N := m + 19) (N' := m + 20) (s' := s + 11243) q18 z2 (t := .int) (n := 724) (f := 32) rfl (by omega) (by omega) (by omega) (by decide) rfl
  have a19 : jnA (mz S18 A2 B ((m + 19, s + 10519), c)) .int (724 : Int32) = some (m + 19, mz S19a A2 B ((m + 20, s + 11243), c)) := a19
  have b19 : jput (mz S19a A2 B ((m + 20, s + 11243), c)) m 9 32 (.ref (m + 19)) = some (mz S19 A2 B ((m + 20, s + 11243), c)) := b19
  obtain ⟨S20a, S20, a20, b20, q20, g20⟩ := m_mk (s := s + 11243) (c := c) (k' := 20) (N := m + 20) (N' := m + 21) (s' := s + 11279) q19 z2 (t := .int) (n := 36) (f := 34) rfl (by omega) (by omega) (by omega) (by decide) rfl
  have a20 : jnA (mz S19 A2 B ((m + 20, s + 11243), c)) .int (36 : Int32) = some (m + 20, mz S20a A2 B ((m + 21, s + 11279), c)) := a20
  have b20 : jput (mz S20a A2 B ((m + 21, s + 11279), c)) m 9 34 (.ref (m + 20)) = some (mz S20 A2 B ((m + 21, s + 11279), c)) := b20
  obtain ⟨S21a, S21, a21, b21, q21, g21⟩ := m_mk (s := s + 11279) (c := c) (k' := 21) (N := m + 21) (N' := m + 22) (s' := s + 11286) q20 z2 (t := .int) (n := 7) (f := 36) rfl (by omega) (by omega) (by omega) (by decide) rfl
  have a21 : jnA (mz S20 A2 B ((m + 21, s + 11279), c)) .int (7 : Int32) = some (m + 21, mz S21a A2 B ((m + 22, s + 11286), c)) := a21
  have b21 : jput (mz S21a A2 B ((m + 22, s + 11286), c)) m 9 36 (.ref (m + 21)) = some (mz S21 A2 B ((m + 22, s + 11286), c)) := b21
  obtain ⟨S22a, S22, a22, b22, q22, g22⟩ := m_mk (s := s + 11286) (c := c) (k' := 22) (N := m + 22) (N' := m + 23) (s' := s + 11322) q21 z2 (t := .int) (n := 36) (f := 37) rfl (by omega) (by omega) (by omega) (by decide) rfl
  have a22 : jnA (mz S21 A2 B ((m + 22, s + 11286), c)) .int (36 : Int32) = some (m + 22, mz S22a A2 B ((m + 23, s + 11322), c)) := a22
  have b22 : jput (mz S22a A2 B ((m + 23, s + 11322), c)) m 9 37 (.ref (m + 22)) = some (mz S22 A2 B ((m + 23, s + 11322), c)) := b22
  obtain ⟨S23a, S23, a23, b23, q23, g23⟩ := m_mk (s := s + 11322) (c := c) (k' := 23) (N := m + 23) (N' := m + 24) (s' := s + 11358) q22 z2 (t := .int) (n := 36) (f := 38) rfl (by omega) (by omega) (by omega) (by decide) rfl
  have a23 : jnA (mz S22 A2 B ((m + 23, s + 11322), c)) .int (36 : Int32) = some (m + 23, mz S23a A2 B ((m + 24, s + 11358), c)) := a23
  have b23 : jput (mz S23a A2 B ((m + 24, s + 11358), c)) m 9 38 (.ref (m + 23)) = some (mz S23 A2 B ((m + 24, s + 11358), c)) := b23
  obtain ⟨S24a, S24, a24, b24, q24, g24⟩ := m_mk (s := s + 11358) (c := c) (k' := 24) (N := m + 24) (N' := m + 25) (s' := s + 11364) q23 z2 (t := .int) (n := 6) (f := 40) rfl (by omega) (by omega) (by omega) (by decide) rfl
  have a24 : jnA (mz S23 A2 B ((m + 24, s + 11358), c)) .int (6 : Int32) = some (m + 24, mz S24a A2 B ((m + 25, s + 11364), c)) := a24
  have b24 : jput (mz S24a A2 B ((m + 25, s + 11364), c)) m 9 40 (.ref (m + 24)) = some (mz S24 A2 B ((m + 25, s + 11364), c)) := b24
  obtain ⟨S25a, S25, a25, b25, q25, g25⟩ := m_mk (s := s + 11364) (c := c) (k' := 25) (N := m + 25) (N' := m + 26) (s' := s + 11400) q24 z2 (t := .int) (n := 36) (f := 41) rfl (by omega) (by omega) (by omega) (by decide) rfl
  have a25 : jnA (mz S24 A2 B ((m + 25, s + 11364), c)) .int (36 : Int32) = some (m + 25, mz S25a A2 B ((m + 26, s + 11400), c)) := a25
  have b25 : jput (mz S25a A2 B ((m + 26, s + 11400), c)) m 9 41 (.ref (m + 25)) = some (mz S25 A2 B ((m + 26, s + 11400), c)) := b25
  obtain ⟨S26a, S26, a26, b26, q26, g26⟩ := m_mk (s := s + 11400) (c := c) (k' := 26) (N := m + 26) (N' := m + 27) (s' := s + 11408) q25 z2 (t := .boolean) (n := 8) (f := 43) rfl (by omega) (by omega) (by omega) (by decide) rfl
  have a26 : jnA (mz S25 A2 B ((m + 26, s + 11400), c)) .boolean (8 : Int32) = some (m + 26, mz S26a A2 B ((m + 27, s + 11408), c)) := a26
  have b26 : jput (mz S26a A2 B ((m + 27, s + 11408), c)) m 9 43 (.ref (m + 26)) = some (mz S26 A2 B ((m + 27, s + 11408), c)) := b26
  obtain ⟨S27a, S27, a27, b27, q27, g27⟩ := m_mk (s := s + 11408) (c := c) (k' := 27) (N := m + 27) (N' := m + 28) (s' := s + 11512) q26 z2 (t := .long) (n := 104) (f := 44) rfl (by omega) (by omega) (by omega) (by decide) rfl
  have a27 : jnA (mz S26 A2 B ((m + 27, s + 11408), c)) .long (104 : Int32) = some (m + 27, mz S27a A2 B ((m + 28, s + 11512), c)) := a27
  have b27 : jput (mz S27a A2 B ((m + 28, s + 11512), c)) m 9 44 (.ref (m + 27)) = some (mz S27 A2 B ((m + 28, s + 11512), c)) := b27
  obtain ⟨S28a, S28, a28, b28, q28, g28⟩ := m_mk (s := s + 11512) (c := c) (k' := 28) (N := m + 28) (N' := m + 29) (s' := s + 11514) q27 z2 (t := .boolean) (n := 2) (f := 45) rfl (by omega) (by omega) (by omega) (by decide) rfl
  have a28 : jnA (mz S27 A2 B ((m + 28, s + 11512), c)) .boolean (2 : Int32) = some (m + 28, mz S28a A2 B ((m + 29, s + 11514), c)) := a28
  have b28 : jput (mz S28a A2 B ((m + 29, s + 11514), c)) m 9 45 (.ref (m + 28)) = some (mz S28 A2 B ((m + 29, s + 11514), c)) := b28
  obtain ⟨S29a, S29, a29, b29, q29, g29⟩ := m_mk (s := s + 11514) (c := c) (k' := 29) (N := m + 29) (N' := m + 30) (s' := s + 11516) q28 z2 (t := .int) (n := 2) (f := 46) rfl (by omega) (by omega) (by omega) (by decide) rfl
  have a29 : jnA (mz S28 A2 B ((m + 29, s + 11514), c)) .int (2 : Int32) = some (m + 29, mz S29a A2 B ((m + 30, s + 11516), c)) := a29
  have b29 : jput (mz S29a A2 B ((m + 30, s + 11516), c)) m 9 46 (.ref (m + 29)) = some (mz S29 A2 B ((m + 30, s + 11516), c)) := b29
  obtain ⟨S30a, S30, a30, b30, q30, g30⟩ := m_mk (s := s + 11516) (c := c) (k' := 30) (N := m + 30) (N' := m + 31) (s' := s + 11524) q29 z2 (t := .int) (n := 8) (f := 47) rfl (by omega) (by omega) (by omega) (by decide) rfl
  have a30 : jnA (mz S29 A2 B ((m + 30, s + 11516), c)) .int (8 : Int32) = some (m + 30, mz S30a A2 B ((m + 31, s + 11524), c)) := a30
  have b30 : jput (mz S30a A2 B ((m + 31, s + 11524), c)) m 9 47 (.ref (m + 30)) = some (mz S30 A2 B ((m + 31, s + 11524), c)) := b30
  obtain ⟨S31a, S31, a31, b31, q31, g31⟩ := m_mk (s := s + 11524) (c := c) (k' := 31) (N := m + 31) (N' := m + 32) (s' := s + 12972) q30 z2 (t := .int) (n := 1448) (f := 48) rfl (by omega) (by omega) (by omega) (by decide) rfl
  have a31 : jnA (mz S30 A2 B ((m + 31, s + 11524), c)) .int (1448 : Int32) = some (m + 31, mz S31a A2 B ((m + 32, s + 12972), c)) := a31
  have b31 : jput (mz S31a A2 B ((m + 32, s + 12972), c)) m 9 48 (.ref (m + 31)) = some (mz S31 A2 B ((m + 32, s + 12972), c)) := b31
  obtain ⟨S32a, S32, a32, b32, q32, g32⟩ := m_mk (s := s + 12972) (c := c) (k' := 32) (N := m + 32) (N' := m + 33) (s' := s + 12988) q31 z2 (t := .boolean) (n := 16) (f := 49) rfl (by omega) (by omega) (by omega) (by decide) rfl
  have a32 : jnA (mz S31 A2 B ((m + 32, s + 12972), c)) .boolean (16 : Int32) = some (m + 32, mz S32a A2 B ((m + 33, s + 12988), c)) := a32
  have b32 : jput (mz S32a A2 B ((m + 33, s + 12988), c)) m 9 49 (.ref (m + 32)) = some (mz S32 A2 B ((m + 33, s + 12988), c)) := b32
  obtain ⟨S33a, S33, a33, b33, q33, g33⟩ := m_mk (s := s + 12988) (c := c) (k' := 33) (N := m + 33) (N' := m + 34) (s' := s + 13196) q32 z2 (t := .long) (n := 208) (f := 50) rfl (by omega) (by omega) (by omega) (by decide) rfl
  have a33 : jnA (mz S32 A2 B ((m + 33, s + 12988), c)) .long (208 : Int32) = some (m + 33, mz S33a A2 B ((m + 34, s + 13196), c)) := a33
  have b33 : jput (mz S33a A2 B ((m + 34, s + 13196), c)) m 9 50 (.ref (m + 33)) = some (mz S33 A2 B ((m + 34, s + 13196), c)) := b33
  have hM : LM S33 m := ⟨by rw [← rMk_33 m]; exact q33.1, fun o t N hm => q33.2 o t N hm (mtab_o hm)⟩
  have gS : ∀ x, x < m ∨ m + 34 ≤ x → S33 x = S x := fun x hx => by
    rw [g33 x (by omega), g32 x (by omega), g31 x (by omega), g30 x (by omega), g29 x (by omega), g28 x (by omega), g27 x (by omega), g26 x (by omega), g25 x (by omega), g24 x (by omega), g23 x (by omega), g22 x (by omega), g21 x (by omega), g20 x (by omega), g19 x (by omega), g18 x (by omega), g17 x (by omega), g16 x (by omega), g15 x (by omega), g14 x (by omega), g13 x (by omega), g12 x (by omega), g11 x (by omega), g10 x (by omega), g9 x (by omega), g8 x (by omega), g7 x (by omega), g6 x (by omega), g5 x (by omega), g4 x (by omega), g3 x (by omega), g2 x (by omega), g1 x (by omega), g0 x (by omega)]
  obtain ⟨A3, e3, bas3, m3, k3⟩ := m_lay (A := A2) (B := B) (c := ((m + 34, s + 13196), c)) hM PR_1009 (by rw [i2, up_ne _ _ (by omega), i1, up_at]; rfl)
  obtain ⟨A4, e4, y1, y2, y3, y4, y5, y6, y7, y8, y9, y10⟩ := m_takes (A := A3) (B := B) (c := ((m + 34, s + 13196), c)) hM
  have zm : ∀ k, k ≠ 1 → k ≠ 7 → A3 m k = 0 := fun k h1 h2 => by rw [m3, i2, up_ne _ _ h2, i1, up_ne _ _ h1]; exact (hz m (Nat.le_refl _) k).1
  refine ⟨S0, S33, A4, en, ?_, hM, gS, ⟨by rw [y3 1 (by omega) (by omega)]; exact bas3.1, fun n hn => ?_⟩, y1, by rw [y2]; exact zm 22 (by omega) (by omega), by rw [y3 12 (by omega) (by omega)]; exact zm 12 (by omega) (by omega), by rw [y3 42 (by omega) (by omega)]; exact zm 42 (by omega) (by omega), y6, y7, y8, y9, fun x hx => ?_⟩
  · have rv : ∀ A, jrecv (mz S33 A B ((m + 34, s + 13196), c)) m 9 = some () := fun A => jrecv_z hM.1
    unfold f_X12_init
    refine j_bs f1 ?_
    refine j_bs a1 ?_
    refine j_bs b1 ?_
    refine j_bs a2 ?_
    refine j_bs b2 ?_
    refine j_bs a3 ?_
    refine j_bs b3 ?_
    refine j_bs a4 ?_
    refine j_bs b4 ?_
    refine j_bs a5 ?_
    refine j_bs b5 ?_
    refine j_bs f2 ?_
    refine j_bs a6 ?_
    refine j_bs b6 ?_
    refine j_bs a7 ?_
    refine j_bs b7 ?_
    refine j_bs a8 ?_
    refine j_bs b8 ?_
    refine j_bs a9 ?_
    refine j_bs b9 ?_
    refine j_bs a10 ?_
    refine j_bs b10 ?_
    refine j_bs a11 ?_
    refine j_bs b11 ?_
    refine j_bs a12 ?_
    refine j_bs b12 ?_
    refine j_bs a13 ?_
    refine j_bs b13 ?_
    refine j_bs a14 ?_
    refine j_bs b14 ?_
    refine j_bs a15 ?_
    refine j_bs b15 ?_
    refine j_bs a16 ?_
    refine j_bs b16 ?_
    refine j_bs a17 ?_
    refine j_bs b17 ?_
    refine j_bs a18 ?_
    refine j_bs b18 ?_
    refine j_bs a19 ?_
    refine j_bs b19 ?_
    refine j_bs a20 ?_
    refine j_bs b20 ?_
    refine j_bs a21 ?_
    refine j_bs b21 ?_
    refine j_bs a22 ?_
    refine j_bs b22 ?_
    refine j_bs a23 ?_
    refine j_bs b23 ?_
    refine j_bs a24 ?_
    refine j_bs b24 ?_
    refine j_bs a25 ?_
    refine j_bs b25 ?_
    refine j_bs a26 ?_
    refine j_bs b26 ?_
    refine j_bs a27 ?_
    refine j_bs b27 ?_
    refine j_bs a28 ?_
    refine j_bs b28 ?_
    refine j_bs a29 ?_
    refine j_bs b29 ?_
    refine j_bs a30 ?_
    refine j_bs b30 ?_
    refine j_bs a31 ?_
    refine j_bs b31 ?_
    refine j_bs a32 ?_
    refine j_bs b32 ?_
    refine j_bs a33 ?_
    refine j_bs b33 ?_
    refine j_bs (rv _) ?_
    refine j_bs e3 ?_
    refine j_bs (rv _) ?_
    refine j_bs e4 ?_
    rfl
  · rw [y10 _ (by omega) (by omega) (by omega) (by omega) (by omega) (by omega) (by omega), y10 _ (by omega) (by omega) (by omega) (by omega) (by omega) (by omega) (by omega), y10 _ (by omega) (by omega) (by omega) (by omega) (by omega) (by omega) (by omega)]
    exact bas3.2 n hn
  · rw [y10 x (by omega) (by omega) (by omega) (by omega) (by omega) (by omega) (by omega), k3 x (by omega), j2 x (by omega), j1 x (by omega)]
end new
