/-! Shelves: put, its pieces. -/
def trV (k n : Int) : Int := match trO k n with
  | none => -9223372036854775808
  | some s => (-s).tdiv 24
theorem trO_ok (k n : Int) : okn (trO k n) := oD_ok k n (oS_ok k n _) _
theorem trV_some {k n s : Int} (h : trO k n = some s) : trV k n = (-s).tdiv 24 ∧ -4611686018427387904 ≤ trV k n ∧ trV k n ≤ 4611686018427387904 ∧ ll (-s) / (24 : Int64) = ll (trV k n) := by
  have h1 := trO_ok k n s h
  unfold LIM at h1
  have e : trV k n = (-s).tdiv 24 := by unfold trV; rw [h]
  have hr : -4611686018427387904 ≤ (-s).tdiv 24 ∧ (-s).tdiv 24 ≤ 4611686018427387904 := by
    rcases Int.le_total 0 (-s) with q | q
    · rw [Int.tdiv_eq_ediv_of_nonneg q]; omega
    · have : (-s).tdiv 24 = -(s / 24) := by rw [Int.neg_tdiv, Int.tdiv_eq_ediv_of_nonneg (by omega)]
      rw [this]; omega
  refine ⟨e, by rw [e]; exact hr.1, by rw [e]; exact hr.2, ?_⟩
  rw [show (24 : Int64) = ll 24 from rfl, ll_div (r63_of (by omega) (by omega)) (r63_of (by omega) (by omega)) (by omega), e]
theorem x_exact' (h : JH) {k n : Int} (hk : 4 ≤ k ∧ k ≤ 60) (hn : 1 ≤ n ∧ n ≤ 60) : f_X10_exact (ii k) (ii n) h = some (ll (trV k n), h) := by
  rw [x_exact h hk hn]
  cases e : trO k n with
  | none => unfold trV; rw [e]; rfl
  | some s => rw [← (trV_some e).2.2.2]
theorem lg_huge {k n : Int} : lg_cmp (ll (trV k n)) (-9223372036854775808 : Int64) = (0 : Int32) ↔ trO k n = none := by
  have hm : (-9223372036854775808 : Int64) = ll (-9223372036854775808) := rfl
  cases e : trO k n with
  | none =>
    have : trV k n = -9223372036854775808 := by unfold trV; rw [e]
    rw [this, ← hm]
    exact ⟨fun _ => rfl, fun _ => lg_0⟩
  | some s =>
    obtain ⟨_, r1, r2, _⟩ := trV_some e
    have n1 : ¬ (ll (trV k n) = (-9223372036854775808 : Int64)) := by rw [hm, ll_eq (r63_of (by omega) (by omega)) (r63_of (by omega) (by omega))]; omega
    refine ⟨fun q => ?_, fun q => by cases q⟩
    unfold lg_cmp at q
    split at q
    · exact absurd q (by decide)
    · exact absurd q (by decide)
section ops
variable {b : Nat} {S0 : SS} {A0 : ZA} {cc : Nat → Nat} {e : Nat}
theorem ff_loop {S : SS} {A B : ZA} {c : (Nat × Nat) × (Nat → Nat)} (hX : LX S b) {w : Int} (hw : 4 ≤ w ∧ w ≤ 60) : ∀ (k i : Nat), i + k = 12 → ∀ (B1 : ZA) (fuel : Nat), k < fuel → (∀ j, j < i → trO w ((j + 1 : Nat) : Int) ≠ none ∧ B1 (b + 235) j = trV w ((j + 1 : Nat) : Int)) → (∀ x, x ≠ b + 235 → B1 x = B x) →
    ∃ t B2, jloop (f_X11_findFreshTraces_L2 b (ii w)) fuel (ii ((i + 1 : Nat) : Int)) (mz S A B1 c) = some (t, mz S A B2 c) ∧ (∀ x, x ≠ b + 235 → B2 x = B x) ∧ ((∃ t', t = .inr t' ∧ ∀ j, j < 12 → trO w ((j + 1 : Nat) : Int) ≠ none ∧ B2 (b + 235) j = trV w ((j + 1 : Nat) : Int)) ∨ (t = .inl (ii ((0 : Nat) : Int)) ∧ ∃ j, j < 12 ∧ trO w ((j + 1 : Nat) : Int) = none)) := by
  intro k
  induction k with
  | zero =>
    intro i hi B1 fuel hf h1 h2
    obtain ⟨fu, rfl⟩ : ∃ q, fuel = q + 1 := ⟨fuel - 1, by omega⟩
    have e : i = 12 := by omega
    subst e
    refine ⟨_, B1, jloop_end (t := .inr (ii ((12 + 1 : Nat) : Int))) ?_, h2, Or.inl ⟨_, rfl, h1⟩⟩
    unfold f_X11_findFreshTraces_L2
    simp (disch := omega) only [k12, n_lt, show 12 < 12 + 1 by omega, ↓reduceIte]
  | succ k ih =>
    intro i hi B1 fuel hf h1 h2
    obtain ⟨fu, rfl⟩ : ∃ q, fuel = q + 1 := ⟨fuel - 1, by omega⟩
    have hx := x_exact' (mz S A B1 c) hw (n := ((i + 1 : Nat) : Int)) (by omega)
    have hst : jsJ (mz S A B1 c) (b + 235) (ii (i : Int)) (ll (trV w ((i + 1 : Nat) : Int))) = some (mz S A (za B1 (b + 235) (up (B1 (b + 235)) i (trV w ((i + 1 : Nat) : Int)))) c) := jsJ_v (L_frt hX) (by omega) (by omega)
    have hrd : jaJ (mz S A (za B1 (b + 235) (up (B1 (b + 235)) i (trV w ((i + 1 : Nat) : Int)))) c) (b + 235) (ii (i : Int)) = some (ll (trV w ((i + 1 : Nat) : Int))) := by rw [jaJ_n (L_frt hX) (by omega) (by omega), za_at, up_at]
    have hstep : f_X11_findFreshTraces_L2 b (ii w) (ii ((i + 1 : Nat) : Int)) (mz S A B1 c) = if lg_cmp (ll (trV w ((i + 1 : Nat) : Int))) (-9223372036854775808 : Int64) = (0 : Int32) then some (.inr (.inl (ii ((0 : Nat) : Int))), mz S A (za B1 (b + 235) (up (B1 (b + 235)) i (trV w ((i + 1 : Nat) : Int)))) c) else some (.inl (ii ((i + 1 + 1 : Nat) : Int)), mz S A (za B1 (b + 235) (up (B1 (b + 235)) i (trV w ((i + 1 : Nat) : Int)))) c) := by
      unfold f_X11_findFreshTraces_L2
      simp (disch := omega) only [k12, k1, n_lt, n_add, n_sub, show ¬ (12 < i + 1) by omega, show i + 1 - 1 = i by omega, ↓reduceIte, XR12 hX, Option.bind_some, hx, hst, hrd]
      rfl
    by_cases q : trO w ((i + 1 : Nat) : Int) = none
    · rw [if_pos (lg_huge.mpr q)] at hstep
      exact ⟨_, _, jloop_end hstep, fun x hx => by rw [za_ne _ _ hx, h2 x hx], Or.inr ⟨rfl, i, by omega, q⟩⟩
    · rw [if_neg (fun z => q (lg_huge.mp z))] at hstep
      rw [jloop_go hstep]
      exact ih (i + 1) (by omega) _ fu (by omega) (fun j hj => by
        by_cases ej : j = i
        · subst ej; exact ⟨q, by rw [za_at, up_at]⟩
        · exact ⟨(h1 j (by omega)).1, by rw [za_at, up_ne _ _ ej]; exact (h1 j (by omega)).2⟩) (fun x hx => by rw [za_ne _ _ hx, h2 x hx])
theorem x_fresh {S : SS} {A B : ZA} {c : (Nat × Nat) × (Nat → Nat)} (hX : LX S b) {w : Int} (hw : 4 ≤ w ∧ w ≤ 60) : ∃ B2, (∀ x, x ≠ b + 235 → B2 x = B x) ∧ ((f_X11_findFreshTraces b (ii w) (mz S A B c) = some (ii ((1 : Nat) : Int), mz S A B2 c) ∧ ∀ j, j < 12 → trO w ((j + 1 : Nat) : Int) ≠ none ∧ B2 (b + 235) j = trV w ((j + 1 : Nat) : Int)) ∨ (f_X11_findFreshTraces b (ii w) (mz S A B c) = some (ii ((0 : Nat) : Int), mz S A B2 c) ∧ ∃ j, j < 12 ∧ trO w ((j + 1 : Nat) : Int) = none)) := by
  obtain ⟨t, B2, e1, h1, h2⟩ := ff_loop (A := A) (B := B) (c := c) hX hw 12 0 (by omega) B jF (jF_big (by omega)) (fun j hj => by omega) (fun _ _ => rfl)
  have e1' : jloop (f_X11_findFreshTraces_L2 b (ii w)) jF (1 : Int32) (mz S A B c) = some (t, mz S A B2 c) := e1
  refine ⟨B2, h1, ?_⟩
  unfold f_X11_findFreshTraces
  rw [e1']
  rcases h2 with ⟨t', rfl, h3⟩ | ⟨rfl, h3⟩
  · exact Or.inl ⟨rfl, h3⟩
  · exact Or.inr ⟨rfl, h3⟩
/-- the reference's look at twelve traces -/
theorem m_look {S : SS} {A B : ZA} {c : (Nat × Nat) × (Nat → Nat)} {m : Nat} (hM : LM S m) (a1 a2 a3 : Int32) {w : Int} (hw : 4 ≤ w ∧ w ≤ 60) : ∀ (k i : Nat), i + k = 12 → ∀ (fuel : Nat) (f0 : Int), k + 1 < fuel →
    ∃ t f, ((∀ j, i ≤ j → j < 12 → trO w ((j + 1 : Nat) : Int) ≠ none) ∧ jloop (f_X12_put_L77 m a1 a2 a3 (ii w)) fuel (ii ((1 : Nat) : Int), ii ((i + 1 : Nat) : Int)) (mz S (fl A m f0) B c) = some ((ii ((1 : Nat) : Int), t), mz S (fl A m f) B c)) ∨ ((∃ j, i ≤ j ∧ j < 12 ∧ trO w ((j + 1 : Nat) : Int) = none) ∧ jloop (f_X12_put_L77 m a1 a2 a3 (ii w)) fuel (ii ((1 : Nat) : Int), ii ((i + 1 : Nat) : Int)) (mz S (fl A m f0) B c) = some ((ii ((0 : Nat) : Int), t), mz S (fl A m f) B c)) := by
  intro k
  induction k with
  | zero =>
    intro i hi fuel f0 hf
    obtain ⟨fu, rfl⟩ : ∃ q, fuel = q + 1 := ⟨fuel - 1, by omega⟩
    have e : i = 12 := by omega
    subst e
    refine ⟨ii ((12 + 1 : Nat) : Int), f0, Or.inl ⟨fun j h1 h2 => by omega, jloop_end ?_⟩⟩
    unfold f_X12_put_L77
    simp (disch := omega) only [k12, n_lt, show 12 < 12 + 1 by omega, ↓reduceIte]
  | succ k ih =>
    intro i hi fuel f0 hf
    obtain ⟨fu, rfl⟩ : ∃ q, fuel = q + 1 := ⟨fuel - 1, by omega⟩
    obtain ⟨v, f, e1, e2⟩ := m_trace (A := fl A m f0) (B := B) (c := c) hM.1 rfl hw (n := ((i + 1 : Nat) : Int)) (by omega)
    rw [fl_fl] at e1
    have hstep : f_X12_put_L77 m a1 a2 a3 (ii w) (ii ((1 : Nat) : Int), ii ((i + 1 : Nat) : Int)) (mz S (fl A m f0) B c) = if ii f = ii ((0 : Nat) : Int) then some (.inl (ii ((1 : Nat) : Int), ii ((i + 1 + 1 : Nat) : Int)), mz S (fl A m f) B c) else some (.inl (ii ((0 : Nat) : Int), ii ((i + 1 + 1 : Nat) : Int)), mz S (fl A m f) B c) := by
      unfold f_X12_put_L77
      simp (disch := omega) only [k12, k0, k1, n_lt, n_eq, n_add, show ¬ (12 < i + 1) by omega, show ¬ (1 = 0) by omega, ↓reduceIte, Mv hM, Option.bind_some, e1, MI33 hM, fl_33]
    rcases e2 with ⟨rfl, s, hs, rfl⟩ | ⟨rfl, hs⟩
    · rw [if_pos (show ii 0 = ii ((0 : Nat) : Int) from rfl)] at hstep
      obtain ⟨t, f', h1 | h1⟩ := ih (i + 1) (by omega) fu 0 (by omega)
      · refine ⟨t, f', Or.inl ⟨fun j h2 h3 => ?_, by rw [jloop_go hstep]; exact h1.2⟩⟩
        by_cases ej : j = i
        · subst ej; rw [hs]; exact fun x => by cases x
        · exact h1.1 j (by omega) h3
      · obtain ⟨⟨j, j1, j2, j3⟩, h2⟩ := h1
        exact ⟨t, f', Or.inr ⟨⟨j, by omega, j2, j3⟩, by rw [jloop_go hstep]; exact h2⟩⟩
    · rw [if_neg (show ¬ (ii 1 = ii ((0 : Nat) : Int)) by decide)] at hstep
      obtain ⟨fv, rfl⟩ : ∃ q, fu = q + 1 := ⟨fu - 1, by omega⟩
      refine ⟨ii ((i + 1 + 1 : Nat) : Int), 1, Or.inr ⟨⟨i, Nat.le_refl _, by omega, hs⟩, ?_⟩⟩
      rw [jloop_go hstep]
      refine jloop_end ?_
      unfold f_X12_put_L77
      simp (disch := omega) only [k0, eq_self, ↓reduceIte, ite_self]
theorem put_out {h : JH} {m : Nat} (a3 a4 a6 : Int32) : jloop (f_X12_put_L129 m a3 a4 (ii ((0 : Nat) : Int)) a6) jF (ii ((0 : Nat) : Int)) h = some (ii ((0 : Nat) : Int), h) := by
  refine jloop_end (n := 19999) ?_
  unfold f_X12_put_L129
  simp only [k0, eq_self, ↓reduceIte, ite_self]
theorem look_out {h : JH} {m : Nat} (a1 a2 a3 a4 : Int32) : jloop (f_X12_put_L77 m a1 a2 a3 a4) jF (ii ((0 : Nat) : Int), ii ((1 : Nat) : Int)) h = some ((ii ((0 : Nat) : Int), ii ((1 : Nat) : Int)), h) := by
  refine jloop_end (n := 19999) ?_
  unfold f_X12_put_L77
  simp only [k0, eq_self, ↓reduceIte, ite_self]
theorem put_left {S : SS} {A B : ZA} {c : (Nat × Nat) × (Nat → Nat)} {m at' : Nat} (hM : LM S m) (a4 : Int32) (hat : at' < 8) (hr : ∀ i, i < 13 → -2147483648 ≤ A (m + 19) i ∧ A (m + 19) i < 2147483648) : jloop (f_X12_put_L129 m (ii ((0 : Nat) : Int)) a4 (ii ((1 : Nat) : Int)) (ii (at' : Int))) jF (ii ((0 : Nat) : Int)) (mz S A B c) = some (ii ((13 : Nat) : Int), mz S A (za B (m + 27) (mo (fun i => A (m + 19) i) (B (m + 27)) (13 * at') 13)) c) :=
  fill_runJ _ 13 (by decide) (fun i hi => by
    have := hr i hi
    unfold f_X12_put_L129
    simp (disch := omega) only [k13, k0, k1, n_le, n10, show ¬ (13 ≤ i) by omega, eq_self, ↓reduceIte, MR44 hM, MR32 hM, Option.bind_some, Ma19 hM, n_mul, n_add, i_l]
    rw [jsJ_m (G := fun i => A (m + 19) i) (MS27 hM) (by omega) (by omega) rfl]
    rfl) (by
    unfold f_X12_put_L129
    simp (disch := omega) only [k13, n_le, Nat.le_refl, ↓reduceIte])
theorem put_traces {S : SS} {A B : ZA} {c : (Nat × Nat) × (Nat → Nat)} {m at' : Nat} (hM : LM S m) {w : Int} (hw : 4 ≤ w ∧ w ≤ 60) (hat : at' < 8) (hT : ∀ j, j < 12 → trO w ((j + 1 : Nat) : Int) ≠ none) (f0 : Int) : ∃ f B', jloop (f_X12_put_L129 m (ii ((1 : Nat) : Int)) (ii w) (ii ((1 : Nat) : Int)) (ii (at' : Int))) jF (ii ((0 : Nat) : Int)) (mz S (fl A m f0) B c) = some (ii ((13 : Nat) : Int), mz S (fl A m f) B' c) ∧ (∀ i, i < 12 → B' (m + 27) (13 * at' + i) = trV w ((i + 1 : Nat) : Int)) ∧ (∀ j, ¬ (13 * at' ≤ j ∧ j < 13 * at' + 13) → B' (m + 27) j = B (m + 27) j) ∧ (∀ x, x ≠ m + 27 → B' x = B x) := by
  obtain ⟨A', B', e1, ⟨f, rfl⟩, y1, y2, y3⟩ := z_run2 (S := S) (c := c) (f := f_X12_put_L129 m (ii ((1 : Nat) : Int)) (ii w) (ii ((1 : Nat) : Int)) (ii (at' : Int))) (fun t => ii (t : Int)) (fun t A' B' => (∃ f, A' = fl A m f) ∧ (∀ i, i < 12 → i < t → B' (m + 27) (13 * at' + i) = trV w ((i + 1 : Nat) : Int)) ∧ (∀ j, ¬ (13 * at' ≤ j ∧ j < 13 * at' + 13) → B' (m + 27) j = B (m + 27) j) ∧ (∀ x, x ≠ m + 27 → B' x = B x)) 13 (t := ii ((13 : Nat) : Int)) (by omega) (fun t ht A1 B1 ⟨⟨f, ef⟩, y1, y2, y3⟩ => by
    subst ef
    by_cases q : t < 12
    · obtain ⟨v, f', e1, e2⟩ := m_trace (A := fl A m f) (B := B1) (c := c) hM.1 rfl hw (n := ((t + 1 : Nat) : Int)) (by omega)
      rw [fl_fl] at e1
      rcases e2 with ⟨rfl, s, hs, rfl⟩ | ⟨rfl, hs⟩
      · rw [(trV_some hs).2.2.2] at e1
        refine ⟨fl A m 0, za B1 (m + 27) (up (B1 (m + 27)) (13 * at' + t) (trV w ((t + 1 : Nat) : Int))), ?_, ⟨0, rfl⟩, fun i h1 h2 => ?_, fun j hj => ?_, fun x hx => by rw [za_ne _ _ hx, y3 x hx]⟩
        · unfold f_X12_put_L129
          simp (disch := omega) only [k13, k12, k0, k1, n_le, n10, show ¬ (13 ≤ t) by omega, show ¬ (12 ≤ t) by omega, ↓reduceIte, MR44 hM, Mv hM, Option.bind_some, n_add, e1, n_mul, Ms27 hM]
        · rw [za_at]
          by_cases ei : i = t
          · subst ei; rw [up_at]
          · rw [up_ne _ _ (by omega)]; exact y1 i h1 (by omega)
        · rw [za_at, up_ne _ _ (by omega)]; exact y2 j hj
      · exact absurd hs (hT t q)
    · refine ⟨fl A m f, za B1 (m + 27) (up (B1 (m + 27)) (13 * at' + t) 0), ?_, ⟨f, rfl⟩, fun i h1 h2 => ?_, fun j hj => ?_, fun x hx => by rw [za_ne _ _ hx, y3 x hx]⟩
      · unfold f_X12_put_L129
        simp (disch := omega) only [k13, k12, k0, k1, g0, n_le, n10, show ¬ (13 ≤ t) by omega, show 12 ≤ t by omega, ↓reduceIte, MR44 hM, Option.bind_some, n_add, n_mul, Ms27 hM]
      · rw [za_at, up_ne _ _ (by omega)]; exact y1 i h1 (by omega)
      · rw [za_at, up_ne _ _ (by omega)]; exact y2 j hj) (fun A1 B1 _ => by
    unfold f_X12_put_L129
    simp (disch := omega) only [k13, n_le, Nat.le_refl, ↓reduceIte]) (A0 := fl A m f0) (B0 := B) ⟨⟨f0, rfl⟩, fun i h1 h2 => by omega, fun _ _ => rfl, fun _ _ => rfl⟩
  exact ⟨f, B', e1, fun i hi => y1 i hi (by omega), y2, y3⟩
end ops
