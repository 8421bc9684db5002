/-! The reference: rows of a weight, a form out of its first coefficients, Hecke's operator. -/
/-- a loop over memories with a property -/
theorem z_run {S : SS} {B : ZA} {c : (Nat × Nat) × (Nat → Nat)} {σ τ : Type} {f : σ → JH → Option ((σ ⊕ τ) × JH)} (st : Nat → σ) (Q : Nat → ZA → Prop) (N : Nat) {t : τ} (hN : N < 20000)
    (hs : ∀ i, i < N → ∀ A, Q i A → ∃ A', f (st i) (mz S A B c) = some (.inl (st (i + 1)), mz S A' B c) ∧ Q (i + 1) A')
    (he : ∀ A, Q N A → f (st N) (mz S A B c) = some (.inr t, mz S A B c)) {A0 : ZA} (h0 : Q 0 A0) : ∃ A', jloop f jF (st 0) (mz S A0 B c) = some (t, mz S A' B c) ∧ Q N A' := by
  have key : ∀ (k i : Nat), i + k = N → ∀ (fuel : Nat) (A : ZA), k < fuel → Q i A → ∃ A', jloop f fuel (st i) (mz S A B c) = some (t, mz S A' B c) ∧ Q N A' := by
    intro k
    induction k with
    | zero =>
      intro i hi fuel A hf hA
      obtain ⟨fu, rfl⟩ : ∃ q, fuel = q + 1 := ⟨fuel - 1, by omega⟩
      have e : i = N := by omega
      subst e
      exact ⟨A, jloop_end (he A hA), hA⟩
    | succ k ih =>
      intro i hi fuel A hf hA
      obtain ⟨fu, rfl⟩ : ∃ q, fuel = q + 1 := ⟨fuel - 1, by omega⟩
      obtain ⟨A1, e1, q1⟩ := hs i (by omega) A hA
      obtain ⟨A2, e2, q2⟩ := ih (i + 1) (by omega) fu A1 (by omega) q1
      exact ⟨A2, by rw [jloop_go e1]; exact e2, q2⟩
  exact key N 0 (by omega) jF A0 (jF_big hN) h0
def Bas (A : ZA) (m : Nat) (p : Int) : Prop := A m 1 = p ∧ ∀ n, n < 181 → A (m + 1) n = e4 p n ∧ A (m + 2) n = e6 p n ∧ A (m + 3) n = dt p n
def Rok (A : ZA) (m : Nat) (p : Int) (k : Nat) : Prop := ∀ j, j < Lk k → ∀ n, n < 181 → A (m + 6) (181 * j + n) = rwx p k j n
def RC (A : ZA) (m : Nat) (p : Int) : Prop := A m 7 = -1 ∨ ∃ k : Nat, k ≤ 60 ∧ A m 7 = (k : Int) ∧ Rok A m p k
theorem m_long (h : JH) {k : Nat} (hk : k ≤ 60) : f_X12_longOf (ii (k : Int)) h = some (ii ((Lk k : Nat) : Int), h) := by
  unfold f_X12_longOf Lk
  simp (disch := omega) only [k12, k2, k0, k1, n_rem, n_div, n_eq, n_add]
  by_cases q : k % 12 = 2 <;> simp only [q, ↓reduceIte, Nat.add_zero]
def itx (p : Int) (a b i : Nat) : Nat → Int := if i < a then e4 p else if i < a + b then e6 p else dt p
def itp (p : Int) (a b : Nat) : Nat → (Nat → Int)
  | 0 => dl 0
  | i + 1 => ml p (itp p a b i) (itx p a b i)
theorem itp_r {p : Int} (hp : 1 < p) (a b i n : Nat) : 0 ≤ itp p a b i n ∧ itp p a b i n < p := by
  cases i with
  | zero => show 0 ≤ dl 0 n ∧ dl 0 n < p; unfold dl; split <;> omega
  | succ i => exact ml_r hp _ _ n
theorem itx_r {p : Int} (hp : 1 < p) (a b i n : Nat) : 0 ≤ itx p a b i n ∧ itx p a b i n < p := by
  unfold itx
  split
  · exact e4_r hp n
  · split
    · exact e6_r hp n
    · exact dt_r hp n
theorem itp_1 {p : Int} (a b : Nat) : ∀ i, i ≤ a → itp p a b i = pn p (e4 p) i := by
  intro i
  induction i with
  | zero => intro _; rfl
  | succ i ih =>
    intro hi
    show ml p (itp p a b i) (itx p a b i) = ml p (pn p (e4 p) i) (e4 p)
    rw [ih (by omega)]; unfold itx; rw [if_pos (by omega)]
theorem itp_2 {p : Int} (hp : 1 < p) (a b : Nat) : ∀ i, i ≤ b → itp p a b (a + i) = ml p (pn p (e4 p) a) (pn p (e6 p) i) := by
  intro i
  induction i with
  | zero =>
    intro _
    show itp p a b a = ml p (pn p (e4 p) a) (dl 0)
    rw [itp_1 a b a (Nat.le_refl _), ml_comm, ml_one, pn_ser hp]
  | succ i ih =>
    intro hi
    show ml p (itp p a b (a + i)) (itx p a b (a + i)) = ml p (pn p (e4 p) a) (ml p (pn p (e6 p) i) (e6 p))
    rw [ih (by omega), ml_assoc]; unfold itx; rw [if_neg (by omega), if_pos (by omega)]
theorem itp_3 {p : Int} (hp : 1 < p) (a b : Nat) : ∀ i, itp p a b (a + b + i) = ml p (ml p (pn p (e4 p) a) (pn p (e6 p) b)) (pn p (dt p) i) := by
  intro i
  induction i with
  | zero =>
    show itp p a b (a + b) = ml p (ml p (pn p (e4 p) a) (pn p (e6 p) b)) (dl 0)
    rw [itp_2 hp a b b (Nat.le_refl _), ml_comm p _ (dl 0), ml_one, ml_ser]
  | succ i ih =>
    show ml p (itp p a b (a + b + i)) (itx p a b (a + b + i)) = ml p _ (ml p (pn p (dt p) i) (dt p))
    rw [ih, ml_assoc]; unfold itx; rw [if_neg (by omega), if_neg (by omega)]
/-- one product more -/
theorem m_row1 {S : SS} {A B : ZA} {c : (Nat × Nat) × (Nat → Nat)} {m o : Nat} {p : Int} (hM : LM S m) (hm : A m 1 = p) (hp : 1 < p) (hp2 : p < 10000) {f g : Nat → Int} (ho : o = 1 ∨ o = 2 ∨ o = 3) (hf : ∀ n, n < 181 → A (m + 4) n = f n) (hg : ∀ n, n < 181 → A (m + o) n = g n) (fr : ∀ n, 0 ≤ f n ∧ f n < p) (gr : ∀ n, 0 ≤ g n ∧ g n < p) :
    ∃ A' A1 : ZA, f_X12_multiplies m (m + 4) (ii ((0 : Nat) : Int)) (m + o) (ii ((0 : Nat) : Int)) (m + 5) (mz S A B c) = some ((), mz S A1 B c) ∧ f_X12_copies (m + 5) (ii ((0 : Nat) : Int)) (m + 4) (ii ((0 : Nat) : Int)) (mz S A1 B c) = some ((), mz S A' B c) ∧ (∀ n, n < 181 → A' (m + 4) n = ml p f g n) ∧ (∀ a, a ≠ m + 4 → a ≠ m + 5 → A' a = A a) := by
  have hS : S (m + o) = some (.inr (.inl (.int, 181))) := by rcases ho with rfl | rfl | rfl <;> first | exact MS1 hM | exact MS2 hM | exact MS3 hM
  have hf0 : ∀ n, n < 181 → A (m + 4) (0 + n) = f n := fun n hn => by rw [Nat.zero_add]; exact hf n hn
  have hg0 : ∀ n, n < 181 → A (m + o) (0 + n) = g n := fun n hn => by rw [Nat.zero_add]; exact hg n hn
  have e1 := m_mul (A := A) (B := B) (c := c) hM hm (by omega) hp2 (MS4 hM) hS (MS5 hM) (by omega) (by omega) (o := 0) (o' := 0) (by omega) (by omega) (by omega) (by omega) (fun k hk => by rw [hf0 k hk]; exact fr k) (fun k hk => by rw [hg0 k hk]; exact gr k)
  have e2 := m_copies (A := za A (m + 5) (mo (fun n => cv (fun k => A (m + 4) (0 + k)) (fun k => A (m + o) (0 + k)) n % p) (A (m + 5)) 0 181)) (B := B) (c := c) (o := 0) (o' := 0) (MS5 hM) (MS4 hM) (by omega) (by omega) (by omega) (by omega) (by omega)
  refine ⟨_, _, e1, e2, fun n hn => ?_, fun a h1 h2 => ?_⟩
  · rw [za_at, mo_0in _ _ hn]
    show za A (m + 5) _ (m + 5) (0 + n) = _
    rw [za_at, mo_in _ _ hn]
    exact cv_ser (by omega) hf0 hg0
  · rw [za_ne _ _ h1, za_ne _ _ h2]
theorem m_rowL {S : SS} {A B : ZA} {c : (Nat × Nat) × (Nat → Nat)} {m a b j : Nat} {p : Int} (k : Int32) (hM : LM S m) (hB : Bas A m p) (hp : 1 < p) (hp2 : p < 10000) (ha : a < 100) (hb : b < 100) (hj : j < 100) (hw : ∀ n, n < 181 → A (m + 4) n = dl 0 n) :
    ∃ A' : ZA, jloop (f_X12_laysRows_L86 m k (ii (j : Int)) (ii (b : Int)) (ii (a : Int))) jF (ii ((0 : Nat) : Int)) (mz S A B c) = some (ii ((a + b + j : Nat) : Int), mz S A' B c) ∧ (∀ n, n < 181 → A' (m + 4) n = itp p a b (a + b + j) n) ∧ (∀ x, x ≠ m + 4 → x ≠ m + 5 → A' x = A x) := by
  exact z_run (f := f_X12_laysRows_L86 m k (ii (j : Int)) (ii (b : Int)) (ii (a : Int))) (fun i => ii (i : Int)) (fun i A' => (∀ n, n < 181 → A' (m + 4) n = itp p a b i n) ∧ (∀ x, x ≠ m + 4 → x ≠ m + 5 → A' x = A x)) (a + b + j) (by omega) (fun i hi A1 ⟨h1, h2⟩ => by
    have hm1 : A1 m 1 = p := by rw [h2 m (by omega) (by omega)]; exact hB.1
    have go : ∀ o, (o = 1 ∨ o = 2 ∨ o = 3) → (∀ n, n < 181 → A1 (m + o) n = itx p a b i n) → _ := fun o ho hg => m_row1 (A := A1) (B := B) (c := c) hM hm1 hp hp2 ho h1 hg (itp_r hp a b i) (itx_r hp a b i)
    unfold f_X12_laysRows_L86
    simp (disch := omega) only [n_add, n_le, show ¬ (a + b + j ≤ i) by omega, ↓reduceIte, MR5 hM, Option.bind_some, MR4 hM, MR6 hM, MR2 hM, MR3 hM, Mv hM, k0, k1]
    by_cases q1 : a ≤ i
    · by_cases q2 : a + b ≤ i
      · obtain ⟨A2, A3, e1, e2, e3, e4⟩ := go 3 (by omega) (fun n hn => by rw [h2 _ (by omega) (by omega), (hB.2 n hn).2.2]; unfold itx; rw [if_neg (by omega), if_neg (by omega)])
        simp only [q1, q2, ↓reduceIte, e1, e2, Option.bind_some, MR5 hM, MR6 hM]
        exact ⟨A2, rfl, e3, fun x x1 x2 => by rw [e4 x x1 x2, h2 x x1 x2]⟩
      · obtain ⟨A2, A3, e1, e2, e3, e4⟩ := go 2 (by omega) (fun n hn => by rw [h2 _ (by omega) (by omega), (hB.2 n hn).2.1]; unfold itx; rw [if_neg (by omega), if_pos (by omega)])
        simp only [q1, q2, ↓reduceIte, e1, e2, Option.bind_some, MR5 hM, MR6 hM]
        exact ⟨A2, rfl, e3, fun x x1 x2 => by rw [e4 x x1 x2, h2 x x1 x2]⟩
    · obtain ⟨A2, A3, e1, e2, e3, e4⟩ := go 1 (by omega) (fun n hn => by rw [h2 _ (by omega) (by omega), (hB.2 n hn).1]; unfold itx; rw [if_pos (by omega)])
      simp only [q1, ↓reduceIte, e1, e2, Option.bind_some, MR5 hM, MR6 hM]
      exact ⟨A2, rfl, e3, fun x x1 x2 => by rw [e4 x x1 x2, h2 x x1 x2]⟩) (fun A1 _ => by
    unfold f_X12_laysRows_L86
    simp (disch := omega) only [n_add, n_le, Nat.le_refl, ↓reduceIte]) ⟨hw, fun _ _ _ => rfl⟩
theorem m_one {S : SS} {A B : ZA} {c : (Nat × Nat) × (Nat → Nat)} {m : Nat} (k j b a : Int32) (hM : LM S m) : jloop (f_X12_laysRows_L52 m k j b a) jF (ii ((0 : Nat) : Int)) (mz S A B c) = some (ii ((181 : Nat) : Int), mz S (za A (m + 4) (mo (dl 0) (A (m + 4)) 0 181)) B c) :=
  fill_run (dl 0) 181 (by decide) (fun i hi => by
    unfold f_X12_laysRows_L52
    simp (disch := omega) only [k181, k0, k1, n_le, n_eq, show ¬ (181 ≤ i) by omega, ↓reduceIte, MR5 hM, Option.bind_some, n_add]
    by_cases q : i = 0
    · simp only [q, ↓reduceIte]
      rw [jsI_m0 (G := dl 0) (i := 0) (v := ((1 : Nat) : Int)) (MS4 hM) (by omega) (by omega) rfl]
      rfl
    · simp only [q, ↓reduceIte]
      rw [jsI_m0 (MS4 hM) hi (by omega) (by simp [dl, q])]
      rfl) (by
    unfold f_X12_laysRows_L52
    simp (disch := omega) only [k181, n_le, Nat.le_refl, ↓reduceIte])
theorem m_rows {S : SS} {A B : ZA} {c : (Nat × Nat) × (Nat → Nat)} {m k : Nat} {p : Int} (hM : LM S m) (hB : Bas A m p) (hR : RC A m p) (hp : 1 < p) (hp2 : p < 10000) (hk : k ≤ 60) (hk2 : k % 2 = 0) :
    ∃ A' : ZA, f_X12_laysRows m (ii (k : Int)) (mz S A B c) = some ((), mz S A' B c) ∧ A' m 7 = (k : Int) ∧ Rok A' m p k ∧ (∀ i, i ≠ 7 → A' m i = A m i) ∧ (∀ x, x ≠ m → x ≠ m + 4 → x ≠ m + 5 → x ≠ m + 6 → A' x = A x) := by
  have h7 : A m 7 = -1 ∨ ∃ k' : Nat, k' ≤ 60 ∧ A m 7 = (k' : Int) := by
    rcases hR with h | ⟨k', h1, h2, _⟩
    · exact Or.inl h
    · exact Or.inr ⟨k', h1, h2⟩
  have heq : ii (A m 7) = ii (k : Int) ↔ A m 7 = (k : Int) := by
    rcases h7 with h | ⟨k', h1, h2⟩
    · rw [h]; exact i_eq (by omega) (by omega) (by omega) (by omega)
    · rw [h2]; exact i_eq (by omega) (by omega) (by omega) (by omega)
  unfold f_X12_laysRows
  simp only [MI7 hM, Option.bind_some, heq]
  by_cases q : A m 7 = (k : Int)
  · rw [if_pos q]
    refine ⟨A, rfl, q, ?_, fun _ _ => rfl, fun _ _ _ _ _ => rfl⟩
    rcases hR with h | ⟨k', h1, h2, h3⟩
    · omega
    · have e : k' = k := by omega
      rw [← e]; exact h3
  · rw [if_neg q, MP7 hM]
    simp only [Option.bind_some]
    generalize hA0 : za A m (up (A m) 7 (k : Int)) = A0
    have m0 : ∀ i, i ≠ 7 → A0 m i = A m i := fun i hi => by rw [← hA0, za_at, up_ne _ _ hi]
    have m7 : A0 m 7 = (k : Int) := by rw [← hA0, za_at, up_at]
    have x0 : ∀ x, x ≠ m → A0 x = A x := fun x hx => by rw [← hA0, za_ne _ _ hx]
    have key := z_run (S := S) (B := B) (c := c) (f := f_X12_laysRows_L16 m (ii (k : Int))) (fun i => ii (i : Int)) (fun j A' => (∀ j', j' < j → ∀ n, n < 181 → A' (m + 6) (181 * j' + n) = rwx p k j' n) ∧ (∀ x, x ≠ m + 4 → x ≠ m + 5 → x ≠ m + 6 → A' x = A0 x)) (Lk k) (t := ii ((Lk k : Nat) : Int)) (by have := Lk_r hk; omega) (fun j hj A1 ⟨h1, h2⟩ => by
      have hL := Lk_r hk
      have Lk1 : Lk k = if k % 12 = 2 then k / 12 else k / 12 + 1 := rfl
      have hjk : 12 * j + 6 * (k % 4 / 2) ≤ k := by split at Lk1 <;> omega
      unfold f_X12_laysRows_L16
      rw [m_long _ hk]
      have eb : (k - 12 * j) % 4 / 2 = bk k := by unfold bk; omega
      have ea : (k - 12 * j - 6 * bk k) / 4 = ak k j := rfl
      have hb : bk k < 100 := by unfold bk; omega
      have hbb : bk k = k % 4 / 2 := rfl
      have ha : ak k j < 100 := by unfold ak; omega
      simp (disch := omega) only [Option.bind_some, n_le, show ¬ (Lk k ≤ j) by omega, ↓reduceIte, k12, k4, k2, k6, k0, k1, n_mul, n_sub, n_rem, n_div, ea, eb]
      rw [m_one _ _ _ _ hM]
      simp only [Option.bind_some]
      obtain ⟨A2, e2, g1, g2⟩ := m_rowL (A := za A1 (m + 4) (mo (dl 0) (A1 (m + 4)) 0 181)) (B := B) (c := c) (a := ak k j) (b := bk k) (j := j) (p := p) (ii (k : Int)) hM ⟨by rw [za_ne _ _ (by omega), h2 _ (by omega) (by omega) (by omega), m0 _ (by omega)]; exact hB.1, fun n hn => by rw [za_ne _ _ (by omega), za_ne _ _ (by omega), za_ne _ _ (by omega), h2 _ (by omega) (by omega) (by omega), h2 _ (by omega) (by omega) (by omega), h2 _ (by omega) (by omega) (by omega), x0 _ (by omega), x0 _ (by omega), x0 _ (by omega)]; exact hB.2 n hn⟩ hp hp2 ha hb (by omega) (fun n hn => by rw [za_at, mo_0in _ _ hn])
      rw [e2]
      simp only [Option.bind_some, MR5 hM, MR8 hM, k181, n_mul]
      rw [m_copies (MS4 hM) (MS6 hM) (by omega) (by omega) (by omega) (by omega) (by omega)]
      simp only [Option.bind_some, n_add]
      refine ⟨_, rfl, fun j' hj' n hn => ?_, fun x x1 x2 x3 => ?_⟩
      · rw [za_at]
        by_cases e : j' = j
        · subst e
          rw [mo_in _ _ hn, Nat.zero_add, g1 n hn, itp_3 hp]
          rfl
        · rw [mo_out _ _ (by omega), g2 _ (by omega) (by omega), za_ne _ _ (by omega)]
          exact h1 j' (by omega) n hn
      · rw [za_ne _ _ x3, g2 x x1 x2, za_ne _ _ x1, h2 x x1 x2 x3]) (fun A1 _ => by
      unfold f_X12_laysRows_L16
      rw [m_long _ hk]
      have hL := Lk_r hk
      simp (disch := omega) only [Option.bind_some, n_le, Nat.le_refl, ↓reduceIte]) (A0 := A0) ⟨fun j' hj' => by omega, fun _ _ _ _ => rfl⟩
    obtain ⟨A', e, g1, g2⟩ := key
    have e' : jloop (f_X12_laysRows_L16 m (ii (k : Int))) jF (0 : Int32) (mz S A0 B c) = some (ii ((Lk k : Nat) : Int), mz S A' B c) := e
    rw [e']
    refine ⟨A', rfl, ?_, g1, fun i hi => ?_, fun x x1 x2 x3 x4 => ?_⟩
    · rw [g2 m (by omega) (by omega) (by omega), m7]
    · rw [g2 m (by omega) (by omega) (by omega), m0 i hi]
    · rw [g2 x x2 x3 x4, x0 x x1]
