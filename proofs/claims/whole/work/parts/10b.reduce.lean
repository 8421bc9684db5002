/-! The class: rows of a space made clean. -/
/-- rows of a space: n of them, one behind the other -/
def spS (S : SS) (s q r n : Nat) : Prop := S s = some (.inl (5, 8, rSp q r)) ∧ S q = some (.inr (.inr (.inl (.array .int, n, fun i => if i < n then some (q + 1 + i) else none)))) ∧ ∀ i, i < n → S (q + 1 + i) = some (.inr (.inl (.int, 181)))
theorem sp_row {S : SS} {A B : ZA} {c : (Nat × Nat) × (Nat → Nat)} {s q r n i : Nat} (h : spS S s q r n) (hi : i < n) (hn : n < 100) : jaR (mz S A B c) q (ii (i : Int)) = some (q + 1 + i) := by
  rw [jaR_n h.2.1 rfl hi (by omega), if_pos hi]
theorem spS_ne {S : SS} {s q r n i : Nat} (h : spS S s q r n) (hi : i < n) : s ≠ q + 1 + i := fun e => by
  have h1 := h.1
  have h2 := h.2.2 i hi
  rw [e] at h1; rw [h1] at h2; cases h2
/-- the j-th row from the i-th: what stands ahead of j is clean -/
def cln (p : Int) (k i j : Nat) (f : Nat → Int) : Prop := VV p k f ∧ ∀ n, n < Lk k → (n ≤ i ∨ n < j) → f n = dl i n
theorem VV_r {p : Int} (hp : 1 < p) {k : Nat} {f : Nat → Int} (h : VV p k f) (n : Nat) : 0 ≤ f n ∧ f n < p := by
  rw [← VV_ser h]; exact ser_r (by omega) _ n
theorem cln_step {p : Int} (hE : EH p) {k i j : Nat} (hk : k ≤ 60) (hi : i < j) (hj : j < Lk k) {f : Nat → Int} (h : cln p k i j f) : cln p k i (j + 1) (ad p f (sc p (-f j) (ex p k (dl j)))) := by
  have hL := Lk_r hk
  refine ⟨VV_ad h.1 (VV_sc _ (ex_V p k _)), fun n hn hc => ?_⟩
  have hd : (0 : Int) ≤ dl i n ∧ dl i n < p := by have := hE.1; unfold dl; split <;> omega
  unfold ad sc
  rw [ser_at (by omega), ser_at (by omega), em_add_r, ex_first hE hk _ hn]
  by_cases q : n = j
  · subst q
    have e1 : dl n n = 1 := by simp [dl]
    have e2 : dl i n = 0 := by unfold dl; rw [if_neg (by omega)]
    rw [e1, e2, show (1 : Int) % p = 1 from Int.emod_eq_of_lt (by decide) hE.1, show f n + -f n * 1 = 0 by omega]; rfl
  · have e1 : dl j n = 0 := by unfold dl; rw [if_neg q]
    rw [e1, Int.zero_emod, Int.mul_zero, Int.add_zero, h.2 n hn (by omega)]
    exact Int.emod_eq_of_lt hd.1 hd.2
theorem cln_end {p : Int} (hE : EH p) {k i : Nat} (hk : k ≤ 60) {f : Nat → Int} (h : cln p k i (Lk k) f) : f = ex p k (dl i) :=
  (ex_self hE hk h.1 fun n hn => by
    rw [h.2 n hn (Or.inr hn)]
    have : (0 : Int) ≤ dl i n ∧ dl i n < p := by have := hE.1; unfold dl; split <;> omega
    exact Int.emod_eq_of_lt this.1 this.2).symm
/-- memory: row i is f up to l -/
abbrev isr (A : ZA) (a l : Nat) (f : Nat → Int) : Prop := ∀ n, n ≤ l → A a n = f n
theorem x_reduce1 {S : SS} {A B : ZA} {c : (Nat × Nat) × (Nat → Nat)} {s q r k i l : Nat} {p : Int} {X : Nat → Int} (hs : spS S s q r (Lk k)) (h3 : A s 3 = p) (h4 : A s 4 = (l : Int)) (h1 : A s 1 = ((Lk k : Nat) : Int)) (hl : l ≤ 180) (hl6 : 6 ≤ l) (hE : EH p) (hp2 : p < 10000) (hk : k ≤ 60) (hi : i < Lk k) (hX : cln p k i (i + 1) X) (hr : isr A (q + 1 + i) l X) (hc : ∀ j, i < j → j < Lk k → isr A (q + 1 + j) l (ex p k (dl j))) :
    ∃ A' : ZA, jloop (f_X7_reduce_L15 s (ii (i : Int))) jF (ii ((i + 1 : Nat) : Int)) (mz S A B c) = some (ii ((Lk k : Nat) : Int), mz S A' B c) ∧ isr A' (q + 1 + i) l (ex p k (dl i)) ∧ (∀ x, x ≠ q + 1 + i → A' x = A x) := by
  have hp := hE.1
  have hL := Lk_r hk
  have hne := spS_ne hs hi
  have key := z_run (S := S) (B := B) (c := c) (f := f_X7_reduce_L15 s (ii (i : Int))) (fun j => ii ((i + 1 + j : Nat) : Int)) (fun j A' => ∃ Y, cln p k i (i + 1 + j) Y ∧ isr A' (q + 1 + i) l Y ∧ (∀ x, x ≠ q + 1 + i → A' x = A x)) (Lk k - (i + 1)) (t := ii ((Lk k : Nat) : Int)) (by omega) (fun j hj A1 ⟨Y, y1, y2, y3⟩ => by
    have hj' : i + 1 + j < Lk k := by omega
    have yr := VV_r hp y1.1
    have hrow : A1 (q + 1 + i) (i + 1 + j) = Y (i + 1 + j) := y2 _ (by omega)
    unfold f_X7_reduce_L15
    simp (disch := omega) only [PI1 hs.1, PR2 hs.1, Pv hs.1, y3 s hne, h1, Option.bind_some, n_le, show ¬ (Lk k ≤ i + 1 + j) by omega, ↓reduceIte, sp_row hs, jaI_n (hs.2.2 i hi), hrow]
    rw [x_subr (f := Y) (g := ex p k (dl (i + 1 + j))) hs.1 (by rw [y3 s hne]; exact h3) (by rw [y3 s hne]; exact h4) hl hp hp2 (hs.2.2 i hi) (hs.2.2 _ hj') (by omega) (yr _) (fun n hn => ⟨y2 n hn, yr n⟩) (fun n hn => ⟨by rw [y3 _ (by omega)]; exact hc _ (by omega) hj' n hn, ex_r hp k _ n⟩)]
    simp only [Option.bind_some, k1, n_add]
    exact ⟨_, rfl, _, cln_step hE hk (by omega) hj' y1, fun n hn => by rw [za_at, mo_0in _ _ (by omega)], fun x hx => by rw [za_ne _ _ hx, y3 x hx]⟩) (fun A1 ⟨Y, _, _, y3⟩ => by
    unfold f_X7_reduce_L15
    rw [show i + 1 + (Lk k - (i + 1)) = Lk k by omega]
    simp (disch := omega) only [PI1 hs.1, y3 s hne, h1, Option.bind_some, n_le, Nat.le_refl, ↓reduceIte]) (A0 := A) ⟨X, hX, hr, fun _ _ => rfl⟩
  obtain ⟨A', e, Y, y1, y2, y3⟩ := key
  rw [show i + 1 + (Lk k - (i + 1)) = Lk k by omega] at y1
  have := cln_end hE hk y1
  subst this
  exact ⟨A', e, y2, y3⟩
theorem x_reduce {S : SS} {A B : ZA} {c : (Nat × Nat) × (Nat → Nat)} {s q r k l : Nat} {p : Int} {X : Nat → Nat → Int} (hs : spS S s q r (Lk k)) (h3 : A s 3 = p) (h4 : A s 4 = (l : Int)) (h1 : A s 1 = ((Lk k : Nat) : Int)) (hl : l ≤ 180) (hl6 : 6 ≤ l) (hE : EH p) (hp2 : p < 10000) (hk : k ≤ 60) (hL2 : 2 ≤ Lk k) (hX : ∀ i, i < Lk k → VV p k (X i) ∧ lead (X i) i) (hr : ∀ i, i < Lk k → isr A (q + 1 + i) l (X i)) :
    ∃ A' : ZA, f_X7_reduce s (mz S A B c) = some ((), mz S A' B c) ∧ (∀ i, i < Lk k → isr A' (q + 1 + i) l (ex p k (dl i))) ∧ (∀ x, (∀ i, i < Lk k → x ≠ q + 1 + i) → A' x = A x) := by
  have hL := Lk_r hk
  have hcl : ∀ i, i < Lk k → cln p k i (i + 1) (X i) := fun i hi => ⟨(hX i hi).1, fun n hn hc => by
    by_cases e : n = i
    · subst e; rw [(hX n hi).2.2]; simp [dl]
    · rw [(hX i hi).2.1 n (by omega)]; simp [dl, e]⟩
  have last : X (Lk k - 1) = ex p k (dl (Lk k - 1)) := cln_end hE hk (by have := hcl (Lk k - 1) (by omega); rw [show Lk k - 1 + 1 = Lk k by omega] at this; exact this)
  have key := z_run (S := S) (B := B) (c := c) (f := f_X7_reduce_L7 s) (fun j => ii (((Lk k - 1 : Nat) : Int) - 1 - (j : Int))) (fun j A' => (∀ i, i < Lk k → isr A' (q + 1 + i) l (if Lk k - 1 - j ≤ i then ex p k (dl i) else X i)) ∧ (∀ x, (∀ i, i < Lk k → x ≠ q + 1 + i) → A' x = A x)) (Lk k - 1) (t := ii (-1)) (by omega) (fun j hj A1 ⟨y1, y2⟩ => by
    have es : A1 s = A s := y2 s (fun i hi => spS_ne hs hi)
    have hz : ((Lk k - 1 : Nat) : Int) - 1 - (j : Int) = ((Lk k - 2 - j : Nat) : Int) := by omega
    have hz2 : ((Lk k - 1 : Nat) : Int) - 1 - ((j + 1 : Nat) : Int) = ((Lk k - 2 - j : Nat) : Int) + -1 := by omega
    obtain ⟨A2, e2, w1, w2⟩ := x_reduce1 (A := A1) (B := B) (c := c) (i := Lk k - 2 - j) (X := X (Lk k - 2 - j)) hs (by rw [es]; exact h3) (by rw [es]; exact h4) (by rw [es]; exact h1) hl hl6 hE hp2 hk (by omega) (hcl _ (by omega)) (by have := y1 (Lk k - 2 - j) (by omega); rw [if_neg (by omega)] at this; exact this) (fun i h h' => by have := y1 i h'; rw [if_pos (by omega)] at this; exact this)
    refine ⟨A2, ?_, fun i hi => ?_, fun x hx => by rw [w2 x (hx _ (by omega)), y2 x hx]⟩
    · unfold f_X7_reduce_L7
      rw [hz, hz2]
      simp (disch := omega) only [k0, n_lt, show ¬ (Lk k - 2 - j < 0) by omega, ↓reduceIte, k1, n_add, e2, Option.bind_some]
      rw [show -ii ((1 : Nat) : Int) = ii (-1) from rfl, ii_add]
    · by_cases e : i = Lk k - 2 - j
      · rw [if_pos (by omega), e]; exact w1
      · have h := y1 i hi
        have hsame : isr A2 (q + 1 + i) l (if Lk k - 1 - j ≤ i then ex p k (dl i) else X i) := fun n hn => by rw [w2 _ (by omega)]; exact h n hn
        by_cases g : Lk k - 1 - j ≤ i
        · rw [if_pos g] at hsame; rw [if_pos (by omega)]; exact hsame
        · rw [if_neg g] at hsame; rw [if_neg (by omega)]; exact hsame) (fun A1 _ => by
    unfold f_X7_reduce_L7
    rw [show ((Lk k - 1 : Nat) : Int) - 1 - ((Lk k - 1 : Nat) : Int) = -1 by omega, if_pos (by decide)]) (A0 := A) ⟨fun i hi => by
      by_cases g : Lk k - 1 - 0 ≤ i
      · have e : i = Lk k - 1 := by omega
        rw [if_pos g, e, ← last]; exact hr _ (by omega)
      · rw [if_neg g]; exact hr i hi, fun _ _ => rfl⟩
  obtain ⟨A', e, y1, y2⟩ := key
  unfold f_X7_reduce
  simp (disch := omega) only [PI1 hs.1, h1, Option.bind_some, k2, n_sub]
  rw [show ((Lk k - 1 : Nat) : Int) - 1 - ((0 : Nat) : Int) = ((Lk k - 2 : Nat) : Int) by omega] at e
  rw [e]
  exact ⟨A', rfl, fun i hi => by have := y1 i hi; rw [if_pos (by omega)] at this; exact this, y2⟩
