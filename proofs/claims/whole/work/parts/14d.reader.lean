/-! The class's reader: what stands at the token that is read, steps, faults, names. -/
/-- a let: the place of its name, its weight, its row -/
abbrev LT : Type := Nat → Nat × Nat × (Nat → Int)
def FL (T : Nat → Int) (n nl : Nat) (L : LT) (v : Int) : Option (Nat × (Nat → Int)) := if fnd (fun i => vlx T n (L i).1 = v) nl 0 < nl then some (L (fnd (fun i => vlx T n (L i).1 = v) nl 0)).2 else none
def kn : Nat → Nat → Int
  | 0 => ie 240 3
  | 1 => ie (-504) 5
  | _ => tau
theorem kn_r : ∀ i, i < 3 → ∀ k, k < 6 → -10000000 ≤ kn i k ∧ kn i k ≤ 10000000 := by decide +kernel
def KN (S : SS) (A : ZA) (c : (Nat × Nat) × (Nat → Nat)) (b : Nat) : Prop := ∀ i, i < 3 → c.2 i < b ∧ S (c.2 i) = some (.inr (.inr (.inr 6))) ∧ ∀ k, k < 6 → A (c.2 i) k = kn i k
def CS (S : SS) (A : ZA) (c : (Nat × Nat) × (Nat → Nat)) (b : Nat) (T : Nat → Int) (n : Nat) (p : Int) (nl : Nat) (L : LT) : Prop :=
  KN S A c b ∧ TOK A b T n ∧ n ≤ 600 ∧ A (b + 155) 1 = p ∧ A (b + 155) 2 = (nl : Int) ∧ nl ≤ 6 ∧ ∀ i, i < nl → ((L i).1 < n ∧ isF p (L i).2.1 (L i).2.2) ∧ A (b + 169) i = vlx T n (L i).1 ∧ A (b + 156 + 1 + 2 * i) 0 = (((L i).2.1 : Nat) : Int) ∧ ∀ k, k < 6 → A (b + 156 + 2 + 2 * i) k = (L i).2.2 k
/-- what reading may change -/
def PF (b : Nat) (A A' : ZA) (s r w : Nat) : Prop := (∀ x, (x < b + 155 ∨ (b + 155 < x ∧ x < b + 175) ∨ b + 232 < x) → A' x = A x) ∧ (∀ k, k ≠ 0 → k ≠ 6 → A' (b + 155) k = A (b + 155) k) ∧ (∀ x, b + 175 ≤ x → x < b + 175 + 2 * s → A' x = A x) ∧ (∀ x, b + 194 ≤ x → x < b + 194 + 2 * r → A' x = A x) ∧ (∀ x, b + 213 ≤ x → x < b + 213 + 2 * w → A' x = A x)
theorem PF_refl (b : Nat) (A : ZA) (s r w : Nat) : PF b A A s r w := ⟨fun _ _ => rfl, fun _ _ _ => rfl, fun _ _ _ => rfl, fun _ _ _ => rfl, fun _ _ _ => rfl⟩
theorem PF_trans {b : Nat} {A A' A'' : ZA} {s r w s' r' w' : Nat} (h : PF b A A' s r w) (h' : PF b A' A'' s' r' w') (hs : s ≤ s') (hr : r ≤ r') (hw : w ≤ w') : PF b A A'' s r w :=
  ⟨fun x hx => by rw [h'.1 x hx, h.1 x hx], fun k h1 h2 => by rw [h'.2.1 k h1 h2, h.2.1 k h1 h2], fun x h1 h2 => by rw [h'.2.2.1 x h1 (by omega), h.2.2.1 x h1 h2], fun x h1 h2 => by rw [h'.2.2.2.1 x h1 (by omega), h.2.2.2.1 x h1 h2], fun x h1 h2 => by rw [h'.2.2.2.2 x h1 (by omega), h.2.2.2.2 x h1 h2]⟩
theorem PF_mono {b : Nat} {A A' : ZA} {s r w s' r' w' : Nat} (h : PF b A A' s' r' w') (hs : s ≤ s') (hr : r ≤ r') (hw : w ≤ w') : PF b A A' s r w := PF_trans (PF_refl b A s r w) h hs hr hw
theorem PF_k {b : Nat} {A : ZA} {s r w k : Nat} {v : Int} (hk : k = 0 ∨ k = 6) : PF b A (za A (b + 155) (up (A (b + 155)) k v)) s r w :=
  ⟨fun x hx => za_ne _ _ (by omega), fun j h1 h2 => by rw [za_at, up_ne _ _ (by omega)], fun x h1 h2 => za_ne _ _ (by omega), fun x h1 h2 => za_ne _ _ (by omega), fun x h1 h2 => za_ne _ _ (by omega)⟩
/-- one form changed -/
theorem PF_f {b f : Nat} {A A' : ZA} {s r w : Nat} (hA : ∀ x, x ≠ f → x ≠ f + 1 → A' x = A x) (hf : (b + 175 + 2 * s ≤ f ∧ f + 1 < b + 193) ∨ (b + 194 + 2 * r ≤ f ∧ f + 1 < b + 212) ∨ (b + 213 + 2 * w ≤ f ∧ f + 1 ≤ b + 232)) (hs : s ≤ 9) (hr : r ≤ 9) (hw : w ≤ 9) : PF b A A' s r w :=
  ⟨fun x hx => hA x (by omega) (by omega), fun j h1 h2 => by rw [hA _ (by omega) (by omega)], fun x h1 h2 => hA x (by omega) (by omega), fun x h1 h2 => hA x (by omega) (by omega), fun x h1 h2 => hA x (by omega) (by omega)⟩
theorem CS_PF {S : SS} {A A' : ZA} {c : (Nat × Nat) × (Nat → Nat)} {b : Nat} {T : Nat → Int} {n : Nat} {p : Int} {nl : Nat} {L : LT} {s r w : Nat} (h : CS S A c b T n p nl L) (f : PF b A A' s r w) : CS S A' c b T n p nl L := by
  obtain ⟨h1, h2, h3, h4, h5, h6, h7⟩ := h
  obtain ⟨f1, f2, -⟩ := f
  refine ⟨fun i hi => ⟨(h1 i hi).1, (h1 i hi).2.1, fun k hk => by rw [f1 _ (Or.inl (by have := (h1 i hi).1; omega))]; exact (h1 i hi).2.2 k hk⟩, ?_, h3, by rw [f2 1 (by omega) (by omega)]; exact h4, by rw [f2 2 (by omega) (by omega)]; exact h5, h6, fun i hi => ?_⟩
  · unfold TOK
    rw [f1 (b + 170) (by omega), f1 (b + 171) (by omega), f1 (b + 172) (by omega), f1 (b + 173) (by omega)]
    exact h2
  · rw [f1 (b + 169) (by omega), f1 (b + 156 + 1 + 2 * i) (by omega), f1 (b + 156 + 2 + 2 * i) (by omega)]
    exact h7 i hi
def rb (r : PRs) : Nat := Sum.elim (fun _ => 0) (fun _ => 1) r
def RX (A : ZA) (b : Nat) (T : Nat → Int) (f : Nat) (r : PRs) : Prop := Sum.elim (fun (g : Nat) => A (b + 155) 0 = (g : Int)) (fun s => A (b + 155) 6 = ((tcn T s.1 : Nat) : Int) ∧ A f 0 = ((s.2.1 : Nat) : Int) ∧ ∀ k, k < 6 → A (f + 1) k = s.2.2 k) r
/-- a reading method has come back -/
def COK (S : SS) (B : ZA) (c : (Nat × Nat) × (Nat → Nat)) (b : Nat) (T : Nat → Int) (r : PRs) (A : ZA) (s t w f : Nat) (res : Option (Int32 × JH)) : Prop := ∃ A' : ZA, res = some (ii ((rb r : Nat) : Int), mz S A' B c) ∧ PF b A A' s t w ∧ RX A' b T f r
section rd
variable {S : SS} {A B : ZA} {c : (Nat × Nat) × (Nat → Nat)} {b n nl : Nat} {T : Nat → Int} {p : Int} {L : LT} {q d : Nat}
theorem COK_fail {s t w f g : Nat} {res : Option (Int32 × JH)} (h : res = some (ii ((0 : Nat) : Int), mz S (za A (b + 155) (up (A (b + 155)) 0 ((g : Nat) : Int))) B c)) : COK S B c b T (.inl g) A s t w f res :=
  ⟨_, h, PF_k (Or.inl rfl), by show za A (b + 155) (up (A (b + 155)) 0 ((g : Nat) : Int)) (b + 155) 0 = _; rw [za_at, up_at]⟩
theorem COK_from {A1 : ZA} {r : PRs} {s t w s' t' w' f : Nat} {res : Option (Int32 × JH)} (h1 : PF b A A1 s t w) (h : COK S B c b T r A1 s' t' w' f res) (hs : s ≤ s') (ht : t ≤ t') (hw : w ≤ w') : COK S B c b T r A s t w f res := by
  obtain ⟨A', e, f1, f2⟩ := h
  exact ⟨A', e, PF_trans h1 f1 hs ht hw, f2⟩
theorem tok_A (hC : TOK A b T n) (ht : tok T n q) : A (b + 171) (tcn T q) = kdx T n q ∧ A (b + 172) (tcn T q) = (q : Int) := by
  rcases ht with rfl | ⟨h1, h2⟩
  · rw [kdx_end]; exact hC.2.2
  · exact ⟨(hC.2.1 q h1 h2).1, (hC.2.1 q h1 h2).2.1⟩
theorem x_kind (hX : LX S b) (hC : CS S A c b T n p nl L) (hi : A (b + 155) 6 = ((tcn T q : Nat) : Int)) (hq : q ≤ n) (ht : tok T n q) : f_X0_kind (b + 155) (mz S A B c) = some (ii (kdx T n q), mz S A B c) := by
  have h1 := tcn_le T q
  have h2 := hC.2.2.1
  have h3 := (tok_A hC.2.1 ht).1
  unfold f_X0_kind
  simp (disch := omega) only [DR5 hX, KR0 hX, DI6 hX, hi, Option.bind_some, jaI_n (L_knd hX), h3]
theorem x_value (hX : LX S b) (hC : CS S A c b T n p nl L) (hi : A (b + 155) 6 = ((tcn T q : Nat) : Int)) (hq : q < n) (ht : tok T n q) : f_X0_value (b + 155) (mz S A B c) = some (ii (vlx T n q), mz S A B c) := by
  have h1 := tcn_le T q
  have h2 := hC.2.2.1
  have h3 := (hC.2.1.2.1 q hq (tok_t ht hq)).2.2
  unfold f_X0_value
  simp (disch := omega) only [DR5 hX, KR2 hX, DI6 hX, hi, Option.bind_some, jaI_n (L_val hX), h3]
theorem x_valueE (hX : LX S b) (hC : CS S A c b T n p nl L) (hi : A (b + 155) 6 = ((tcn T q : Nat) : Int)) (hq : q ≤ n) : f_X0_value (b + 155) (mz S A B c) = some (ii (A (b + 173) (tcn T q)), mz S A B c) := by
  have h1 := tcn_le T q
  have h2 := hC.2.2.1
  unfold f_X0_value
  simp (disch := omega) only [DR5 hX, KR2 hX, DI6 hX, hi, Option.bind_some, jaI_n (L_val hX)]
theorem x_goOn (hX : LX S b) (hC : CS S A c b T n p nl L) (hi : A (b + 155) 6 = ((tcn T q : Nat) : Int)) (hq : q < n) (ht : tok T n q) : f_X0_goOn (b + 155) (mz S A B c) = some ((), mz S (za A (b + 155) (up (A (b + 155)) 6 ((tcn T (nxt T n q) : Nat) : Int))) B c) := by
  have h1 := tcn_le T q
  have h2 := hC.2.2.1
  have h3 := tcn_lt (T := T) hq (tok_t ht hq)
  have h5 := tcn_le T n
  have h4 := (nxt_ok hq (tok_t ht hq)).2.2.2
  unfold f_X0_goOn
  simp (disch := omega) only [DI6 hX, hi, Option.bind_some, DR5 hX, KI3 hX, hC.2.1.1, n_le, show ¬ (tcn T n ≤ tcn T q) by omega, ↓reduceIte, k1, n_add, DP6 hX, h4]
theorem x_fail (hX : LX S b) (hC : CS S A c b T n p nl L) (hq : q ≤ n) (ht : tok T n q) (k : Nat) : f_X0_fail (b + 155) (ii (k : Int)) (ii ((tcn T q : Nat) : Int)) (mz S A B c) = some (ii ((0 : Nat) : Int), mz S (za A (b + 155) (up (A (b + 155)) 0 ((8 * q + k : Nat) : Int))) B c) := by
  have h1 := tcn_le T q
  have h2 := hC.2.2.1
  have h3 := (tok_A hC.2.1 ht).2
  unfold f_X0_fail
  simp (disch := omega) only [DR5 hX, KR1 hX, Option.bind_some, jaI_n (L_plc hX), h3, k8, n_mul, n_add, DP0 hX, k0]
theorem x_expY (hX : LX S b) (hC : CS S A c b T n p nl L) (hi : A (b + 155) 6 = ((tcn T q : Nat) : Int)) (ht : tok T n q) {k : Nat} (hk : kdx T n q = (k : Int)) (hk0 : k ≠ 0) : f_X0_expect (b + 155) (ii (k : Int)) (mz S A B c) = some (ii ((1 : Nat) : Int), mz S (za A (b + 155) (up (A (b + 155)) 6 ((tcn T (nxt T n q) : Nat) : Int))) B c) := by
  have hq : q < n := kdx_n (T := T) (by omega)
  unfold f_X0_expect
  simp (disch := omega) only [Dv hX, x_kind hX hC hi (show q ≤ n by omega) ht, Option.bind_some, hk, ↓reduceIte, x_goOn hX hC hi hq ht, k1]
theorem x_expN (hX : LX S b) (hC : CS S A c b T n p nl L) (hi : A (b + 155) 6 = ((tcn T q : Nat) : Int)) (hq : q ≤ n) (ht : tok T n q) {k : Nat} (hk : kdx T n q ≠ (k : Int)) (hk0 : k < 1000) : f_X0_expect (b + 155) (ii (k : Int)) (mz S A B c) = some (ii ((0 : Nat) : Int), mz S (za A (b + 155) (up (A (b + 155)) 0 ((8 * q + 1 : Nat) : Int))) B c) := by
  have hr := kdx_r T n q
  unfold f_X0_expect
  simp (disch := omega) only [Dv hX, x_kind hX hC hi hq ht, Option.bind_some, i_eq, hk, ↓reduceIte, DI6 hX, hi, k1, x_fail hX hC hq ht, jzb_n (Or.inl rfl)]
theorem x_find (hX : LX S b) (hC : CS S A c b T n p nl L) {v : Int} (h1 : -1 ≤ v) (h2 : v < 1073741824) : f_X0_findLet (b + 155) (ii v) (mz S A B c) = some (if fnd (fun i => vlx T n (L i).1 = v) nl 0 < nl then ii ((fnd (fun i => vlx T n (L i).1 = v) nl 0 : Nat) : Int) else ii (-1), mz S A B c) := by
  have h6 := hC.2.2.2.2.2.1
  have h5 := hC.2.2.2.2.1
  have key := fnd_run (h := mz S A B c) (f := f_X0_findLet_L2 (b + 155) (ii v)) (fun i => vlx T n (L i).1 = v) (fun j => if j < nl then Sum.inl (ii (j : Int)) else Sum.inr (ii (j : Int))) nl 0 (fun j _ hj hP => by
    obtain ⟨⟨g0, -⟩, g1, -⟩ := hC.2.2.2.2.2.2 j (by omega)
    have gr := vlx_r (T := T) g0
    unfold f_X0_findLet_L2
    simp (disch := omega) only [DI2 hX, h5, Option.bind_some, n_le, show ¬ (nl ≤ j) by omega, ↓reduceIte, DR4 hX, jaI_n (L_nam hX), g1, i_eq, hP, k1, n_add]) (fun j _ hj hP => by
    obtain ⟨⟨g0, -⟩, g1, -⟩ := hC.2.2.2.2.2.2 j (by omega)
    unfold f_X0_findLet_L2
    simp (disch := omega) only [DI2 hX, h5, Option.bind_some, n_le, show ¬ (nl ≤ j) by omega, ↓reduceIte, DR4 hX, jaI_n (L_nam hX), g1, hP, show j < nl by omega]) (by
    rw [Nat.zero_add, if_neg (Nat.lt_irrefl _)]
    unfold f_X0_findLet_L2
    simp (disch := omega) only [DI2 hX, h5, Option.bind_some, n_le, Nat.le_refl, ↓reduceIte]) jF (jF_big (by omega))
  have key' : jloop (f_X0_findLet_L2 (b + 155) (ii v)) jF (0 : Int32) (mz S A B c) = _ := key
  unfold f_X0_findLet
  rw [key']
  simp only [Option.bind_some]
  by_cases g : fnd (fun i => vlx T n (L i).1 = v) nl 0 < nl
  · rw [if_pos g, if_pos g]; rfl
  · rw [if_neg g, if_neg g]; rfl
theorem x_known (hX : LX S b) (hp : 0 < p) (hp2 : p < 10000) (hD : A (b + 155) 1 = p) {f a w : Nat} (hf : fm S f (f + 1)) (ha : S a = some (.inr (.inr (.inr 6)))) (hr : ∀ k, k < 6 → -10000000 ≤ A a k ∧ A a k ≤ 10000000) : ∃ A' : ZA, f_X0_setKnown (b + 155) f (ii (w : Int)) a (mz S A B c) = some ((), mz S A' B c) ∧ A' f 0 = (w : Int) ∧ (∀ k, k < 6 → A' (f + 1) k = A a k % p) ∧ (∀ x, x ≠ f → x ≠ f + 1 → A' x = A x) := by
  have n1 : a ≠ f + 1 := fun e => by rw [e] at ha; rw [hf.2] at ha; cases ha
  have n2 : a ≠ f := fun e => by rw [e] at ha; rw [hf.1] at ha; cases ha
  have n3 : b + 155 ≠ f + 1 := fun e => by have := hf.2; rw [← e, L_oD hX] at this; cases this
  have n4 : b + 155 ≠ f := fun e => by have := hf.1; rw [← e, L_oD hX] at this; cases this
  have key := fill_run (S := S) (A := za A f (up (A f) 0 (w : Int))) (B := B) (c := c) (a := f + 1) (o := 0) (f := f_X0_setKnown_L8 (b + 155) f a) (fun k => A a k % p) 6 (by decide) (fun i hi => by
    have r1 := hr i hi
    unfold f_X0_setKnown_L8
    simp (disch := omega) only [k6, n_le, show ¬ (6 ≤ i) by omega, ↓reduceIte, FR hf, Option.bind_some, jaI_nr ha, za_ne, DI1 hX, hD, i_l, f_of']
    rw [jsI_m0 hf.2 hi (by omega) rfl]
    simp only [Option.bind_some, k1, n_add]) (by
    unfold f_X0_setKnown_L8
    simp (disch := omega) only [k6, n_le, Nat.le_refl, ↓reduceIte])
  unfold f_X0_setKnown
  rw [FP hf]
  simp only [Option.bind_some]
  rw [k0, key]
  refine ⟨_, rfl, by rw [za_ne _ _ (by omega), za_at, up_at], fun k hk => by rw [za_at, mo_0in _ _ hk], fun x h1 h2 => by rw [za_ne _ _ h2, za_ne _ _ h1]⟩
end rd
