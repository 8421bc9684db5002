/-! The class: all spaces, and one of them made. b: the object's address; the space of weight 2 i lies at b + 42 + 3 i. -/
def snn (g : Nat → Nat) : Nat → Nat
  | 0 => 0
  | n + 1 => snn g n + g n
theorem snn_upd {g g' : Nat → Nat} {n i v : Nat} (hi : i < n) (h : ∀ j, j ≠ i → g' j = g j) (hv : g' i = g i + v) : snn g' n = snn g n + v := by
  induction n with
  | zero => omega
  | succ n ih =>
    simp only [snn]
    by_cases e : i = n
    · subst e
      have : ∀ m, m ≤ i → snn g' m = snn g m := by
        intro m
        induction m with
        | zero => intro _; rfl
        | succ m ihm => intro hm; simp only [snn]; rw [ihm (by omega), h m (by omega)]
      rw [this i (Nat.le_refl _), hv]; omega
    · rw [ih (by omega), h n (fun q => e q.symm)]; omega
def sN (nb : Nat → Nat) : Nat := snn (fun i => if nb i = 0 then 0 else nb i + 1) 31
def sT (nb : Nat → Nat) : Nat := snn nb 31
def un (f : Nat → Nat) (i v : Nat) : Nat → Nat := fun j => if j = i then v else f j
def Made (A : ZA) (b : Nat) (bs nb : Nat → Nat) (i : Nat) (p : Int) (l : Nat) : Prop := PR p ∧ nb i = Lk (2 * i) ∧ A (b + 42 + 3 * i) 4 = (l : Int) ∧ (l = 36 ∨ l = 180) ∧ ∀ j, j < Lk (2 * i) → isr A (bs i + 1 + j) l (ex p (2 * i) (dl j))
def SPI (S : SS) (A : ZA) (N b : Nat) (bs nb : Nat → Nat) : Prop :=
  (∀ i, i < 31 → spS S (b + 42 + 3 * i) (bs i) (b + 44 + 3 * i) (nb i) ∧ (nb i = 0 ∨ nb i = Lk (2 * i)) ∧ bs i < N ∧ (∀ j, j < nb i → b + 321 ≤ bs i + 1 + j ∧ bs i + 1 + j < N)) ∧
  (∀ i i', i < 31 → i' < 31 → i ≠ i' → ∀ j j', j < nb i → j' < nb i' → bs i + 1 + j ≠ bs i' + 1 + j') ∧
  (∀ i, i < 31 → A (b + 42 + 3 * i) 0 = ((2 * i : Nat) : Int) ∧ A (b + 42 + 3 * i) 1 = ((Lk (2 * i) : Nat) : Int)) ∧
  (∀ i, i < 31 → A (b + 42 + 3 * i) 3 = 0 ∨ ∃ l, Made A b bs nb i (A (b + 42 + 3 * i) 3) l)
def SG (B : ZA) (b : Nat) (S : SS) (A : ZA) (c : (Nat × Nat) × (Nat → Nat)) (bs nb : Nat → Nat) : Prop := SPI S A c.1.1 b bs nb ∧ fresh A B c.1.1 ∧ b + 321 ≤ c.1.1
/-- nothing but the spaces' primes, lasts and rows has changed; what is used more is rows -/
def SR (b : Nat) (S : SS) (A : ZA) (c : (Nat × Nat) × (Nat → Nat)) (nb : Nat → Nat) (S' : SS) (A' : ZA) (c' : (Nat × Nat) × (Nat → Nat)) (nb' : Nat → Nat) : Prop :=
  (∀ x, x < b + 321 → (∀ i, i < 31 → x ≠ b + 42 + 3 * i) → S' x = S x ∧ A' x = A x) ∧ (∀ i, i < 31 → ∀ k, k ≠ 3 → k ≠ 4 → A' (b + 42 + 3 * i) k = A (b + 42 + 3 * i) k) ∧ c'.1.1 + sN nb = c.1.1 + sN nb' ∧ c'.1.2 + 182 * sT nb = c.1.2 + 182 * sT nb' ∧ c'.2 = c.2
theorem SR_refl (b : Nat) (S : SS) (A : ZA) (c) (nb : Nat → Nat) : SR b S A c nb S A c nb := ⟨fun _ _ _ => ⟨rfl, rfl⟩, fun _ _ _ _ _ => rfl, rfl, rfl, rfl⟩
theorem SR_trans {b : Nat} {S S' S'' : SS} {A A' A'' : ZA} {c c' c''} {nb nb' nb'' : Nat → Nat} (h : SR b S A c nb S' A' c' nb') (h' : SR b S' A' c' nb' S'' A'' c'' nb'') : SR b S A c nb S'' A'' c'' nb'' := by
  obtain ⟨h1, h2, h3, h4, h5⟩ := h
  obtain ⟨g1, g2, g3, g4, g5⟩ := h'
  refine ⟨fun x hx hn => ⟨by rw [(g1 x hx hn).1, (h1 x hx hn).1], by rw [(g1 x hx hn).2, (h1 x hx hn).2]⟩, fun i hi k k3 k4 => by rw [g2 i hi k k3 k4, h2 i hi k k3 k4], by omega, by omega, by rw [g5, h5]⟩
def Rdy (A : ZA) (b i : Nat) (p : Int) (l : Nat) : Prop := A (b + 42 + 3 * i) 3 = p ∧ ∃ l' : Nat, A (b + 42 + 3 * i) 4 = (l' : Int) ∧ l ≤ l'
theorem PR_p {p : Int} (h : PR p) : 101 ≤ p ∧ p < 10000 := ⟨h.1, by have := h.2.1; omega⟩
theorem Rdy_rows {S : SS} {A B : ZA} {b : Nat} {c} {bs nb : Nat → Nat} (h : SG B b S A c bs nb) {i : Nat} (hi : i < 31) {p : Int} (hp : PR p) {l : Nat} (hr : Rdy A b i p l) : nb i = Lk (2 * i) ∧ ∀ j, j < Lk (2 * i) → isr A (bs i + 1 + j) l (ex p (2 * i) (dl j)) := by
  obtain ⟨r1, l', r2, r3⟩ := hr
  rcases h.1.2.2.2 i hi with h0 | ⟨l2, m1, m2, m3, m4, m5⟩
  · have := hp.1; omega
  · have e : l2 = l' := by omega
    subst e
    rw [r1] at m5
    exact ⟨m2, fun j hj n hn => m5 j hj n (by omega)⟩
theorem SG_begin {S : SS} {A B : ZA} {b : Nat} {c : (Nat × Nat) × (Nat → Nat)} {bs nb : Nat → Nat} (h : SG B b S A c bs nb) {i l : Nat} (hi : i < 31) (hL : 1 ≤ Lk (2 * i)) {p : Int} (hP : PR p) (hl : l = 36 ∨ l = 180) :
    ∃ S1 q c1 A1, f_X7_begin (b + 42 + 3 * i) (ii p) (ii (l : Int)) (mz S A B c) = some ((), mz S1 A1 B c1) ∧ spS S1 (b + 42 + 3 * i) q (b + 44 + 3 * i) (Lk (2 * i)) ∧ (A1 (b + 42 + 3 * i) 0 = ((2 * i : Nat) : Int) ∧ A1 (b + 42 + 3 * i) 1 = ((Lk (2 * i) : Nat) : Int) ∧ A1 (b + 42 + 3 * i) 3 = p ∧ A1 (b + 42 + 3 * i) 4 = (l : Int)) ∧
      (∀ i', i' < 31 → i' ≠ i → spS S1 (b + 42 + 3 * i') (bs i') (b + 44 + 3 * i') (nb i') ∧ A1 (b + 42 + 3 * i') = A (b + 42 + 3 * i') ∧ ∀ j', j' < nb i' → A1 (bs i' + 1 + j') = A (bs i' + 1 + j') ∧ ∀ j, j < Lk (2 * i) → bs i' + 1 + j' ≠ q + 1 + j) ∧
      ∀ A2 : ZA, (∀ j, j < Lk (2 * i) → isr A2 (q + 1 + j) l (ex p (2 * i) (dl j))) → (∀ x, (∀ j, j < Lk (2 * i) → x ≠ q + 1 + j) → A2 x = A1 x) →
        ∃ bs1 nb1, SG B b S1 A2 c1 bs1 nb1 ∧ SR b S A c nb S1 A2 c1 nb1 ∧ Rdy A2 b i p l ∧ (∀ i', i' < 31 → i' ≠ i → A2 (b + 42 + 3 * i') = A (b + 42 + 3 * i')) := by
  obtain ⟨⟨I1, I2, I3, I4⟩, hF, hN⟩ := h
  obtain ⟨a1, a2, a3, a4⟩ := I1 i hi
  have hL6 := Lk_r (k := 2 * i) (by omega)
  obtain ⟨S1, q, c1, eB, s1, s2, s3, s4⟩ := x_begin (A := A) (B := B) (c := c) (l := l) (p := p) a1 a2 ⟨hL, hL6⟩ (I3 i hi).2 hF (by omega)
  have hob : ∀ x y : Nat, (∃ o, S x = some (.inl o)) → (∃ o, S y = some (.inr o)) → x ≠ y := fun x y ⟨o, ho⟩ ⟨o', ho'⟩ e => by rw [e, ho'] at ho; cases ho
  have hrow : ∀ j, j < Lk (2 * i) → b + 321 ≤ q + 1 + j ∧ q + 1 + j < c1.1.1 := fun j hj => by
    rcases s4 with ⟨e1, e2, e3⟩ | ⟨e1, e2, e3, _⟩
    · rw [e2, e3]; exact a4 j (by omega)
    · rw [e2, e3]; omega
  have hc1 : c.1.1 ≤ c1.1.1 := by
    rcases s4 with ⟨e1, e2, e3⟩ | ⟨e1, e2, e3, _⟩
    · rw [e3]; exact Nat.le_refl _
    · omega
  have hoth : ∀ i', i' < 31 → i' ≠ i → ∀ j', j' < nb i' → ∀ j, j < Lk (2 * i) → bs i' + 1 + j' ≠ q + 1 + j := fun i' hi' hne j' hj' j hj => by
    rcases s4 with ⟨e1, e2, e3⟩ | ⟨e1, e2, e3, _⟩
    · rw [e2]; exact I2 i' i hi' hi hne j' j hj' (by omega)
    · have := ((I1 i' hi').2.2.2 j' hj').2; omega
  have hsp : ∀ i', i' < 31 → i' ≠ i → spS S1 (b + 42 + 3 * i') (bs i') (b + 44 + 3 * i') (nb i') := fun i' hi' hne => by
    obtain ⟨b1, b2, b3, b4⟩ := I1 i' hi'
    refine ⟨?_, ?_, fun j hj => ?_⟩
    · rw [s2 _ (by omega) (by omega)]; exact b1.1
    · rw [s2 _ (fun e => hob _ _ ⟨_, a1.1⟩ ⟨_, b1.2.1⟩ e.symm) b3]; exact b1.2.1
    · have := b4 j hj
      rw [s2 _ (by omega) this.2]; exact b1.2.2 j hj
  refine ⟨S1, q, c1, za A (b + 42 + 3 * i) (up (up (A (b + 42 + 3 * i)) 3 p) 4 (l : Int)), eB, s1, ⟨?_, ?_, ?_, ?_⟩, fun i' hi' hne => ⟨hsp i' hi' hne, za_ne _ _ (by omega), fun j' hj' => ⟨za_ne _ _ (by have := (I1 i' hi').2.2.2 j' hj'; omega), hoth i' hi' hne j' hj'⟩⟩, fun A2 h1 h2 => ?_⟩
  · rw [za_at, up_ne _ _ (by omega), up_ne _ _ (by omega)]; exact (I3 i hi).1
  · rw [za_at, up_ne _ _ (by omega), up_ne _ _ (by omega)]; exact (I3 i hi).2
  · rw [za_at, up_ne _ _ (by omega), up_at]
  · rw [za_at, up_at]
  · have hx : ∀ x, (∀ j, j < Lk (2 * i) → x ≠ q + 1 + j) → x ≠ b + 42 + 3 * i → A2 x = A x := fun x hx hne => by rw [h2 x hx, za_ne _ _ hne]
    have hsi : A2 (b + 42 + 3 * i) = up (up (A (b + 42 + 3 * i)) 3 p) 4 (l : Int) := by
      rw [h2 _ (fun j hj => by have := hrow j hj; omega), za_at]
    have hso : ∀ i', i' < 31 → i' ≠ i → A2 (b + 42 + 3 * i') = A (b + 42 + 3 * i') := fun i' hi' hne => hx _ (fun j hj => by have := hrow j hj; omega) (by omega)
    have un1 : ∀ (f : Nat → Nat) (v : Nat), un f i v i = v := fun f v => if_pos rfl
    have un2 : ∀ (f : Nat → Nat) (v i' : Nat), i' ≠ i → un f i v i' = f i' := fun f v i' hne => if_neg hne
    refine ⟨un bs i q, un nb i (Lk (2 * i)), ⟨⟨fun i' hi' => ?_, fun i1 i2 hi1 hi2 hne j1 j2 hj1 hj2 => ?_, fun i' hi' => ?_, fun i' hi' => ?_⟩, fun a ha k => ?_, by omega⟩, ⟨fun x hx' hn => ⟨?_, ?_⟩, fun i' hi' k k3 k4 => ?_, ?_, ?_, s3⟩, ⟨by rw [hsi, up_ne _ _ (by omega), up_at], l, by rw [hsi, up_at], Nat.le_refl _⟩, hso⟩
    · by_cases e : i' = i
      · subst e
        rw [un1, un1]
        refine ⟨s1, Or.inr rfl, ?_, hrow⟩
        have := hrow 0 (by omega)
        omega
      · rw [un2 _ _ _ e, un2 _ _ _ e]
        obtain ⟨b1, b2, b3, b4⟩ := I1 i' hi'
        exact ⟨hsp i' hi' e, b2, by omega, fun j hj => by have := b4 j hj; omega⟩
    · by_cases e1 : i1 = i
      · subst e1
        rw [un1] at hj1 ⊢
        rw [un2 _ _ _ (fun e => hne e.symm)] at hj2 ⊢
        exact fun e => hoth i2 hi2 (fun e => hne e.symm) j2 hj2 j1 hj1 e.symm
      · rw [un2 _ _ _ e1] at hj1 ⊢
        by_cases e2 : i2 = i
        · subst e2
          rw [un1] at hj2 ⊢
          exact hoth i1 hi1 e1 j1 hj1 j2 hj2
        · rw [un2 _ _ _ e2] at hj2 ⊢
          exact I2 i1 i2 hi1 hi2 hne j1 j2 hj1 hj2
    · by_cases e : i' = i
      · subst e
        rw [hsi, up_ne _ _ (by omega), up_ne _ _ (by omega), up_ne _ _ (by omega), up_ne _ _ (by omega)]
        exact I3 i' hi'
      · rw [hso i' hi' e]; exact I3 i' hi'
    · by_cases e : i' = i
      · subst e
        refine Or.inr ⟨l, ?_⟩
        have e3 : A2 (b + 42 + 3 * i') 3 = p := by rw [hsi, up_ne _ _ (by omega), up_at]
        rw [e3]
        refine ⟨hP, un1 _ _, by rw [hsi, up_at], hl, ?_⟩
        rw [un1]
        exact h1
      · rw [hso i' hi' e]
        rcases I4 i' hi' with h0 | ⟨l2, m1, m2, m3, m4, m5⟩
        · exact Or.inl h0
        · refine Or.inr ⟨l2, m1, by rw [un2 _ _ _ e]; exact m2, by rw [hso i' hi' e]; exact m3, m4, fun j hj n hn => ?_⟩
          have hb := (I1 i' hi').2.2.2 j (by omega)
          rw [un2 _ _ _ e, hx _ (hoth i' hi' e j (by omega)) (by omega)]
          exact m5 j hj n hn
    · refine ⟨?_, (hF a (by omega) k).2⟩
      rw [hx a (fun j hj => by have := hrow j hj; omega) (by omega)]
      exact (hF a (by omega) k).1
    · exact s2 x (hn i hi) (by omega)
    · exact hx x (fun j hj => by have := hrow j hj; omega) (hn i hi)
    · by_cases e : i' = i
      · subst e; rw [hsi, up_ne _ _ k4, up_ne _ _ k3]
      · rw [hso i' hi' e]
    · rcases s4 with ⟨e1, e2, e3⟩ | ⟨e1, e2, e3, _⟩
      · have : un nb i (Lk (2 * i)) = nb := by funext j; unfold un; split; · rename_i e; rw [e, e1]
                                               · rfl
        rw [e3, this]
      · unfold sN
        rw [snn_upd (g := fun i => if nb i = 0 then 0 else nb i + 1) (g' := fun j => if un nb i (Lk (2 * i)) j = 0 then 0 else un nb i (Lk (2 * i)) j + 1) (v := Lk (2 * i) + 1) hi (fun j hj => by simp only [un2 _ _ _ hj]) (by simp only [un1, e1]; rw [if_neg (by omega)]; simp)]
        omega
    · rcases s4 with ⟨e1, e2, e3⟩ | ⟨e1, e2, e3, e4⟩
      · have : un nb i (Lk (2 * i)) = nb := by funext j; unfold un; split; · rename_i e; rw [e, e1]
                                               · rfl
        rw [e3, this]
      · unfold sT
        rw [snn_upd (g := nb) (g' := un nb i (Lk (2 * i))) (v := Lk (2 * i)) hi (fun j hj => un2 _ _ _ hj) (by rw [un1, e1]; omega)]
        omega
