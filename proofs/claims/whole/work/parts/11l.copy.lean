/-! Copies of shelves and registers: the class. -/
theorem z_run2 {S : SS} {c : (Nat × Nat) × (Nat → Nat)} {σ τ : Type} {f : σ → JH → Option ((σ ⊕ τ) × JH)} (st : Nat → σ) (Q : Nat → ZA → ZA → Prop) (N : Nat) {t : τ} (hN : N < 20000)
    (hs : ∀ i, i < N → ∀ A B, Q i A B → ∃ A' B', f (st i) (mz S A B c) = some (.inl (st (i + 1)), mz S A' B' c) ∧ Q (i + 1) A' B')
    (he : ∀ A B, Q N A B → f (st N) (mz S A B c) = some (.inr t, mz S A B c)) {A0 B0 : ZA} (h0 : Q 0 A0 B0) : ∃ A' B', jloop f jF (st 0) (mz S A0 B0 c) = some (t, mz S A' B' c) ∧ Q N A' B' := by
  obtain ⟨h', e, A', B', rfl, q⟩ := j_run (f := f) st (fun i h => ∃ A B, h = mz S A B c ∧ Q i A B) N hN (fun i hi h ⟨A, B, e, q⟩ => by
    subst e
    obtain ⟨A', B', e1, q1⟩ := hs i hi A B q
    exact ⟨_, e1, A', B', rfl, q1⟩) (fun h ⟨A, B, e, q⟩ => by subst e; exact he A B q) (h0 := mz S A0 B0 c) ⟨A0, B0, rfl, h0⟩
  exact ⟨A', B', e, q⟩
theorem jsJ_m {S : SS} {A B : ZA} {c} {a N o i : Nat} {G F : Nat → Int} {v : Int} (hS : S a = some (.inr (.inl (.long, N)))) (hk : o + i < N) (h31 : o + i < 2147483648) (hv : v = G i) : jsJ (mz S A (za B a (mo G F o i)) c) a (ii ((o + i : Nat) : Int)) (ll v) = some (mz S A (za B a (mo G F o (i + 1))) c) := by
  rw [jsJ_v hS hk h31, za_za, za_at, mo_up _ _ _ _ hv]
theorem jsB_m {S : SS} {A B : ZA} {c} {a N o i : Nat} {G F : Nat → Int} {v : Int} (hS : S a = some (.inr (.inl (.boolean, N)))) (hk : o + i < N) (h31 : o + i < 2147483648) (hv : v = G i) (h01 : v = 0 ∨ v = 1) : jsB (mz S (za A a (mo G F o i)) B c) a (ii ((o + i : Nat) : Int)) (ii v) = some (mz S (za A a (mo G F o (i + 1))) B c) := by
  rw [jsB_zb hS rfl hk h31 h01, za_za, za_at, mo_up _ _ _ _ hv]
theorem fill_runJ {S : SS} {A B : ZA} {c : (Nat × Nat) × (Nat → Nat)} {a o : Nat} {f : Int32 → JH → Option ((Int32 ⊕ Int32) × JH)} (G : Nat → Int) (N : Nat) (hN : N < 20000)
    (hs : ∀ i, i < N → f (ii (i : Int)) (mz S A (za B a (mo G (B a) o i)) c) = some (.inl (ii ((i + 1 : Nat) : Int)), mz S A (za B a (mo G (B a) o (i + 1))) c))
    (he : f (ii (N : Int)) (mz S A (za B a (mo G (B a) o N)) c) = some (.inr (ii (N : Int)), mz S A (za B a (mo G (B a) o N)) c)) :
    jloop f jF (ii ((0 : Nat) : Int)) (mz S A B c) = some (ii (N : Int), mz S A (za B a (mo G (B a) o N)) c) := by
  have key := jloop_run (f := f) (fun i => ii (i : Int)) (fun i => mz S A (za B a (mo G (B a) o i)) c) N hs he (jF_big hN)
  rw [mo_0, za_self] at key
  exact key
theorem x_copySh {S : SS} {A B : ZA} {c : (Nat × Nat) × (Nat → Nat)} {G G' s : Nat} (h : sg S G) (h' : sg S G') (hs : s < 2) (hd : G + 15 ≤ G' ∨ G' + 15 ≤ G) (ht : A (G' + 1 + 7 * s) 0 = 0 ∨ A (G' + 1 + 7 * s) 0 = 1) (hf : ∀ r, r < 4 → A (G' + 2 + 7 * s) r = 0 ∨ A (G' + 2 + 7 * s) r = 1) :
    ∃ A' B' : ZA, f_X6_copyFrom (G + 1 + 7 * s) (G' + 1 + 7 * s) (mz S A B c) = some ((), mz S A' B' c) ∧ A' (G + 1 + 7 * s) 0 = A (G' + 1 + 7 * s) 0 ∧ (∀ r, r < 4 → A' (G + 2 + 7 * s) r = A (G' + 2 + 7 * s) r) ∧ (∀ r, r < 4 → ∀ i, i < 13 → B' (G + 3 + 7 * s + 1 + r) i = B (G' + 3 + 7 * s + 1 + r) i) ∧ (∀ x, x ≠ G + 1 + 7 * s → x ≠ G + 2 + 7 * s → A' x = A x) ∧ (∀ x, (∀ r, r < 4 → x ≠ G + 3 + 7 * s + 1 + r) → B' x = B x) := by
  have k13 : (13 : Int32) = ii ((13 : Nat) : Int) := rfl
  have hz : jzb (ii (A (G' + 1 + 7 * s) 0)) = some () := by rcases ht with x | x <;> rw [x] <;> rfl
  unfold f_X6_copyFrom
  rw [sgI h' hs]
  simp only [Option.bind_some]
  rw [hz]
  simp only [Option.bind_some]
  rw [sgP h hs]
  simp only [Option.bind_some]
  have key := z_run2 (S := S) (c := c) (f := f_X6_copyFrom_L10 (G + 1 + 7 * s) (G' + 1 + 7 * s)) (fun t => ii (t : Int)) (fun t A' B' => A' (G + 1 + 7 * s) 0 = A (G' + 1 + 7 * s) 0 ∧ (∀ r, r < t → A' (G + 2 + 7 * s) r = A (G' + 2 + 7 * s) r) ∧ (∀ r, r < t → ∀ i, i < 13 → B' (G + 3 + 7 * s + 1 + r) i = B (G' + 3 + 7 * s + 1 + r) i) ∧ (∀ x, x ≠ G + 1 + 7 * s → x ≠ G + 2 + 7 * s → A' x = A x) ∧ (∀ x, (∀ r, r < 4 → x ≠ G + 3 + 7 * s + 1 + r) → B' x = B x)) 4 (t := ii ((4 : Nat) : Int)) (by omega) (fun t ht A1 B1 ⟨y1, y2, y3, y4, y5⟩ => by
    have e1 : A1 (G' + 2 + 7 * s) t = A (G' + 2 + 7 * s) t := by rw [y4 _ (by omega) (by omega)]
    have e2 : B1 (G' + 3 + 7 * s + 1 + t) = B (G' + 3 + 7 * s + 1 + t) := y5 _ (fun r hr => by omega)
    unfold f_X6_copyFrom_L10
    simp (disch := omega) only [k4, n_le, show ¬ (4 ≤ t) by omega, ↓reduceIte, sgR1 h, sgR1 h', sgF h', Option.bind_some, e1]
    rw [sgFs h hs ht (hf t ht)]
    simp (disch := omega) only [Option.bind_some, sgR2 h, sgR2 h', sgRR h, sgRR h', k0, k13]
    rw [jcJ_z ((h'.2 s hs).2.2.2 t ht) ((h.2 s hs).2.2.2 t ht) rfl rfl rfl (by omega) (by omega) (by omega) (by omega)]
    simp only [Option.bind_some, k1, n_add]
    refine ⟨_, _, rfl, ?_, fun r hr => ?_, fun r hr i hi => ?_, fun x x1 x2 => ?_, fun x hx => ?_⟩
    · rw [za_ne _ _ (by omega)]; exact y1
    · rw [za_at]
      by_cases q : r = t
      · subst q; rw [up_at]
      · rw [up_ne _ _ q]; exact y2 r (by omega)
    · by_cases q : r = t
      · subst q
        rw [za_at]
        unfold va_cpy
        rw [if_pos (by omega), show 0 + (i - 0) = i by omega, e2]
      · rw [za_ne _ _ (by omega)]; exact y3 r (by omega) i hi
    · rw [za_ne _ _ x2]; exact y4 x x1 x2
    · rw [za_ne _ _ (hx t ht)]; exact y5 x hx) (fun A1 B1 _ => by
    unfold f_X6_copyFrom_L10
    simp (disch := omega) only [k4, n_le, Nat.le_refl, ↓reduceIte]) (A0 := za A (G + 1 + 7 * s) (up (A (G + 1 + 7 * s)) 0 (A (G' + 1 + 7 * s) 0))) (B0 := B) ⟨by rw [za_at, up_at], fun r hr => by omega, fun r hr => by omega, fun x x1 _ => za_ne _ _ x1, fun _ _ => rfl⟩
  obtain ⟨A', B', e1, y⟩ := key
  have e1' : jloop (f_X6_copyFrom_L10 (G + 1 + 7 * s) (G' + 1 + 7 * s)) jF (0 : Int32) (mz S (za A (G + 1 + 7 * s) (up (A (G + 1 + 7 * s)) 0 (A (G' + 1 + 7 * s) 0))) B c) = some (ii ((4 : Nat) : Int), mz S A' B' c) := e1
  rw [e1']
  exact ⟨A', B', rfl, y⟩
/-- registers and shelves from one place to another -/
theorem x_copyAll {S : SS} {A B : ZA} {c : (Nat × Nat) × (Nat → Nat)} {F F' G G' : Nat} (hF : fg S F 4) (hF' : fg S F' 4) (hG : sg S G) (hG' : sg S G') (d1 : F + 9 ≤ F' ∨ F' + 9 ≤ F) (d2 : G + 15 ≤ G' ∨ G' + 15 ≤ G) (d3 : F + 9 ≤ G ∨ G + 15 ≤ F) (d4 : F + 9 ≤ G' ∨ G' + 15 ≤ F) (d5 : F' + 9 ≤ G ∨ G + 15 ≤ F') (ht : ∀ s, s < 2 → A (G' + 1 + 7 * s) 0 = 0 ∨ A (G' + 1 + 7 * s) 0 = 1) (hf : ∀ s, s < 2 → ∀ r, r < 4 → A (G' + 2 + 7 * s) r = 0 ∨ A (G' + 2 + 7 * s) r = 1) :
    ∃ A' B' : ZA, f_X3_copyAll F' G' F G (mz S A B c) = some ((), mz S A' B' c) ∧ (∀ r, r < 4 → A' (F + 1 + 2 * r) 0 = A (F' + 1 + 2 * r) 0 ∧ ∀ n, n < 6 → A' (F + 2 + 2 * r) n = A (F' + 2 + 2 * r) n) ∧ (∀ s, s < 2 → A' (G + 1 + 7 * s) 0 = A (G' + 1 + 7 * s) 0 ∧ (∀ r, r < 4 → A' (G + 2 + 7 * s) r = A (G' + 2 + 7 * s) r) ∧ (∀ r, r < 4 → ∀ i, i < 13 → B' (G + 3 + 7 * s + 1 + r) i = B (G' + 3 + 7 * s + 1 + r) i)) ∧ (∀ x, x < F ∨ F + 9 ≤ x → x < G ∨ G + 15 ≤ x → A' x = A x) ∧ (∀ x, x < G ∨ G + 15 ≤ x → B' x = B x) := by
  have key := z_run (S := S) (B := B) (c := c) (f := f_X3_copyAll_L3 F' G' F G) (fun t => ii (t : Int)) (fun t A' => (∀ r, r < t → A' (F + 1 + 2 * r) 0 = A (F' + 1 + 2 * r) 0 ∧ ∀ n, n < 6 → A' (F + 2 + 2 * r) n = A (F' + 2 + 2 * r) n) ∧ ∀ x, x < F ∨ F + 9 ≤ x → A' x = A x) 4 (t := ii ((4 : Nat) : Int)) (by omega) (fun t ht A1 ⟨y1, y2⟩ => by
    obtain ⟨A2, e2, z1, z2, z3⟩ := x_copy (A := A1) (B := B) (c := c) (hF.2 t ht) (hF'.2 t ht)
    refine ⟨A2, ?_, fun r hr => ?_, fun x hx => by rw [z3 x (by omega) (by omega), y2 x hx]⟩
    · unfold f_X3_copyAll_L3
      simp (disch := omega) only [k4, n_le, show ¬ (4 ≤ t) by omega, ↓reduceIte, fgR hF, fgR hF', Option.bind_some, FV (hF.2 t ht), e2, k1, n_add]
    · by_cases q : r = t
      · subst q
        exact ⟨by rw [z1, y2 _ (by omega)], fun n hn => by rw [z2 n hn, y2 _ (by omega)]⟩
      · exact ⟨by rw [z3 _ (by omega) (by omega)]; exact (y1 r (by omega)).1, fun n hn => by rw [z3 _ (by omega) (by omega)]; exact (y1 r (by omega)).2 n hn⟩) (fun A1 _ => by
    unfold f_X3_copyAll_L3
    simp (disch := omega) only [k4, n_le, Nat.le_refl, ↓reduceIte]) (A0 := A) ⟨fun r hr => by omega, fun _ _ => rfl⟩
  obtain ⟨A1, e1, y1, y2⟩ := key
  have e1' : jloop (f_X3_copyAll_L3 F' G' F G) jF (0 : Int32) (mz S A B c) = some (ii ((4 : Nat) : Int), mz S A1 B c) := e1
  have key2 := z_run2 (S := S) (c := c) (f := f_X3_copyAll_L29 G' G) (fun t => ii (t : Int)) (fun t A' B' => (∀ s, s < t → A' (G + 1 + 7 * s) 0 = A (G' + 1 + 7 * s) 0 ∧ (∀ r, r < 4 → A' (G + 2 + 7 * s) r = A (G' + 2 + 7 * s) r) ∧ (∀ r, r < 4 → ∀ i, i < 13 → B' (G + 3 + 7 * s + 1 + r) i = B (G' + 3 + 7 * s + 1 + r) i)) ∧ (∀ x, x < G ∨ G + 15 ≤ x → A' x = A1 x) ∧ (∀ x, x < G ∨ G + 15 ≤ x → B' x = B x)) 2 (t := ii ((2 : Nat) : Int)) (by omega) (fun t htt A2 B2 ⟨w1, w2, w3⟩ => by
    have u1 : A2 (G' + 1 + 7 * t) = A (G' + 1 + 7 * t) := by rw [w2 _ (by omega), y2 _ (by omega)]
    have u2 : A2 (G' + 2 + 7 * t) = A (G' + 2 + 7 * t) := by rw [w2 _ (by omega), y2 _ (by omega)]
    obtain ⟨A3, B3, e3, z1, z2, z3, z4, z5⟩ := x_copySh (A := A2) (B := B2) (c := c) hG hG' htt d2 (by rw [u1]; exact ht t htt) (by rw [u2]; exact hf t htt)
    refine ⟨A3, B3, ?_, fun s hs => ?_, fun x hx => by rw [z4 x (by omega) (by omega), w2 x hx], fun x hx => by rw [z5 x (fun r hr => by omega), w3 x hx]⟩
    · unfold f_X3_copyAll_L29
      simp (disch := omega) only [k2, n_le, show ¬ (2 ≤ t) by omega, ↓reduceIte, sgR hG, sgR hG', Option.bind_some, sgv hG, e3, k1, n_add]
    · by_cases q : s = t
      · subst q
        exact ⟨by rw [z1, u1], fun r hr => by rw [z2 r hr, u2], fun r hr i hi => by rw [z3 r hr i hi, w3 _ (by omega)]⟩
      · obtain ⟨a, b, d⟩ := w1 s (by omega)
        exact ⟨by rw [z4 _ (by omega) (by omega)]; exact a, fun r hr => by rw [z4 _ (by omega) (by omega)]; exact b r hr, fun r hr i hi => by rw [z5 _ (fun r' hr' => by omega)]; exact d r hr i hi⟩) (fun A2 B2 _ => by
    unfold f_X3_copyAll_L29
    simp (disch := omega) only [k2, n_le, Nat.le_refl, ↓reduceIte]) (A0 := A1) (B0 := B) ⟨fun s hs => by omega, fun _ _ => rfl, fun _ _ => rfl⟩
  obtain ⟨A2, B2, e2, w1, w2, w3⟩ := key2
  have e2' : jloop (f_X3_copyAll_L29 G' G) jF (0 : Int32) (mz S A1 B c) = some (ii ((2 : Nat) : Int), mz S A2 B2 c) := e2
  unfold f_X3_copyAll
  rw [e1']
  simp only [Option.bind_some]
  rw [e2']
  exact ⟨A2, B2, rfl, fun r hr => ⟨by rw [w2 _ (by omega)]; exact (y1 r hr).1, fun n hn => by rw [w2 _ (by omega)]; exact (y1 r hr).2 n hn⟩, w1, fun x x1 x2 => by rw [w2 x x2, y2 x x1], w3⟩
