/-! The class reads a book. -/
def L00 : LT := fun _ => (0, 0, fun _ => 0)
def pbk (T : Nat → Int) (n : Nat) : Nat ⊕ (Int × Nat × LT) := Sum.elim Sum.inl (fun s => Sum.elim Sum.inl (fun r => .inr (s.1, r)) (plts T n s.1 7 0 L00 s.2)) (pprm T n (skp T n 0))
def XBK (S : SS) (B : ZA) (c : (Nat × Nat) × (Nat → Nat)) (b : Nat) (A : ZA) (r : Nat ⊕ (Int × Nat × LT)) (res : Option (Int32 × JH)) : Prop :=
  ∃ A' : ZA, A' b 1 = 0 ∧ Sum.elim (fun (g : Nat) => res = some ((-2 : Int32) - ii (g : Int), mz S A' B c) ∧ (∀ k, k ≠ 1 → A' b k = A b k) ∧ (∀ x, x ≠ b → x < b + 155 ∨ b + 232 < x → A' x = A x))
    (fun s => res = some (ii ((s.2.1 : Nat) : Int), mz S A' B c) ∧ A' b 2 = s.1 ∧ A' b 3 = ((s.2.1 : Nat) : Int) ∧ s.2.1 ≤ 6 ∧ (∀ i, i < s.2.1 → isF s.1 (s.2.2 i).2.1 (s.2.2 i).2.2 ∧ A' (b + 2 + 1 + 2 * i) 0 = (((s.2.2 i).2.1 : Nat) : Int) ∧ ∀ k, k < 6 → A' (b + 2 + 2 + 2 * i) k = (s.2.2 i).2.2 k) ∧
      (∀ r, r < 4 → A' (b + 15 + 1 + 2 * r) 0 = 0 ∧ ∀ n, n < 6 → A' (b + 15 + 2 + 2 * r) n = if n = 0 then 1 else 0) ∧ (∀ s, s < 2 → ∀ r, r < 4 → A' (b + 24 + 2 + 7 * s) r = 0) ∧ (∀ k, k < 2 → A' (b + 236 + 25 * k) 0 = 0) ∧
      (∀ x, x ≠ b → ¬ (b + 2 ≤ x ∧ x < b + 24) → (∀ s, s < 2 → x ≠ b + 24 + 2 + 7 * s) → (∀ k, k < 2 → x ≠ b + 236 + 25 * k) → x < b + 155 ∨ b + 232 < x → A' x = A x)) r
section rd
variable {S : SS} {A B : ZA} {c : (Nat × Nat) × (Nat → Nat)} {b n : Nat} {T : Nat → Int} {L : LT} {q : Nat}
theorem x_open (hX : LX S b) (hK : KN S A c b) (hT : TXT A (b + 1) T n) : ∃ A' : ZA, f_X0_open (b + 155) (b + 1) (ii (n : Int)) (mz S A B c) = some ((), mz S A' B c) ∧ XF b A A' ∧ CS S A' c b T n 1009 0 L ∧ A' (b + 155) 6 = 0 := by
  obtain ⟨A2, e2, z1, z2⟩ := x_scan (B := B) (c := c) hX hT
  have e : f_X0_open (b + 155) (b + 1) (ii (n : Int)) (mz S A B c) = some ((), mz S (za A2 (b + 155) (up (up (up (A2 (b + 155)) 6 ((0 : Nat) : Int)) 1 ((1009 : Nat) : Int)) 2 ((0 : Nat) : Int))) B c) := by
    unfold f_X0_open
    simp only [DR5 hX, Kv hX, e2, Option.bind_some, k0, k1009, DP6 hX, DP1 hX, DP2 hX, za_za, za_at]
  have o : za A2 (b + 155) (up (up (up (A2 (b + 155)) 6 ((0 : Nat) : Int)) 1 ((1009 : Nat) : Int)) 2 ((0 : Nat) : Int)) (b + 155) = up (up (up (A2 (b + 155)) 6 ((0 : Nat) : Int)) 1 ((1009 : Nat) : Int)) 2 ((0 : Nat) : Int) := za_at _ _ _
  have g : ∀ x, x ≠ b + 155 → za A2 (b + 155) (up (up (up (A2 (b + 155)) 6 ((0 : Nat) : Int)) 1 ((1009 : Nat) : Int)) 2 ((0 : Nat) : Int)) x = A2 x := fun x hx => za_ne _ _ hx
  generalize za A2 (b + 155) (up (up (up (A2 (b + 155)) 6 ((0 : Nat) : Int)) 1 ((1009 : Nat) : Int)) 2 ((0 : Nat) : Int)) = A3 at e o g
  refine ⟨A3, e, fun x hx => by rw [g x (by omega), z2 x (by omega) (by omega) (by omega) (by omega)], ⟨fun i hi => ⟨(hK i hi).1, (hK i hi).2.1, fun k hk => ?_⟩, ?_, hT.1, by rw [o, up_ne _ _ (by omega), up_at]; rfl, by rw [o, up_at], by omega, fun i hi => absurd hi (by omega)⟩, by rw [o, up_ne _ _ (by omega), up_ne _ _ (by omega), up_at]; rfl⟩
  · have := (hK i hi).1
    rw [g _ (by omega), z2 _ (by omega) (by omega) (by omega) (by omega)]
    exact (hK i hi).2.2 k hk
  · unfold TOK
    rw [g (b + 170) (by omega), g (b + 171) (by omega), g (b + 172) (by omega), g (b + 173) (by omega)]
    exact z1
theorem x_keep (hX : LX S b) {nl : Nat} (h3 : A b 3 = (nl : Int)) (hn : nl ≤ 6) : ∃ (A' : ZA), jloop (f_X11_book_L86 b) jF (0 : Int32) (mz S A B c) = some (ii (nl : Int), mz S A' B c) ∧ (∀ i, i < nl → A' (b + 2 + 1 + 2 * i) 0 = A (b + 156 + 1 + 2 * i) 0 ∧ ∀ k, k < 6 → A' (b + 2 + 2 + 2 * i) k = A (b + 156 + 2 + 2 * i) k) ∧ (∀ x, ¬ (b + 2 ≤ x ∧ x < b + 15) → A' x = A x) := by
  have key := z_run (S := S) (B := B) (c := c) (f := f_X11_book_L86 b) (fun t => ii (t : Int)) (fun t A' => (∀ i, i < t → A' (b + 2 + 1 + 2 * i) 0 = A (b + 156 + 1 + 2 * i) 0 ∧ ∀ k, k < 6 → A' (b + 2 + 2 + 2 * i) k = A (b + 156 + 2 + 2 * i) k) ∧ (∀ x, ¬ (b + 2 ≤ x ∧ x < b + 15) → A' x = A x)) nl (t := ii (nl : Int)) (by omega) (fun t ht A1 ⟨y1, y2⟩ => by
    have r3 : A1 b 3 = (nl : Int) := by rw [y2 _ (by omega)]; exact h3
    obtain ⟨A2, e2, z1, z2, z3⟩ := x_copy (S := S) (A := A1) (B := B) (c := c) ((L_lets hX).2 t (by omega)) ((L_rl hX).2 t (by omega))
    refine ⟨A2, ?_, fun i hi => ?_, fun x hx => by rw [z3 x (by omega) (by omega)]; exact y2 x hx⟩
    · unfold f_X11_book_L86
      simp (disch := omega) only [XI3 hX, r3, Option.bind_some, n_le, show ¬ (nl ≤ t) by omega, ↓reduceIte, XR4 hX, fgR (L_lets hX), XR10 hX, DR3 hX, fgR (L_rl hX), FV ((L_lets hX).2 t (by omega)), e2, k1, n_add]
    · by_cases q : i = t
      · subst q
        exact ⟨by rw [z1, y2 _ (by omega)], fun k hk => by rw [z2 k hk, y2 _ (by omega)]⟩
      · obtain ⟨w1, w2⟩ := y1 i (by omega)
        exact ⟨by rw [z3 _ (by omega) (by omega)]; exact w1, fun k hk => by rw [z3 _ (by omega) (by omega)]; exact w2 k hk⟩) (fun A1 ⟨y1, y2⟩ => by
    have r3 : A1 b 3 = (nl : Int) := by rw [y2 _ (by omega)]; exact h3
    unfold f_X11_book_L86
    simp (disch := omega) only [XI3 hX, r3, Option.bind_some, n_le, Nat.le_refl, ↓reduceIte]) (A0 := A) ⟨fun i hi => by omega, fun _ _ => rfl⟩
  obtain ⟨A', e, y1, y2⟩ := key
  exact ⟨A', e, y1, y2⟩
theorem x_book (hX : LX S b) (hK : KN S A c b) (hT : TXT A (b + 1) T n) {t : Nat} (ht : A b 1 = (t : Int)) (hn : n ≤ t) (ht6 : t ≤ 600) : XBK S B c b A (pbk T n) (f_X11_book b (ii (n : Int)) (mz S A B c)) := by
  have g1 : ∀ x, x ≠ b → za A b (up (A b) 1 ((0 : Nat) : Int)) x = A x := fun x hx => za_ne _ _ hx
  have o1 : za A b (up (A b) 1 ((0 : Nat) : Int)) b = up (A b) 1 ((0 : Nat) : Int) := za_at _ _ _
  have p1 : jput (mz S A B c) b 8 1 (.int (0 : Int32)) = some (mz S (za A b (up (A b) 1 ((0 : Nat) : Int))) B c) := XP1 (v := ((0 : Nat) : Int)) hX
  generalize za A b (up (A b) 1 ((0 : Nat) : Int)) = A1 at g1 o1 p1
  have hK1 : KN S A1 c b := fun i hi => ⟨(hK i hi).1, (hK i hi).2.1, fun k hk => by have := (hK i hi).1; rw [g1 _ (by omega)]; exact (hK i hi).2.2 k hk⟩
  have hT1 : TXT A1 (b + 1) T n := ⟨hT.1, fun k hk => by rw [g1 _ (by omega)]; exact hT.2 k hk⟩
  obtain ⟨A2, e2, f2, hC2, i2⟩ := x_open (B := B) (c := c) (L := L00) hX hK1 hT1
  obtain ⟨s1, s2, s3⟩ := skp_0 T n
  obtain ⟨A3, f3, r3⟩ := x_prime (B := B) (q := skp T n 0) hX hC2 (by rw [i2, s3]; rfl) s1 s2
  have ob : ∀ A' : ZA, XF b A1 A' → A' b = up (A b) 1 ((0 : Nat) : Int) := fun A' h => by rw [h b (by omega)]; exact o1
  have hfail : ∀ (A' : ZA) (g : Nat) (res : Option (Int32 × JH)), XF b A1 A' → A' (b + 155) 0 = (g : Int) → res = some ((-2 : Int32) - ii (g : Int), mz S A' B c) → XBK S B c b A (.inl g) res := fun A' g res h1 h2 h3 =>
    ⟨A', by rw [ob A' h1, up_at]; rfl, h3, fun k hk => by rw [ob A' h1, up_ne _ _ hk], fun x x1 x2 => by rw [h1 x x2, g1 x x1]⟩
  have st : f_X11_book b (ii (n : Int)) (mz S A B c) = (f_X0_readPrime (b + 155) (mz S A2 B c)).bind fun q13 =>
      if q13.1 = (0 : Int32) then
        (jgR q13.2 b 8 10).bind fun v15 =>
        (jgI q13.2 v15 0 0).bind fun v17 =>
        some ((-2 : Int32) - v17, q13.2)
      else
        (jgR q13.2 b 8 10).bind fun v19 =>
        (jrecv q13.2 v19 0).bind fun u64 =>
        (f_X0_readLets v19 q13.2).bind fun q21 =>
        if q21.1 = (0 : Int32) then
          (jgR q21.2 b 8 10).bind fun v60 =>
          (jgI q21.2 v60 0 0).bind fun v62 =>
          some ((-2 : Int32) - v62, q21.2)
        else
          (jgR q21.2 b 8 10).bind fun v23 =>
          (jgI q21.2 v23 0 1).bind fun v25 =>
          (jput q21.2 b 8 2 (.int v25)).bind fun h27 =>
          (jgR h27 b 8 10).bind fun v29 =>
          (jgI h27 v29 0 2).bind fun v31 =>
          (jput h27 b 8 3 (.int v31)).bind fun h33 =>
          (jloop (f_X11_book_L86 b) jF (0 : Int32) h33).bind fun q52 =>
          (jrecv q52.2 b 8).bind fun u58 =>
          (f_X11_forget b q52.2).bind fun q54 =>
          (jgI q54.2 b 8 3).bind fun v56 =>
          some (v56, q54.2) := by
    unfold f_X11_book
    rw [if_neg (show ¬ ii (n : Int) < (0 : Int32) by rw [k0, n_lt (by omega) (by omega)]; omega), XI1 hX, ht]
    simp only [Option.bind_some]
    rw [if_pos (show ii (n : Int) ≤ ii (t : Int) by rw [n_le (by omega) (by omega)]; exact hn), p1]
    simp only [Option.bind_some, XR10 hX, XR0 hX, Dv hX, e2]
  rw [st]
  unfold pbk
  cases e : pprm T n (skp T n 0) with
  | inl g =>
    rw [e] at r3
    obtain ⟨r3, r4⟩ := r3
    refine hfail A3 g _ (XF_trans f2 f3) r4 ?_
    rw [r3]
    simp only [Option.bind_some]
    rw [if_pos (show ii ((0 : Nat) : Int) = (0 : Int32) from rfl)]
    simp only [XR10 hX, DI0 hX, r4, Option.bind_some]
  | inr s =>
    rw [e] at r3
    obtain ⟨r3, hC3, i3⟩ := r3
    obtain ⟨hPR, t2, t3⟩ := pprm_ok s1 s2 e
    rw [r3]
    simp only [Option.bind_some]
    rw [if_neg (show ¬ ii ((1 : Nat) : Int) = (0 : Int32) by decide)]
    simp only [XR10 hX, Dv hX, Option.bind_some, Sum.elim_inr]
    obtain ⟨A4, f4, r4⟩ := x_lets (B := B) hX hPR 7 0 L00 s.2 A3 rfl hC3 i3 t2 t3 jF (jF_big (by omega))
    have f14 := XF_trans f2 (XF_trans f3 f4)
    unfold f_X0_readLets
    cases e' : plts T n s.1 7 0 L00 s.2 with
    | inl g =>
      rw [e'] at r4
      obtain ⟨r4, r5⟩ := r4
      refine hfail A4 g _ f14 r5 ?_
      have r4' : jloop (f_X0_readLets_L2 (b + 155)) jF (0 : Int32) (mz S A3 B c) = _ := r4
      rw [r4']
      simp only [Option.bind_some, Sum.elim_inl]
      rw [if_pos (show ii ((0 : Nat) : Int) = (0 : Int32) from rfl)]
      simp only [XR10 hX, DI0 hX, r5, Option.bind_some]
    | inr r =>
      rw [e'] at r4
      obtain ⟨z, r4, hC4⟩ := r4
      have r4' : jloop (f_X0_readLets_L2 (b + 155)) jF (0 : Int32) (mz S A3 B c) = _ := r4
      rw [r4']
      simp only [Option.bind_some, Sum.elim_inr]
      rw [if_neg (show ¬ (1 : Int32) = (0 : Int32) by decide)]
      obtain ⟨-, -, -, j4, j5, j6, j7⟩ := hC4
      have sp : ∀ A' : ZA, A' = za (za A4 b (up (A4 b) 2 s.1)) b (up (za A4 b (up (A4 b) 2 s.1) b) 3 ((r.1 : Nat) : Int)) → (∀ x, x ≠ b → A' x = A4 x) ∧ A' b = up (up (A4 b) 2 s.1) 3 ((r.1 : Nat) : Int) := fun A' h => by
        subst h
        exact ⟨fun x hx => by rw [za_ne _ _ hx, za_ne _ _ hx], by rw [za_at, za_at]⟩
      simp only [XR10 hX, DI1 hX, j4, Option.bind_some, XP2 hX, DI2 hX]
      rw [za_ne _ _ (show b + 155 ≠ b by omega), j5, XP3 hX]
      simp only [Option.bind_some]
      obtain ⟨sp1, sp2⟩ := sp _ rfl
      generalize za (za A4 b (up (A4 b) 2 s.1)) b (up (za A4 b (up (A4 b) 2 s.1) b) 3 ((r.1 : Nat) : Int)) = A6 at sp1 sp2 ⊢
      obtain ⟨A7, e7, u1, u2⟩ := x_keep (A := A6) (B := B) (c := c) hX (by rw [sp2, up_at]) j6
      rw [e7]
      simp only [Option.bind_some, Xv hX]
      obtain ⟨A8, e8, v1, v2, v3, v4⟩ := x_forget (A := A7) (B := B) (c := c) hX
      rw [e8]
      simp only [Option.bind_some, XI3 hX]
      have b8 : A8 b = up (up (A4 b) 2 s.1) 3 ((r.1 : Nat) : Int) := by rw [v4 b (fun r hr => by omega) (fun s hs => by omega) (fun k hk => by omega), u2 b (by omega), sp2]
      rw [b8, up_at]
      have b4 := ob A4 f14
      refine ⟨A8, by rw [b8, up_ne _ _ (by omega), up_ne _ _ (by omega), b4, up_at]; rfl, rfl, by rw [b8, up_ne _ _ (by omega), up_at], by rw [b8, up_at], j6, fun i hi => ?_, v1, v2, v3, fun x x1 x2 x3 x4 x5 => ?_⟩
      · have hi6 : i < 6 := Nat.lt_of_lt_of_le (show i < r.1 from hi) j6
        obtain ⟨q1, q2, q3, q4⟩ := j7 i hi
        obtain ⟨w1, w2⟩ := u1 i hi
        refine ⟨q1.2, ?_, fun k hk => ?_⟩
        · rw [v4 _ (fun r hr => by omega) (fun s hs => by omega) (fun k hk => by omega), w1, sp1 _ (by omega)]; exact q3
        · rw [v4 _ (fun r hr => by omega) (fun s hs => by omega) (fun k hk => by omega), w2 k hk, sp1 _ (by omega)]; exact q4 k hk
      · rw [v4 x (fun r hr => by omega) x3 x4, u2 x (by omega), sp1 x x1, f14 x x5, g1 x x1]
end rd
