/-! The reference reads a power, a product. -/
section rd
variable {S : SS} {A B : ZA} {c : (Nat × Nat) × (Nat → Nat)} {m n nl : Nat} {T : Nat → Int} {p : Int} {L : LT} {q d t : Nat} {re : Nat → JH → Option (Int32 × JH)} {rc : Nat → Nat → PRs}
/-- the product of two rows of the stack, in a third place of it -/
theorem m_mulS (hM : LM S m) (hp : 0 < p) (hp2 : p < 10000) (hP : A m 1 = p) {i j k : Nat} (hi : i < 30) (hj : j < 30) (hk : k < 30) {R Q : Nat → Int} (h1 : ∀ x, x < 181 → A (m + 17) (181 * i + x) = R x) (h2 : ∀ x, x < 181 → A (m + 17) (181 * j + x) = Q x) (r1 : ∀ x, 0 ≤ R x ∧ R x < p) (r2 : ∀ x, 0 ≤ Q x ∧ Q x < p) :
    ∃ A1 A2 : ZA, f_X12_multiplies m (m + 17) (ii ((181 * i : Nat) : Int)) (m + 17) (ii ((181 * j : Nat) : Int)) (m + 5) (mz S A B c) = some ((), mz S A1 B c) ∧ f_X12_copies (m + 5) (ii ((0 : Nat) : Int)) (m + 17) (ii ((181 * k : Nat) : Int)) (mz S A1 B c) = some ((), mz S A2 B c) ∧ (∀ x, x < 181 → A2 (m + 17) (181 * k + x) = ml p R Q x) ∧ (∀ x, ¬ (181 * k ≤ x ∧ x < 181 * k + 181) → A2 (m + 17) x = A (m + 17) x) ∧ (∀ x, x ≠ m + 5 → A1 x = A x) ∧ (∀ x, x ≠ m + 5 → x ≠ m + 17 → A2 x = A x) := by
  have em := m_mul (A := A) (B := B) (c := c) (p := p) (o := 181 * i) (o' := 181 * j) hM hP hp hp2 (MS17 hM) (MS17 hM) (MS5 hM) (by omega) (by omega) (by omega) (by omega) (by omega) (by omega) (fun x hx => by rw [h1 x hx]; exact r1 x) (fun x hx => by rw [h2 x hx]; exact r2 x)
  generalize hA1 : za A (m + 5) (mo (fun n => cv (fun k => A (m + 17) (181 * i + k)) (fun k => A (m + 17) (181 * j + k)) n % p) (A (m + 5)) 0 181) = A1 at em
  have y1 : ∀ x, x < 181 → A1 (m + 5) (0 + x) = ml p R Q x := fun x hx => by
    rw [← hA1, za_at, mo_in _ _ hx]
    exact cv_ser (by omega) h1 h2
  have y2 : ∀ x, x ≠ m + 5 → A1 x = A x := fun x hx => by rw [← hA1, za_ne _ _ hx]
  refine ⟨A1, _, em, m_copies (MS5 hM) (MS17 hM) (by omega) (by omega) (by omega) (by omega) (by omega), fun x hx => ?_, fun x hx => ?_, y2, fun x a b => ?_⟩
  · rw [za_at, mo_in _ _ hx]; exact y1 x hx
  · rw [za_at, mo_out _ _ hx, y2 _ (by omega)]
  · rw [za_ne _ _ b, y2 x a]
theorem m_powL (hM : LM S m) (hP : PR p) (hB : A m 1 = p) {e : Nat} (he : e < 100) (ht2 : t + 2 < 30) {R : Nat → Int} (h27 : A m 27 = ((t + 2 : Nat) : Int)) (hR : ∀ k, k < 181 → A (m + 17) (181 * t + k) = R k) (h1 : ∀ k, k < 181 → A (m + 17) (181 * (t + 1) + k) = dl 0 k) (rR : ∀ k, 0 ≤ R k ∧ R k < p) :
    ∃ A' : ZA, jloop (f_X12_power__L108 re m (ii (e : Int)) (ii (t : Int))) jF (ii ((0 : Nat) : Int)) (mz S A B c) = some (ii (e : Int), mz S A' B c) ∧ (∀ k, k < 181 → A' (m + 17) (181 * (t + 1) + k) = pn p R e k) ∧ (∀ x, x < 181 * (t + 1) → A' (m + 17) x = A (m + 17) x) ∧ (∀ x, x ≠ m + 5 → x ≠ m + 17 → A' x = A x) := by
  have hp := PR_p hP
  have key := z_run (S := S) (B := B) (c := c) (f := f_X12_power__L108 re m (ii (e : Int)) (ii (t : Int))) (fun z => ii (z : Int)) (fun z A' => (∀ k, k < 181 → A' (m + 17) (181 * (t + 1) + k) = pn p R z k) ∧ (∀ x, x < 181 * (t + 1) → A' (m + 17) x = A (m + 17) x) ∧ (∀ x, x ≠ m + 5 → x ≠ m + 17 → A' x = A x)) e (t := ii (e : Int)) (by omega) (fun z hz A1 ⟨y1, y2, y3⟩ => by
    have e27 : A1 m 27 = ((t + 2 : Nat) : Int) := by rw [y3 _ (by omega) (by omega)]; exact h27
    obtain ⟨A2, A3, e2, e3, v1, v2, v3, v4⟩ := m_mulS (A := A1) (B := B) (c := c) (i := t) (j := t + 1) (k := t + 1) (R := R) (Q := pn p R z) hM (show 0 < p by omega) hp.2 (by rw [y3 _ (by omega) (by omega)]; exact hB) (by omega) (by omega) (by omega) (fun x hx => by rw [y2 _ (by omega)]; exact hR x hx) y1 rR (fun x => pn_r (by omega) R z x)
    have e27' : A2 m 27 = ((t + 2 : Nat) : Int) := by rw [v3 _ (by omega)]; exact e27
    refine ⟨A3, ?_, fun k hk => ?_, fun x hx => by rw [v2 x (by omega)]; exact y2 x hx, fun x a b => by rw [v4 x a b]; exact y3 x a b⟩
    · unfold f_X12_power__L108
      simp (disch := omega) only [n_le, show ¬ (e ≤ z) by omega, ↓reduceIte, MR29 hM, MI27 hM, MR6 hM, Option.bind_some, Mv hM, e27, k1, n_sub, show t + 2 - 1 = t + 1 by omega, k181, n_mul, e2, e27', k0, e3, n_add]
    · rw [v1 k hk, ml_comm]; rfl) (fun A1 _ => by
    unfold f_X12_power__L108
    rw [if_pos (by rw [n_le (by omega) (by omega)]; exact Nat.le_refl e)]) (A0 := A) ⟨h1, fun _ _ => rfl, fun _ _ _ => rfl⟩
  exact key
theorem m_pow (hM : LM S m) (hP : PR p) (hS : MS A m T n p nl L) (hs : ST A m T n q d t) (hq : q ≤ n) (ht : tok T n q) (hd : d ≤ 8) (htd : t ≤ 2 * d + 2) (ha : MOK S B c m T n (patom T n p (FL T n nl L) rc d q) A d t (f_X12_atom re m (mz S A B c))) (hg : GR T n p q (patom T n p (FL T n nl L) rc d q)) :
    MOK S B c m T n (ppow T n p (FL T n nl L) rc d q) A d t (f_X12_power_ re m (mz S A B c)) := by
  have hp := PR_p hP
  obtain ⟨A1, e1, f1, r1⟩ := ha
  have hS1 := MS_MF hS f1
  unfold f_X12_power_ ppow
  simp only [MI14 hM, hs.1.1, Option.bind_some, Mv hM, e1]
  cases e : patom T n p (FL T n nl L) rc d q with
  | inl f =>
    rw [e] at r1
    rw [if_pos (show ii ((rb (Sum.inl f) : Nat) : Int) = (0 : Int32) from rfl)]
    exact ⟨A1, rfl, f1, r1⟩
  | inr s =>
    rw [e] at r1 hg
    obtain ⟨s1, z2, z3⟩ := r1
    obtain ⟨w1, w2, w3, w4⟩ := hg
    rw [if_neg (show ¬ ii ((rb (Sum.inr s) : Nat) : Int) = (0 : Int32) from (show ¬ ii ((1 : Nat) : Int) = (0 : Int32) by decide))]
    have hi := m_is (A := A1) (B := B) (c := c) (s := 94) hM s1.1 (by omega) (by omega) (fun h => (hS.2.1.2.2 s.1 h).2)
    simp only [Sum.elim_inr, k94, hi, Option.bind_some]
    by_cases c94 : kdx T n s.1 = 94
    · have hsn := kdx_n (T := T) (n := n) (q := s.1) (by omega)
      obtain ⟨x1, x2, x3, x4⟩ := nxt_ok hsn (tok_t w3 hsn)
      rw [bitY (show kdx T n s.1 = ((94 : Nat) : Int) by omega), if_neg (show ¬ ii ((1 : Nat) : Int) = (0 : Int32) by decide), if_pos c94]
      obtain ⟨A2, e2, g1, g2, g3⟩ := m_next (B := B) (c := c) hM hS1.2.1 s1.1 hsn
      generalize nxt T n s.1 = q2 at x1 x2 x3 x4 g1 ⊢
      have f2 : MF m A A2 t := MF_trans f1 (MF_k (t := t) g2 (fun k h1 _ _ => g3 k (by omega))) (Nat.le_refl _)
      have h18 : A2 m 18 = 0 := by rw [g3 18 (by omega)]; exact s1.2.1
      have htk := kdx_tk T n q2
      rw [e2]
      simp only [Option.bind_some]
      rw [MI16 hM, g1.2.2.1]
      simp only [Option.bind_some]
      by_cases c3 : kdx T n q2 = 3
      · rw [if_pos (show ii (tk T n q2) = (2 : Int32) by rw [htk.2.1.mpr c3]; rfl), if_pos c3, MI17 hM, g1.2.2.2.1 (htk.2.1.mpr c3)]
        obtain ⟨v1, v2, v3, v4, v5⟩ := vlx_3 c3
        have hmr : -1 ≤ mval T n q2 ∧ mval T n q2 ≤ 99999 := by omega
        have hiff : (vlx T n q2 < 0 ∨ 15 < vlx T n q2) ↔ ¬ mval T n q2 ≤ 15 := by omega
        have hme : 0 ≤ vlx T n q2 → mval T n q2 = vlx T n q2 := fun h => by omega
        clear v5
        simp (disch := omega) only [Option.bind_some, k15, i_le]
        by_cases g : vlx T n q2 < 0 ∨ 15 < vlx T n q2
        · rw [if_pos g, if_neg (by have := hiff.mp g; omega)]
          simp only [Mv hM, Option.bind_some, k4, m_bad hM h18 g1.1, jzb_n (Or.inl rfl)]
          exact MOK_from f2 (MOK_fail rfl)
        · rw [if_neg g, if_pos (show mval T n q2 ≤ ((15 : Nat) : Int) by omega), hme (by omega)]
          obtain ⟨ex, hex⟩ : ∃ ex : Nat, vlx T n q2 = (ex : Int) := ⟨(vlx T n q2).toNat, by omega⟩
          rw [hex]
          obtain ⟨A3, e3, j1, j2, j3⟩ := m_next (B := B) (c := c) hM (MS_MF hS f2).2.1 g1 v1
          generalize nxt T n q2 = q3 at j1 ⊢
          have f3 : MF m A A3 t := MF_trans f2 (MF_k (t := t) j2 (fun k h1 _ _ => j3 k (by omega))) (Nat.le_refl _)
          have i18 : A3 m 18 = 0 := by rw [j3 18 (by omega)]; exact h18
          have i30 : A3 m 30 = (d : Int) := by rw [j3 30 (by omega), g3 30 (by omega)]; exact s1.2.2.1
          have i27 : A3 m 27 = ((t + 1 : Nat) : Int) := by rw [j3 27 (by omega), g3 27 (by omega)]; exact s1.2.2.2
          have i16 : A3 (m + 16) t = ((s.2.1 : Nat) : Int) := by rw [j2 _ (by omega), g2 _ (by omega)]; exact z2
          have i17 : ∀ k, k < 181 → A3 (m + 17) (181 * t + k) = s.2.2 k := fun k hk => by rw [j2 _ (by omega), g2 _ (by omega)]; exact z3 k hk
          have hw60 := w4.2.1
          have hmx : s.2.1 * ex ≤ 60 * 15 := Nat.mul_le_mul hw60 (by omega)
          simp (disch := omega) only [Option.bind_some, Mv hM, e3, MR28 hM, MI27 hM, i27, k1, n_sub, show t + 1 - 1 = t by omega, Ma16 hM, i16, n_mul, k60, n_le, Int.toNat_natCast]
          by_cases g4 : s.2.1 * ex ≤ 60
          · rw [if_pos g4, if_pos g4]
            obtain ⟨A4, e4, y1, y2, y3, y4, y5, y6, y7⟩ := m_pushN (A := A3) (B := B) (c := c) (v := ((1 : Nat) : Int)) hM (show 0 < p by omega) hp.2 (MS_MF hS f3).1.1 (by omega) i27 (by omega)
            have y5' : ∀ k, k < 181 → A4 (m + 17) (181 * (t + 1) + k) = dl 0 k := fun k hk => by
              rw [y5 k hk]
              unfold nrow dl
              rw [ser_at (by omega)]
              by_cases h0 : k = 0
              · rw [if_pos h0, if_pos h0]; exact Int.emod_eq_of_lt (by omega) (by omega)
              · rw [if_neg h0, if_neg h0, Int.zero_emod]
            have k17 : ∀ k, k < 181 → A4 (m + 17) (181 * t + k) = s.2.2 k := fun k hk => by rw [y6 _ (by omega)]; exact i17 k hk
            obtain ⟨A5, e5, u1, u2, u3⟩ := m_powL (A := A4) (B := B) (c := c) (re := re) (e := ex) (t := t) hM hP (by rw [y2 1 (by omega)]; exact (MS_MF hS f3).1.1) (by omega) (by omega) y1 k17 y5' (fun k => isF_r hP w4 k)
            have e5' : jloop (f_X12_power__L108 re m (ii (ex : Int)) (ii (t : Int))) jF (0 : Int32) (mz S A4 B c) = some (ii (ex : Int), mz S A5 B c) := e5
            have l27 : A5 m 27 = ((t + 2 : Nat) : Int) := by rw [u3 _ (by omega) (by omega)]; exact y1
            have cp := m_copies_self (A := A5) (B := B) (c := c) (o := 181 * (t + 1)) (o' := 181 * t) (MS17 hM) (by omega) (by omega) (by omega) (by omega)
            generalize hA6 : za A5 (m + 17) (mo (fun k => A5 (m + 17) (181 * (t + 1) + k)) (A5 (m + 17)) (181 * t) 181) = A6 at cp
            have b1 : ∀ x, x ≠ m + 17 → A6 x = A5 x := fun x hx => by rw [← hA6, za_ne _ _ hx]
            have b2 : ∀ k, k < 181 → A6 (m + 17) (181 * t + k) = pn p s.2.2 ex k := fun k hk => by rw [← hA6, za_at, mo_in _ _ hk, u1 k hk]
            have b3 : ∀ x, x < 181 * t → A6 (m + 17) x = A3 (m + 17) x := fun x hx => by rw [← hA6, za_at, mo_out _ _ (by omega), u2 x (by omega), y6 x (by omega)]
            have l16 : A6 (m + 16) t = ((s.2.1 : Nat) : Int) := by rw [b1 _ (by omega), u3 _ (by omega) (by omega), y4 t (by omega)]; exact i16
            have l27' : A6 m 27 = ((t + 2 : Nat) : Int) := by rw [b1 _ (by omega)]; exact l27
            simp only [Option.bind_some, e4]
            rw [e5']
            simp (disch := omega) only [Option.bind_some, MR29 hM, MI27 hM, l27, n_sub, show t + 2 - 1 = t + 1 by omega, k181, n_mul, cp, MR28 hM, Ma16 hM, l16, Ms16 hM, za_ne, l27', MP27 hM]
            refine ⟨_, rfl, ⟨fun x a b c' d' e' => ?_, fun k h1 h2 h3 => ?_, fun i hi => ?_, fun i hi => ?_⟩, ⟨?_, ?_, ?_, ?_⟩, ?_, fun k hk => ?_⟩
            · rw [za_ne _ _ a, za_ne _ _ d', b1 x e', u3 x c' e', y7 x a b d' e']; exact f3.1 x a b c' d' e'
            · rw [za_at, up_ne _ _ h2, b1 _ (by omega), u3 _ (by omega) (by omega), y2 k h2]; exact f3.2.1 k h1 h2 h3
            · rw [za_ne _ _ (by omega), za_at, up_ne _ _ (by omega), b1 _ (by omega), u3 _ (by omega) (by omega), y4 i (by omega)]; exact f3.2.2.1 i hi
            · rw [za_ne _ _ (by omega), za_ne _ _ (by omega), b3 i hi]; exact f3.2.2.2 i hi
            · exact TM_of j1 (fun k hk => by rw [za_at, up_ne _ _ (by omega), b1 _ (by omega), u3 _ (by omega) (by omega), y2 k (by omega)])
            · rw [za_at, up_ne _ _ (by omega), b1 _ (by omega), u3 _ (by omega) (by omega), y2 18 (by omega)]; exact i18
            · rw [za_at, up_ne _ _ (by omega), b1 _ (by omega), u3 _ (by omega) (by omega), y2 30 (by omega)]; exact i30
            · rw [za_at, up_at]
            · rw [za_ne _ _ (by omega), za_at, up_at]
            · rw [za_ne _ _ (by omega), za_ne _ _ (by omega)]; exact b2 k hk
          · rw [if_neg g4, if_neg g4]
            simp only [k7, m_badAt hM i18, Option.bind_some, jzb_n (Or.inl rfl)]
            exact MOK_from f3 (MOK_fail rfl)
      · rw [if_neg (show ¬ ii (tk T n q2) = (2 : Int32) by rw [show (2 : Int32) = ii 2 from rfl, i_eq (by omega) (by omega) (by omega) (by omega)]; intro x; exact c3 (htk.2.1.mp x)), if_neg c3]
        simp only [Mv hM, Option.bind_some, k1, m_bad hM h18 g1.1, jzb_n (Or.inl rfl)]
        exact MOK_from f2 (MOK_fail rfl)
    · rw [bitN (show ¬ kdx T n s.1 = ((94 : Nat) : Int) by omega), if_pos (show ii ((0 : Nat) : Int) = (0 : Int32) from rfl), if_neg c94]
      exact ⟨A1, rfl, f1, s1, z2, z3⟩
end rd
