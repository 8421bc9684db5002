/-! What a book says: sums of products of powers; faults by place and kind. -/
abbrev PRs : Type := Nat ⊕ (Nat × Nat × (Nat → Int))
def nrow (p v : Int) : Nat → Int := ser p (fun k => if k = 0 then v else 0)
def patom (T : Nat → Int) (n : Nat) (p : Int) (F : Int → Option (Nat × (Nat → Int))) (rc : Nat → Nat → PRs) (d q : Nat) : PRs :=
  if kdx T n q = 2 then (F (vlx T n q)).elim (.inl (8 * q + 3)) (fun s => .inr (nxt T n q, s))
  else if kdx T n q = 3 then (if 0 ≤ vlx T n q then .inr (nxt T n q, 0, nrow p (vlx T n q)) else .inl (8 * q + 4))
  else if kdx T n q = 7 then .inr (nxt T n q, 4, e4 p)
  else if kdx T n q = 8 then .inr (nxt T n q, 6, e6 p)
  else if kdx T n q = 9 then .inr (nxt T n q, 12, dt p)
  else if kdx T n q = 40 then (if d < 8 then Sum.elim Sum.inl (fun s => if kdx T n s.1 = 41 then .inr (nxt T n s.1, s.2) else .inl (8 * s.1 + 1)) (rc (d + 1) (nxt T n q)) else .inl (8 * q + 5))
  else .inl (8 * q + 1)
def ppow (T : Nat → Int) (n : Nat) (p : Int) (F : Int → Option (Nat × (Nat → Int))) (rc : Nat → Nat → PRs) (d q : Nat) : PRs :=
  Sum.elim Sum.inl (fun s => if kdx T n s.1 = 94 then (if kdx T n (nxt T n s.1) = 3 then (if vlx T n (nxt T n s.1) < 0 ∨ 15 < vlx T n (nxt T n s.1) then .inl (8 * nxt T n s.1 + 4) else if s.2.1 * (vlx T n (nxt T n s.1)).toNat ≤ 60 then .inr (nxt T n (nxt T n s.1), s.2.1 * (vlx T n (nxt T n s.1)).toNat, pn p s.2.2 (vlx T n (nxt T n s.1)).toNat) else .inl (8 * q + 7)) else .inl (8 * nxt T n s.1 + 1)) else .inr s) (patom T n p F rc d q)
def pprl (T : Nat → Int) (n : Nat) (p : Int) (pw : Nat → PRs) : Nat → (Nat × Nat × (Nat → Int)) → PRs
  | 0, s => .inr s
  | m + 1, s => if kdx T n s.1 = 42 then Sum.elim Sum.inl (fun s1 => if s.2.1 + s1.2.1 ≤ 60 then pprl T n p pw m (s1.1, s.2.1 + s1.2.1, ml p s.2.2 s1.2.2) else .inl (8 * nxt T n s.1 + 7)) (pw (nxt T n s.1)) else .inr s
def pprod (T : Nat → Int) (n : Nat) (p : Int) (F : Int → Option (Nat × (Nat → Int))) (rc : Nat → Nat → PRs) (d q : Nat) : PRs :=
  Sum.elim Sum.inl (fun s => pprl T n p (ppow T n p F rc d) 700 s) (ppow T n p F rc d q)
def sgn (p k : Int) : Int := if k = 43 then 1 else p - 1
def psul (T : Nat → Int) (n : Nat) (p : Int) (pr : Nat → PRs) : Nat → (Nat × Nat × (Nat → Int)) → PRs
  | 0, s => .inr s
  | m + 1, s => if kdx T n s.1 = 43 ∨ kdx T n s.1 = 45 then Sum.elim Sum.inl (fun s1 => if s1.2.1 = s.2.1 then psul T n p pr m (s1.1, s.2.1, ad p s.2.2 (sc p (sgn p (kdx T n s.1)) s1.2.2)) else .inl (8 * nxt T n s.1 + 6)) (pr (nxt T n s.1)) else .inr s
def psum (T : Nat → Int) (n : Nat) (p : Int) (F : Int → Option (Nat × (Nat → Int))) : Nat → Nat → Nat → PRs
  | 0, _, _ => .inl 1
  | m + 1, d, q => Sum.elim Sum.inl (fun s => psul T n p (pprod T n p F (psum T n p F m) d) 700 s) (pprod T n p F (psum T n p F m) d q)
/-- a good answer: a fault, or a form with the place behind it -/
def GR (T : Nat → Int) (n : Nat) (p : Int) (q : Nat) (r : PRs) : Prop := Sum.elim (fun f => 0 < f ∧ f ≤ 8 * n + 7) (fun s => q < s.1 ∧ s.1 ≤ n ∧ tok T n s.1 ∧ isF p s.2.1 s.2.2) r
theorem GR_l {T : Nat → Int} {n : Nat} {p : Int} {q f : Nat} (h1 : 0 < f) (h2 : f ≤ 8 * n + 7) : GR T n p q (.inl f) := ⟨h1, h2⟩
theorem GR_r {T : Nat → Int} {n : Nat} {p : Int} {q : Nat} {s : Nat × Nat × (Nat → Int)} (h1 : q < s.1) (h2 : s.1 ≤ n) (h3 : tok T n s.1) (h4 : isF p s.2.1 s.2.2) : GR T n p q (.inr s) := ⟨h1, h2, h3, h4⟩
theorem GR_weak {T : Nat → Int} {n : Nat} {p : Int} {q q' : Nat} {r : PRs} (h : GR T n p q r) (hq : q' ≤ q) : GR T n p q' r := by
  cases r with
  | inl f => exact h
  | inr s => exact ⟨Nat.lt_of_le_of_lt hq h.1, h.2⟩
theorem VV_dl0 {p : Int} (hp : 1 < p) : VV p 0 (dl 0) := by
  have h1 := VV_one hp (k := 0) (Or.inl rfl)
  have h2 := pn_ser hp (fun _ => 0) 0
  have h3 : ser p (dl 0) = dl 0 := h2
  have h4 : ser p (es 0) = ser p (dl 0) := rfl
  rw [h4, h3] at h1
  exact h1
theorem isF_num {p : Int} (hp : PR p) (v : Int) : isF p 0 (nrow p v) := by
  refine ⟨by omega, by omega, by omega, ?_⟩
  have h := VV_sc v (VV_dl0 (PR_1 hp))
  have e : sc p v (dl 0) = nrow p v := ser_eq fun k hk => by
    unfold dl
    by_cases g : k = 0
    · rw [if_pos g, if_pos g, Int.mul_one]
    · rw [if_neg g, if_neg g, Int.mul_zero]
  rw [e] at h
  exact h
theorem isF_e4 {p : Int} (hp : PR p) : isF p 4 (e4 p) := ⟨by omega, by omega, by omega, VV_one (PR_1 hp) (k := 4) (by omega)⟩
theorem isF_e6 {p : Int} (hp : PR p) : isF p 6 (e6 p) := ⟨by omega, by omega, by omega, VV_one (PR_1 hp) (k := 6) (by omega)⟩
theorem isF_dt {p : Int} (hp : PR p) : isF p 12 (dt p) := by
  refine ⟨by omega, by omega, by omega, ?_⟩
  have h := VV_row (p := p) (k := 12) (j := 1) (by decide)
  have e : rwx p 12 1 = dt p := by
    show ml p (ml p (dl 0) (dl 0)) (pn p (dt p) 1) = dt p
    rw [ml_one, ml_serl, ml_one, pn_ser (PR_1 hp), pn_1]
    exact ser_ser p _
  rw [e] at h
  exact h
theorem isF_ml {p : Int} (hp : PR p) {w v : Nat} {R Q : Nat → Int} (h : isF p w R) (h' : isF p v Q) (hw : w + v ≤ 60) : isF p (w + v) (ml p R Q) :=
  ⟨by have := h.1; have := h'.1; omega, hw, by have := h.1; have := h'.1; have := h.2.2.1; have := h'.2.2.1; omega, VV_ml (EH_of hp) h.1 h'.1 h.2.2.2 h'.2.2.2⟩
theorem isF_ad {p : Int} {w : Nat} {R Q : Nat → Int} (h : isF p w R) (h' : isF p w Q) (v : Int) : isF p w (ad p R (sc p v Q)) := ⟨h.1, h.2.1, h.2.2.1, VV_ad h.2.2.2 (VV_sc _ h'.2.2.2)⟩
theorem isF_pn {p : Int} (hp : PR p) {w : Nat} {R : Nat → Int} (h : isF p w R) : ∀ {e : Nat}, w * e ≤ 60 → isF p (w * e) (pn p R e) := by
  intro e
  induction e with
  | zero => intro _; exact ⟨by omega, by omega, by omega, VV_dl0 (PR_1 hp)⟩
  | succ e ih =>
    intro he
    rw [Nat.mul_succ] at he ⊢
    exact isF_ml hp (ih (by omega)) h he
section ok
variable {T : Nat → Int} {n : Nat} {p : Int} {F : Int → Option (Nat × (Nat → Int))} {rc : Nat → Nat → PRs} {d q : Nat}
theorem tok_t {T : Nat → Int} {n q : Nat} (h : tok T n q) (hq : q < n) : tst T q := by
  rcases h with h | h
  · omega
  · exact h.2
theorem patom_ok (hP : PR p) (hF : ∀ v s, F v = some s → isF p s.1 s.2) (hr : d < 8 → ∀ q, q ≤ n → tok T n q → GR T n p q (rc (d + 1) q)) (hq : q ≤ n) (ht : tok T n q) : GR T n p q (patom T n p F rc d q) := by
  have hn : kdx T n q ≠ 0 → q < nxt T n q ∧ nxt T n q ≤ n ∧ tok T n (nxt T n q) := fun h => by
    have h1 := kdx_n h
    have h2 := nxt_ok h1 (tok_t ht h1)
    exact ⟨h2.1, h2.2.1, h2.2.2.1⟩
  unfold patom
  by_cases c2 : kdx T n q = 2
  · rw [if_pos c2]
    obtain ⟨a, b, c⟩ := hn (by omega)
    cases e : F (vlx T n q) with
    | none => exact GR_l (by omega) (by omega)
    | some s => exact GR_r a b c (hF _ _ e)
  rw [if_neg c2]
  by_cases c3 : kdx T n q = 3
  · rw [if_pos c3]
    obtain ⟨a, b, c⟩ := hn (by omega)
    by_cases g : 0 ≤ vlx T n q
    · rw [if_pos g]; exact GR_r a b c (isF_num hP _)
    · rw [if_neg g]; exact GR_l (by omega) (by omega)
  rw [if_neg c3]
  by_cases c7 : kdx T n q = 7
  · rw [if_pos c7]
    obtain ⟨a, b, c⟩ := hn (by omega)
    exact GR_r a b c (isF_e4 hP)
  rw [if_neg c7]
  by_cases c8 : kdx T n q = 8
  · rw [if_pos c8]
    obtain ⟨a, b, c⟩ := hn (by omega)
    exact GR_r a b c (isF_e6 hP)
  rw [if_neg c8]
  by_cases c9 : kdx T n q = 9
  · rw [if_pos c9]
    obtain ⟨a, b, c⟩ := hn (by omega)
    exact GR_r a b c (isF_dt hP)
  rw [if_neg c9]
  by_cases c40 : kdx T n q = 40
  · rw [if_pos c40]
    obtain ⟨a, b, c⟩ := hn (by omega)
    by_cases g : d < 8
    · rw [if_pos g]
      have h := hr g _ b c
      cases e : rc (d + 1) (nxt T n q) with
      | inl f =>
        rw [e] at h
        exact GR_weak h (by omega)
      | inr s =>
        rw [e] at h
        obtain ⟨x, y, z, w⟩ := h
        show GR T n p q (if kdx T n s.1 = 41 then .inr (nxt T n s.1, s.2) else .inl (8 * s.1 + 1))
        by_cases c41 : kdx T n s.1 = 41
        · rw [if_pos c41]
          have h1 := kdx_n (T := T) (n := n) (q := s.1) (by omega)
          have h2 := nxt_ok h1 (tok_t z h1)
          exact GR_r (show q < nxt T n s.1 by omega) h2.2.1 h2.2.2.1 w
        · rw [if_neg c41]; exact GR_l (by omega) (by omega)
    · rw [if_neg g]; exact GR_l (by omega) (by omega)
  rw [if_neg c40]
  exact GR_l (by omega) (by omega)
theorem ppow_ok (hP : PR p) (ha : GR T n p q (patom T n p F rc d q)) (hq : q ≤ n) : GR T n p q (ppow T n p F rc d q) := by
  unfold ppow
  cases e : patom T n p F rc d q with
  | inl f =>
    rw [e] at ha
    exact ha
  | inr s =>
    rw [e] at ha
    obtain ⟨x, y, z, w⟩ := ha
    simp only [Sum.elim_inr]
    by_cases c : kdx T n s.1 = 94
    · rw [if_pos c]
      have h1 := kdx_n (T := T) (n := n) (q := s.1) (by omega)
      have h2 := nxt_ok h1 (tok_t z h1)
      generalize nxt T n s.1 = q2 at h2 ⊢
      by_cases c3 : kdx T n q2 = 3
      · rw [if_pos c3]
        have h3 := kdx_n (T := T) (n := n) (q := q2) (by omega)
        have h4 := nxt_ok h3 (tok_t h2.2.2.1 h3)
        by_cases g : vlx T n q2 < 0 ∨ 15 < vlx T n q2
        · rw [if_pos g]; exact GR_l (by omega) (by omega)
        · rw [if_neg g]
          by_cases g2 : s.2.1 * (vlx T n q2).toNat ≤ 60
          · rw [if_pos g2]
            exact GR_r (show q < nxt T n q2 by omega) h4.2.1 h4.2.2.1 (isF_pn hP w g2)
          · rw [if_neg g2]; exact GR_l (by omega) (by omega)
      · rw [if_neg c3]; exact GR_l (by omega) (by omega)
    · rw [if_neg c]; exact GR_r x y z w
theorem pprl_ok {pw : Nat → PRs} (hP : PR p) (hw : ∀ q, q ≤ n → tok T n q → GR T n p q (pw q)) : ∀ (m : Nat) (s : Nat × Nat × (Nat → Int)), q < s.1 → s.1 ≤ n → tok T n s.1 → isF p s.2.1 s.2.2 → GR T n p q (pprl T n p pw m s) := by
  intro m
  induction m with
  | zero => intro s a b c d; exact GR_r a b c d
  | succ m ih =>
    intro s a b c d
    unfold pprl
    by_cases k : kdx T n s.1 = 42
    · rw [if_pos k]
      have h1 := kdx_n (T := T) (n := n) (q := s.1) (by omega)
      have h2 := nxt_ok h1 (tok_t c h1)
      have h3 := hw _ h2.2.1 h2.2.2.1
      cases e : pw (nxt T n s.1) with
      | inl f => rw [e] at h3; exact h3
      | inr s1 =>
        rw [e] at h3
        obtain ⟨x, y, z, w⟩ := h3
        simp only [Sum.elim_inr]
        by_cases g : s.2.1 + s1.2.1 ≤ 60
        · rw [if_pos g]; exact ih _ (show q < s1.1 by omega) y z (isF_ml hP d w g)
        · rw [if_neg g]; exact GR_l (by omega) (by omega)
    · rw [if_neg k]; exact GR_r a b c d
theorem psul_ok {pr : Nat → PRs} (hw : ∀ q, q ≤ n → tok T n q → GR T n p q (pr q)) : ∀ (m : Nat) (s : Nat × Nat × (Nat → Int)), q < s.1 → s.1 ≤ n → tok T n s.1 → isF p s.2.1 s.2.2 → GR T n p q (psul T n p pr m s) := by
  intro m
  induction m with
  | zero => intro s a b c d; exact GR_r a b c d
  | succ m ih =>
    intro s a b c d
    unfold psul
    by_cases k : kdx T n s.1 = 43 ∨ kdx T n s.1 = 45
    · rw [if_pos k]
      have h1 := kdx_n (T := T) (n := n) (q := s.1) (by omega)
      have h2 := nxt_ok h1 (tok_t c h1)
      have h3 := hw _ h2.2.1 h2.2.2.1
      cases e : pr (nxt T n s.1) with
      | inl f => rw [e] at h3; exact h3
      | inr s1 =>
        rw [e] at h3
        obtain ⟨x, y, z, w⟩ := h3
        simp only [Sum.elim_inr]
        by_cases g : s1.2.1 = s.2.1
        · rw [if_pos g]
          rw [g] at w
          exact ih _ (show q < s1.1 by omega) y z (isF_ad d w _)
        · rw [if_neg g]; exact GR_l (by omega) (by omega)
    · rw [if_neg k]; exact GR_r a b c d
theorem pprod_ok (hP : PR p) (hw : ∀ q, q ≤ n → tok T n q → GR T n p q (ppow T n p F rc d q)) (hq : q ≤ n) (ht : tok T n q) : GR T n p q (pprod T n p F rc d q) := by
  have h := hw q hq ht
  unfold pprod
  cases e : ppow T n p F rc d q with
  | inl f => rw [e] at h; exact h
  | inr s =>
    rw [e] at h
    exact pprl_ok hP hw 700 s h.1 h.2.1 h.2.2.1 h.2.2.2
theorem psum_ok (hP : PR p) (hF : ∀ v s, F v = some s → isF p s.1 s.2) : ∀ (m d q : Nat), q ≤ n → tok T n q → GR T n p q (psum T n p F m d q) := by
  intro m
  induction m with
  | zero => intro d q _ _; exact GR_l (by omega) (by omega)
  | succ m ih =>
    intro d q hq ht
    have hw : ∀ q, q ≤ n → tok T n q → GR T n p q (ppow T n p F (psum T n p F m) d q) := fun q hq ht => ppow_ok hP (patom_ok hP hF (fun _ q hq ht => ih (d + 1) q hq ht) hq ht) hq
    have hr : ∀ q, q ≤ n → tok T n q → GR T n p q (pprod T n p F (psum T n p F m) d q) := fun q hq ht => pprod_ok hP hw hq ht
    have h := hr q hq ht
    unfold psum
    cases e : pprod T n p F (psum T n p F m) d q with
    | inl f => rw [e] at h; exact h
    | inr s =>
      rw [e] at h
      exact psul_ok hr 700 s h.1 h.2.1 h.2.2.1 h.2.2.2
end ok
