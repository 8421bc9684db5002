/-! What holds between calls. -/
def isF (p : Int) (w : Nat) (R : Nat → Int) : Prop := w % 2 = 0 ∧ w ≤ 60 ∧ w ≠ 2 ∧ VV p w R
/-- a form, told alike by the class (f, g) and by the reference -/
def FQ (A : ZA) (p : Int) (f g aw iw ar ir : Nat) : Prop := ∃ (w : Nat) (R : Nat → Int), isF p w R ∧ A f 0 = (w : Int) ∧ (∀ n, n < 6 → A g n = R n) ∧ A aw iw = (w : Int) ∧ ∀ n, n < 181 → A ar (ir + n) = R n
theorem FQ_of {A A' : ZA} {p : Int} {f g aw iw ar ir : Nat} (h : FQ A p f g aw iw ar ir) (h1 : A' f 0 = A f 0) (h2 : ∀ n, n < 6 → A' g n = A g n) (h3 : A' aw iw = A aw iw) (h4 : ∀ n, n < 181 → A' ar (ir + n) = A ar (ir + n)) : FQ A' p f g aw iw ar ir := by
  obtain ⟨w, R, a, b, c, d, e⟩ := h
  exact ⟨w, R, a, by rw [h1]; exact b, fun n hn => by rw [h2 n hn]; exact c n hn, by rw [h3]; exact d, fun n hn => by rw [h4 n hn]; exact e n hn⟩
/-- an operator's table, its polynomial, its roots -/
def TT (p : Int) (w n : Nat) : Nat → Nat → Int := fun i j => hk p w (ex p w (dl (i + 1))) n (j + 1)
def flW (M : Nat → Nat → Int) (v p : Int) : Nat → Nat → Int := fun k j => if k = j then (M k j + v) % p else M k j
def flM (p : Int) (T W : Nat → Nat → Int) (s : Nat) : Nat → Nat → Int := fun i j => sm (fun k => T i k * W k j) s % p
def fl' (p : Int) (T : Nat → Nat → Int) (s : Nat) : Nat → ((Nat → Nat → Int) × Int)
  | 0 => (fun _ _ => 0, 1)
  | t + 1 => (flM p T (flW (fl' p T s t).1 (fl' p T s t).2 p) s, (-(sm (fun i => flM p T (flW (fl' p T s t).1 (fl' p T s t).2 p) s i i) s)) % p * pw ((t + 1 : Nat) : Int) p (p - 2).toNat % p)
def pc (p : Int) (T : Nat → Nat → Int) (s i : Nat) : Int := (fl' p T s (s - i)).2
def hr (p : Int) (C : Nat → Int) (x : Int) (s : Nat) : Nat → Int
  | 0 => 0
  | t + 1 => (hr p C x s t * x + C (s - t)) % p
def zl (P : Nat → Int) : Nat → List Nat
  | 0 => []
  | x + 1 => if P x = 0 then zl P x ++ [x] else zl P x
def rtl (p : Int) (w : Nat) : List Nat := if Lk w - 1 = 0 then [] else zl (fun x => hr p (pc p (TT p w 2) (Lk w - 1)) (x : Int) (Lk w - 1) (Lk w - 1 + 1)) p.toNat
def ROOTS (A : ZA) (b : Nat) : Prop := ∀ i, i < 31 → A (b + 42 + 3 * i) 7 = 0 ∨ (PR (A (b + 42 + 3 * i) 7) ∧ A (b + 42 + 3 * i) 6 = (((rtl (A (b + 42 + 3 * i) 7) (2 * i)).length : Nat) : Int) ∧ ∀ j, j < (rtl (A (b + 42 + 3 * i) 7) (2 * i)).length → A (b + 44 + 3 * i) j = (((rtl (A (b + 42 + 3 * i) 7) (2 * i)).getD j 0 : Nat) : Int))
def TAPE (A : ZA) (b : Nat) : Prop := ∃ t : Nat, t ≤ 600 ∧ A b 1 = (t : Int) ∧ A (b + 286) 12 = (t : Int) ∧ ∀ k, k < t → A (b + 1) k = A (b + 286 + 9) k ∧ -128 ≤ A (b + 1) k ∧ A (b + 1) k < 128
def LETS (A : ZA) (b : Nat) (p : Int) : Prop := ∃ n : Nat, n ≤ 6 ∧ A b 3 = (n : Int) ∧ A (b + 286) 19 = (n : Int) ∧ ∀ i, i < n → FQ A p (b + 2 + 1 + 2 * i) (b + 2 + 2 + 2 * i) (b + 286 + 10) i (b + 286 + 11) (181 * i)
def REGS (A : ZA) (b : Nat) (p : Int) : Prop := ∀ r, r < 4 → FQ A p (b + 15 + 1 + 2 * r) (b + 15 + 2 + 2 * r) (b + 286 + 18) r (b + 286 + 19) (181 * r)
/-- shelves of sort st at G, alike with the reference's -/
def SHQ (A B : ZA) (G : Nat) (st : Int) (fa fo na no : Nat) : Prop := (st = 0 ∨ st = 1) ∧ A (G + 1 + 7 * 0) 0 = st ∧ A (G + 1 + 7 * 1) 0 = 1 - st ∧ ∀ s, s < 2 → ∀ r, r < 4 → A (G + 2 + 7 * s) r = A fa (fo + 4 * s + r) ∧ (A (G + 2 + 7 * s) r = 0 ∨ A (G + 2 + 7 * s) r = 1) ∧ (A (G + 2 + 7 * s) r = 1 → ∀ i, i < 12 ∨ (i = 12 ∧ A (G + 1 + 7 * s) 0 = 0) → B (G + 3 + 7 * s + 1 + r) i = B na (no + 13 * (4 * s + r) + i))
theorem SHQ_of {A A' B B' : ZA} {G : Nat} {st : Int} {fa fo na no : Nat} (h : SHQ A B G st fa fo na no) (h1 : ∀ s, s < 2 → A' (G + 1 + 7 * s) 0 = A (G + 1 + 7 * s) 0) (h2 : ∀ s, s < 2 → ∀ r, r < 4 → A' (G + 2 + 7 * s) r = A (G + 2 + 7 * s) r) (h3 : ∀ s, s < 2 → ∀ r, r < 4 → A' fa (fo + 4 * s + r) = A fa (fo + 4 * s + r)) (h4 : ∀ s, s < 2 → ∀ r, r < 4 → ∀ i, i < 13 → B' (G + 3 + 7 * s + 1 + r) i = B (G + 3 + 7 * s + 1 + r) i) (h5 : ∀ s, s < 2 → ∀ r, r < 4 → ∀ i, i < 13 → B' na (no + 13 * (4 * s + r) + i) = B na (no + 13 * (4 * s + r) + i)) : SHQ A' B' G st fa fo na no := by
  obtain ⟨a, b, c, d⟩ := h
  refine ⟨a, by rw [h1 0 (by omega)]; exact b, by rw [h1 1 (by omega)]; exact c, fun s hs r hr => ?_⟩
  obtain ⟨d1, d2, d3⟩ := d s hs r hr
  rw [h1 s hs, h2 s hs r hr, h3 s hs r hr]
  exact ⟨d1, d2, fun q i hi => by rw [h4 s hs r hr i (by omega), h5 s hs r hr i (by omega)]; exact d3 q i hi⟩
def SHV (A B : ZA) (b : Nat) : Prop := SHQ A B (b + 24) (A (b + 286) 42) (b + 286 + 26) 0 (b + 286 + 27) 0
def IMG (A B : ZA) (b : Nat) (p : Int) : Prop := ∀ k, k < 2 → A (b + 236 + 25 * k) 0 = A (b + 286 + 28) k ∧ (A (b + 236 + 25 * k) 0 = 0 ∨ A (b + 236 + 25 * k) 0 = 1) ∧ (A (b + 236 + 25 * k) 0 = 1 → (∀ r, r < 4 → FQ A p (b + 237 + 25 * k + 1 + 2 * r) (b + 237 + 25 * k + 2 + 2 * r) (b + 286 + 30) (4 * k + r) (b + 286 + 31) (724 * k + 181 * r)) ∧ SHQ A B (b + 246 + 25 * k) (A (b + 286 + 29) k) (b + 286 + 32) (8 * k) (b + 286 + 33) (104 * k))
def CORE (A B : ZA) (b : Nat) (p : Int) : Prop := PR p ∧ A b 2 = p ∧ Bas A (b + 286) p ∧ TAPE A b ∧ LETS A b p ∧ REGS A b p ∧ SHV A B b ∧ IMG A B b p
def CNT (b : Nat) (c : (Nat × Nat) × (Nat → Nat)) (nb : Nat → Nat) (e : Nat) : Prop := c.1.1 ≤ b + 321 + sN nb + e ∧ c.1.2 ≤ 100000 + 182 * sT nb + 6 * e
def DYN (b : Nat) (S0 : SS) (A0 : ZA) (cc : Nat → Nat) (e : Nat) (S : SS) (A B : ZA) (c : (Nat × Nat) × (Nat → Nat)) (p : Int) (bs nb : Nat → Nat) : Prop :=
  LX S b ∧ SG B b S A c bs nb ∧ CNT b c nb e ∧ RC A (b + 286) p ∧ ROOTS A b ∧ (∀ x, x < b → S x = S0 x ∧ A x = A0 x) ∧ c.2 = cc
def IH (b : Nat) (S0 : SS) (A0 : ZA) (cc : Nat → Nat) (e : Nat) (h : JH) : Prop := ∃ S A B c p bs nb, h = mz S A B c ∧ CORE A B b p ∧ DYN b S0 A0 cc e S A B c p bs nb
/-- agreement where it matters -/
def FRM (b : Nat) (A A' : ZA) : Prop := (∀ x, x < b + 42 → A' x = A x) ∧ (∀ x, b + 236 ≤ x → x < b + 286 → A' x = A x) ∧ (∀ k, k = 1 ∨ k = 12 ∨ k = 19 ∨ k = 42 → A' (b + 286) k = A (b + 286) k) ∧ (∀ o, (1 ≤ o ∧ o ≤ 3) ∨ (9 ≤ o ∧ o ≤ 11) ∨ (18 ≤ o ∧ o ≤ 19) ∨ (26 ≤ o ∧ o ≤ 33) → A' (b + 286 + o) = A (b + 286 + o))
def FRB (b : Nat) (B B' : ZA) : Prop := ∀ x, x ≠ b + 235 → x ≠ b + 320 → B' x = B x
theorem FRM_refl (b : Nat) (A : ZA) : FRM b A A := ⟨fun _ _ => rfl, fun _ _ _ => rfl, fun _ _ => rfl, fun _ _ => rfl⟩
theorem FRB_refl (b : Nat) (B : ZA) : FRB b B B := fun _ _ _ => rfl
theorem FRM_trans {b : Nat} {A A' A'' : ZA} (h : FRM b A A') (h' : FRM b A' A'') : FRM b A A'' :=
  ⟨fun x hx => by rw [h'.1 x hx, h.1 x hx], fun x h1 h2 => by rw [h'.2.1 x h1 h2, h.2.1 x h1 h2], fun k hk => by rw [h'.2.2.1 k hk, h.2.2.1 k hk], fun o ho => by rw [h'.2.2.2 o ho, h.2.2.2 o ho]⟩
theorem CORE_frame {A A' B B' : ZA} {b : Nat} {p : Int} (h : CORE A B b p) (f : FRM b A A') (fb : FRB b B B') : CORE A' B' b p := by
  obtain ⟨h1, h2, h3, h4, h5, h6, h7, h8⟩ := h
  obtain ⟨f1, f2, f3, f4⟩ := f
  refine ⟨h1, by rw [f1 b (by omega)]; exact h2, ⟨by rw [f3 1 (by omega)]; exact h3.1, fun n hn => by rw [f4 1 (by omega), f4 2 (by omega), f4 3 (by omega)]; exact h3.2 n hn⟩, ?_, ?_, fun r hr => FQ_of (h6 r hr) (by rw [f1 _ (by omega)]) (fun n _ => by rw [f1 _ (by omega)]) (by rw [f4 18 (by omega)]) (fun n _ => by rw [f4 19 (by omega)]), ?_, fun k hk => ?_⟩
  · obtain ⟨t, a, b1, c, d⟩ := h4
    exact ⟨t, a, by rw [f1 _ (by omega)]; exact b1, by rw [f3 12 (by omega)]; exact c, fun k hk => by rw [f1 _ (by omega), f4 9 (by omega)]; exact d k hk⟩
  · obtain ⟨t, a, b1, c, d⟩ := h5
    exact ⟨t, a, by rw [f1 _ (by omega)]; exact b1, by rw [f3 19 (by omega)]; exact c, fun i hi => FQ_of (d i hi) (by rw [f1 _ (by omega)]) (fun n _ => by rw [f1 _ (by omega)]) (by rw [f4 10 (by omega)]) (fun n _ => by rw [f4 11 (by omega)])⟩
  · unfold SHV
    rw [f3 42 (by omega)]
    exact SHQ_of h7 (fun s hs => by rw [f1 _ (by omega)]) (fun s hs r hr => by rw [f1 _ (by omega)]) (fun s hs r hr => by rw [f4 26 (by omega)]) (fun s hs r hr i hi => by rw [fb _ (by omega) (by omega)]) (fun s hs r hr i hi => by rw [fb _ (by omega) (by omega)])
  · obtain ⟨a, b1, c⟩ := h8 k hk
    rw [f2 _ (by omega) (by omega), f4 28 (by omega), f4 29 (by omega)]
    refine ⟨a, b1, fun q => ⟨fun r hr => FQ_of ((c q).1 r hr) (by rw [f2 _ (by omega) (by omega)]) (fun n _ => by rw [f2 _ (by omega) (by omega)]) (by rw [f4 30 (by omega)]) (fun n _ => by rw [f4 31 (by omega)]), SHQ_of (c q).2 (fun s hs => by rw [f2 _ (by omega) (by omega)]) (fun s hs r hr => by rw [f2 _ (by omega) (by omega)]) (fun s hs r hr => by rw [f4 32 (by omega)]) (fun s hs r hr i hi => by rw [fb _ (by omega) (by omega)]) (fun s hs r hr i hi => by rw [fb _ (by omega) (by omega)])⟩⟩
/-- what is not spaces may change below b + 321 -/
theorem SG_of {S : SS} {A A' B B' : ZA} {b : Nat} {c : (Nat × Nat) × (Nat → Nat)} {bs nb : Nat → Nat} (h : SG B b S A c bs nb) (h1 : ∀ x, b + 321 ≤ x → A' x = A x) (h2 : ∀ i, i < 31 → ∀ k, k < 5 → A' (b + 42 + 3 * i) k = A (b + 42 + 3 * i) k) (h3 : ∀ x, b + 321 ≤ x → B' x = B x) : SG B' b S A' c bs nb := by
  obtain ⟨⟨I1, I2, I3, I4⟩, hF, hN⟩ := h
  refine ⟨⟨I1, I2, fun i hi => by rw [h2 i hi 0 (by omega), h2 i hi 1 (by omega)]; exact I3 i hi, fun i hi => ?_⟩, fun x hx k => by rw [h1 x (by omega), h3 x (by omega)]; exact hF x hx k, hN⟩
  rw [h2 i hi 3 (by omega)]
  rcases I4 i hi with h0 | ⟨l, m1, m2, m3, m4, m5⟩
  · exact Or.inl h0
  · refine Or.inr ⟨l, m1, m2, by rw [h2 i hi 4 (by omega)]; exact m3, m4, fun j hj n hn => ?_⟩
    have := (I1 i hi).2.2.2 j (by omega)
    rw [h1 _ this.1]
    exact m5 j hj n hn
theorem ROOTS_of {A A' : ZA} {b : Nat} (h : ROOTS A b) (h1 : ∀ i, i < 31 → A' (b + 42 + 3 * i) 6 = A (b + 42 + 3 * i) 6 ∧ A' (b + 42 + 3 * i) 7 = A (b + 42 + 3 * i) 7 ∧ A' (b + 44 + 3 * i) = A (b + 44 + 3 * i)) : ROOTS A' b := fun i hi => by
  obtain ⟨a, d, e⟩ := h1 i hi
  rw [a, d, e]
  exact h i hi
theorem RC_of {A A' : ZA} {m : Nat} {p : Int} (h : RC A m p) (h1 : A' m 7 = A m 7) (h2 : A' (m + 6) = A (m + 6)) : RC A' m p := by
  rcases h with h | ⟨k, a, b, c⟩
  · exact Or.inl (by rw [h1]; exact h)
  · exact Or.inr ⟨k, a, by rw [h1]; exact b, fun j hj n hn => by rw [h2]; exact c j hj n hn⟩
/-- the reference's flag of a throw is of no matter -/
theorem IH_thrown {b : Nat} {S0 : SS} {A0 : ZA} {cc : Nat → Nat} {e : Nat} {S : SS} {A B : ZA} {c : (Nat × Nat) × (Nat → Nat)} {p : Int} {bs nb : Nat → Nat} {v : Int} (h1 : CORE A B b p) (h2 : DYN b S0 A0 cc e S A B c p bs nb) : CORE (za A (b + 286) (up (A (b + 286)) 0 v)) B b p ∧ DYN b S0 A0 cc e S (za A (b + 286) (up (A (b + 286)) 0 v)) B c p bs nb := by
  obtain ⟨d1, d2, d3, d4, d5, d6, d7⟩ := h2
  refine ⟨CORE_frame h1 ⟨fun x hx => za_ne _ _ (by omega), fun x _ _ => za_ne _ _ (by omega), fun k hk => by rw [za_at, up_ne _ _ (by omega)], fun o ho => za_ne _ _ (by omega)⟩ (FRB_refl b B), d1, SG_of d2 (fun x hx => za_ne _ _ (by omega)) (fun i hi k _ => by rw [za_ne _ _ (by omega)]) (fun _ _ => rfl), d3, RC_of d4 (by rw [za_at, up_ne _ _ (by omega)]) (za_ne _ _ (by omega)), ROOTS_of d5 (fun i hi => ⟨by rw [za_ne _ _ (by omega)], by rw [za_ne _ _ (by omega)], za_ne _ _ (by omega)⟩), fun x hx => ⟨(d6 x hx).1, by rw [za_ne _ _ (by omega)]; exact (d6 x hx).2⟩, d7⟩
