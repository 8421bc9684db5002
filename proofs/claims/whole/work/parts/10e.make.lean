/-! The class: the rows of weight 12, and of a weight out of the one 12 below. -/
theorem ex_4 {p : Int} (hE : EH p) : ex p 4 (dl 0) = e4 p := (es_ex hE (by omega)).symm
theorem ex_6 {p : Int} (hE : EH p) : ex p 6 (dl 0) = e6 p := (es_ex hE (by omega)).symm
theorem ex_8 {p : Int} (hE : EH p) : ex p 8 (dl 0) = ml p (e4 p) (e4 p) := by
  rw [← es_ex hE (by omega)]
  unfold e4
  rw [ml_serl, ml_serr]
  exact ser_eq fun n hn => by rw [q8 hn]; rfl
theorem pn3_eq {p : Int} : pn p (e4 p) 3 = ml p (e4 p) (ml p (e4 p) (e4 p)) := by
  show ml p (ml p (ml p (dl 0) (e4 p)) (e4 p)) (e4 p) = _
  rw [ml_one, ml_serl, ml_comm]
theorem pn2_eq {p : Int} : pn p (e6 p) 2 = ml p (e6 p) (e6 p) := by
  show ml p (ml p (dl 0) (e6 p)) (e6 p) = _
  rw [ml_one, ml_serl]
theorem VV_dt {p : Int} (hE : EH p) : VV p 12 (dt p) := by
  have e : dt p = rwx p 12 1 := by
    show dt p = ml p (ml p (dl 0) (dl 0)) (ml p (dl 0) (dt p))
    have d0 : ser p (dl 0) = dl 0 := pn_ser hE.1 (dl 0) 0
    rw [ml_one p (dl 0), d0, ml_one, ml_one, ser_ser]
    exact (ser_ser p _).symm
  rw [e]
  exact VV_row (by decide)
theorem VV_c3 {p : Int} (hE : EH p) : VV p 12 (pn p (e4 p) 3) := by
  have e : pn p (e4 p) 3 = rwx p 12 0 := by
    show _ = ml p (ml p (pn p (e4 p) 3) (dl 0)) (dl 0)
    rw [ml_comm p _ (dl 0), ml_one, ml_ser, ml_comm p _ (dl 0), ml_one, pn_ser hE.1]
  rw [e]
  exact VV_row (by decide)
theorem x_twelve {S S1 : SS} {A A1 B : ZA} {c c1 : (Nat × Nat) × (Nat → Nat)} {s q r s4 q4 r4 s6 q6 r6 s8 q8 r8 l : Nat} {p : Int} (hv : jrecv (mz S A B c) s 5 = some ()) (h40 : jgI (mz S A B c) s4 5 3 = some (ii p)) (eB : f_X7_begin s (ii p) (ii (l : Int)) (mz S A B c) = some ((), mz S1 A1 B c1)) (hs : spS S1 s q r 2) (h1 : A1 s 1 = 2) (h3 : A1 s 3 = p) (h4 : A1 s 4 = (l : Int)) (hl : l ≤ 180) (hl6 : 6 ≤ l) (hE : EH p) (hp : 101 ≤ p) (hp2 : p < 10000)
    (g4 : spS S1 s4 q4 r4 1) (g6 : spS S1 s6 q6 r6 1) (g8 : spS S1 s8 q8 r8 1) (i4 : isr A1 (q4 + 1 + 0) l (ex p 4 (dl 0))) (i6 : isr A1 (q6 + 1 + 0) l (ex p 6 (dl 0))) (i8 : isr A1 (q8 + 1 + 0) l (ex p 8 (dl 0)))
    (d : ∀ j, j < 2 → q4 + 1 + 0 ≠ q + 1 + j ∧ q6 + 1 + 0 ≠ q + 1 + j ∧ q8 + 1 + 0 ≠ q + 1 + j) :
    ∃ A2 : ZA, f_X7_makeTwelve s s4 s6 s8 (ii (l : Int)) (mz S A B c) = some ((), mz S1 A2 B c1) ∧ (∀ i, i < 2 → isr A2 (q + 1 + i) l (ex p 12 (dl i))) ∧ (∀ x, (∀ i, i < 2 → x ≠ q + 1 + i) → A2 x = A1 x) := by
  have hp1 := hE.1
  have r0 := hs.2.2 0 (by omega)
  have r1 := hs.2.2 1 (by omega)
  have n0 := spS_ne hs (i := 0) (by omega)
  have n1 := spS_ne hs (i := 1) (by omega)
  have d0 := d 0 (by omega)
  have d1 := d 1 (by omega)
  rw [ex_4 hE] at i4
  rw [ex_6 hE] at i6
  rw [ex_8 hE] at i8
  unfold f_X7_makeTwelve
  rw [h40]
  simp only [Option.bind_some]
  rw [hv]
  simp only [Option.bind_some]
  rw [eB]
  simp (disch := omega) only [Option.bind_some, PR2 hs.1, PR2 g4.1, PR2 g8.1, k0, k1, sp_row hs, sp_row g4, sp_row g8, Pv hs.1]
  rw [x_mulr (f := e4 p) (g := ml p (e4 p) (e4 p)) hs.1 h3 h4 hl hp1 hp2 (g4.2.2 0 (by omega)) (g8.2.2 0 (by omega)) r0 d0.1 d0.2.2 (fun n hn => ⟨i4 n hn, e4_r hp1 n⟩) (fun n hn => ⟨i8 n hn, ml_r hp1 _ _ n⟩)]
  generalize hA2 : za A1 (q + 1 + 0) _ = A2
  have a1 : isr A2 (q + 1 + 0) l (pn p (e4 p) 3) := fun n hn => by rw [← hA2, za_at, mo_0in _ _ (by omega), pn3_eq]
  have a2 : ∀ x, x ≠ q + 1 + 0 → A2 x = A1 x := fun x hx => by rw [← hA2, za_ne _ _ hx]
  simp (disch := omega) only [Option.bind_some, PR2 g6.1, sp_row g6, Pv hs.1]
  rw [x_mulr (f := e6 p) (g := e6 p) hs.1 (by rw [a2 s n0]; exact h3) (by rw [a2 s n0]; exact h4) hl hp1 hp2 (g6.2.2 0 (by omega)) (g6.2.2 0 (by omega)) r1 d1.2.1 d1.2.1 (fun n hn => ⟨by rw [a2 _ d0.2.1]; exact i6 n hn, e6_r hp1 n⟩) (fun n hn => ⟨by rw [a2 _ d0.2.1]; exact i6 n hn, e6_r hp1 n⟩)]
  generalize hA3 : za A2 (q + 1 + 1) _ = A3
  have b1 : isr A3 (q + 1 + 1) l (pn p (e6 p) 2) := fun n hn => by rw [← hA3, za_at, mo_0in _ _ (by omega), pn2_eq]
  have b2 : ∀ x, x ≠ q + 1 + 1 → A3 x = A2 x := fun x hx => by rw [← hA3, za_ne _ _ hx]
  have b0 : isr A3 (q + 1 + 0) l (pn p (e4 p) 3) := fun n hn => by rw [b2 _ (by omega)]; exact a1 n hn
  have es3 : A3 s = A1 s := by rw [b2 s n1, a2 s n0]
  have hw := pw_r (b := 1728) hp1 (p - 2).toNat
  simp only [Option.bind_some, PI3 hs.1, es3, h3]
  rw [show ii ((1 : Nat) : Int) = ii 1 from rfl, show (1728 : Int32) = ii 1728 from rfl, f_divide _ (by omega) (by decide) (by omega) (by omega), Int.one_mul, Int.emod_eq_of_lt hw.1 hw.2]
  simp only [Option.bind_some]
  have key := fill_run (S := S1) (A := A3) (B := B) (c := c1) (a := q + 1 + 1) (o := 0) (f := f_X7_makeTwelve_L78 s (q + 1 + 0) (q + 1 + 1) (ii (pw 1728 p (p - 2).toNat))) (dt p) (l + 1) (by omega) (fun i hi => by
    have v1 := b0 i (by omega)
    have v2 := b1 i (by omega)
    have t1 := ml_r hp1 (e4 p) (ml p (e4 p) (e4 p)) i
    have t2 := ml_r hp1 (e6 p) (e6 p) i
    rw [← pn3_eq] at t1
    rw [← pn2_eq] at t2
    have t3 := mul_bd (M := 10000) (N := 10000) (a := pn p (e4 p) 3 i - pn p (e6 p) 2 i) ⟨by omega, by omega⟩ (b := pw 1728 p (p - 2).toNat) ⟨hw.1, by omega⟩
    unfold f_X7_makeTwelve_L78
    simp (disch := omega) only [PI4 hs.1, PI3 hs.1, za_ne _ _ n1, es3, h4, h3, n_lt, show ¬ (l < i) by omega, ↓reduceIte, Option.bind_some, jaI_n r0, jaI_n r1, za_at, za_ne, mo_out, v1, v2, ii_sub, i_l, ll_mul, f_of']
    rw [jsI_m0 r1 (by omega) (by omega) (by unfold dt; rw [ser_at (by omega)])]
    simp only [Option.bind_some, k1, n_add]) (by
    unfold f_X7_makeTwelve_L78
    simp (disch := omega) only [PI4 hs.1, za_ne _ _ n1, es3, h4, Option.bind_some, n_lt, show l < l + 1 by omega, ↓reduceIte])
  rw [key]
  simp only [Option.bind_some, Pv hs.1]
  obtain ⟨A5, e5, y1, y2⟩ := x_reduce (A := za A3 (q + 1 + 1) (mo (dt p) (A3 (q + 1 + 1)) 0 (l + 1))) (B := B) (c := c1) (k := 12) (p := p) (X := fun i => if i = 0 then pn p (e4 p) 3 else dt p) hs (by rw [za_ne _ _ n1, es3]; exact h3) (by rw [za_ne _ _ n1, es3]; exact h4) (by rw [za_ne _ _ n1, es3]; exact h1) hl hl6 hE hp2 (by omega) (by decide) (fun i hi => by
    have hi2 : i < 2 := hi
    by_cases e : i = 0
    · subst e
      exact ⟨VV_c3 hE, pn_lead hp1 (ie_lead hp1 240 3) 3 (by omega)⟩
    · have e1 : i = 1 := by omega
      subst e1
      exact ⟨VV_dt hE, hE.2.2⟩) (fun i hi => by
    have hi2 : i < 2 := hi
    by_cases e : i = 0
    · subst e
      intro n hn
      rw [za_ne _ _ (by omega)]
      exact b0 n hn
    · have e1 : i = 1 := by omega
      subst e1
      intro n hn
      rw [za_at, mo_0in _ _ (by omega)]
      rfl)
  rw [e5]
  refine ⟨A5, rfl, y1, fun x hx => ?_⟩
  rw [y2 x hx, za_ne _ _ (hx 1 (by omega)), b2 x (hx 1 (by omega)), a2 x (hx 0 (by omega))]
theorem ex_lead {p : Int} (hE : EH p) {k i : Nat} (hk : k ≤ 60) (hi : i < Lk k) : lead (ex p k (dl i)) i := by
  have hp := hE.1
  refine ⟨fun n hn => ?_, ?_⟩
  · rw [ex_first hE hk _ (by omega)]; unfold dl; rw [if_neg (by omega)]; rfl
  · rw [ex_first hE hk _ hi]; unfold dl; rw [if_pos rfl]; exact Int.emod_eq_of_lt (by decide) hp
theorem x_from {S S1 : SS} {A A1 B : ZA} {c c1 : (Nat × Nat) × (Nat → Nat)} {s q r s1 q1 r1 s2 q2 r2 k l : Nat} {p : Int} (hv : jrecv (mz S A B c) s 5 = some ()) (h20 : jgI (mz S A B c) s2 5 3 = some (ii p)) (eB : f_X7_begin s (ii p) (ii (l : Int)) (mz S A B c) = some ((), mz S1 A1 B c1)) (hk : k ≤ 48) (hk2 : k % 2 = 0) (hk3 : 1 ≤ Lk k) (hs : spS S1 s q r (Lk k + 1)) (h1 : A1 s 1 = ((Lk k + 1 : Nat) : Int)) (h3 : A1 s 3 = p) (h4 : A1 s 4 = (l : Int)) (hl : l ≤ 180) (hl6 : 6 ≤ l) (hE : EH p) (hp2 : p < 10000)
    (g1 : spS S1 s1 q1 r1 (Lk k)) (g2 : spS S1 s2 q2 r2 2) (i1 : ∀ j, j < Lk k → isr A1 (q1 + 1 + j) l (ex p k (dl j))) (i2 : ∀ j, j < 2 → isr A1 (q2 + 1 + j) l (ex p 12 (dl j)))
    (d1 : ∀ i j, i < Lk k → j < Lk k + 1 → q1 + 1 + i ≠ q + 1 + j) (d2 : ∀ i j, i < 2 → j < Lk k + 1 → q2 + 1 + i ≠ q + 1 + j) :
    ∃ A2 : ZA, f_X7_makeFrom s s1 s2 (ii (l : Int)) (mz S A B c) = some ((), mz S1 A2 B c1) ∧ (∀ i, i < Lk (k + 12) → isr A2 (q + 1 + i) l (ex p (k + 12) (dl i))) ∧ (∀ x, (∀ i, i < Lk (k + 12) → x ≠ q + 1 + i) → A2 x = A1 x) := by
  have hp1 := hE.1
  have hL := Lk_r (k := k) (by omega)
  have hL12 : Lk (k + 12) = Lk k + 1 := by unfold Lk; rw [show (k + 12) % 12 = k % 12 by omega, show (k + 12) / 12 = k / 12 + 1 by omega]; split <;> omega
  have hL6 := Lk_r (k := k + 12) (by omega)
  rw [hL12]
  unfold f_X7_makeFrom
  rw [h20]
  simp only [Option.bind_some]
  rw [hv]
  simp only [Option.bind_some]
  rw [eB]
  simp (disch := omega) only [Option.bind_some, PR2 hs.1, PR2 g1.1, PR2 g2.1, k0, k1, sp_row hs, sp_row g1, sp_row g2, Pv hs.1]
  rw [x_mulr (f := ex p k (dl 0)) (g := ex p 12 (dl 0)) hs.1 h3 h4 hl hp1 hp2 (g1.2.2 0 (by omega)) (g2.2.2 0 (by omega)) (hs.2.2 0 (by omega)) (d1 0 0 (by omega) (by omega)) (d2 0 0 (by omega) (by omega)) (fun n hn => ⟨i1 0 (by omega) n hn, ex_r hp1 _ _ n⟩) (fun n hn => ⟨i2 0 (by omega) n hn, ex_r hp1 _ _ n⟩)]
  simp only [Option.bind_some]
  have key := z_run (S := S1) (B := B) (c := c1) (f := f_X7_makeFrom_L34 s s1 s2) (fun t => ii ((t + 1 : Nat) : Int)) (fun t A' => (∀ i, i ≤ t → isr A' (q + 1 + i) l (ml p (if i = 0 then ex p k (dl 0) else ex p k (dl (i - 1))) (if i = 0 then ex p 12 (dl 0) else ex p 12 (dl 1)))) ∧ (∀ x, (∀ i, i < Lk k + 1 → x ≠ q + 1 + i) → A' x = A1 x)) (Lk k) (t := ii ((Lk k + 1 : Nat) : Int)) (by omega) (fun t ht A3 ⟨y1, y2⟩ => by
    have es3 : A3 s = A1 s := y2 s (fun i hi => spS_ne hs hi)
    unfold f_X7_makeFrom_L34
    simp (disch := omega) only [PI1 hs.1, es3, h1, Option.bind_some, n_le, show ¬ (Lk k + 1 ≤ t + 1) by omega, ↓reduceIte, PR2 hs.1, PR2 g1.1, PR2 g2.1, sp_row hs, k1, n_sub, n_add, show t + 1 - 1 = t by omega, sp_row g1, sp_row g2, Pv hs.1]
    rw [x_mulr (f := ex p k (dl t)) (g := ex p 12 (dl 1)) hs.1 (by rw [es3]; exact h3) (by rw [es3]; exact h4) hl hp1 hp2 (g1.2.2 t (by omega)) (g2.2.2 1 (by omega)) (hs.2.2 (t + 1) (by omega)) (d1 t (t + 1) (by omega) (by omega)) (d2 1 (t + 1) (by omega) (by omega)) (fun n hn => ⟨by rw [y2 _ (fun i hi => d1 t i ht hi)]; exact i1 t (by omega) n hn, ex_r hp1 _ _ n⟩) (fun n hn => ⟨by rw [y2 _ (fun i hi => d2 1 i (by omega) hi)]; exact i2 1 (by omega) n hn, ex_r hp1 _ _ n⟩)]
    simp only [Option.bind_some]
    refine ⟨_, rfl, fun i hi n hn => ?_, fun x hx => by rw [za_ne _ _ (hx (t + 1) (by omega)), y2 x hx]⟩
    by_cases e : i = t + 1
    · subst e
      rw [za_at, mo_0in _ _ (by omega), if_neg (by omega), if_neg (by omega), show t + 1 - 1 = t by omega]
    · rw [za_ne _ _ (by omega)]
      exact y1 i (by omega) n hn) (fun A3 ⟨_, y2⟩ => by
    have es3 : A3 s = A1 s := y2 s (fun i hi => spS_ne hs hi)
    unfold f_X7_makeFrom_L34
    simp (disch := omega) only [PI1 hs.1, es3, h1, Option.bind_some, n_le, Nat.le_refl, ↓reduceIte]) (A0 := za A1 (q + 1 + 0) (mo (ml p (ex p k (dl 0)) (ex p 12 (dl 0))) (A1 (q + 1 + 0)) 0 (l + 1))) ⟨fun i hi n hn => by
      have e : i = 0 := by omega
      subst e
      rw [za_at, mo_0in _ _ (by omega)]; rfl, fun x hx => za_ne _ _ (hx 0 (by omega))⟩
  obtain ⟨A3, e3, y1, y2⟩ := key
  have e3' : jloop (f_X7_makeFrom_L34 s s1 s2) jF (ii ((1 : Nat) : Int)) (mz S1 (za A1 (q + 1 + 0) (mo (ml p (ex p k (dl 0)) (ex p 12 (dl 0))) (A1 (q + 1 + 0)) 0 (l + 1))) B c1) = some (ii ((Lk k + 1 : Nat) : Int), mz S1 A3 B c1) := e3
  rw [e3']
  have es3 : A3 s = A1 s := y2 s (fun i hi => spS_ne hs hi)
  simp only [Option.bind_some, Pv hs.1]
  have hs' : spS S1 s q r (Lk (k + 12)) := by rw [hL12]; exact hs
  obtain ⟨A5, e5, w1, w2⟩ := x_reduce (A := A3) (B := B) (c := c1) (k := k + 12) (p := p) (X := fun i => ml p (if i = 0 then ex p k (dl 0) else ex p k (dl (i - 1))) (if i = 0 then ex p 12 (dl 0) else ex p 12 (dl 1))) hs' (by rw [es3]; exact h3) (by rw [es3]; exact h4) (by rw [es3, hL12]; exact h1) hl hl6 hE hp2 (by omega) (by omega) (fun i hi => by
    rw [hL12] at hi
    by_cases e : i = 0
    · subst e
      exact ⟨VV_ml hE hk2 (by decide) (ex_V p k _) (ex_V p 12 _), ml_lead hp1 (by omega) (ex_lead hE (by omega) (by omega)) (ex_lead hE (by omega) (by decide))⟩
    · obtain ⟨w, rfl⟩ : ∃ w, i = w + 1 := ⟨i - 1, by omega⟩
      show VV p (k + 12) (ml p (if w + 1 = 0 then _ else ex p k (dl (w + 1 - 1))) (if w + 1 = 0 then _ else ex p 12 (dl 1))) ∧ lead (ml p (if w + 1 = 0 then _ else ex p k (dl (w + 1 - 1))) (if w + 1 = 0 then _ else ex p 12 (dl 1))) (w + 1)
      rw [if_neg (by omega), if_neg (by omega), show w + 1 - 1 = w by omega]
      exact ⟨VV_ml hE hk2 (by decide) (ex_V p k _) (ex_V p 12 _), ml_lead hp1 (by omega) (ex_lead hE (by omega) (by omega)) (ex_lead hE (by omega) (by decide))⟩) (fun i hi => y1 i (by omega))
  rw [e5]
  rw [hL12] at w1 w2
  exact ⟨A5, rfl, w1, fun x hx => by rw [w2 x hx, y2 x hx]⟩
