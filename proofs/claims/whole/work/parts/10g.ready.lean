/-! The class: a space made ready. -/
def rSs (q : Nat) : Nat → Option (Option Nat) := fun k => if k = 0 then some (some q) else none
def LSp (S : SS) (b : Nat) : Prop := S (b + 40) = some (.inl (6, 1, rSs (b + 41))) ∧ S (b + 41) = some (.inr (.inr (.inl (.object "HeckeSeries$Space", 31, fun i => if i < 31 then some (b + 42 + 3 * i) else none))))
theorem LSp_R {S : SS} {A B : ZA} {c : (Nat × Nat) × (Nat → Nat)} {b : Nat} (h : LSp S b) : jgR (mz S A B c) (b + 40) 6 0 = some (b + 41) := jgR_z h.1 (by decide) rfl
theorem LSp_v {S : SS} {A B : ZA} {c : (Nat × Nat) × (Nat → Nat)} {b : Nat} (h : LSp S b) : jrecv (mz S A B c) (b + 40) 6 = some () := jrecv_z h.1
theorem LSp_a {S : SS} {A B : ZA} {c : (Nat × Nat) × (Nat → Nat)} {b i : Nat} (h : LSp S b) (hi : i < 31) : jaR (mz S A B c) (b + 41) (ii (i : Int)) = some (b + 42 + 3 * i) := by
  rw [jaR_n h.2 rfl hi (by omega), if_pos hi]
theorem LSp_SR {b : Nat} {S S' : SS} {A A' : ZA} {c c'} {nb nb' : Nat → Nat} (h : LSp S b) (r : SR b S A c nb S' A' c' nb') : LSp S' b :=
  ⟨by rw [(r.1 _ (by omega) (fun i _ => by omega)).1]; exact h.1, by rw [(r.1 _ (by omega) (fun i _ => by omega)).1]; exact h.2⟩
theorem x_isReady {S : SS} {A B : ZA} {b : Nat} {c : (Nat × Nat) × (Nat → Nat)} {bs nb : Nat → Nat} (h : SG B b S A c bs nb) {i l : Nat} (hi : i < 31) {p : Int} (hP : PR p) (hl : l = 36 ∨ l = 180) :
    (Rdy A b i p l ∧ f_X7_isReady (b + 42 + 3 * i) (ii p) (ii (l : Int)) (mz S A B c) = some (ii ((1 : Nat) : Int), mz S A B c)) ∨ (¬ Rdy A b i p l ∧ f_X7_isReady (b + 42 + 3 * i) (ii p) (ii (l : Int)) (mz S A B c) = some (ii ((0 : Nat) : Int), mz S A B c)) := by
  have hp := PR_p hP
  have hs := (h.1.1 i hi).1.1
  have hr : -2147483648 ≤ A (b + 42 + 3 * i) 3 ∧ A (b + 42 + 3 * i) 3 < 2147483648 := by
    rcases h.1.2.2.2 i hi with h0 | ⟨l2, m1, _⟩
    · omega
    · have := PR_p m1; omega
  unfold f_X7_isReady
  simp (disch := omega) only [PI3 hs, PI4 hs, Option.bind_some, i_eq]
  by_cases g : A (b + 42 + 3 * i) 3 = p
  · rcases h.1.2.2.2 i hi with h0 | ⟨l2, m1, m2, m3, m4, m5⟩
    · omega
    · simp (disch := omega) only [g, ↓reduceIte, m3, n_lt]
      by_cases g2 : l2 < l
      · refine Or.inr ⟨fun ⟨_, l', e1, e2⟩ => by omega, ?_⟩
        rw [if_pos g2]; rfl
      · refine Or.inl ⟨⟨g, l2, m3, by omega⟩, ?_⟩
        rw [if_neg g2]; rfl
  · refine Or.inr ⟨fun ⟨e, _⟩ => g e, ?_⟩
    rw [if_neg g]; rfl
theorem xs_alone {S : SS} {A B : ZA} {b : Nat} {c : (Nat × Nat) × (Nat → Nat)} {bs nb : Nat → Nat} (h : SG B b S A c bs nb) (hS : LSp S b) {i l : Nat} (hi : i = 0 ∨ i = 2 ∨ i = 3 ∨ i = 4 ∨ i = 5 ∨ i = 7) {p : Int} (hP : PR p) (hl : l = 36 ∨ l = 180) :
    ∃ S' A' c' bs' nb', f_X8_makeAlone (b + 40) (ii ((2 * i : Nat) : Int)) (ii p) (ii (l : Int)) (mz S A B c) = some ((), mz S' A' B c') ∧ SG B b S' A' c' bs' nb' ∧ SR b S A c nb S' A' c' nb' ∧ Rdy A' b i p l ∧ (∀ i', i' < 31 → i' ≠ i → A' (b + 42 + 3 * i') = A (b + 42 + 3 * i')) := by
  have hi31 : i < 31 := by omega
  have hL : Lk (2 * i) = 1 := by rcases hi with rfl | rfl | rfl | rfl | rfl | rfl <;> rfl
  have hp := PR_p hP
  unfold f_X8_makeAlone
  have hd : (2 * i) / 2 = i := by omega
  simp (disch := omega) only [LSp_R hS, Option.bind_some, k2, n_div, hd, LSp_a hS, Pv (h.1.1 i hi31).1.1]
  rcases x_isReady h hi31 hP hl with ⟨r, e⟩ | ⟨r, e⟩
  · rw [e]
    simp only [Option.bind_some]
    rw [if_neg (by decide)]
    exact ⟨S, A, c, bs, nb, rfl, h, SR_refl _ _ _ _ _, r, fun _ _ _ => rfl⟩
  · rw [e]
    simp only [Option.bind_some]
    rw [if_pos (show ii ((0 : Nat) : Int) = (0 : Int32) from rfl)]
    simp (disch := omega) only [LSp_R hS, Option.bind_some, LSp_a hS, Pv (h.1.1 i hi31).1.1]
    obtain ⟨S1, q, c1, A1, eB, s1, ⟨v0, v1, v3, v4⟩, s2, s3⟩ := SG_begin h hi31 (by omega) hP hl
    rw [hL] at s1
    obtain ⟨A2, e2, y1, y2⟩ := x_alone (k := 2 * i) (Pv (h.1.1 i hi31).1.1) eB s1 v0 v3 v4 (by omega) (by omega) (EH_of hP) hp.2 (by omega)
    rw [e2]
    obtain ⟨bs1, nb1, g1, g2, g3, g4⟩ := s3 A2 (fun j hj => by
      have : j = 0 := by omega
      subst this; exact y1) (fun x hx => y2 x (hx 0 (by omega)))
    exact ⟨S1, A2, c1, bs1, nb1, rfl, g1, g2, g3, g4⟩
theorem Rdy_of {A A' : ZA} {b i l : Nat} {p : Int} (h : A' (b + 42 + 3 * i) = A (b + 42 + 3 * i)) (r : Rdy A b i p l) : Rdy A' b i p l := by unfold Rdy; rw [h]; exact r
theorem xs_twelve {S : SS} {A B : ZA} {b : Nat} {c : (Nat × Nat) × (Nat → Nat)} {bs nb : Nat → Nat} (h : SG B b S A c bs nb) (hS : LSp S b) {l : Nat} {p : Int} (hP : PR p) (hl : l = 36 ∨ l = 180) :
    ∃ S' A' c' bs' nb', f_X8_makeTwelve (b + 40) (ii p) (ii (l : Int)) (mz S A B c) = some ((), mz S' A' B c') ∧ SG B b S' A' c' bs' nb' ∧ SR b S A c nb S' A' c' nb' ∧ Rdy A' b 6 p l ∧ (∀ i, i < 31 → Rdy A b i p l → Rdy A' b i p l) := by
  have hp := PR_p hP
  have d4 : (4 : Int32) = ii ((2 * 2 : Nat) : Int) := rfl
  have d6 : (6 : Int32) = ii ((2 * 3 : Nat) : Int) := rfl
  have d8 : (8 : Int32) = ii ((2 * 4 : Nat) : Int) := rfl
  unfold f_X8_makeTwelve
  simp only [LSp_R hS, Option.bind_some]
  rw [show jaR (mz S A B c) (b + 41) (6 : Int32) = some (b + 42 + 3 * 6) from LSp_a (i := 6) hS (by omega)]
  simp only [Option.bind_some]
  rw [Pv (h.1.1 6 (by omega)).1.1]
  simp only [Option.bind_some]
  rcases x_isReady h (show 6 < 31 by omega) hP hl with ⟨r, e⟩ | ⟨r, e⟩
  · rw [e]
    simp only [Option.bind_some]
    rw [if_neg (by decide)]
    exact ⟨S, A, c, bs, nb, rfl, h, SR_refl _ _ _ _ _, r, fun _ _ q => q⟩
  · rw [e]
    simp only [Option.bind_some]
    rw [if_pos (show ii ((0 : Nat) : Int) = (0 : Int32) from rfl)]
    simp only [LSp_v hS, Option.bind_some]
    obtain ⟨S1, A1, c1, bs1, nb1, e1, h1, q1, r1, o1⟩ := xs_alone h hS (i := 2) (by omega) hP hl
    have hS1 := LSp_SR hS q1
    rw [d4, e1]
    simp only [Option.bind_some, LSp_v hS1]
    obtain ⟨S2, A2, c2, bs2, nb2, e2, h2, q2, r2, o2⟩ := xs_alone h1 hS1 (i := 3) (by omega) hP hl
    have hS2 := LSp_SR hS1 q2
    rw [d6, e2]
    simp only [Option.bind_some, LSp_v hS2]
    obtain ⟨S3, A3, c3, bs3, nb3, e3, h3, q3, r3, o3⟩ := xs_alone h2 hS2 (i := 4) (by omega) hP hl
    have hS3 := LSp_SR hS2 q3
    rw [d8, e3]
    simp only [Option.bind_some, LSp_R hS3]
    rw [show jaR (mz S3 A3 B c3) (b + 41) (ii ((2 * 3 : Nat) : Int)) = some (b + 42 + 3 * 6) from LSp_a (i := 6) hS3 (by omega), show jaR (mz S3 A3 B c3) (b + 41) (2 : Int32) = some (b + 42 + 3 * 2) from LSp_a (i := 2) hS3 (by omega), show jaR (mz S3 A3 B c3) (b + 41) (3 : Int32) = some (b + 42 + 3 * 3) from LSp_a (i := 3) hS3 (by omega), show jaR (mz S3 A3 B c3) (b + 41) (ii ((2 * 2 : Nat) : Int)) = some (b + 42 + 3 * 4) from LSp_a (i := 4) hS3 (by omega)]
    simp only [Option.bind_some]
    rw [Pv (h3.1.1 6 (by omega)).1.1]
    simp only [Option.bind_some]
    have r4 : Rdy A3 b 2 p l := Rdy_of (o3 2 (by omega) (by omega)) (Rdy_of (o2 2 (by omega) (by omega)) r1)
    have r6 : Rdy A3 b 3 p l := Rdy_of (o3 3 (by omega) (by omega)) r2
    obtain ⟨n4, w4⟩ := Rdy_rows h3 (show 2 < 31 by omega) hP r4
    obtain ⟨n6, w6⟩ := Rdy_rows h3 (show 3 < 31 by omega) hP r6
    obtain ⟨n8, w8⟩ := Rdy_rows h3 (show 4 < 31 by omega) hP r3
    obtain ⟨S4, q, c4, A4, eB, s1, ⟨v0, v1, v3, v4⟩, s2, s3⟩ := SG_begin h3 (show 6 < 31 by omega) (by decide) hP hl
    obtain ⟨p4, z4, t4⟩ := s2 2 (by omega) (by omega)
    obtain ⟨p6, z6, t6⟩ := s2 3 (by omega) (by omega)
    obtain ⟨p8, z8, t8⟩ := s2 4 (by omega) (by omega)
    rw [n4] at p4 t4
    rw [n6] at p6 t6
    rw [n8] at p8 t8
    have L1 : Lk (2 * 2) = 1 := rfl
    have L2 : Lk (2 * 3) = 1 := rfl
    have L3 : Lk (2 * 4) = 1 := rfl
    have L4 : Lk (2 * 6) = 2 := rfl
    rw [L1] at p4 t4 w4
    rw [L2] at p6 t6 w6
    rw [L3] at p8 t8 w8
    rw [L4] at s1 s3 t4 t6 t8
    obtain ⟨A5, e5, y1, y2⟩ := x_twelve (Pv (h3.1.1 6 (by omega)).1.1) (by rw [PI3 (h3.1.1 2 (by omega)).1.1, r4.1]) eB s1 v1 v3 v4 (by omega) (by omega) (EH_of hP) hp.1 hp.2 p4 p6 p8 (fun n hn => by rw [(t4 0 (by omega)).1]; exact w4 0 (by omega) n hn) (fun n hn => by rw [(t6 0 (by omega)).1]; exact w6 0 (by omega) n hn) (fun n hn => by rw [(t8 0 (by omega)).1]; exact w8 0 (by omega) n hn) (fun j hj => ⟨(t4 0 (by omega)).2 j hj, (t6 0 (by omega)).2 j hj, (t8 0 (by omega)).2 j hj⟩)
    rw [e5]
    obtain ⟨bs5, nb5, g1, g2, g3, g4⟩ := s3 A5 y1 y2
    refine ⟨S4, A5, c4, bs5, nb5, rfl, g1, SR_trans q1 (SR_trans q2 (SR_trans q3 g2)), g3, fun i hi ri => ?_⟩
    have t1 : Rdy A1 b i p l := by
      by_cases x : i = 2
      · subst x; exact r1
      · exact Rdy_of (o1 i hi x) ri
    have t2 : Rdy A2 b i p l := by
      by_cases x : i = 3
      · subst x; exact r2
      · exact Rdy_of (o2 i hi x) t1
    have t3 : Rdy A3 b i p l := by
      by_cases x : i = 4
      · subst x; exact r3
      · exact Rdy_of (o3 i hi x) t2
    by_cases x : i = 6
    · subst x; exact g3
    · exact Rdy_of (g4 i hi x) t3
