/-! The class: the space of a weight, ready for a prime up to a coefficient. -/
theorem j_run {σ τ : Type} {f : σ → JH → Option ((σ ⊕ τ) × JH)} (st : Nat → σ) (Q : Nat → JH → Prop) (N : Nat) {t : τ} (hN : N < 20000)
    (hs : ∀ i, i < N → ∀ h, Q i h → ∃ h', f (st i) h = some (.inl (st (i + 1)), h') ∧ Q (i + 1) h')
    (he : ∀ h, Q N h → f (st N) h = some (.inr t, h)) {h0 : JH} (q0 : Q 0 h0) : ∃ h', jloop f jF (st 0) h0 = some (t, h') ∧ Q N h' := by
  have key : ∀ (k i : Nat), i + k = N → ∀ (fuel : Nat) (h : JH), k < fuel → Q i h → ∃ h', jloop f fuel (st i) h = some (t, h') ∧ Q N h' := by
    intro k
    induction k with
    | zero =>
      intro i hi fuel h hf hA
      obtain ⟨fu, rfl⟩ : ∃ q, fuel = q + 1 := ⟨fuel - 1, by omega⟩
      have e : i = N := by omega
      subst e
      exact ⟨h, jloop_end (he h hA), hA⟩
    | succ k ih =>
      intro i hi fuel h hf hA
      obtain ⟨fu, rfl⟩ : ∃ q, fuel = q + 1 := ⟨fuel - 1, by omega⟩
      obtain ⟨h1, e1, q1⟩ := hs i (by omega) h hA
      obtain ⟨h2, e2, q2⟩ := ih (i + 1) (by omega) fu h1 (by omega) q1
      exact ⟨h2, by rw [jloop_go e1]; exact e2, q2⟩
  exact key N 0 (by omega) jF h0 (jF_big hN) q0
/-- what ready leaves -/
def RQ (B : ZA) (b : Nat) (S : SS) (A : ZA) (c : (Nat × Nat) × (Nat → Nat)) (nb : Nat → Nat) (P : ZA → Prop) (h : JH) : Prop := ∃ S' A' c' bs' nb', h = mz S' A' B c' ∧ SG B b S' A' c' bs' nb' ∧ SR b S A c nb S' A' c' nb' ∧ P A'
theorem xs_from {S : SS} {A B : ZA} {b : Nat} {c : (Nat × Nat) × (Nat → Nat)} {bs nb : Nat → Nat} (h : SG B b S A c bs nb) {l i : Nat} {p : Int} (hP : PR p) (hl : l = 36 ∨ l = 180) (hi : 0 < i) (hi2 : i ≤ 24) (hi3 : 1 ≤ Lk (2 * i)) (r6 : Rdy A b 6 p l) (r1 : Rdy A b i p l) :
    ∃ h', f_X7_makeFrom (b + 42 + 3 * (i + 6)) (b + 42 + 3 * i) (b + 42 + 3 * 6) (ii (l : Int)) (mz S A B c) = some ((), h') ∧ RQ B b S A c nb (fun A' => Rdy A' b (i + 6) p l ∧ Rdy A' b 6 p l) h' := by
  have hp := PR_p hP
  have hL12 : Lk (2 * (i + 6)) = Lk (2 * i) + 1 := by unfold Lk; rw [show (2 * (i + 6)) % 12 = (2 * i) % 12 by omega, show (2 * (i + 6)) / 12 = (2 * i) / 12 + 1 by omega]; split <;> omega
  obtain ⟨n1, w1⟩ := Rdy_rows h (show i < 31 by omega) hP r1
  obtain ⟨n6, w6⟩ := Rdy_rows h (show 6 < 31 by omega) hP r6
  obtain ⟨S4, q, c4, A4, eB, s1, ⟨v0, v1, v3, v4⟩, s2, s3⟩ := SG_begin h (show i + 6 < 31 by omega) (by omega) hP hl
  obtain ⟨p1, z1, t1⟩ := s2 i (by omega) (by omega)
  obtain ⟨p6, z6, t6⟩ := s2 6 (by omega) (by omega)
  rw [n1] at p1 t1
  rw [n6] at p6 t6
  have L4 : Lk (2 * 6) = 2 := rfl
  rw [L4] at p6 t6 w6
  rw [hL12] at s1 v1
  obtain ⟨A5, e5, y1, y2⟩ := x_from (k := 2 * i) (Pv (h.1.1 (i + 6) (by omega)).1.1) (by rw [PI3 (h.1.1 6 (by omega)).1.1, r6.1]) eB (by omega) (by omega) hi3 s1 v1 v3 v4 (by omega) (by omega) (EH_of hP) hp.2 p1 p6 (fun j hj n hn => by rw [(t1 j hj).1]; exact w1 j hj n hn) (fun j hj n hn => by rw [(t6 j hj).1]; exact w6 j hj n hn) (fun i1 j hi1 hj => (t1 i1 hi1).2 j (by omega)) (fun i1 j hi1 hj => (t6 i1 hi1).2 j (by omega))
  rw [show 2 * i + 12 = 2 * (i + 6) by omega] at y1 y2
  obtain ⟨bs5, nb5, g1, g2, g3, g4⟩ := s3 A5 y1 y2
  exact ⟨_, e5, S4, A5, c4, bs5, nb5, rfl, g1, g2, g3, Rdy_of (g4 6 (by omega) (by omega)) r6⟩
theorem RQ_trans {B : ZA} {b : Nat} {S : SS} {A : ZA} {c} {nb : Nat → Nat} {S1 : SS} {A1 : ZA} {c1} {nb1 : Nat → Nat} {P : ZA → Prop} {h : JH} (r : SR b S A c nb S1 A1 c1 nb1) (q : RQ B b S1 A1 c1 nb1 P h) : RQ B b S A c nb P h := by
  obtain ⟨S', A', c', bs', nb', e, g, r2, q⟩ := q
  exact ⟨S', A', c', bs', nb', e, g, SR_trans r r2, q⟩
theorem xs_loop {S : SS} {A B : ZA} {b : Nat} {c : (Nat × Nat) × (Nat → Nat)} {bs nb : Nat → Nat} (h : SG B b S A c bs nb) (hS : LSp S b) {l e N : Nat} {p : Int} (a4 : Nat) (hP : PR p) (hl : l = 36 ∨ l = 180) (he : e = 0 ∨ e = 4 ∨ e = 6 ∨ e = 8 ∨ e = 10 ∨ e = 14) (hN : e + 12 * N ≤ 60) (r1 : Rdy A b (e / 2) p l) (r6 : N = 0 ∨ Rdy A b 6 p l) :
    ∃ t h', jloop (f_X8_ready_L94 (b + 40) (ii ((e + 12 * N : Nat) : Int)) (ii p) a4 (ii (l : Int))) jF (ii ((e + 12 : Nat) : Int)) (mz S A B c) = some (t, h') ∧ RQ B b S A c nb (fun A' => Rdy A' b ((e + 12 * N) / 2) p l) h' := by
  have key := j_run (f := f_X8_ready_L94 (b + 40) (ii ((e + 12 * N : Nat) : Int)) (ii p) a4 (ii (l : Int))) (fun t => ii ((e + 12 + 12 * t : Nat) : Int)) (fun t h' => RQ B b S A c nb (fun A' => Rdy A' b ((e + 12 * t) / 2) p l ∧ (N = 0 ∨ Rdy A' b 6 p l)) h') N (t := ii ((e + 12 + 12 * N : Nat) : Int)) (by omega) (fun t ht h1 hq => by
    obtain ⟨S1, A1, c1, bs1, nb1, rfl, g1, g2, g3, g4⟩ := hq
    have g4' : Rdy A1 b 6 p l := by rcases g4 with x | x; · omega
                                    · exact x
    have hS1 := LSp_SR hS g2
    have hd : (e + 12 + 12 * t) / 2 = (e + 12 * t) / 2 + 6 := by omega
    have hd2 : (e + 12 + 12 * t - 12) / 2 = (e + 12 * t) / 2 := by omega
    have h31 : (e + 12 * t) / 2 + 6 < 31 := by omega
    unfold f_X8_ready_L94
    simp (disch := omega) only [n_lt, show ¬ (e + 12 * N < e + 12 + 12 * t) by omega, ↓reduceIte, LSp_R hS1, Option.bind_some, k2, k12, n_div, n_sub, n_add, hd, hd2, LSp_a hS1, Pv (g1.1.1 _ h31).1.1]
    rw [show e + 12 + 12 * t + 12 = e + 12 + 12 * (t + 1) by omega]
    rcases x_isReady g1 h31 hP hl with ⟨r, er⟩ | ⟨r, er⟩
    · rw [er]
      simp only [Option.bind_some]
      rw [if_neg (by decide)]
      exact ⟨_, rfl, S1, A1, c1, bs1, nb1, rfl, g1, g2, by rw [show (e + 12 * (t + 1)) / 2 = (e + 12 * t) / 2 + 6 by omega]; exact r, g4⟩
    · rw [er]
      simp only [Option.bind_some]
      rw [if_pos (show ii ((0 : Nat) : Int) = (0 : Int32) from rfl)]
      have h0 : 0 < (e + 12 * t) / 2 := by
        by_cases x : (e + 12 * t) / 2 = 0
        · rw [x] at r; exact absurd g4' r
        · omega
      simp (disch := omega) only [LSp_R hS1, Option.bind_some, LSp_a hS1, Pv (g1.1.1 _ h31).1.1]
      rw [show jaR (mz S1 A1 B c1) (b + 41) (6 : Int32) = some (b + 42 + 3 * 6) from LSp_a (i := 6) hS1 (by omega)]
      simp only [Option.bind_some]
      obtain ⟨h2, e2, q2⟩ := xs_from g1 hP hl h0 (by omega) (by unfold Lk; split <;> omega) g4' g3
      rw [e2]
      refine ⟨h2, rfl, ?_⟩
      obtain ⟨S2, A2, c2, bs2, nb2, x1, x2, x3, x4, x5⟩ := RQ_trans g2 q2
      exact ⟨S2, A2, c2, bs2, nb2, x1, x2, x3, by rw [show (e + 12 * (t + 1)) / 2 = (e + 12 * t) / 2 + 6 by omega]; exact x4, Or.inr x5⟩) (fun h1 _ => by
    unfold f_X8_ready_L94
    simp (disch := omega) only [n_lt, show e + 12 * N < e + 12 + 12 * N by omega, ↓reduceIte]) (h0 := mz S A B c) ⟨S, A, c, bs, nb, rfl, h, SR_refl _ _ _ _ _, by rw [show e + 12 * 0 = e by omega]; exact r1, r6⟩
  obtain ⟨h', e1, S2, A2, c2, bs2, nb2, x1, x2, x3, x4, x5⟩ := key
  rw [show e + 12 + 12 * 0 = e + 12 by omega] at e1
  exact ⟨_, h', e1, S2, A2, c2, bs2, nb2, x1, x2, x3, x4⟩
/-- weight 2: nothing is made -/
theorem xs_loop2 {h : JH} {l : Int32} {p : Int32} {b a4 : Nat} : jloop (f_X8_ready_L94 (b + 40) (ii ((2 : Nat) : Int)) p a4 l) jF ((14 : Int32) + (12 : Int32)) h = some (((14 : Int32) + (12 : Int32)), h) := by
  refine jloop_end (n := 19999) ?_
  unfold f_X8_ready_L94
  rw [if_pos (by decide)]
/-- what is done where the space isn't ready: the same for both lasts -/
theorem xs_make {S : SS} {A B : ZA} {b : Nat} {c : (Nat × Nat) × (Nat → Nat)} {bs nb : Nat → Nat} (h : SG B b S A c bs nb) (hS : LSp S b) {l i : Nat} {p : Int} (v3 : Nat) (hP : PR p) (hl : l = 36 ∨ l = 180) (hi : i < 31) :
    ∃ h', (if (jrem (ii ((2 * i : Nat) : Int)) (12 : Int32)) = (2 : Int32) then
        if (ii ((2 * i : Nat) : Int)) < (14 : Int32) then
          if (ii ((2 * i : Nat) : Int)) ≤ (14 : Int32) then
            (jloop (f_X8_ready_L94 (b + 40) (ii ((2 * i : Nat) : Int)) (ii p) v3 (ii (l : Int))) jF ((14 : Int32) + (12 : Int32)) (mz S A B c)).bind fun q53 =>
            some (v3, q53.2)
          else
            (jrecv (mz S A B c) (b + 40) 6).bind fun u59 =>
            (f_X8_makeTwelve (b + 40) (ii p) (ii (l : Int)) (mz S A B c)).bind fun q55 =>
            (jloop (f_X8_ready_L94 (b + 40) (ii ((2 * i : Nat) : Int)) (ii p) v3 (ii (l : Int))) jF ((14 : Int32) + (12 : Int32)) q55.2).bind fun q57 =>
            some (v3, q57.2)
        else
          (jrecv (mz S A B c) (b + 40) 6).bind fun u71 =>
          (f_X8_makeAlone (b + 40) (14 : Int32) (ii p) (ii (l : Int)) (mz S A B c)).bind fun q61 =>
          if (ii ((2 * i : Nat) : Int)) ≤ (14 : Int32) then
            (jloop (f_X8_ready_L94 (b + 40) (ii ((2 * i : Nat) : Int)) (ii p) v3 (ii (l : Int))) jF ((14 : Int32) + (12 : Int32)) q61.2).bind fun q63 =>
            some (v3, q63.2)
          else
            (jrecv q61.2 (b + 40) 6).bind fun u69 =>
            (f_X8_makeTwelve (b + 40) (ii p) (ii (l : Int)) q61.2).bind fun q65 =>
            (jloop (f_X8_ready_L94 (b + 40) (ii ((2 * i : Nat) : Int)) (ii p) v3 (ii (l : Int))) jF ((14 : Int32) + (12 : Int32)) q65.2).bind fun q67 =>
            some (v3, q67.2)
      else
        if (ii ((2 * i : Nat) : Int)) < (jrem (ii ((2 * i : Nat) : Int)) (12 : Int32)) then
          if (ii ((2 * i : Nat) : Int)) ≤ (jrem (ii ((2 * i : Nat) : Int)) (12 : Int32)) then
            (jloop (f_X8_ready_L94 (b + 40) (ii ((2 * i : Nat) : Int)) (ii p) v3 (ii (l : Int))) jF ((jrem (ii ((2 * i : Nat) : Int)) (12 : Int32)) + (12 : Int32)) (mz S A B c)).bind fun q33 =>
            some (v3, q33.2)
          else
            (jrecv (mz S A B c) (b + 40) 6).bind fun u39 =>
            (f_X8_makeTwelve (b + 40) (ii p) (ii (l : Int)) (mz S A B c)).bind fun q35 =>
            (jloop (f_X8_ready_L94 (b + 40) (ii ((2 * i : Nat) : Int)) (ii p) v3 (ii (l : Int))) jF ((jrem (ii ((2 * i : Nat) : Int)) (12 : Int32)) + (12 : Int32)) q35.2).bind fun q37 =>
            some (v3, q37.2)
        else
          (jrecv (mz S A B c) (b + 40) 6).bind fun u51 =>
          (f_X8_makeAlone (b + 40) (jrem (ii ((2 * i : Nat) : Int)) (12 : Int32)) (ii p) (ii (l : Int)) (mz S A B c)).bind fun q41 =>
          if (ii ((2 * i : Nat) : Int)) ≤ (jrem (ii ((2 * i : Nat) : Int)) (12 : Int32)) then
            (jloop (f_X8_ready_L94 (b + 40) (ii ((2 * i : Nat) : Int)) (ii p) v3 (ii (l : Int))) jF ((jrem (ii ((2 * i : Nat) : Int)) (12 : Int32)) + (12 : Int32)) q41.2).bind fun q43 =>
            some (v3, q43.2)
          else
            (jrecv q41.2 (b + 40) 6).bind fun u49 =>
            (f_X8_makeTwelve (b + 40) (ii p) (ii (l : Int)) q41.2).bind fun q45 =>
            (jloop (f_X8_ready_L94 (b + 40) (ii ((2 * i : Nat) : Int)) (ii p) v3 (ii (l : Int))) jF ((jrem (ii ((2 * i : Nat) : Int)) (12 : Int32)) + (12 : Int32)) q45.2).bind fun q47 =>
            some (v3, q47.2)) = some (v3, h') ∧ RQ B b S A c nb (fun A' => i ≠ 1 → Rdy A' b i p l) h' := by
  have go : ∀ e N : Nat, (e = 0 ∨ e = 4 ∨ e = 6 ∨ e = 8 ∨ e = 10 ∨ e = 14) → e + 12 * N = 2 * i → ∃ h', ((jrecv (mz S A B c) (b + 40) 6).bind fun _ => (f_X8_makeAlone (b + 40) (ii (e : Int)) (ii p) (ii (l : Int)) (mz S A B c)).bind fun q41 =>
          if 2 * i ≤ e then
            (jloop (f_X8_ready_L94 (b + 40) (ii ((2 * i : Nat) : Int)) (ii p) v3 (ii (l : Int))) jF (ii ((e + 12 : Nat) : Int)) q41.2).bind fun q43 =>
            some (v3, q43.2)
          else
            (jrecv q41.2 (b + 40) 6).bind fun _ =>
            (f_X8_makeTwelve (b + 40) (ii p) (ii (l : Int)) q41.2).bind fun q45 =>
            (jloop (f_X8_ready_L94 (b + 40) (ii ((2 * i : Nat) : Int)) (ii p) v3 (ii (l : Int))) jF (ii ((e + 12 : Nat) : Int)) q45.2).bind fun q47 =>
            some (v3, q47.2)) = some (v3, h') ∧ RQ B b S A c nb (fun A' => i ≠ 1 → Rdy A' b i p l) h' := by
    intro e N he heN
    have he2 : 2 * (e / 2) = e := by omega
    obtain ⟨S1, A1, c1, bs1, nb1, e1, h1, q1, r1, o1⟩ := xs_alone h hS (i := e / 2) (by omega) hP hl
    rw [he2] at e1
    have hS1 := LSp_SR hS q1
    simp only [LSp_v hS, Option.bind_some, e1]
    by_cases g : 2 * i ≤ e
    · rw [if_pos g]
      obtain ⟨t, h', e2, q2⟩ := xs_loop h1 hS1 (e := e) (N := N) v3 hP hl he (by omega) r1 (Or.inl (by omega))
      rw [heN] at e2 q2
      rw [e2]
      obtain ⟨S2, A2, c2, bs2, nb2, x1, x2, x3, x4⟩ := RQ_trans q1 q2
      exact ⟨h', rfl, S2, A2, c2, bs2, nb2, x1, x2, x3, fun _ => by rw [show (2 * i) / 2 = i by omega] at x4; exact x4⟩
    · rw [if_neg g, LSp_v hS1]
      simp only [Option.bind_some]
      obtain ⟨S2, A2, c2, bs2, nb2, e2, h2, q2, r2, o2⟩ := xs_twelve h1 hS1 hP hl
      rw [e2]
      simp only [Option.bind_some]
      have hS2 := LSp_SR hS1 q2
      obtain ⟨t, h', e3, q3⟩ := xs_loop h2 hS2 (e := e) (N := N) v3 hP hl he (by omega) (o2 _ (by omega) r1) (Or.inr r2)
      rw [heN] at e3 q3
      rw [e3]
      obtain ⟨S3, A3, c3, bs3, nb3, x1, x2, x3, x4⟩ := RQ_trans q1 (RQ_trans q2 q3)
      exact ⟨h', rfl, S3, A3, c3, bs3, nb3, x1, x2, x3, fun _ => by rw [show (2 * i) / 2 = i by omega] at x4; exact x4⟩
  simp (disch := omega) only [k12, k2, k14, n_rem, n_eq, n_lt, n_le, n_add]
  by_cases g : (2 * i) % 12 = 2
  · rw [if_pos g]
    by_cases g2 : 2 * i < 14
    · have e1 : i = 1 := by omega
      subst e1
      rw [if_pos (by omega), if_pos (by omega)]
      refine ⟨mz S A B c, ?_, S, A, c, bs, nb, rfl, h, SR_refl _ _ _ _ _, fun x => absurd rfl x⟩
      have := xs_loop2 (h := mz S A B c) (l := ii (l : Int)) (p := ii p) (b := b) (a4 := v3)
      rw [show (2 : Nat) * 1 = 2 from rfl, show ii ((14 + 12 : Nat) : Int) = (14 : Int32) + (12 : Int32) from rfl, this]
      rfl
    · rw [if_neg g2]
      exact go 14 ((2 * i - 14) / 12) (by omega) (by omega)
  · rw [if_neg g, if_neg (by omega)]
    exact go ((2 * i) % 12) (2 * i / 12) (by omega) (by omega)
def lst (n : Nat) : Nat := if 36 < n then 180 else 36
theorem x_ready {S : SS} {A B : ZA} {b : Nat} {c : (Nat × Nat) × (Nat → Nat)} {bs nb : Nat → Nat} (h : SG B b S A c bs nb) (hS : LSp S b) {i n : Nat} {p : Int} (hP : PR p) (hi : i < 31) (hn : n ≤ 180) :
    ∃ h', f_X8_ready (b + 40) (ii ((2 * i : Nat) : Int)) (ii p) (ii (n : Int)) (mz S A B c) = some (b + 42 + 3 * i, h') ∧ RQ B b S A c nb (fun A' => i ≠ 1 → Rdy A' b i p n) h' := by
  have hd : (2 * i) / 2 = i := by omega
  have fin : ∀ (l : Nat), n ≤ l → ∀ h', RQ B b S A c nb (fun A' => i ≠ 1 → Rdy A' b i p l) h' → RQ B b S A c nb (fun A' => i ≠ 1 → Rdy A' b i p n) h' := by
    rintro l hnl h' ⟨S2, A2, c2, bs2, nb2, x1, x2, x3, x4⟩
    exact ⟨S2, A2, c2, bs2, nb2, x1, x2, x3, fun hne => by obtain ⟨y1, l', y2, y3⟩ := x4 hne; exact ⟨y1, l', y2, by omega⟩⟩
  unfold f_X8_ready
  rw [LSp_R hS]
  simp only [Option.bind_some]
  rw [show ii ((2 * i : Nat) : Int) / (2 : Int32) = ii (i : Int) by rw [k2, n_div (by omega) (by omega) (by omega), hd], LSp_a hS hi]
  simp only [Option.bind_some]
  rw [Pv (h.1.1 i hi).1.1]
  simp only [Option.bind_some]
  by_cases g : 36 < n
  · rw [if_pos (by rw [k36, n_lt (by omega) (by omega)]; exact g), k180]
    rcases x_isReady h hi hP (l := 180) (Or.inr rfl) with ⟨r, e⟩ | ⟨r, e⟩
    · rw [e]
      simp only [Option.bind_some]
      rw [if_neg (by decide)]
      exact ⟨_, rfl, fin 180 (by omega) _ ⟨S, A, c, bs, nb, rfl, h, SR_refl _ _ _ _ _, fun _ => r⟩⟩
    · rw [e]
      simp only [Option.bind_some]
      rw [if_pos (show ii ((0 : Nat) : Int) = (0 : Int32) from rfl)]
      obtain ⟨h', e2, q2⟩ := xs_make h hS (l := 180) (b + 42 + 3 * i) hP (Or.inr rfl) hi
      exact ⟨h', e2, fin 180 (by omega) _ q2⟩
  · rw [if_neg (by rw [k36, n_lt (by omega) (by omega)]; exact g), k36]
    rcases x_isReady h hi hP (l := 36) (Or.inl rfl) with ⟨r, e⟩ | ⟨r, e⟩
    · rw [e]
      simp only [Option.bind_some]
      rw [if_neg (by decide)]
      exact ⟨_, rfl, fin 36 (by omega) _ ⟨S, A, c, bs, nb, rfl, h, SR_refl _ _ _ _ _, fun _ => r⟩⟩
    · rw [e]
      simp only [Option.bind_some]
      rw [if_pos (show ii ((0 : Nat) : Int) = (0 : Int32) from rfl)]
      obtain ⟨h', e2, q2⟩ := xs_make h hS (l := 36) (b + 42 + 3 * i) hP (Or.inl rfl) hi
      exact ⟨h', e2, fin 36 (by omega) _ q2⟩
