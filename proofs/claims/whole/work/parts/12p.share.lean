/-! Call share, joined. -/
theorem k150 : (150 : Int32) = ii ((150 : Nat) : Int) := rfl
theorem jnn_of {r : UInt32} (h : shn r = true) : jnn r = some () := by
  unfold jnn
  rw [if_pos (of_decide_eq_true h)]
theorem and_t {a b : Bool} (h : (a && b) = true) : a = true ∧ b = true := by
  rw [Bool.and_eq_true] at h; exact h
theorem sh_p {k : Nat} (hk : 4 ≤ k ∧ k ≤ 60) : (ii (k : Int) - ii ((2 : Nat) : Int)) / ii ((2 : Nat) : Int) = ii (((k - 2) / 2 : Nat) : Int) := by
  rw [n_sub (by omega), n_div (by omega) (by omega) (by omega)]
theorem x_spw (h : JH) {k n : Nat} (x : Int64) (y : Int32) (hk : 4 ≤ k ∧ k ≤ 60) (hs : ∀ i, i < (k - 2) / 2 → shn (spw n (i + 1)) = true) : jloop (f_X10_shareOf_L19 x (ii (k : Int)) (ii (n : Int)) y) jF (FP.fconst1, ii ((0 : Nat) : Int)) h = some ((spw n ((k - 2) / 2), ii (((k - 2) / 2 : Nat) : Int)), h) := by
  have key := jloop_run (f := f_X10_shareOf_L19 x (ii (k : Int)) (ii (n : Int)) y) (fun i => (spw n i, ii (i : Int))) (fun _ => h) ((k - 2) / 2) (fun i hi => by
    have hj : jnn (FP.fmul (spw n i) (FP.i2f (ii (n : Int)))) = some () := jnn_of (hs i hi)
    unfold f_X10_shareOf_L19
    dsimp only
    rw [k2, sh_p hk, if_neg (by rw [n_le (by omega) (by omega)]; omega), hj, k1, n_add]
    rfl) (t := (spw n ((k - 2) / 2), ii (((k - 2) / 2 : Nat) : Int))) (h1 := h) (by
    unfold f_X10_shareOf_L19
    dsimp only
    rw [k2, sh_p hk, if_pos (by rw [n_le (by omega) (by omega)]; omega)]) (jF_big (by omega))
  exact key
theorem m_spw (h : JH) {k n : Nat} (x : Int64) (y : UInt32) (hk : 4 ≤ k ∧ k ≤ 60) (hs : ∀ i, i < (k - 2) / 2 → shn (spw n (i + 1)) = true) : jloop (f_X12_share_L82 (ii (k : Int)) (ii (n : Int)) x y) jF (FP.fconst1, ii ((0 : Nat) : Int)) h = some ((spw n ((k - 2) / 2), ii (((k - 2) / 2 : Nat) : Int)), h) := by
  have key := jloop_run (f := f_X12_share_L82 (ii (k : Int)) (ii (n : Int)) x y) (fun i => (spw n i, ii (i : Int))) (fun _ => h) ((k - 2) / 2) (fun i hi => by
    have hj : jnn (FP.fmul (spw n i) (FP.i2f (ii (n : Int)))) = some () := jnn_of (hs i hi)
    unfold f_X12_share_L82
    dsimp only
    rw [k2, sh_p hk, if_neg (by rw [n_le (by omega) (by omega)]; omega), hj, k1, n_add]
    rfl) (t := (spw n ((k - 2) / 2), ii (((k - 2) / 2 : Nat) : Int))) (h1 := h) (by
    unfold f_X12_share_L82
    dsimp only
    rw [k2, sh_p hk, if_pos (by rw [n_le (by omega) (by omega)]; omega)]) (jF_big (by omega))
  exact key
theorem sok1_at {n : Nat} (hn : 1 ≤ n ∧ n ≤ 60) : (∀ i, i < 20 → jnn (FP.fdiv (FP.i2f (ii (n : Int))) (srt n i)) = some () ∧ jnn (FP.fadd (srt n i) (FP.fdiv (FP.i2f (ii (n : Int))) (srt n i))) = some () ∧ jnn (srt n (i + 1)) = some ()) ∧ srt n 20 = srT n := by
  have h := allb_at sok1_all (n - 1) (by omega)
  rw [show n - 1 + 1 = n by omega] at h
  obtain ⟨h1, h2⟩ := and_t h
  refine ⟨fun i hi => ?_, of_decide_eq_true h2⟩
  obtain ⟨h3, h4⟩ := and_t (allb_at h1 i hi)
  obtain ⟨h5, h6⟩ := and_t h3
  exact ⟨jnn_of h5, jnn_of h6, jnn_of h4⟩
theorem x_srt (h : JH) {n : Nat} (x : Int64) (y : Int32) (z : UInt32) (hn : 1 ≤ n ∧ n ≤ 60) : jloop (f_X10_shareOf_L49 x (ii (n : Int)) y z) jF (FP.i2f (ii (n : Int)), ii ((0 : Nat) : Int)) h = some ((srT n, ii ((20 : Nat) : Int)), h) := by
  have a := sok1_at hn
  have key := jloop_run (f := f_X10_shareOf_L49 x (ii (n : Int)) y z) (fun i => (srt n i, ii (i : Int))) (fun _ => h) 20 (fun i hi => by
    obtain ⟨a1, a2, a3⟩ := a.1 i hi
    have a3' : jnn (FP.fdiv (FP.fadd (srt n i) (FP.fdiv (FP.i2f (ii (n : Int))) (srt n i))) FP.fconst2) = some () := a3
    unfold f_X10_shareOf_L49
    dsimp only
    rw [k20, if_neg (by rw [n_le (by omega) (by omega)]; omega), a1, a2, a3', k1, n_add]
    rfl) (t := (srt n 20, ii ((20 : Nat) : Int))) (h1 := h) (by
    unfold f_X10_shareOf_L49
    dsimp only
    rw [k20, if_pos (by rw [n_le (by omega) (by omega)]; omega)]) (jF_big (by omega))
  rw [a.2] at key
  exact key
theorem m_srt (h : JH) {n : Nat} (x : Int64) (y : Int32) (hn : 1 ≤ n ∧ n ≤ 60) : jloop (f_X12_share_L51 y (ii (n : Int)) x) jF (FP.i2f (ii (n : Int)), ii ((0 : Nat) : Int)) h = some ((srT n, ii ((20 : Nat) : Int)), h) := by
  have a := sok1_at hn
  have key := jloop_run (f := f_X12_share_L51 y (ii (n : Int)) x) (fun i => (srt n i, ii (i : Int))) (fun _ => h) 20 (fun i hi => by
    obtain ⟨a1, a2, a3⟩ := a.1 i hi
    have a3' : jnn (FP.fdiv (FP.fadd (srt n i) (FP.fdiv (FP.i2f (ii (n : Int))) (srt n i))) FP.fconst2) = some () := a3
    unfold f_X12_share_L51
    dsimp only
    rw [k20, if_neg (by rw [n_le (by omega) (by omega)]; omega), a1, a2, a3', k1, n_add]
    rfl) (t := (srt n 20, ii ((20 : Nat) : Int))) (h1 := h) (by
    unfold f_X12_share_L51
    dsimp only
    rw [k20, if_pos (by rw [n_le (by omega) (by omega)]; omega)]) (jF_big (by omega))
  rw [a.2] at key
  exact key
theorem x_dbl (h : JH) {s r : Int32} {a y : UInt32} (hb : sbt s a r = true) : ∃ c : Nat, jloop (f_X10_bitsOf_L27 y) jF (a, (150 : Int32), (0 : Int32)) h = some ((sdb a c, ii ((150 : Int) - (c : Int)), ii (c : Int)), h) ∧ ((s ||| (ii ((150 : Int) - (c : Int)) <<< ((23 : Int32) &&& 31))) ||| (FP.f2i (sdb a c) - (8388608 : Int32))) = r := by
  obtain ⟨b1, b2⟩ := and_t hb
  obtain ⟨b3, b4⟩ := and_t b1
  obtain ⟨b5, b6⟩ := and_t b3
  have c1 := of_decide_eq_true b5
  have c2 := of_decide_eq_true b2
  generalize sfd a 149 0 = c at *
  refine ⟨c, ?_, c2⟩
  have key := jloop_run (f := f_X10_bitsOf_L27 y) (fun i => (sdb a i, ii ((150 : Int) - (i : Int)), ii (i : Int))) (fun _ => h) c (fun i hi => by
    obtain ⟨d1, d2⟩ := and_t (allb_at b4 i hi)
    have d1' : ¬ ((0 : Int32) ≤ Op.cmpValue (FP.fcmp (sdb a i) (1258291200 : UInt32)) .g) := by
      have d3 : sge (sdb a i) = false := by
        rcases q : sge (sdb a i)
        · rfl
        · rw [q] at d1; exact absurd d1 (by decide)
      exact of_decide_eq_false d3
    have d2' : jnn (FP.fmul (sdb a i) FP.fconst2) = some () := jnn_of d2
    unfold f_X10_bitsOf_L27
    dsimp only
    rw [if_neg (show ¬ ((150 : Int32) ≤ ii (i : Int)) by rw [k150, n_le (by omega) (by omega)]; omega), if_neg d1', d2', show (-1 : Int32) = ii (-1) from rfl, ii_add, k1, n_add, show (150 : Int) - (i : Int) + -1 = 150 - ((i + 1 : Nat) : Int) by omega]
    rfl) (t := (sdb a c, ii ((150 : Int) - (c : Int)), ii (c : Int))) (h1 := h) (by
    unfold f_X10_bitsOf_L27
    dsimp only
    rw [if_neg (show ¬ ((150 : Int32) ≤ ii (c : Int)) by rw [k150, n_le (by omega) (by omega)]; omega), if_pos (of_decide_eq_true b6)]) (jF_big (by omega))
  exact key
theorem x_bits (h : JH) {a : UInt32} (hb : sbo a = true) : f_X10_bitsOf a h = some (a.toInt32, h) ∧ f_Jxf58ca_floatToIntBits_5c35a a h = some (a.toInt32, h) := by
  obtain ⟨b1, b2⟩ := and_t hb
  refine ⟨?_, ?_⟩
  · unfold f_X10_bitsOf
    by_cases q : Op.cmpValue (FP.fcmp a FP.fconst0) .l = (0 : Int32)
    · rw [if_pos q] at b2 ⊢
      rw [of_decide_eq_true b2]
    · rw [if_neg q] at b2 ⊢
      by_cases z : (0 : Int32) ≤ Op.cmpValue (FP.fcmp a FP.fconst0) .g
      · rw [if_pos z] at b2 ⊢
        obtain ⟨c, c1, c2⟩ := x_dbl h (y := a) b2
        rw [c1]
        simp only [Option.bind_some]
        rw [if_pos z, c2]
      · rw [if_neg z] at b2 ⊢
        obtain ⟨c, c1, c2⟩ := x_dbl h (y := a) b2
        rw [c1]
        simp only [Option.bind_some]
        rw [if_neg z, c2]
  · unfold f_Jxf58ca_floatToIntBits_5c35a f_Jxf58ca_isNaN_12338
    rw [if_pos (of_decide_eq_true b1)]
    rfl
theorem sok_at {k n : Nat} (hk : 4 ≤ k ∧ k ≤ 60) (h2 : k % 2 = 0) (hn : 1 ≤ n ∧ n ≤ 60) : sok k n = true := by
  have e : 2 * ((k - 4) / 2) + 4 = k := by omega
  have hj : n = 1 ∨ n = 2 ∨ n = 3 ∨ n = 4 ∨ n = 5 ∨ n = 6 ∨ n = 7 ∨ n = 8 ∨ n = 9 ∨ n = 10 ∨ n = 11 ∨ n = 12 ∨ n = 13 ∨ n = 14 ∨ n = 15 ∨ n = 16 ∨ n = 17 ∨ n = 18 ∨ n = 19 ∨ n = 20 ∨ n = 21 ∨ n = 22 ∨ n = 23 ∨ n = 24 ∨ n = 25 ∨ n = 26 ∨ n = 27 ∨ n = 28 ∨ n = 29 ∨ n = 30 ∨ n = 31 ∨ n = 32 ∨ n = 33 ∨ n = 34 ∨ n = 35 ∨ n = 36 ∨ n = 37 ∨ n = 38 ∨ n = 39 ∨ n = 40 ∨ n = 41 ∨ n = 42 ∨ n = 43 ∨ n = 44 ∨ n = 45 ∨ n = 46 ∨ n = 47 ∨ n = 48 ∨ n = 49 ∨ n = 50 ∨ n = 51 ∨ n = 52 ∨ n = 53 ∨ n = 54 ∨ n = 55 ∨ n = 56 ∨ n = 57 ∨ n = 58 ∨ n = 59 ∨ n = 60 := by omega
  rw [← e]
  rcases hj with rfl | rfl | rfl | rfl | rfl | rfl | rfl | rfl | rfl | rfl | rfl | rfl | rfl | rfl | rfl | rfl | rfl | rfl | rfl | rfl | rfl | rfl | rfl | rfl | rfl | rfl | rfl | rfl | rfl | rfl | rfl | rfl | rfl | rfl | rfl | rfl | rfl | rfl | rfl | rfl | rfl | rfl | rfl | rfl | rfl | rfl | rfl | rfl | rfl | rfl | rfl | rfl | rfl | rfl | rfl | rfl | rfl | rfl | rfl | rfl
  · exact allb_at sok_1 ((k - 4) / 2) (by omega)
  · exact allb_at sok_2 ((k - 4) / 2) (by omega)
  · exact allb_at sok_3 ((k - 4) / 2) (by omega)
  · exact allb_at sok_4 ((k - 4) / 2) (by omega)
  · exact allb_at sok_5 ((k - 4) / 2) (by omega)
  · exact allb_at sok_6 ((k - 4) / 2) (by omega)
  · exact allb_at sok_7 ((k - 4) / 2) (by omega)
  · exact allb_at sok_8 ((k - 4) / 2) (by omega)
  · exact allb_at sok_9 ((k - 4) / 2) (by omega)
  · exact allb_at sok_10 ((k - 4) / 2) (by omega)
  · exact allb_at sok_11 ((k - 4) / 2) (by omega)
  · exact allb_at sok_12 ((k - 4) / 2) (by omega)
  · exact allb_at sok_13 ((k - 4) / 2) (by omega)
  · exact allb_at sok_14 ((k - 4) / 2) (by omega)
  · exact allb_at sok_15 ((k - 4) / 2) (by omega)
  · exact allb_at sok_16 ((k - 4) / 2) (by omega)
  · exact allb_at sok_17 ((k - 4) / 2) (by omega)
  · exact allb_at sok_18 ((k - 4) / 2) (by omega)
  · exact allb_at sok_19 ((k - 4) / 2) (by omega)
  · exact allb_at sok_20 ((k - 4) / 2) (by omega)
  · exact allb_at sok_21 ((k - 4) / 2) (by omega)
  · exact allb_at sok_22 ((k - 4) / 2) (by omega)
  · exact allb_at sok_23 ((k - 4) / 2) (by omega)
  · exact allb_at sok_24 ((k - 4) / 2) (by omega)
  · exact allb_at sok_25 ((k - 4) / 2) (by omega)
  · exact allb_at sok_26 ((k - 4) / 2) (by omega)
  · exact allb_at sok_27 ((k - 4) / 2) (by omega)
  · exact allb_at sok_28 ((k - 4) / 2) (by omega)
  · exact allb_at sok_29 ((k - 4) / 2) (by omega)
  · exact allb_at sok_30 ((k - 4) / 2) (by omega)
  · exact allb_at sok_31 ((k - 4) / 2) (by omega)
  · exact allb_at sok_32 ((k - 4) / 2) (by omega)
  · exact allb_at sok_33 ((k - 4) / 2) (by omega)
  · exact allb_at sok_34 ((k - 4) / 2) (by omega)
  · exact allb_at sok_35 ((k - 4) / 2) (by omega)
  · exact allb_at sok_36 ((k - 4) / 2) (by omega)
  · exact allb_at sok_37 ((k - 4) / 2) (by omega)
  · exact allb_at sok_38 ((k - 4) / 2) (by omega)
  · exact allb_at sok_39 ((k - 4) / 2) (by omega)
  · exact allb_at sok_40 ((k - 4) / 2) (by omega)
  · exact allb_at sok_41 ((k - 4) / 2) (by omega)
  · exact allb_at sok_42 ((k - 4) / 2) (by omega)
  · exact allb_at sok_43 ((k - 4) / 2) (by omega)
  · exact allb_at sok_44 ((k - 4) / 2) (by omega)
  · exact allb_at sok_45 ((k - 4) / 2) (by omega)
  · exact allb_at sok_46 ((k - 4) / 2) (by omega)
  · exact allb_at sok_47 ((k - 4) / 2) (by omega)
  · exact allb_at sok_48 ((k - 4) / 2) (by omega)
  · exact allb_at sok_49 ((k - 4) / 2) (by omega)
  · exact allb_at sok_50 ((k - 4) / 2) (by omega)
  · exact allb_at sok_51 ((k - 4) / 2) (by omega)
  · exact allb_at sok_52 ((k - 4) / 2) (by omega)
  · exact allb_at sok_53 ((k - 4) / 2) (by omega)
  · exact allb_at sok_54 ((k - 4) / 2) (by omega)
  · exact allb_at sok_55 ((k - 4) / 2) (by omega)
  · exact allb_at sok_56 ((k - 4) / 2) (by omega)
  · exact allb_at sok_57 ((k - 4) / 2) (by omega)
  · exact allb_at sok_58 ((k - 4) / 2) (by omega)
  · exact allb_at sok_59 ((k - 4) / 2) (by omega)
  · exact allb_at sok_60 ((k - 4) / 2) (by omega)
section ops
variable {b : Nat} {S0 : SS} {A0 : ZA} {cc : Nat → Nat} {e : Nat}
theorem op_share (v w : Int32) : OPS b S0 A0 cc e (f_X11_share b v w) (f_X12_share (b + 286) v w) := by
  rintro h ⟨S, A, B, c, p, bs, nb, rfl, h1, h2⟩
  have hX := h2.1
  have hM := L_mod hX
  obtain ⟨g1, g2⟩ := IH_mf 0 ((0 : Nat) : Int) (by omega) h1 h2
  rcases ask_cases v w with ⟨k, n, b1, b2, b3, b4, b5, rfl, rfl, hh⟩ | hh
  · obtain ⟨x, f, e1, e2⟩ := m_trace (A := za A (b + 286) (up (A (b + 286)) 0 ((0 : Nat) : Int))) (B := B) (c := c) hM.1 rfl (k := (k : Int)) (n := (n : Int)) (by omega) (by omega)
    obtain ⟨g3, g4⟩ := IH_mf 33 f (by omega) g1 g2
    have so := sok_at ⟨b1, b2⟩ b3 ⟨b4, b5⟩
    unfold sok at so
    rw [← trT_eq ⟨by omega, by omega⟩] at so
    have ex := x_exact (mz S A B c) (k := (k : Int)) (n := (n : Int)) ⟨by omega, by omega⟩ ⟨by omega, by omega⟩
    have fin : IH b S0 A0 cc e (mz S (fl (za A (b + 286) (up (A (b + 286)) 0 ((0 : Nat) : Int))) (b + 286) f) B c) := ⟨S, _, B, c, p, bs, nb, rfl, g3, g4⟩
    rcases e2 with ⟨rfl, s, hs, rfl⟩ | ⟨rfl, hs⟩
    · rw [hs] at so ex
      have so' : sok3 k n (ll (-s) / (24 : Int64)) = true := so
      have ex' : f_X10_exact (ii (k : Int)) (ii (n : Int)) (mz S A B c) = some (ll (-s) / (24 : Int64), mz S A B c) := ex
      generalize ll (-s) / (24 : Int64) = y at *
      obtain ⟨o1, o2⟩ := and_t so'
      have o1' := of_decide_eq_true o1
      by_cases cz : Lk k - 1 = 0
      · refine ⟨ii ((0 : Nat) : Int), mz S A B c, _, ?_, ?_, fin⟩
        · unfold f_X11_share
          simp (disch := omega) only [(hh _).1, Option.bind_some, k0, n_eq, show ¬ (1 = 0) by omega, ↓reduceIte, ex']
          rw [← k0, if_neg o1']
          unfold f_X10_shareOf
          simp only [x_cusps _ b2, cz, Option.bind_some, k0, eq_self, ↓reduceIte]
          unfold f_X10_bitsOf
          rw [if_pos (by decide +kernel)]
          rfl
        · unfold f_X12_share
          rw [k0, MP0 hM]
          simp (disch := omega) only [(hh _).2, Option.bind_some, n_eq, show ¬ (1 = 0) by omega, ↓reduceIte, Mv hM, e1]
          rw [g33 hM.1 rfl]
          simp only [Option.bind_some]
          rw [if_pos (show ii 0 = ii ((0 : Nat) : Int) from rfl)]
          simp only [m_cusps _ b2, cz, Option.bind_some, eq_self, ↓reduceIte]
      · have o3 : (sok2 k n && shn (shv k n y) && sbo (shv k n y)) = true := by
          have o4 : (decide (Lk k - 1 = 0) || (sok2 k n && shn (shv k n y) && sbo (shv k n y))) = true := o2
          rw [decide_eq_false cz, Bool.false_or] at o4
          exact o4
        obtain ⟨o5, o6⟩ := and_t o3
        obtain ⟨o7, o8⟩ := and_t o5
        obtain ⟨p1, p2⟩ := and_t o7
        obtain ⟨p3, p4⟩ := and_t p1
        obtain ⟨p5, p6⟩ := and_t p3
        have P : ∀ i, i < (k - 2) / 2 → shn (spw n (i + 1)) = true := allb_at p5
        have j6 := jnn_of p6
        have j4 := jnn_of p4
        have j2 := jnn_of p2
        have j8 := jnn_of o8
        unfold shd at j2
        unfold shv shd at j8
        have bits := fun h => x_bits h o6
        unfold shv shd at bits
        refine ⟨(FP.fdiv (FP.l2f y) (FP.fmul (FP.fmul FP.fconst2 (FP.fmul (spw n ((k - 2) / 2)) (srT n))) (FP.i2f (ii ((Lk k - 1 : Nat) : Int))))).toInt32, mz S A B c, _, ?_, ?_, fin⟩
        · unfold f_X11_share
          simp (disch := omega) only [(hh _).1, Option.bind_some, k0, n_eq, show ¬ (1 = 0) by omega, ↓reduceIte, ex']
          rw [← k0, if_neg o1']
          unfold f_X10_shareOf
          have hL := Lk_r (k := k) b2
          simp (disch := omega) only [x_cusps _ b2, Option.bind_some, k0, n_eq, cz, ↓reduceIte, x_spw _ _ _ ⟨b1, b2⟩ P, x_srt _ _ _ _ ⟨b4, b5⟩, j6, j4, j2, j8, (bits _).1]
        · unfold f_X12_share
          rw [k0, MP0 hM]
          simp (disch := omega) only [(hh _).2, Option.bind_some, n_eq, show ¬ (1 = 0) by omega, ↓reduceIte, Mv hM, e1]
          rw [g33 hM.1 rfl]
          simp only [Option.bind_some]
          rw [if_pos (show ii 0 = ii ((0 : Nat) : Int) from rfl)]
          have hL := Lk_r (k := k) b2
          simp (disch := omega) only [m_cusps _ b2, Option.bind_some, n_eq, cz, ↓reduceIte, m_spw _ _ _ ⟨b1, b2⟩ P, m_srt _ _ _ ⟨b4, b5⟩, j6, j4, j2, j8, (bits _).2]
    · rw [hs] at ex
      have ex' : f_X10_exact (ii (k : Int)) (ii (n : Int)) (mz S A B c) = some ((-9223372036854775808 : Int64), mz S A B c) := ex
      refine ⟨(-2147483648 : Int32), mz S A B c, _, ?_, ?_, fin⟩
      · unfold f_X11_share
        simp (disch := omega) only [(hh _).1, Option.bind_some, k0, n_eq, show ¬ (1 = 0) by omega, ↓reduceIte, ex']
        rw [if_pos (by decide)]
      · unfold f_X12_share
        rw [k0, MP0 hM]
        simp (disch := omega) only [(hh _).2, Option.bind_some, n_eq, show ¬ (1 = 0) by omega, ↓reduceIte, Mv hM, e1]
        rw [g33 hM.1 rfl]
        simp only [Option.bind_some]
        rw [if_neg (by decide)]
  · refine ⟨(-2147483648 : Int32), mz S A B c, _, ?_, ?_, ⟨S, _, B, c, p, bs, nb, rfl, g1, g2⟩⟩
    · unfold f_X11_share
      simp only [(hh _).1, Option.bind_some, k0, eq_self, ↓reduceIte]
    · unfold f_X12_share
      simp only [k0, MP0 hM, (hh _).2, Option.bind_some, eq_self, ↓reduceIte]
end ops
