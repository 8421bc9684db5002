/-! The law answers 1. -/
theorem law_of {S : SS} {A : ZA} {b a0 L : Nat} {cc : Nat → Nat} (hL : L ≤ 3072) (hz : Z0 A (fun _ _ => 0) b) (ha : a0 < b) (hs : S a0 = some (.inr (.inr (.inr L)))) (hK : KN0 S A cc b) : ∃ h1 : JH, f_L_law a0 (mz S A (fun _ _ => 0) ((b, 0), cc)) = some (1, h1) ∧ h1.2.1.1 ≤ b + 601024 ∧ h1.2.1.2 ≤ 7293034 := by
  generalize hB : (fun _ _ => 0 : ZA) = B at hz ⊢
  obtain ⟨S1, S2, A1, s1, q1, e1, e2, x2, lx, n1, n2, n3, w1, w2, w3, t0, t1, sp, xA1⟩ := new_class (S := S) (c := cc) (s := 0) hz
  have hz1 : Z0 A1 B (b + 286) := fun a ha k => ⟨by rw [xA1 a (by omega)]; exact (hz a (by omega) k).1, (hz a (by omega) k).2⟩
  obtain ⟨S3, S4, A2, e3, e4, hM, x4, hBas, m7, m19, m12, m42, r18, r19, r26, r28, xA2⟩ := new_model (S := S2) (c := cc) (s := s1) hz1
  have hz2 : Z0 A2 B (b + 320) := fun a ha k => ⟨by rw [xA2 a (by omega)]; exact (hz1 a (by omega) k).1, (hz1 a (by omega) k).2⟩
  have e5 : jnA (mz S4 A2 B ((b + 320, s1 + 13196), cc)) .long (1 : Int32) = some (b + 320, mz (ms S4 (b + 320) (.inr (.inl (.long, 1)))) A2 B ((b + 320 + 1, s1 + 13196 + 1), cc)) := jnA_z (k := 1) (z := ((1 : Nat) : Int)) (fun k => (hz2 (b + 320) (by omega) k).1) (fun k => (hz2 (b + 320) (by omega) k).2) rfl (by omega) (Or.inr (Or.inl rfl))
  obtain ⟨s2, hs2⟩ : ∃ x, x = s1 + 13196 + 1 := ⟨_, rfl⟩
  rw [← hs2, show b + 320 + 1 = b + 321 by omega] at e5
  rw [show b + 286 + 34 = b + 320 by omega] at e4 x4
  have c5 : ms S4 (b + 320) (.inr (.inl (.long, 1))) (b + 320) = some (.inr (.inl (.long, 1))) := by rw [ms_at]
  have x5 : ∀ x, x ≠ b + 320 → ms S4 (b + 320) (.inr (.inl (.long, 1))) x = S4 x := fun x hx => ms_ne _ _ hx
  generalize ms S4 (b + 320) (.inr (.inl (.long, 1))) = S5 at e5 c5 x5
  have hM5 : LM S5 (b + 286) := ⟨by rw [x5 _ (by omega)]; exact hM.1, fun o t N hm => by have := mtab_o hm; rw [x5 _ (by omega)]; exact hM.2 o t N hm⟩
  obtain ⟨hX, hsp⟩ := lx S5 (fun x h1 h2 => by rw [x5 x (by omega), x4 x (by omega)]) hM5 c5
  have g2 : ∀ x, x < b + 286 → A2 x = A1 x := fun x hx => xA2 x (by omega)
  have hI : IH b S A cc 0 (mz S5 A2 B ((b + 321, s2), cc)) := by
    refine ⟨S5, A2, B, ((b + 321, s2), cc), 1009, fun i => b + 43 + 3 * i, fun _ => 0, rfl, ⟨PR_1009, by rw [g2 _ (by omega)]; exact n2, hBas, ⟨0, by omega, by rw [g2 _ (by omega)]; exact n1, m12, fun k hk => absurd hk (by omega)⟩, ⟨0, by omega, by rw [g2 _ (by omega)]; exact n3, m19, fun i hi => absurd hi (by omega)⟩, REGS_1 PR_1009 (fun r hr => ?_) r18 r19, SHV_0 (st := 0) (Or.inl rfl) ?_ ?_ m42 (fun s hs r hr => ?_) r26, IMG_0 (fun k hk => ?_) r28⟩, hX, ⟨⟨fun i hi => ⟨hsp i hi, Or.inl rfl, show b + 43 + 3 * i < b + 321 by omega, fun j hj => absurd (show j < 0 from hj) (by omega)⟩, fun i i' _ _ _ j j' hj => absurd (show j < 0 from hj) (by omega), fun i hi => ?_, fun i hi => Or.inl ?_⟩, fun a ha k => hz2 a (by have : b + 321 ≤ a := ha; omega) k, Nat.le_refl _⟩, ⟨?_, ?_⟩, Or.inl m7, fun i hi => Or.inl ?_, fun x hx => ⟨?_, ?_⟩, rfl⟩
    · rw [g2 _ (by omega), g2 _ (by omega)]; exact w1 r hr
    · rw [g2 _ (by omega)]; exact t0
    · rw [g2 _ (by omega)]; exact t1
    · rw [g2 _ (by omega)]; exact w2 s hs r hr
    · rw [g2 _ (by omega)]; exact w3 k hk
    · rw [g2 _ (by omega)]; exact ⟨(sp i hi).1, (sp i hi).2.1⟩
    · rw [g2 _ (by omega)]; exact (sp i hi).2.2.1
    · show b + 321 ≤ b + 321 + sN (fun _ => 0) + 0
      omega
    · show s2 ≤ 100000 + 182 * sT (fun _ => 0) + 6 * 0
      omega
    · rw [g2 _ (by omega)]; exact (sp i hi).2.2.2
    · rw [x5 x (by omega), x4 x (by omega), x2 x (by omega)]
    · rw [g2 x (by omega), xA1 x (by omega)]
  obtain ⟨z, h', e6, hI'⟩ := law_loop hK ha hs hL (L / 6) 0 (by omega) _ hI jF (jF_big (by omega))
  have e6' : jloop (f_L_law_L23 a0 b (b + 286) (b + 320)) jF (0 : Int32) (mz S5 A2 B ((b + 321, s2), cc)) = some (.inr z, h') := e6
  obtain ⟨r1, r2⟩ := IH_room hI' (by omega)
  refine ⟨h', ?_, r1, r2⟩
  unfold f_L_law
  refine j_bs e1 ?_
  refine j_bs e2 ?_
  refine j_bs e3 ?_
  refine j_bs e4 ?_
  refine j_bs e5 ?_
  refine j_bs e6' ?_
  rfl
def roS (h : JH) : SS := fun a => match h.1 a with
  | some (.inr (.inr r)) => some (.inr (.inr (.inr r.1)))
  | _ => none
def roA (h : JH) : ZA := fun a k => match h.1 a with
  | some (.inr (.inr r)) => (r.2 k).toInt
  | _ => 0
theorem ro_mz (h : JH) (hr : ∀ a c, h.1 a = some c → j_ro c = true) : h = mz (roS h) (roA h) (fun _ _ => 0) h.2 := by
  refine Prod.ext (funext fun a => ?_) rfl
  show h.1 a = (roS h a).map (mc (fun k => ii (roA h a k)) (fun k => ll 0))
  unfold roS roA
  cases e : h.1 a with
  | none => rfl
  | some c =>
    have hc := hr a c e
    rcases c with x | o | r
    · exact absurd (show false = true from hc) (by decide)
    · exact absurd (show false = true from hc) (by decide)
    · show some (Sum.inr (Sum.inr r)) = some (Sum.inr (Sum.inr (r.1, fun k => ii ((r.2 k).toInt))))
      have er : (fun k => ii ((r.2 k).toInt)) = r.2 := funext fun k => (ii_of _).symm
      rw [er]
theorem roS_at {h : JH} {a n : Nat} {f : Nat → Int32} (e : h.1 a = some (.inr (.inr (n, f)))) : roS h a = some (.inr (.inr (.inr n))) ∧ ∀ k, roA h a k = (f k).toInt := by
  unfold roS roA
  rw [e]
  exact ⟨rfl, fun k => rfl⟩
theorem kn_0 : ∀ k, k < 6 → (k_four k).toInt = kn 0 k := by decide +kernel
theorem kn_1 : ∀ k, k < 6 → (k_six k).toInt = kn 1 k := by decide +kernel
theorem kn_2 : ∀ k, k < 6 → (k_delta k).toInt = kn 2 k := by decide +kernel
theorem law_pure : LawPure := by
  intro a0 L xs h hL h0 hscr hf hs hd hnone hinj hlt hro
  have ha : a0 < h.2.1.1 := by
    by_cases g : a0 < h.2.1.1
    · exact g
    · rw [hnone a0 (by omega)] at hscr; cases hscr
  have hz : Z0 (roA h) (fun _ _ => 0) h.2.1.1 := fun a ha k => ⟨by unfold roA; rw [hnone a ha], rfl⟩
  have hK : KN0 (roS h) (roA h) h.2.2 h.2.1.1 := fun i hi => by
    refine ⟨hlt i (by omega), ?_⟩
    have hi' : i = 0 ∨ i = 1 ∨ i = 2 := by omega
    rcases hi' with rfl | rfl | rfl
    · exact ⟨(roS_at hf).1, fun k hk => by rw [(roS_at hf).2 k]; exact kn_0 k hk⟩
    · exact ⟨(roS_at hs).1, fun k hk => by rw [(roS_at hs).2 k]; exact kn_1 k hk⟩
    · exact ⟨(roS_at hd).1, fun k hk => by rw [(roS_at hd).2 k]; exact kn_2 k hk⟩
  obtain ⟨h1, e1, r1, r2⟩ := law_of hL hz ha (roS_at hscr).1 hK
  refine ⟨h1, ?_, r1, r2⟩
  have e2 : h.2 = ((h.2.1.1, 0), h.2.2) := by
    rw [← h0]
  have e3 := ro_mz h hro
  rw [e2] at e3
  exact (congrArg (f_L_law a0) e3).trans e1
