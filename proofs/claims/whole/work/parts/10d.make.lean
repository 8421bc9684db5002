/-! The class: the rows of a weight made. -/
theorem f_power' (h : JH) {k d : Nat} {p : Int} (hd : d < 20000) (hk : k < 20000) (hp : 1 < p) (hp2 : p < 10000) : f_X4_power (ii (d : Int)) (ii (k : Int) - (1 : Int32)) (ii p) h = some (ii (if k = 0 then 1 else pw (d : Int) p (k - 1)), h) := by
  by_cases q : k = 0
  · rw [if_pos q, q, show ii ((0 : Nat) : Int) - (1 : Int32) = ii (-1) from rfl]
    unfold f_X4_power
    rw [ii_l (r31_of (by omega) (by omega)), f_of h (r63_of (by omega) (by omega)) (by omega) (by omega)]
    simp only [Option.bind_some]
    have e : jloop (f_X4_power_L13 (ii p)) jF ((1 : Int32), ii ((d : Int) % p), ii (-1)) h = some (((1 : Int32), ii ((d : Int) % p), ii (-1)), h) := by
      refine jloop_end (n := 19999) ?_
      unfold f_X4_power_L13
      exact if_pos (show ii (-1) ≤ (0 : Int32) by decide)
    rw [e]
    rfl
  · rw [if_neg q, k1, n_sub (by omega)]
    exact f_power h (r31_of (by omega) (by omega)) hp (by omega) (by omega)
def fct (k : Nat) : Int := if k = 0 then 0 else if k = 4 then 240 else if k = 6 then -504 else if k = 8 then 480 else if k = 10 then -264 else -24
theorem fct_r (k : Nat) : -504 ≤ fct k ∧ fct k ≤ 480 := by unfold fct; repeat' split
                                                           all_goals omega
theorem x_fct {S : SS} {A B : ZA} {c : (Nat × Nat) × (Nat → Nat)} {s q r k : Nat} (hs : S s = some (.inl (5, 8, rSp q r))) (h0 : A s 0 = (k : Int)) (hk : k ≤ 60) : f_X7_factorOfSums s (mz S A B c) = some (ii (fct k), mz S A B c) := by
  unfold f_X7_factorOfSums fct
  simp (disch := omega) only [PI0 hs, h0, Option.bind_some, k0, k4, k6, k8, k10, n_eq]
  by_cases g0 : k = 0
  · rw [if_pos g0, if_pos g0]; rfl
  · rw [if_neg g0, if_neg g0]
    by_cases g4 : k = 4
    · rw [if_pos g4, if_pos g4]; rfl
    · rw [if_neg g4, if_neg g4]
      by_cases g6 : k = 6
      · rw [if_pos g6, if_pos g6]; rfl
      · rw [if_neg g6, if_neg g6]
        by_cases g8 : k = 8
        · rw [if_pos g8, if_pos g8]; rfl
        · rw [if_neg g8, if_neg g8]
          by_cases g10 : k = 10
          · rw [if_pos g10, if_pos g10]; rfl
          · rw [if_neg g10, if_neg g10]; rfl
def pwk (p : Int) (k d : Nat) : Int := if k = 0 then 1 else pw (d : Int) p (k - 1)
theorem pwk_r {p : Int} (hp : 1 < p) (k d : Nat) : 0 ≤ pwk p k d ∧ pwk p k d < p := by
  unfold pwk
  split
  · omega
  · exact pw_r hp _
theorem sm_more {g : Nat → Int} {n l : Nat} (hl : n ≤ l) (h : ∀ i, n ≤ i → g i = 0) : sm g l = sm g n := by
  obtain ⟨w, rfl⟩ : ∃ w, l = n + w := ⟨l - n, by omega⟩
  induction w with
  | zero => rfl
  | succ w ih =>
    show sm g (n + w) + g (n + w) = _
    rw [ih (by omega), h _ (by omega)]; omega
theorem es_val {p : Int} (hp : 1 < p) {k n l : Nat} (hk : k = 0 ∨ k = 4 ∨ k = 6 ∨ k = 8 ∨ k = 10 ∨ k = 14) (hn : 1 ≤ n) (hl : n ≤ l) (hl2 : l ≤ 180) : sm (dg (pwk p k) n) l * (fct k % p) % p = ser p (es k) n := by
  have e0 : sm (dg (pwk p k) n) l = sm (dg (pwk p k) n) n := sm_more hl fun i hi => by
    unfold dg
    rw [if_neg]
    intro hd
    have := Nat.le_of_dvd (by omega) hd
    omega
  rw [ser_at (by omega), e0, em_mul_r]
  by_cases q : k = 0
  · subst q
    show sm _ n * 0 % p = dl 0 n % p
    rw [Int.mul_zero]
    unfold dl
    rw [if_neg (by omega)]
  · have e1 : dg (pwk p k) n = pg p (k - 1) n := by
      funext d
      unfold dg pg pwk
      rw [if_neg q]
    have e2 : es k = ie (fct k) (k - 1) := by rcases hk with rfl | rfl | rfl | rfl | rfl | rfl <;> first | rfl | omega
    rw [e1, e2]
    unfold ie
    rw [if_neg (by omega), Int.mul_comm, pg_sgm hp]
theorem x_alone {S S1 : SS} {A A1 B : ZA} {c c1 : (Nat × Nat) × (Nat → Nat)} {s q r k l : Nat} {p : Int} (hv : jrecv (mz S A B c) s 5 = some ()) (eB : f_X7_begin s (ii p) (ii (l : Int)) (mz S A B c) = some ((), mz S1 A1 B c1)) (hs : spS S1 s q r 1) (h0 : A1 s 0 = (k : Int)) (h3 : A1 s 3 = p) (h4 : A1 s 4 = (l : Int)) (hl : l ≤ 180) (hl6 : 6 ≤ l) (hE : EH p) (hp2 : p < 10000) (hk : k = 0 ∨ k = 4 ∨ k = 6 ∨ k = 8 ∨ k = 10 ∨ k = 14) :
    ∃ A2 : ZA, f_X7_makeAlone s (ii p) (ii (l : Int)) (mz S A B c) = some ((), mz S1 A2 B c1) ∧ isr A2 (q + 1 + 0) l (ex p k (dl 0)) ∧ (∀ x, x ≠ q + 1 + 0 → A2 x = A1 x) := by
  have hp := hE.1
  have hr := hs.2.2 0 (by omega)
  have hne := spS_ne hs (i := 0) (by omega)
  have hfr := fct_r k
  have hfm := emod_r (x := fct k) (p := p) (by omega)
  unfold f_X7_makeAlone
  rw [hv]
  simp only [Option.bind_some]
  rw [eB]
  simp (disch := omega) only [Option.bind_some, PR2 hs.1, k0, sp_row hs]
  rw [x_fill hr (by omega)]
  simp only [Option.bind_some]
  generalize hA2 : za A1 (q + 1 + 0) (mo (fun _ => ((0 : Nat) : Int)) (A1 (q + 1 + 0)) 0 181) = A2
  have a1 : ∀ n, n ≤ l → A2 (q + 1 + 0) n = 0 := fun n hn => by rw [← hA2, za_at, mo_0in _ _ (by omega)]; rfl
  have a2 : ∀ x, x ≠ q + 1 + 0 → A2 x = A1 x := fun x hx => by rw [← hA2, za_ne _ _ hx]
  have es2 : A2 s = A1 s := a2 s hne
  simp only [Pv hs.1, Option.bind_some]
  rw [x_fct hs.1 (by rw [es2]; exact h0) (by omega)]
  simp (disch := omega) only [Option.bind_some, PI3 hs.1, es2, h3, i_l, f_of']
  have key := z_run (S := S1) (B := B) (c := c1) (f := f_X7_makeAlone_L35 s (q + 1 + 0) (ii (fct k % p))) (fun t => ii ((t + 1 : Nat) : Int)) (fun t A' => (∀ n, 1 ≤ n → n ≤ l → A' (q + 1 + 0) n = sm (dg (pwk p k) n) t) ∧ (∀ x, x ≠ q + 1 + 0 → A' x = A1 x)) l (t := ii ((l + 1 : Nat) : Int)) (by omega) (fun t ht A3 ⟨y1, y2⟩ => by
    have es3 : A3 s = A1 s := y2 s hne
    obtain ⟨A4, e4, w1, w2⟩ := x_alone1 (A := A3) (B := B) (c := c1) (z := t + 1) (P := pwk p k) (ii (fct k % p)) hs.1 hr (by rw [es3]; exact h4) hl (by omega) (by omega) (pwk_r hp k) hp2 y1
    refine ⟨A4, ?_, w1, fun x hx => by rw [w2 x hx, y2 x hx]⟩
    unfold f_X7_makeAlone_L35
    simp (disch := omega) only [PI4 hs.1, PI0 hs.1, PI3 hs.1, es3, h4, h0, h3, Option.bind_some, n_lt, show ¬ (l < t + 1) by omega, ↓reduceIte, f_power']
    rw [show (if k = 0 then 1 else pw (((t + 1 : Nat) : Int)) p (k - 1)) = pwk p k (t + 1) from rfl, e4]
    simp only [Option.bind_some, k1, n_add]) (fun A3 ⟨_, y2⟩ => by
    have es3 : A3 s = A1 s := y2 s hne
    unfold f_X7_makeAlone_L35
    simp (disch := omega) only [PI4 hs.1, es3, h4, Option.bind_some, n_lt, show l < l + 1 by omega, ↓reduceIte]) (A0 := A2) ⟨fun n h1 hn => a1 n hn, a2⟩
  obtain ⟨A3, e3, y1, y2⟩ := key
  have e3' : jloop (f_X7_makeAlone_L35 s (q + 1 + 0) (ii (fct k % p))) jF (1 : Int32) (mz S1 A2 B c1) = some (ii ((l + 1 : Nat) : Int), mz S1 A3 B c1) := e3
  rw [e3']
  simp only [Option.bind_some]
  have es3 : A3 s = A1 s := y2 s hne
  have key2 := z_run (S := S1) (B := B) (c := c1) (f := f_X7_makeAlone_L102 s (q + 1 + 0) (ii (fct k % p))) (fun t => ii ((t + 1 : Nat) : Int)) (fun t A' => (∀ n, 1 ≤ n → n ≤ l → A' (q + 1 + 0) n = if n ≤ t then ser p (es k) n else sm (dg (pwk p k) n) l) ∧ (∀ x, x ≠ q + 1 + 0 → A' x = A1 x)) l (t := ii ((l + 1 : Nat) : Int)) (by omega) (fun t ht A4 ⟨w1, w2⟩ => by
    have es4 : A4 s = A1 s := w2 s hne
    have hval := w1 (t + 1) (by omega) (by omega)
    rw [if_neg (by omega)] at hval
    have hb := dg_r (P := pwk p k) (pwk_r hp k) hp2 (t + 1) l
    have hb2 := mul_bd (M := 1810000) (N := 10000) (a := sm (dg (pwk p k) (t + 1)) l) ⟨by omega, by omega⟩ (b := fct k % p) ⟨hfm.1, by omega⟩
    unfold f_X7_makeAlone_L102
    simp (disch := omega) only [PI4 hs.1, PI3 hs.1, es4, h4, h3, Option.bind_some, n_lt, show ¬ (l < t + 1) by omega, ↓reduceIte, jaI_n hr, hval, i_l, ll_mul, f_of', jsI_v hr, k1, n_add]
    refine ⟨_, rfl, fun n hn hnl => ?_, fun x hx => by rw [za_ne _ _ hx, w2 x hx]⟩
    rw [za_at]
    by_cases e : n = t + 1
    · subst e
      rw [up_at, if_pos (by omega), es_val hp hk (by omega) hnl hl]
    · rw [up_ne _ _ e, w1 n hn hnl]
      by_cases g : n ≤ t
      · rw [if_pos g, if_pos (by omega)]
      · rw [if_neg g, if_neg (by omega)]) (fun A4 ⟨_, w2⟩ => by
    have es4 : A4 s = A1 s := w2 s hne
    unfold f_X7_makeAlone_L102
    simp (disch := omega) only [PI4 hs.1, es4, h4, Option.bind_some, n_lt, show l < l + 1 by omega, ↓reduceIte]) (A0 := A3) ⟨fun n h1 hn => by rw [if_neg (by omega)]; exact y1 n h1 hn, y2⟩
  obtain ⟨A4, e4, w1, w2⟩ := key2
  have e4' : jloop (f_X7_makeAlone_L102 s (q + 1 + 0) (ii (fct k % p))) jF (1 : Int32) (mz S1 A3 B c1) = some (ii ((l + 1 : Nat) : Int), mz S1 A4 B c1) := e4
  rw [e4']
  simp (disch := omega) only [Option.bind_some, k1, jsI_v hr]
  refine ⟨_, rfl, fun n hn => ?_, fun x hx => by rw [za_ne _ _ hx, w2 x hx]⟩
  rw [za_at, ← es_ex hE hk]
  by_cases e : n = 0
  · subst e
    rw [up_at, ser_at (by omega)]
    have : es k 0 = 1 := by rcases hk with rfl | rfl | rfl | rfl | rfl | rfl <;> rfl
    rw [this, Int.emod_eq_of_lt (by decide) hp]; rfl
  · rw [up_ne _ _ e, w1 n (by omega) hn, if_pos hn]
