/-! The reference: its three series. -/
theorem za_in (A : ZA) {a b : Nat} (F G F' : Nat → Int) (h : a ≠ b) : za (za (za A a F) b G) a F' = za (za A a F') b G := by
  rw [za_comm (za A a F) G F' h.symm, za_za]
theorem i_rem {a b : Int} (h1 : 0 ≤ a) (h2 : a < 2147483648) (h3 : 0 < b) (h4 : b < 2147483648) : jrem (ii a) (ii b) = ii (a % b) := by
  rw [ii_rem (r31_of (by omega) h2) (r31_of (by omega) h4) (by omega), Int.tmod_eq_emod_of_nonneg h1]
theorem i_nz {a : Int} (h1 : 0 < a) (h2 : a < 2147483648) : jnz (ii a) = some () := jnz_ii (r31_of (by omega) h2) (by omega)
theorem pw_mod {p : Int} (hp : 1 < p) (x : Int) (e : Nat) : pw (x % p) p e = pw x p e := by rw [pw_em hp, pw_em hp, pow_em]
def pg (p : Int) (e n : Nat) : Nat → Int := fun d => if (d + 1) ∣ n then pw (((d + 1 : Nat) : Int)) p e else 0
theorem pg_r {p : Int} (hp : 1 < p) (hp2 : p < 10000) (e n i : Nat) : 0 ≤ sm (pg p e n) i ∧ sm (pg p e n) i ≤ 10000 * (i : Int) :=
  sm_r fun j _ => by
    unfold pg
    split
    · have := pw_r (b := ((j + 1 : Nat) : Int)) hp e; omega
    · omega
theorem pg_sgm {p : Int} (hp : 1 < p) (c : Int) (e n : Nat) : c * sm (pg p e n) n % p = c * sgm e n % p := by
  rw [← em_mul_r, ← em_mul_r c (sgm e n)]
  refine congrArg (fun z => c * z % p) (sm_em fun i _ => ?_)
  unfold pg
  split
  · rw [pw_em hp, em_em]
  · rfl
theorem n_dvd {a b : Nat} (ha : a < 2147483648) (hb : b < 2147483648) (h0 : 0 < b) : jrem (ii (a : Int)) (ii (b : Int)) = ii ((0 : Nat) : Int) ↔ b ∣ a := by
  rw [n_rem ha hb h0, n_eq (by have := Nat.mod_lt a h0; omega) (by omega)]
  exact ⟨Nat.dvd_of_mod_eq_zero, Nat.mod_eq_zero_of_dvd⟩
theorem m_basic1 {S : SS} {A B : ZA} {c : (Nat × Nat) × (Nat → Nat)} {m n : Nat} {p : Int} (hM : LM S m) (hm : A m 1 = p) (hp : 1 < p) (hp2 : p < 10000) (hn : n < 181) :
    jloop (f_X12_laysBasic_L17 m (ii (n : Int))) jF (ll 0, ll 0, ii ((1 : Nat) : Int)) (mz S A B c) = some ((ll (sm (pg p 3 n) n), ll (sm (pg p 5 n) n), ii ((n + 1 : Nat) : Int)), mz S A B c) := by
  have hm' : jgI (mz S A B c) m 9 1 = some (ii p) := by rw [MI1 hM, hm]
  exact jloop_run (f := f_X12_laysBasic_L17 m (ii (n : Int))) (fun i => (ll (sm (pg p 3 n) i), ll (sm (pg p 5 n) i), ii ((i + 1 : Nat) : Int))) (fun _ => mz S A B c) n (fun i hi => by
    have h3 := pw_r (b := ((i + 1 : Nat) : Int)) hp 3
    have h5 := pw_r (b := ((i + 1 : Nat) : Int)) hp 5
    have hr := emod_r (x := ((i + 1 : Nat) : Int)) (p := p) (by omega)
    have e3 : f_X12_power m (ii (((i + 1 : Nat) : Int) % p)) (ii ((3 : Nat) : Int)) (mz S A B c) = some (ii (pw ((i + 1 : Nat) : Int) p 3), mz S A B c) := by
      rw [m_power hm' ⟨hr.1, by omega⟩ hp (by omega) (by omega), pw_mod hp]
    have e5 : f_X12_power m (ii (((i + 1 : Nat) : Int) % p)) (ii ((5 : Nat) : Int)) (mz S A B c) = some (ii (pw ((i + 1 : Nat) : Int) p 5), mz S A B c) := by
      rw [m_power hm' ⟨hr.1, by omega⟩ hp (by omega) (by omega), pw_mod hp]
    unfold f_X12_laysBasic_L17
    simp (disch := omega) only [k0, k1, k3, k5, n_add, n_lt, show ¬ (n < i + 1) by omega, ↓reduceIte, n_nz, Option.bind_some, n_dvd, hm', Mv hM, i_nz, i_rem (b := p), e3, e5, i_l, ll_add]
    by_cases q : (i + 1) ∣ n
    · simp only [q, ↓reduceIte, sm, pg]
    · simp only [q, ↓reduceIte, sm, pg, Int.add_zero]) (by
    unfold f_X12_laysBasic_L17
    simp (disch := omega) only [n_lt, show n < n + 1 by omega, ↓reduceIte]) (jF_big (by omega))
theorem m_basic2 {S : SS} {A B : ZA} {c : (Nat × Nat) × (Nat → Nat)} {m : Nat} {p : Int} (hM : LM S m) (hm : A m 1 = p) (hp : 1 < p) (hp2 : p < 10000) :
    jloop (f_X12_laysBasic_L2 m) jF (ii ((0 : Nat) : Int)) (mz S A B c) = some (ii ((181 : Nat) : Int), mz S (za (za A (m + 1) (mo (e4 p) (A (m + 1)) 0 181)) (m + 2) (mo (e6 p) (A (m + 2)) 0 181)) B c) := by
  have key := jloop_run (f := f_X12_laysBasic_L2 m) (fun i => ii (i : Int)) (fun i => mz S (za (za A (m + 1) (mo (e4 p) (A (m + 1)) 0 i)) (m + 2) (mo (e6 p) (A (m + 2)) 0 i)) B c) 181 (fun i hi => by
    have b3 := pg_r hp hp2 3 i i
    have b5 := pg_r hp hp2 5 i i
    have hA : za (za A (m + 1) (mo (e4 p) (A (m + 1)) 0 i)) (m + 2) (mo (e6 p) (A (m + 2)) 0 i) m 1 = p := by
      rw [za_ne _ _ (by omega), za_ne _ _ (by omega)]; exact hm
    have key1 := m_basic1 (B := B) (c := c) hM hA hp hp2 hi
    have s1 : ∀ v : Int, v = e4 p i → jsI (mz S (za (za A (m + 1) (mo (e4 p) (A (m + 1)) 0 i)) (m + 2) (mo (e6 p) (A (m + 2)) 0 i)) B c) (m + 1) (ii (i : Int)) (ii v) = some (mz S (za (za A (m + 1) (mo (e4 p) (A (m + 1)) 0 (i + 1))) (m + 2) (mo (e6 p) (A (m + 2)) 0 i)) B c) := by
      intro v hv
      rw [Ms1 hM hi, za_in _ _ _ _ (by omega), za_ne _ _ (by omega), za_at]
      have := mo_up (e4 p) (A (m + 1)) 0 i hv
      rw [Nat.zero_add] at this
      rw [this]
    have s2 : ∀ v : Int, v = e6 p i → jsI (mz S (za (za A (m + 1) (mo (e4 p) (A (m + 1)) 0 (i + 1))) (m + 2) (mo (e6 p) (A (m + 2)) 0 i)) B c) (m + 2) (ii (i : Int)) (ii v) = some (mz S (za (za A (m + 1) (mo (e4 p) (A (m + 1)) 0 (i + 1))) (m + 2) (mo (e6 p) (A (m + 2)) 0 (i + 1))) B c) := fun v hv => jsI_m0 (MS2 hM) hi (by omega) hv
    unfold f_X12_laysBasic_L2
    simp (disch := omega) only [k181, k0, k1, g0, n_le, n_eq, show ¬ (181 ≤ i) by omega, ↓reduceIte, key1, Option.bind_some, MR2 hM, MR3 hM, Mv hM]
    by_cases q : i = 0
    · subst q
      simp only [↓reduceIte]
      rw [s1 _ (by unfold e4; rw [ser_at (by omega)]; exact (Int.emod_eq_of_lt (show (0 : Int) ≤ 1 by decide) hp).symm)]
      simp only [Option.bind_some, MR3 hM]
      rw [s2 _ (by unfold e6; rw [ser_at (by omega)]; exact (Int.emod_eq_of_lt (show (0 : Int) ≤ 1 by decide) hp).symm)]
      rfl
    · simp only [q, ↓reduceIte]
      rw [g240, ll_mul, m_left' hM hA (by omega) (by omega) (by omega) (by omega)]
      simp only [Option.bind_some]
      rw [s1 _ (by unfold e4 ie; rw [ser_at (by omega), if_neg q, pg_sgm hp])]
      simp only [Option.bind_some, MR3 hM, Mv hM]
      rw [show (-504 : Int64) = ll (-504) from rfl, ll_mul, m_left' (p := p) hM (by rw [za_ne _ _ (by omega), za_ne _ _ (by omega)]; exact hm) (by omega) (by omega) (by omega) (by omega)]
      simp only [Option.bind_some]
      rw [s2 _ (by unfold e6 ie; rw [ser_at (by omega), if_neg q, pg_sgm hp])]
      simp only [Option.bind_some, n_add]) (t := ii ((181 : Nat) : Int)) (h1 := mz S (za (za A (m + 1) (mo (e4 p) (A (m + 1)) 0 181)) (m + 2) (mo (e6 p) (A (m + 2)) 0 181)) B c) (by
    unfold f_X12_laysBasic_L2
    simp (disch := omega) only [k181, n_le, Nat.le_refl, ↓reduceIte]) (jF_big (by omega))
  rw [mo_0, mo_0, za_self, za_self] at key
  exact key
theorem cv_ser {f g f' g' : Nat → Int} {p : Int} {n : Nat} (hn : n ≤ 180) (hf : ∀ k, k < 181 → f k = f' k) (hg : ∀ k, k < 181 → g k = g' k) : cv f g n % p = ml p f' g' n := by
  unfold ml
  rw [ser_at hn]
  exact cv_em (fun i hi => by rw [hf i (by omega)]) (fun i hi => by rw [hg i (by omega)])
theorem e4_r {p : Int} (hp : 1 < p) (n : Nat) : 0 ≤ e4 p n ∧ e4 p n < p := ser_r (by omega) _ n
theorem e6_r {p : Int} (hp : 1 < p) (n : Nat) : 0 ≤ e6 p n ∧ e6 p n < p := ser_r (by omega) _ n
theorem dt_r {p : Int} (hp : 1 < p) (n : Nat) : 0 ≤ dt p n ∧ dt p n < p := ser_r (by omega) _ n
theorem ml_r {p : Int} (hp : 1 < p) (f g : Nat → Int) (n : Nat) : 0 ≤ ml p f g n ∧ ml p f g n < p := ser_r (by omega) _ n
theorem m_basic {S : SS} {A B : ZA} {c : (Nat × Nat) × (Nat → Nat)} {m : Nat} {p : Int} (hM : LM S m) (hm : A m 1 = p) (hp : 101 ≤ p) (hp2 : p < 10000) :
    ∃ A' : ZA, f_X12_laysBasic m (mz S A B c) = some ((), mz S A' B c) ∧ (∀ n, n < 181 → A' (m + 1) n = e4 p n ∧ A' (m + 2) n = e6 p n ∧ A' (m + 3) n = dt p n) ∧ (∀ a, a ≠ m + 1 → a ≠ m + 2 → a ≠ m + 3 → a ≠ m + 4 → A' a = A a) := by
  have hp1 : 1 < p := by omega
  unfold f_X12_laysBasic
  rw [k0, m_basic2 hM hm hp1 hp2]
  simp only [Option.bind_some, MR2 hM, MR3 hM, MR4 hM, MR5 hM, Mv hM]
  generalize hA1 : za (za A (m + 1) (mo (e4 p) (A (m + 1)) 0 181)) (m + 2) (mo (e6 p) (A (m + 2)) 0 181) = A1
  have f1 : ∀ k, k < 181 → A1 (m + 1) (0 + k) = e4 p k := fun k hk => by rw [← hA1, za_ne _ _ (by omega), za_at, mo_in _ _ hk]
  have f2 : ∀ k, k < 181 → A1 (m + 2) (0 + k) = e6 p k := fun k hk => by rw [← hA1, za_at, mo_in _ _ hk]
  have f0 : ∀ a, a ≠ m + 1 → a ≠ m + 2 → A1 a = A a := fun a h1 h2 => by rw [← hA1, za_ne _ _ h2, za_ne _ _ h1]
  rw [m_mul hM (by rw [f0 m (by omega) (by omega)]; exact hm) (by omega) hp2 (MS1 hM) (MS1 hM) (MS4 hM) (by omega) (by omega) (by omega) (by omega) (by omega) (by omega) (fun k hk => by rw [f1 k hk]; exact e4_r hp1 k) (fun k hk => by rw [f1 k hk]; exact e4_r hp1 k)]
  simp only [Option.bind_some, MR2 hM, MR3 hM, MR4 hM, MR5 hM, Mv hM]
  generalize hA2 : za A1 (m + 4) _ = A2
  have g1 : ∀ k, k < 181 → A2 (m + 4) (0 + k) = ml p (e4 p) (e4 p) k := fun k hk => by
    rw [← hA2, za_at, mo_in _ _ hk]
    exact cv_ser (by omega) f1 f1
  have g2 : ∀ a, a ≠ m + 4 → A2 a = A1 a := fun a h1 => by rw [← hA2, za_ne _ _ h1]
  rw [m_mul hM (by rw [g2 m (by omega), f0 m (by omega) (by omega)]; exact hm) (by omega) hp2 (MS4 hM) (MS1 hM) (MS3 hM) (by omega) (by omega) (by omega) (by omega) (by omega) (by omega) (fun k hk => by rw [g1 k hk]; exact ml_r hp1 _ _ k) (fun k hk => by rw [g2 _ (by omega), f1 k hk]; exact e4_r hp1 k)]
  simp only [Option.bind_some, MR2 hM, MR3 hM, MR4 hM, MR5 hM, Mv hM]
  generalize hA3 : za A2 (m + 3) _ = A3
  have i1 : ∀ k, k < 181 → A3 (m + 3) (0 + k) = ml p (ml p (e4 p) (e4 p)) (e4 p) k := fun k hk => by
    rw [← hA3, za_at, mo_in _ _ hk]
    exact cv_ser (by omega) g1 (fun k hk => by rw [g2 _ (by omega)]; exact f1 k hk)
  have i2 : ∀ a, a ≠ m + 3 → A3 a = A2 a := fun a h1 => by rw [← hA3, za_ne _ _ h1]
  have f2' : ∀ k, k < 181 → A3 (m + 2) (0 + k) = e6 p k := fun k hk => by rw [i2 _ (by omega), g2 _ (by omega)]; exact f2 k hk
  rw [m_mul hM (by rw [i2 m (by omega), g2 m (by omega), f0 m (by omega) (by omega)]; exact hm) (by omega) hp2 (MS2 hM) (MS2 hM) (MS4 hM) (by omega) (by omega) (by omega) (by omega) (by omega) (by omega) (fun k hk => by rw [f2' k hk]; exact e6_r hp1 k) (fun k hk => by rw [f2' k hk]; exact e6_r hp1 k)]
  simp only [Option.bind_some, Mv hM]
  generalize hA4 : za A3 (m + 4) _ = A4
  have j1 : ∀ k, k < 181 → A4 (m + 4) k = ml p (e6 p) (e6 p) k := fun k hk => by
    rw [← hA4, za_at, mo_0in _ _ hk]
    exact cv_ser (by omega) f2' f2'
  have j2 : ∀ a, a ≠ m + 4 → A4 a = A3 a := fun a h1 => by rw [← hA4, za_ne _ _ h1]
  have j3 : ∀ k, k < 181 → A4 (m + 3) k = ml p (ml p (e4 p) (e4 p)) (e4 p) k := fun k hk => by
    have := i1 k hk
    rw [Nat.zero_add] at this
    rw [j2 _ (by omega), this]
  have hm4 : A4 m 1 = p := by rw [j2 m (by omega), i2 m (by omega), g2 m (by omega), f0 m (by omega) (by omega)]; exact hm
  have hr := emod_r (x := 1728) (p := p) (by omega)
  rw [g1728, m_left' hM hm4 (by omega) hp2 (by omega) (by omega)]
  simp only [Option.bind_some, Mv hM]
  rw [m_inverse (by rw [MI1 hM, hm4]) ⟨hr.1, by omega⟩ (by omega) (by omega), pw_mod hp1]
  simp only [Option.bind_some]
  have hw := pw_r (b := 1728) hp1 (p - 2).toNat
  have key := fill_run (S := S) (A := A4) (B := B) (c := c) (a := m + 3) (o := 0) (f := f_X12_laysBasic_L191 m (ii (pw 1728 p (p - 2).toNat))) (dt p) 181 (by decide) (fun i hi => by
    have r1 := ml_r hp1 (ml p (e4 p) (e4 p)) (e4 p) i
    have r2 := ml_r hp1 (e6 p) (e6 p) i
    have r3 := mul_bd (M := 10000) (N := 10000) (a := ml p (ml p (e4 p) (e4 p)) (e4 p) i - ml p (e6 p) (e6 p) i) ⟨by omega, by omega⟩ (b := pw 1728 p (p - 2).toNat) ⟨hw.1, by omega⟩
    unfold f_X12_laysBasic_L191
    simp (disch := omega) only [k181, n_le, show ¬ (181 ≤ i) by omega, ↓reduceIte, MR4 hM, MR5 hM, Mv hM, Ma3 hM, Ma4 hM, Option.bind_some, za_at, za_ne, mo_out, j1, j3, ii_sub, i_l, ll_mul]
    rw [m_left' hM (by rw [za_ne _ _ (by omega)]; exact hm4) (by omega) hp2 (by omega) (by omega)]
    simp only [Option.bind_some]
    rw [jsI_m0 (MS3 hM) hi (by omega) (by
      unfold dt
      rw [ser_at (by omega)]
      have e1 : pn p (e4 p) 3 i = ml p (ml p (e4 p) (e4 p)) (e4 p) i := by
        show ml p (ml p (ml p (dl 0) (e4 p)) (e4 p)) (e4 p) i = _
        rw [ml_one]
        unfold e4
        rw [ser_ser]
      have e2 : pn p (e6 p) 2 i = ml p (e6 p) (e6 p) i := by
        show ml p (ml p (dl 0) (e6 p)) (e6 p) i = _
        rw [ml_one]
        unfold e6
        rw [ser_ser]
      rw [e1, e2])]
    simp only [Option.bind_some, k1, n_add]) (by
    unfold f_X12_laysBasic_L191
    simp (disch := omega) only [k181, n_le, Nat.le_refl, ↓reduceIte])
  rw [key]
  refine ⟨_, rfl, fun n hn => ⟨?_, ?_, ?_⟩, fun a h1 h2 h3 h4 => ?_⟩
  · have := f1 n hn
    rw [Nat.zero_add] at this
    rw [za_ne _ _ (by omega), j2 _ (by omega), i2 _ (by omega), g2 _ (by omega), this]
  · have := f2 n hn
    rw [Nat.zero_add] at this
    rw [za_ne _ _ (by omega), j2 _ (by omega), i2 _ (by omega), g2 _ (by omega), this]
  · rw [za_at, mo_0in _ _ hn]
  · rw [za_ne _ _ h3, j2 _ h4, i2 _ h3, g2 _ h4, f0 _ h1 h2]
