/-! The reference: a form out of its first coefficients, Hecke's operator. -/
theorem bl_r {p : Int} (hp : 1 < p) (k : Nat) (c : Nat → Int) (j n : Nat) : 0 ≤ bl p k c j n ∧ bl p k c j n < p := by
  cases j with
  | zero => show (0 : Int) ≤ 0 ∧ (0 : Int) < p; omega
  | succ j =>
    show 0 ≤ ad p (bl p k c j) (sc p ((c j - bl p k c j j) % p) (rwx p k j)) n ∧ ad p (bl p k c j) (sc p ((c j - bl p k c j j) % p) (rwx p k j)) n < p
    exact ser_r (p := p) (by omega) _ n
theorem ex_r {p : Int} (hp : 1 < p) (k : Nat) (c : Nat → Int) (n : Nat) : 0 ≤ ex p k c n ∧ ex p k c n < p := bl_r hp k c _ n
theorem rwx_r {p : Int} (hp : 1 < p) (k j n : Nat) : 0 ≤ rwx p k j n ∧ rwx p k j n < p := ml_r hp _ _ n
theorem bl_step {p : Int} (h : EH p) (k : Nat) (c : Nat → Int) {j n : Nat} (hj : j ≤ 180) (hn : n ≤ 180) : bl p k c (j + 1) n = if n < j then bl p k c j n else (bl p k c j n + (c j - bl p k c j j) % p * rwx p k j n) % p := by
  show ad p (bl p k c j) (sc p ((c j - bl p k c j j) % p) (rwx p k j)) n = _
  unfold ad sc
  rw [ser_at hn, ser_at hn, em_add_r]
  by_cases q : n < j
  · rw [if_pos q, (rwx_lead h k hj).1 n q, Int.mul_zero, Int.add_zero]
    have := bl_r h.1 k c j n
    exact Int.emod_eq_of_lt this.1 this.2
  · rw [if_neg q]
theorem m_builds {S : SS} {A B : ZA} {c : (Nat × Nat) × (Nat → Nat)} {m k : Nat} {p : Int} {C : Nat → Int} (hM : LM S m) (hB : Bas A m p) (hR : RC A m p) (hE : EH p) (hp2 : p < 10000) (hk : k ≤ 60) (hk2 : k % 2 = 0) (hC : ∀ j, j < Lk k → A (m + 7) j = C j ∧ (0 ≤ C j ∧ C j < p)) :
    ∃ A' : ZA, f_X12_builds m (ii (k : Int)) (mz S A B c) = some ((), mz S A' B c) ∧ (∀ n, n < 181 → A' (m + 8) n = ex p k C n) ∧ RC A' m p ∧ (∀ i, i ≠ 7 → A' m i = A m i) ∧ (∀ x, x ≠ m → x ≠ m + 4 → x ≠ m + 5 → x ≠ m + 6 → x ≠ m + 8 → A' x = A x) := by
  have hp := hE.1
  have hL := Lk_r hk
  obtain ⟨A1, e1, g1, g2, g3, g4⟩ := m_rows (B := B) (c := c) hM hB hR hp hp2 hk hk2
  unfold f_X12_builds
  simp only [Mv hM, Option.bind_some, e1]
  have key1 := fill_run (S := S) (A := A1) (B := B) (c := c) (a := m + 8) (o := 0) (f := f_X12_builds_L7 m (ii (k : Int))) (fun _ => 0) 181 (by decide) (fun i hi => by
    unfold f_X12_builds_L7
    simp (disch := omega) only [k181, k0, k1, n_le, show ¬ (181 ≤ i) by omega, ↓reduceIte, MR10 hM, Option.bind_some, n_add]
    rw [jsI_m0 (G := fun _ => 0) (v := ((0 : Nat) : Int)) (MS8 hM) hi (by omega) rfl]
    rfl) (by
    unfold f_X12_builds_L7
    simp (disch := omega) only [k181, n_le, Nat.le_refl, ↓reduceIte])
  rw [k0, key1]
  simp only [Option.bind_some]
  have key := z_run (S := S) (B := B) (c := c) (f := f_X12_builds_L29 m (ii (k : Int))) (fun i => ii (i : Int)) (fun j A' => (∀ n, n < 181 → A' (m + 8) n = bl p k C j n) ∧ (∀ x, x ≠ m + 8 → A' x = A1 x)) (Lk k) (t := ii ((Lk k : Nat) : Int)) (by omega) (fun j hj A2 ⟨h1, h2⟩ => by
    have hCj := hC j hj
    have r1 := bl_r hp k C j j
    have r2 := emod_r (x := C j - bl p k C j j) (p := p) (by omega)
    have f7 : A2 (m + 7) j = C j := by rw [h2 _ (by omega), g4 _ (by omega) (by omega) (by omega) (by omega)]; exact hCj.1
    have m1 : A2 m 1 = p := by rw [h2 _ (by omega), g3 _ (by omega)]; exact hB.1
    unfold f_X12_builds_L29
    rw [m_long _ hk]
    simp (disch := omega) only [Option.bind_some, n_le, show ¬ (Lk k ≤ j) by omega, ↓reduceIte, MR9 hM, MR10 hM, Ma7 hM, Ma8 hM, Mv hM, f7, h1, ii_sub, i_l]
    rw [m_left' hM m1 (by omega) hp2 (by omega) (by omega)]
    simp only [Option.bind_some]
    have inner := jloop_run (f := f_X12_builds_L59 m (ii (k : Int)) (ii (j : Int)) (ii ((C j - bl p k C j j) % p))) (fun i => ii ((j + i : Nat) : Int)) (fun i => mz S (za A2 (m + 8) (mo (fun i => bl p k C (j + 1) (j + i)) (A2 (m + 8)) j i)) B c) (181 - j) (fun i hi => by
      have rr := rwx_r hp k j (j + i)
      have rb := bl_r hp k C j (j + i)
      have pr := pr_r (x := (C j - bl p k C j j) % p) (y := rwx p k j (j + i)) ⟨r2.1, by omega⟩ ⟨rr.1, by omega⟩
      have hrw : A2 (m + 6) (181 * j + (j + i)) = rwx p k j (j + i) := by rw [h2 _ (by omega)]; exact g2 j hj _ (by omega)
      unfold f_X12_builds_L59
      simp (disch := omega) only [k181, n_le, show ¬ (181 ≤ j + i) by omega, ↓reduceIte, MR10 hM, MR8 hM, Ma8 hM, Ma6 hM, Mv hM, Option.bind_some, za_at, za_ne, mo_out, h1, n_mul, n_add, hrw, i_l, ll_mul, ll_add]
      rw [m_left' (p := p) hM (by rw [za_ne _ _ (by omega)]; exact m1) (by omega) hp2 (by omega) (by omega)]
      simp only [Option.bind_some]
      rw [jsI_m (MS8 hM) (by omega) (by omega) (by
        show _ = bl p k C (j + 1) (j + i)
        rw [bl_step hE k C (by omega) (by omega), if_neg (by omega)])]
      simp only [Option.bind_some, k1, n_add]
      rfl) (t := ii ((181 : Nat) : Int)) (h1 := mz S (za A2 (m + 8) (mo (fun i => bl p k C (j + 1) (j + i)) (A2 (m + 8)) j (181 - j))) B c) (by
      unfold f_X12_builds_L59
      rw [show j + (181 - j) = 181 by omega]
      simp (disch := omega) only [k181, n_le, Nat.le_refl, ↓reduceIte]) (jF_big (by omega))
    rw [mo_0, za_self] at inner
    have inner' : jloop (f_X12_builds_L59 m (ii (k : Int)) (ii (j : Int)) (ii ((C j - bl p k C j j) % p))) jF (ii (j : Int)) (mz S A2 B c) = _ := inner
    rw [inner']
    simp only [Option.bind_some, k1, n_add]
    refine ⟨_, rfl, fun n hn => ?_, fun x hx => by rw [za_ne _ _ hx, h2 x hx]⟩
    rw [za_at]
    by_cases q : n < j
    · rw [mo_out _ _ (by omega), h1 n hn, bl_step hE k C (by omega) (by omega), if_pos q]
    · simp only [mo]
      rw [if_pos (by omega), show j + (n - j) = n by omega]) (fun A1 _ => by
    unfold f_X12_builds_L29
    rw [m_long _ hk]
    simp (disch := omega) only [Option.bind_some, n_le, Nat.le_refl, ↓reduceIte]) (A0 := za A1 (m + 8) (mo (fun _ => 0) (A1 (m + 8)) 0 181)) ⟨fun n hn => by rw [za_at, mo_0in _ _ hn]; rfl, fun x hx => za_ne _ _ hx⟩
  obtain ⟨A', e, q1, q2⟩ := key
  have e' : jloop (f_X12_builds_L29 m (ii (k : Int))) jF (ii ((0 : Nat) : Int)) (mz S (za A1 (m + 8) (mo (fun _ => 0) (A1 (m + 8)) 0 181)) B c) = some (ii ((Lk k : Nat) : Int), mz S A' B c) := e
  rw [e']
  refine ⟨A', rfl, q1, Or.inr ⟨k, hk, ?_, ?_⟩, fun i hi => ?_, fun x x1 x2 x3 x4 x5 => ?_⟩
  · rw [q2 _ (by omega)]; exact g1
  · intro j hj n hn
    rw [q2 _ (by omega)]; exact g2 j hj n hn
  · rw [q2 _ (by omega)]; exact g3 i hi
  · rw [q2 x x5]; exact g4 x x1 x2 x3 x4
/-- Hecke's operator at a coefficient -/
def hkg (p : Int) (k : Nat) (R : Nat → Int) (n x : Nat) : Nat → Int := fun d => if (d + 1) ∣ n ∧ (d + 1) ∣ x then pw (((d + 1 : Nat) : Int)) p (k - 1) * R (x * n / ((d + 1) * (d + 1))) else 0
def hk (p : Int) (k : Nat) (R : Nat → Int) (n x : Nat) : Int := if k ≤ 2 then 0 else sm (hkg p k R n x) n % p
theorem hk_r {p : Int} (hp : 1 < p) (k : Nat) (R : Nat → Int) (n x : Nat) : 0 ≤ hk p k R n x ∧ hk p k R n x < p := by
  unfold hk
  split
  · omega
  · exact emod_r (by omega)
theorem hk_ix {n x : Nat} (d : Nat) (hn : n ≤ 30) (hx : x ≤ 5) : x * n / ((d + 1) * (d + 1)) ≤ 150 := by
  have h1 : x * n ≤ 5 * 30 := Nat.mul_le_mul hx hn
  exact Nat.le_trans (Nat.div_le_self _ _) (by omega)
theorem hkg_r {p : Int} (hp : 1 < p) (hp2 : p < 10000) {R : Nat → Int} (hR : ∀ i, i < 181 → 0 ≤ R i ∧ R i < p) (k : Nat) {n x : Nat} (hn : n ≤ 30) (hx : x ≤ 5) (i : Nat) : 0 ≤ sm (hkg p k R n x) i ∧ sm (hkg p k R n x) i ≤ 100000000 * (i : Int) :=
  sm_r fun d _ => by
    unfold hkg
    split
    · have h1 := pw_r (b := ((d + 1 : Nat) : Int)) hp (k - 1)
      have h2 := hR (x * n / ((d + 1) * (d + 1))) (by have := hk_ix d hn hx; omega)
      exact pr_r ⟨h1.1, by omega⟩ ⟨h2.1, by omega⟩
    · omega
theorem m_hecke {S : SS} {A B : ZA} {c : (Nat × Nat) × (Nat → Nat)} {m a o N k n x : Nat} {p : Int} {R : Nat → Int} (hM : LM S m) (hm : A m 1 = p) (hp : 1 < p) (hp2 : p < 10000) (hk' : k ≤ 60) (hn : n ≤ 30) (hx : x ≤ 5) (ha : S a = some (.inr (.inl (.int, N)))) (ho : o + 181 ≤ N) (hN : N < 100000) (hR : ∀ i, i < 181 → A a (o + i) = R i ∧ (0 ≤ R i ∧ R i < p)) :
    f_X12_heckeAt m a (ii (o : Int)) (ii (k : Int)) (ii (n : Int)) (ii (x : Int)) (mz S A B c) = some (ii (hk p k R n x), mz S A B c) := by
  unfold f_X12_heckeAt hk
  simp (disch := omega) only [k2, k0, n_lt]
  by_cases q : k ≤ 2
  · rw [if_neg (by omega), if_pos q]; rfl
  · rw [if_pos (by omega), if_neg q]
    have hm' : jgI (mz S A B c) m 9 1 = some (ii p) := by rw [MI1 hM, hm]
    have key := jloop_run (f := f_X12_heckeAt_L13 m a (ii (o : Int)) (ii (k : Int)) (ii (n : Int)) (ii (x : Int))) (fun i => (ll (sm (hkg p k R n x) i), ii ((i + 1 : Nat) : Int))) (fun _ => mz S A B c) n (fun i hi => by
      have hix := hk_ix (n := n) (x := x) i hn hx
      have hsq : (i + 1) * (i + 1) ≤ 30 * 30 := Nat.mul_le_mul (by omega) (by omega)
      have hsq0 : 0 < (i + 1) * (i + 1) := Nat.mul_pos (by omega) (by omega)
      have hxn : x * n ≤ 5 * 30 := Nat.mul_le_mul hx hn
      obtain ⟨hR1, hR2⟩ := hR (x * n / ((i + 1) * (i + 1))) (by omega)
      have hpw := pw_r (b := ((i + 1 : Nat) : Int)) hp (k - 1)
      unfold f_X12_heckeAt_L13
      simp (disch := omega) only [k0, k1, n_add, n_lt, show ¬ (n < i + 1) by omega, ↓reduceIte, n_nz, Option.bind_some, n_dvd, Mv hM, n_sub, n_mul, n_div]
      by_cases q1 : (i + 1) ∣ n
      · by_cases q2 : (i + 1) ∣ x
        · simp only [q1, q2, ↓reduceIte]
          rw [m_power hm' ⟨by omega, by omega⟩ hp (by omega) (by omega)]
          simp only [Option.bind_some]
          rw [jaI_n ha (by omega) (by omega), hR1]
          simp (disch := omega) only [Option.bind_some, i_l, ll_mul, ll_add, sm, hkg, q1, q2, true_and, ↓reduceIte]
        · simp only [q1, q2, ↓reduceIte, sm, hkg, and_false, Int.add_zero]
      · simp only [q1, ↓reduceIte, sm, hkg, false_and, Int.add_zero]) (t := (ll (sm (hkg p k R n x) n), ii ((n + 1 : Nat) : Int))) (h1 := mz S A B c) (by
      unfold f_X12_heckeAt_L13
      simp (disch := omega) only [n_lt, show n < n + 1 by omega, ↓reduceIte]) (jF_big (by omega))
    have key' : jloop (f_X12_heckeAt_L13 m a (ii (o : Int)) (ii (k : Int)) (ii (n : Int)) (ii (x : Int))) jF ((0 : Int64), (1 : Int32)) (mz S A B c) = _ := key
    have hb := hkg_r (R := R) hp hp2 (fun i hi => (hR i hi).2) k hn hx n
    rw [key']
    simp only [Option.bind_some, Mv hM]
    rw [m_left' hM hm (by omega) hp2 (by omega) (by omega)]
    rfl
