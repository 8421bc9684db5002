/-! Forms of a weight: sums of products of the three; the first coefficients tell them. -/
def sgm (e n : Nat) : Int := sm (fun d => if (d + 1) ∣ n then (((d + 1 : Nat) : Int)) ^ e else 0) n
def ie (c : Int) (e n : Nat) : Int := if n = 0 then 1 else c * sgm e n
def e4 (p : Int) : Nat → Int := ser p (ie 240 3)
def e6 (p : Int) : Nat → Int := ser p (ie (-504) 5)
def dt (p : Int) : Nat → Int := ser p (fun n => (pn p (e4 p) 3 n - pn p (e6 p) 2 n) * pw 1728 p (p - 2).toNat)
/-- what is wanted of the three -/
def EH (p : Int) : Prop := 1 < p ∧ pn p (e6 p) 2 = ad p (pn p (e4 p) 3) (sc p (-1728) (dt p)) ∧ lead (dt p) 1
theorem ie_lead {p : Int} (hp : 1 < p) (c : Int) (e : Nat) : lead (ser p (ie c e)) 0 := ⟨fun n hn => by omega, by rw [ser_at (by omega)]; exact Int.emod_eq_of_lt (show (0 : Int) ≤ 1 by decide) hp⟩
def Lk (k : Nat) : Nat := if k % 12 = 2 then k / 12 else k / 12 + 1
def bk (k : Nat) : Nat := k % 4 / 2
def ak (k j : Nat) : Nat := (k - 12 * j - 6 * bk k) / 4
def rwx (p : Int) (k j : Nat) : Nat → Int := ml p (ml p (pn p (e4 p) (ak k j)) (pn p (e6 p) (bk k))) (pn p (dt p) j)
theorem Lk_r {k : Nat} (h : k ≤ 60) : Lk k ≤ 6 := by unfold Lk; split <;> omega
theorem rwx_lead {p : Int} (h : EH p) (k : Nat) {j : Nat} (hj : j ≤ 180) : lead (rwx p k j) j := by
  have h1 := pn_lead h.1 (ie_lead h.1 240 3) (ak k j) (by omega)
  have h2 := pn_lead h.1 (ie_lead h.1 (-504) 5) (bk k) (by omega)
  have h3 := pn_lead h.1 h.2.2 j (by omega)
  rw [Nat.zero_mul] at h1 h2
  rw [Nat.one_mul] at h3
  have h4 := ml_lead h.1 (by omega) (ml_lead h.1 (by omega) h1 h2) h3
  rw [show 0 + 0 + j = j by omega] at h4
  exact h4
/-- a sum of rows -/
def cm (p : Int) (R : Nat → Nat → Int) (c : Nat → Int) (n : Nat) : Nat → Int := ser p (fun x => sm (fun j => c j * R j x) n)
def VV (p : Int) (k : Nat) (f : Nat → Int) : Prop := ∃ c, f = cm p (rwx p k) c (Lk k)
theorem VV_ser {p : Int} {k : Nat} {f : Nat → Int} (h : VV p k f) : ser p f = f := by
  obtain ⟨c, rfl⟩ := h
  exact ser_ser _ _
theorem VV_ad {p : Int} {k : Nat} {f g : Nat → Int} (hf : VV p k f) (hg : VV p k g) : VV p k (ad p f g) := by
  obtain ⟨c, rfl⟩ := hf
  obtain ⟨d, rfl⟩ := hg
  refine ⟨fun j => c j + d j, ser_eq fun n hn => ?_⟩
  unfold cm
  rw [ser_at hn, ser_at hn, em_add, ← sm_add]
  exact congrArg (· % p) (sm_congr fun i _ => (Int.add_mul _ _ _).symm)
theorem VV_sc {p : Int} {k : Nat} {f : Nat → Int} (a : Int) (hf : VV p k f) : VV p k (sc p a f) := by
  obtain ⟨c, rfl⟩ := hf
  refine ⟨fun j => a * c j, ser_eq fun n hn => ?_⟩
  unfold cm
  rw [ser_at hn, em_mul_r, ← sm_mul]
  exact congrArg (· % p) (sm_congr fun i _ => (Int.mul_assoc _ _ _).symm)
theorem VV_0 (p : Int) (k : Nat) : VV p k (fun _ => 0) := by
  refine ⟨fun _ => 0, ?_⟩
  funext n
  unfold cm ser
  split
  · show (0 : Int) = sm (fun j => 0 * rwx p k j n) (Lk k) % p
    rw [sm_zero (fun i _ => Int.zero_mul _)]; rfl
  · rfl
theorem sm_one {g : Nat → Int} {n j : Nat} (hj : j < n) (h : ∀ i, i < n → i ≠ j → g i = 0) : sm g n = g j := by
  induction n with
  | zero => omega
  | succ n ih =>
    simp only [sm]
    by_cases e : j = n
    · subst e
      rw [sm_zero (fun i hi => h i (by omega) (by omega))]; omega
    · rw [ih (by omega) (fun i hi hne => h i (by omega) hne), h n (by omega) (fun q => e q.symm)]; omega
theorem VV_row {p : Int} {k j : Nat} (hj : j < Lk k) : VV p k (rwx p k j) := by
  refine ⟨dl j, ?_⟩
  rw [show rwx p k j = ser p (rwx p k j) from (ml_ser p _ _).symm]
  refine ser_eq fun n _ => ?_
  rw [sm_one hj (fun i _ hne => by simp [dl, hne])]
  simp [dl]
theorem cm_succ (p : Int) (R : Nat → Nat → Int) (c : Nat → Int) (n : Nat) : cm p R c (n + 1) = ad p (cm p R c n) (sc p (c n) (R n)) := by
  refine ser_eq fun x hx => ?_
  unfold cm sc
  rw [ser_at hx, ser_at hx, em_add]
  rfl
theorem cm_ml {p : Int} {R : Nat → Nat → Int} {g : Nat → Int} {k : Nat} {n : Nat} (h : ∀ j, j < n → VV p k (ml p (R j) g)) (c : Nat → Int) : VV p k (ml p (cm p R c n) g) := by
  induction n with
  | zero =>
    have e : ml p (cm p R c 0) g = fun _ => 0 := by
      funext x
      unfold ml ser
      split
      · rw [show cv (cm p R c 0) g x = 0 from sm_zero fun i _ => by
          unfold cm ser
          split <;> simp [sm]]
        rfl
      · rfl
    rw [e]; exact VV_0 p k
  | succ n ih =>
    rw [cm_succ, ml_ad, ml_sc]
    exact VV_ad (ih fun j hj => h j (by omega)) (VV_sc _ (h n (by omega)))
theorem ml_mid (p : Int) (a b c a' b' c' : Nat → Int) : ml p (ml p (ml p a b) c) (ml p (ml p a' b') c') = ml p (ml p (ml p a a') (ml p b b')) (ml p c c') := by
  have i1 : Std.Associative (ml p) := ⟨ml_assoc p⟩
  have i2 : Std.Commutative (ml p) := ⟨ml_comm p⟩
  ac_rfl
theorem ml_3 (p : Int) (a b c d : Nat → Int) : ml p (ml p a (ml p b c)) d = ml p (ml p (ml p a b) c) d := by
  rw [ml_assoc p a b c]
theorem rwx_ml {p : Int} (h : EH p) {k l i j : Nat} (hk : k % 2 = 0) (hl : l % 2 = 0) (hi : i < Lk k) (hj : j < Lk l) : VV p (k + l) (ml p (rwx p k i) (rwx p l j)) := by
  have hp := h.1
  have e0 : ml p (rwx p k i) (rwx p l j) = ml p (ml p (pn p (e4 p) (ak k i + ak l j)) (pn p (e6 p) (bk k + bk l))) (pn p (dt p) (i + j)) := by
    unfold rwx
    rw [ml_mid, ← pn_add hp, ← pn_add hp, ← pn_add hp]
  have Lk1 : Lk k = if k % 12 = 2 then k / 12 else k / 12 + 1 := rfl
  have Ll1 : Lk l = if l % 12 = 2 then l / 12 else l / 12 + 1 := rfl
  have Lk2 : Lk (k + l) = if (k + l) % 12 = 2 then (k + l) / 12 else (k + l) / 12 + 1 := rfl
  have b1 : bk k = k % 4 / 2 := rfl
  have b2 : bk l = l % 4 / 2 := rfl
  have b3 : bk (k + l) = (k + l) % 4 / 2 := rfl
  have a1 : ak k i = (k - 12 * i - 6 * bk k) / 4 := rfl
  have a2 : ak l j = (l - 12 * j - 6 * bk l) / 4 := rfl
  have a3 : ak (k + l) (i + j) = (k + l - 12 * (i + j) - 6 * bk (k + l)) / 4 := rfl
  have a4 : ak (k + l) (i + j + 1) = (k + l - 12 * (i + j + 1) - 6 * bk (k + l)) / 4 := rfl
  have g1 : 12 * i + 6 * bk k ≤ k ∧ (k - 12 * i - 6 * bk k) % 4 = 0 := by rw [b1]; split at Lk1 <;> omega
  have g2 : 12 * j + 6 * bk l ≤ l ∧ (l - 12 * j - 6 * bk l) % 4 = 0 := by rw [b2]; split at Ll1 <;> omega
  by_cases q : bk k + bk l ≤ 1
  · have q1 : bk k + bk l = bk (k + l) := by omega
    have q2 : ak k i + ak l j = ak (k + l) (i + j) := by omega
    rw [e0, q1, q2]
    exact VV_row (by rw [Lk2]; split <;> omega)
  · have q1 : bk k + bk l = 2 := by omega
    have q3 : bk (k + l) = 0 := by omega
    have q2 : ak k i + ak l j + 3 = ak (k + l) (i + j) := by omega
    have q4 : ak k i + ak l j = ak (k + l) (i + j + 1) := by omega
    have r1 : i + j < Lk (k + l) := by rw [Lk2]; split <;> omega
    have r2 : i + j + 1 < Lk (k + l) := by rw [Lk2]; split <;> omega
    have e1 : ml p (ml p (pn p (e4 p) (ak k i + ak l j)) (pn p (e4 p) 3)) (pn p (dt p) (i + j)) = rwx p (k + l) (i + j) := by
      unfold rwx
      rw [← pn_add hp, q2, q3]
      show _ = ml p (ml p _ (dl 0)) _
      rw [ml_comm p _ (dl 0), ml_one, pn_ser hp]
    have e2 : ml p (ml p (pn p (e4 p) (ak k i + ak l j)) (dt p)) (pn p (dt p) (i + j)) = rwx p (k + l) (i + j + 1) := by
      unfold rwx
      rw [q4, q3]
      show _ = ml p (ml p _ (dl 0)) (ml p (pn p (dt p) (i + j)) (dt p))
      rw [ml_comm p _ (dl 0), ml_one, pn_ser hp]
      have i1 : Std.Associative (ml p) := ⟨ml_assoc p⟩
      have i2 : Std.Commutative (ml p) := ⟨ml_comm p⟩
      ac_rfl
    rw [e0, q1, h.2.1, ml_comm p (pn p (e4 p) (ak k i + ak l j)), ml_ad, ml_ad, ml_sc, ml_sc, ml_comm p (pn p (e4 p) 3), ml_comm p (dt p), e1, e2]
    exact VV_ad (VV_row r1) (VV_sc _ (VV_row r2))
theorem VV_ml {p : Int} (h : EH p) {k l : Nat} (hk : k % 2 = 0) (hl : l % 2 = 0) {f g : Nat → Int} (hf : VV p k f) (hg : VV p l g) : VV p (k + l) (ml p f g) := by
  obtain ⟨c, rfl⟩ := hf
  obtain ⟨d, rfl⟩ := hg
  refine cm_ml (fun i hi => ?_) c
  rw [ml_comm]
  refine cm_ml (fun j hj => ?_) d
  rw [ml_comm]
  exact rwx_ml h hk hl hi hj
/-- a form whose first coefficients are 0 is 0 -/
theorem VV_zero {p : Int} (h : EH p) {k : Nat} (hk : k ≤ 60) {f : Nat → Int} (hf : VV p k f) (h0 : ∀ n, n < Lk k → f n = 0) : f = fun _ => 0 := by
  obtain ⟨c, rfl⟩ := hf
  have hL := Lk_r hk
  have hc : ∀ n j, j < n → j < Lk k → c j % p = 0 := by
    intro n
    induction n with
    | zero => intro j hj; omega
    | succ n ih =>
      intro j hj hjL
      by_cases q : j < n
      · exact ih j q hjL
      · have e : j = n := by omega
        subst e
        have h1 := h0 j hjL
        unfold cm at h1
        rw [ser_at (by omega)] at h1
        have h2 : sm (fun i => c i * rwx p k i j) (Lk k) % p = sm (fun i => if i = j then c j else 0) (Lk k) % p := by
          refine sm_em fun i hi => ?_
          by_cases q1 : i = j
          · subst q1; rw [if_pos rfl, (rwx_lead h k (by omega)).2, Int.mul_one]
          · rw [if_neg q1]
            by_cases q2 : i < j
            · rw [Int.mul_emod, ih i q2 hi, Int.zero_mul]
            · rw [(rwx_lead h k (by omega)).1 j (by omega), Int.mul_zero]
        rw [h2, sm_one hjL (fun i _ hne => by rw [if_neg hne])] at h1
        simpa using h1
  funext x
  unfold cm ser
  split
  · rw [sm_em (g := fun _ => 0) (fun i hi => by rw [Int.mul_emod, hc (Lk k) i hi hi, Int.zero_mul]), sm_zero (fun _ _ => rfl)]
    rfl
  · rfl
theorem VV_ext {p : Int} (h : EH p) {k : Nat} (hk : k ≤ 60) {f g : Nat → Int} (hf : VV p k f) (hg : VV p k g) (h0 : ∀ n, n < Lk k → f n = g n) : f = g := by
  have hL := Lk_r hk
  have h1 := VV_zero h hk (VV_ad hf (VV_sc (-1) hg)) (fun n hn => by
    unfold ad sc
    rw [ser_at (by omega), ser_at (by omega), em_add_r, h0 n hn, show g n + -1 * g n = 0 by omega]; rfl)
  rw [← VV_ser hf, ← VV_ser hg]
  refine ser_eq fun n hn => ?_
  have h2 : ad p f (sc p (-1) g) n = 0 := by rw [h1]
  unfold ad sc at h2
  rw [ser_at hn, ser_at hn, em_add_r] at h2
  have h3 : (f n - g n) % p = 0 := by rw [show f n - g n = f n + -1 * g n by omega]; exact h2
  exact Int.emod_eq_emod_iff_emod_sub_eq_zero.mpr h3
/-- the form with these first coefficients, as the reference builds it: j rows are used -/
def bl (p : Int) (k : Nat) (c : Nat → Int) : Nat → (Nat → Int)
  | 0 => fun _ => 0
  | j + 1 => ad p (bl p k c j) (sc p ((c j - bl p k c j j) % p) (rwx p k j))
theorem bl_V {p : Int} {k : Nat} (c : Nat → Int) {j : Nat} (hj : j ≤ Lk k) : VV p k (bl p k c j) := by
  induction j with
  | zero => exact VV_0 p k
  | succ j ih => exact VV_ad (ih (by omega)) (VV_sc _ (VV_row (by omega)))
theorem bl_first {p : Int} (h : EH p) {k : Nat} (c : Nat → Int) {j : Nat} (hj : j ≤ 180) : ∀ n, n < j → bl p k c j n = c n % p := by
  induction j with
  | zero => intro n hn; omega
  | succ j ih =>
    intro n hn
    show ad p (bl p k c j) (sc p ((c j - bl p k c j j) % p) (rwx p k j)) n = _
    unfold ad sc
    rw [ser_at (by omega), ser_at (by omega), em_add_r]
    by_cases q : n < j
    · rw [(rwx_lead h k (by omega)).1 n q, ih (by omega) n q, Int.mul_zero, Int.add_zero, em_em]
    · have e : n = j := by omega
      subst e
      rw [(rwx_lead h k (by omega)).2, Int.mul_one, em_add_r]
      congr 1
      omega
def ex (p : Int) (k : Nat) (c : Nat → Int) : Nat → Int := bl p k c (Lk k)
theorem ex_V (p : Int) (k : Nat) (c : Nat → Int) : VV p k (ex p k c) := bl_V c (Nat.le_refl _)
theorem ex_first {p : Int} (h : EH p) {k : Nat} (hk : k ≤ 60) (c : Nat → Int) {n : Nat} (hn : n < Lk k) : ex p k c n = c n % p := bl_first h c (by have := Lk_r hk; omega) n hn
theorem ex_self {p : Int} (h : EH p) {k : Nat} (hk : k ≤ 60) {f : Nat → Int} (hf : VV p k f) {c : Nat → Int} (hc : ∀ n, n < Lk k → c n % p = f n) : ex p k c = f :=
  VV_ext h hk (ex_V p k c) hf fun n hn => by rw [ex_first h hk c hn, hc n hn]
/-- the basis with 1 in one place makes it -/
theorem ex_basis {p : Int} (h : EH p) {k : Nat} (hk : k ≤ 60) (c : Nat → Int) : ex p k c = cm p (fun j => ex p k (dl j)) c (Lk k) := by
  have hV : ∀ n, n ≤ Lk k → VV p k (cm p (fun j => ex p k (dl j)) c n) := by
    intro n
    induction n with
    | zero =>
      intro _
      have e : cm p (fun j => ex p k (dl j)) c 0 = fun _ => 0 := by
        funext x; unfold cm ser; split <;> simp [sm]
      rw [e]; exact VV_0 p k
    | succ n ih => intro hn; rw [cm_succ]; exact VV_ad (ih (by omega)) (VV_sc _ (ex_V p k _))
  have hL := Lk_r hk
  refine VV_ext h hk (ex_V p k c) (hV _ (Nat.le_refl _)) fun n hn => ?_
  rw [ex_first h hk c hn]
  unfold cm
  rw [ser_at (by omega)]
  have e : sm (fun j => c j * ex p k (dl j) n) (Lk k) % p = sm (fun j => if j = n then c n else 0) (Lk k) % p := by
    refine sm_em fun i hi => ?_
    rw [ex_first h hk (dl i) hn]
    by_cases q : i = n
    · subst q; rw [if_pos rfl, em_mul_r]; simp [dl]
    · rw [if_neg q, em_mul_r]; simp [dl, Ne.symm q]
  rw [e, sm_one hn (fun i _ hne => by rw [if_neg hne]), if_pos rfl]
