/-! Series: products of rows, by what a prime leaves, up to coefficient 180. -/
theorem sm_first (g : Nat → Int) (n : Nat) : sm g (n + 1) = g 0 + sm (fun i => g (i + 1)) n := by
  induction n with
  | zero => simp [sm]
  | succ n ih =>
    show sm g (n + 1) + g (n + 1) = g 0 + (sm (fun i => g (i + 1)) n + g (n + 1))
    rw [ih]; omega
theorem sm_add (f g : Nat → Int) (n : Nat) : sm (fun i => f i + g i) n = sm f n + sm g n := by
  induction n with
  | zero => rfl
  | succ n ih => simp only [sm, ih]; omega
theorem sm_mul (c : Int) (f : Nat → Int) (n : Nat) : sm (fun i => c * f i) n = c * sm f n := by
  induction n with
  | zero => simp [sm]
  | succ n ih => simp only [sm, ih, Int.mul_add]
theorem sm_zero {g : Nat → Int} {n : Nat} (h : ∀ i, i < n → g i = 0) : sm g n = 0 := by
  induction n with
  | zero => rfl
  | succ n ih => simp only [sm]; rw [ih (fun i hi => h i (by omega)), h n (by omega)]; rfl
theorem em_add (a b p : Int) : (a % p + b % p) % p = (a + b) % p := by rw [← Int.add_emod]
theorem em_add_l (a b p : Int) : (a % p + b) % p = (a + b) % p := Int.emod_add_emod a p b
theorem em_add_r (a b p : Int) : (a + b % p) % p = (a + b) % p := Int.add_emod_emod ..
theorem em_sub_r (a b p : Int) : (a - b % p) % p = (a - b) % p := Int.sub_emod_emod ..
theorem em_sub_l (a b p : Int) : (a % p - b) % p = (a - b) % p := Int.emod_sub_emod ..
theorem em_em (a p : Int) : a % p % p = a % p := Int.emod_emod_of_dvd _ ⟨1, by omega⟩
theorem sm_em {f g : Nat → Int} {n : Nat} {p : Int} (h : ∀ i, i < n → f i % p = g i % p) : sm f n % p = sm g n % p := by
  induction n with
  | zero => rfl
  | succ n ih =>
    simp only [sm]
    rw [Int.add_emod, ih (fun i hi => h i (by omega)), h n (by omega), ← Int.add_emod]
/-- one place on -/
def sh (f : Nat → Int) : Nat → Int := fun n => f (n + 1)
theorem cv_0 (f g : Nat → Int) : cv f g 0 = f 0 * g 0 := by simp [cv, sm]
theorem cv_first (f g : Nat → Int) (n : Nat) : cv f g (n + 1) = f 0 * g (n + 1) + cv (sh f) g n := by
  unfold cv
  rw [sm_first]
  refine congrArg (fun z => f 0 * g (n + 1 - 0) + z) (sm_congr fun i hi => ?_)
  show f (i + 1) * g (n + 1 - (i + 1)) = f (i + 1) * g (n - i)
  rw [show n + 1 - (i + 1) = n - i by omega]
theorem cv_last (f g : Nat → Int) (n : Nat) : cv f g (n + 1) = cv f (sh g) n + f (n + 1) * g 0 := by
  unfold cv
  show sm _ (n + 1) + f (n + 1) * g (n + 1 - (n + 1)) = _
  rw [show n + 1 - (n + 1) = 0 by omega]
  refine congrArg (fun z => z + f (n + 1) * g 0) (sm_congr fun i hi => ?_)
  show f i * g (n + 1 - i) = f i * g (n - i + 1)
  rw [show n + 1 - i = n - i + 1 by omega]
theorem cv_comm (n : Nat) : ∀ f g : Nat → Int, cv f g n = cv g f n := by
  induction n with
  | zero => intro f g; rw [cv_0, cv_0, Int.mul_comm]
  | succ n ih => intro f g; rw [cv_first, cv_last, ih, Int.mul_comm]; omega
theorem cv_lin (c : Int) (a b h : Nat → Int) (n : Nat) : cv (fun i => c * a i + b i) h n = c * cv a h n + cv b h n := by
  unfold cv
  rw [← sm_mul, ← sm_add]
  exact sm_congr fun i _ => by rw [Int.add_mul, Int.mul_assoc]
theorem cv_assoc (n : Nat) : ∀ f g h : Nat → Int, cv (cv f g) h n = cv f (cv g h) n := by
  induction n with
  | zero => intro f g h; rw [cv_0, cv_0, cv_0, cv_0, Int.mul_assoc]
  | succ n ih =>
    intro f g h
    rw [cv_first, cv_first, cv_0, cv_first, show sh (cv f g) = fun i => f 0 * sh g i + cv (sh f) g i from funext fun i => cv_first f g i, cv_lin, ih, Int.mul_add, Int.mul_assoc]
    omega
theorem cv_em {f f' g g' : Nat → Int} {n : Nat} {p : Int} (h : ∀ i, i ≤ n → f i % p = f' i % p) (h' : ∀ i, i ≤ n → g i % p = g' i % p) : cv f g n % p = cv f' g' n % p := by
  unfold cv
  refine sm_em fun i hi => ?_
  rw [Int.mul_emod, h i (by omega), h' (n - i) (by omega), ← Int.mul_emod]
/-- cut at 180, left by p -/
def ser (p : Int) (f : Nat → Int) : Nat → Int := fun n => if n ≤ 180 then f n % p else 0
def ml (p : Int) (f g : Nat → Int) : Nat → Int := ser p (cv f g)
def ad (p : Int) (f g : Nat → Int) : Nat → Int := ser p (fun n => f n + g n)
def sc (p c : Int) (f : Nat → Int) : Nat → Int := ser p (fun n => c * f n)
def dl (i : Nat) : Nat → Int := fun n => if n = i then 1 else 0
theorem ser_at {p : Int} {f : Nat → Int} {n : Nat} (h : n ≤ 180) : ser p f n = f n % p := if_pos h
theorem ser_eq {p : Int} {f g : Nat → Int} (h : ∀ n, n ≤ 180 → f n % p = g n % p) : ser p f = ser p g := by
  funext n
  unfold ser
  by_cases q : n ≤ 180
  · rw [if_pos q, if_pos q, h n q]
  · rw [if_neg q, if_neg q]
theorem ser_ser (p : Int) (f : Nat → Int) : ser p (ser p f) = ser p f := ser_eq fun n hn => by rw [ser_at hn, em_em]
theorem ser_r {p : Int} (hp : 0 < p) (f : Nat → Int) (n : Nat) : 0 ≤ ser p f n ∧ ser p f n < p := by
  unfold ser
  split
  · exact emod_r hp
  · omega
theorem ml_eq {p : Int} {f f' g g' : Nat → Int} (h : ∀ i, i ≤ 180 → f i % p = f' i % p) (h' : ∀ i, i ≤ 180 → g i % p = g' i % p) : ml p f g = ml p f' g' :=
  ser_eq fun n hn => cv_em (fun i hi => h i (by omega)) (fun i hi => h' i (by omega))
theorem ml_comm (p : Int) (f g : Nat → Int) : ml p f g = ml p g f := ser_eq fun n _ => by rw [cv_comm]
theorem ml_assoc (p : Int) (f g h : Nat → Int) : ml p (ml p f g) h = ml p f (ml p g h) := by
  have e1 : ml p (ml p f g) h = ml p (cv f g) h := ml_eq (fun i hi => by unfold ml; rw [ser_at hi, em_em]) (fun _ _ => rfl)
  have e2 : ml p f (ml p g h) = ml p f (cv g h) := ml_eq (fun _ _ => rfl) (fun i hi => by unfold ml; rw [ser_at hi, em_em])
  rw [e1, e2]
  exact ser_eq fun n _ => by rw [cv_assoc]
theorem ml_ser (p : Int) (f g : Nat → Int) : ser p (ml p f g) = ml p f g := ser_ser p _
theorem ml_serl (p : Int) (f g : Nat → Int) : ml p (ser p f) g = ml p f g := ml_eq (fun i hi => by rw [ser_at hi, em_em]) (fun _ _ => rfl)
theorem ml_serr (p : Int) (f g : Nat → Int) : ml p f (ser p g) = ml p f g := ml_eq (fun _ _ => rfl) (fun i hi => by rw [ser_at hi, em_em])
theorem ml_one (p : Int) (f : Nat → Int) : ml p (dl 0) f = ser p f := by
  refine ser_eq fun n _ => ?_
  cases n with
  | zero => rw [cv_0]; simp [dl]
  | succ n =>
    rw [cv_first, show cv (sh (dl 0)) f n = 0 from ?_]
    · simp [dl]
    · unfold cv
      exact sm_zero fun i _ => by simp [sh, dl]
theorem ad_comm (p : Int) (f g : Nat → Int) : ad p f g = ad p g f := ser_eq fun n _ => by rw [Int.add_comm]
theorem ml_ad (p : Int) (f g h : Nat → Int) : ml p (ad p f g) h = ad p (ml p f h) (ml p g h) := by
  have e1 : ml p (ad p f g) h = ml p (fun n => f n + g n) h := ml_serl p _ h
  rw [e1]
  refine ser_eq fun n hn => ?_
  unfold ml
  rw [ser_at hn, ser_at hn, em_add]
  have := cv_lin 1 f g h n
  simp only [Int.one_mul] at this
  rw [this]
theorem ml_sc (p c : Int) (f h : Nat → Int) : ml p (sc p c f) h = sc p c (ml p f h) := by
  have e1 : ml p (sc p c f) h = ml p (fun n => c * f n) h := ml_serl p _ h
  rw [e1]
  refine ser_eq fun n hn => ?_
  unfold ml
  rw [ser_at hn, em_mul_r]
  have := cv_lin c f (fun _ => 0) h n
  simp only [Int.add_zero] at this
  rw [this, show cv (fun _ => 0) h n = 0 from sm_zero fun i _ => Int.zero_mul _, Int.add_zero]
/-- powers -/
def pn (p : Int) (f : Nat → Int) : Nat → (Nat → Int)
  | 0 => dl 0
  | e + 1 => ml p (pn p f e) f
theorem pn_ser {p : Int} (hp : 1 < p) (f : Nat → Int) (e : Nat) : ser p (pn p f e) = pn p f e := by
  cases e with
  | zero =>
    funext n
    unfold ser pn dl
    by_cases h : n = 0
    · subst h; simp; exact Int.emod_eq_of_lt (by omega) hp
    · simp [h]
  | succ e => exact ml_ser p _ _
theorem pn_add {p : Int} (hp : 1 < p) (f : Nat → Int) (a b : Nat) : pn p f (a + b) = ml p (pn p f a) (pn p f b) := by
  induction b with
  | zero =>
    show pn p f a = ml p (pn p f a) (dl 0)
    rw [ml_comm, ml_one, pn_ser hp]
  | succ b ih =>
    show ml p (pn p f (a + b)) f = ml p (pn p f a) (ml p (pn p f b) f)
    rw [ih, ml_assoc]
theorem pn_1 {p : Int} (f : Nat → Int) : pn p f 1 = ser p f := by
  show ml p (dl 0) f = _
  exact ml_one p f
/-- a series that begins with k zeros, then 1 -/
def lead (f : Nat → Int) (k : Nat) : Prop := (∀ n, n < k → f n = 0) ∧ f k = 1
theorem cv_lead {f g : Nat → Int} {a b : Nat} (hf : lead f a) (hg : lead g b) : lead (cv f g) (a + b) := by
  refine ⟨fun n hn => ?_, ?_⟩
  · unfold cv
    refine sm_zero fun i hi => ?_
    by_cases h : i < a
    · rw [hf.1 i h, Int.zero_mul]
    · rw [hg.1 (n - i) (by omega), Int.mul_zero]
  · have key : ∀ n, n ≤ a + b + 1 → sm (fun i => f i * g (a + b - i)) n = if a < n then 1 else 0 := by
      intro n
      induction n with
      | zero => intro _; rw [if_neg (by omega)]; rfl
      | succ n ih =>
        intro hn
        show sm _ n + f n * g (a + b - n) = _
        rw [ih (by omega)]
        by_cases h1 : n < a
        · rw [hf.1 n h1, if_neg (by omega), if_neg (by omega)]; simp
        · by_cases h2 : n = a
          · subst h2
            rw [hf.2, show n + b - n = b by omega, hg.2, if_neg (by omega), if_pos (by omega)]; rfl
          · rw [hg.1 (a + b - n) (by omega), if_pos (by omega), if_pos (by omega)]; simp
    unfold cv
    rw [key _ (by omega), if_pos (by omega)]
theorem ml_lead {p : Int} (hp : 1 < p) {f g : Nat → Int} {a b : Nat} (h : a + b ≤ 180) (hf : lead f a) (hg : lead g b) : lead (ml p f g) (a + b) := by
  have := cv_lead hf hg
  refine ⟨fun n hn => ?_, ?_⟩
  · unfold ml; rw [ser_at (by omega), this.1 n hn]; rfl
  · unfold ml; rw [ser_at h, this.2]; exact Int.emod_eq_of_lt (by omega) hp
theorem dl_lead : lead (dl 0) 0 := ⟨fun n hn => by omega, rfl⟩
theorem pn_lead {p : Int} (hp : 1 < p) {f : Nat → Int} {a : Nat} (hf : lead f a) (e : Nat) (h : a * e ≤ 180) : lead (pn p f e) (a * e) := by
  induction e with
  | zero => exact dl_lead
  | succ e ih =>
    rw [Nat.mul_succ] at h ⊢
    exact ml_lead hp h (ih (by omega)) hf
