/-! The reference's tokens. -/
theorem and255 {x : Int} (h1 : -128 ≤ x) (h2 : x < 128) : (ii x &&& (255 : Int32)) = ii (x % 256) := by
  have key : ∀ k : Fin 256, (ii ((k.val : Int) - 128) &&& (255 : Int32)) = ii (((k.val : Int) - 128) % 256) := by decide +kernel
  have h := key ⟨(x + 128).toNat, by omega⟩
  have e : (((x + 128).toNat : Nat) : Int) - 128 = x := by omega
  simp only [e] at h
  exact h
def tk (T : Nat → Int) (n q : Nat) : Int := if n ≤ q then 0 else if isL (T q) then 1 else if isD (T q) then 2 else if isSg (T q) then 3 else 4
def mval (T : Nat → Int) (n q : Nat) : Int := if q + 4 < nen T n q then 99999 else dv T q (nen T n q - q)
/-- the reference stands at the token q -/
def TM (A : ZA) (m : Nat) (T : Nat → Int) (n q : Nat) : Prop := A m 14 = (q : Int) ∧ A m 15 = ((ten T n q : Nat) : Int) ∧ A m 16 = tk T n q ∧ (tk T n q = 2 → A m 17 = mval T n q) ∧ (tk T n q = 3 → A m 17 = T q)
def MB (A : ZA) (m : Nat) (T : Nat → Int) (n : Nat) : Prop := A m 13 = (n : Int) ∧ TXT A (m + 9) T n
/-- a loop that goes on to the first place where P holds -/
theorem fnd_runH {f : Unit → JH → Option ((Unit ⊕ Unit) × JH)} (hp : Nat → JH) (P : Nat → Prop) [DecidablePred P] : ∀ (k i : Nat), (∀ j, i ≤ j → j < i + k → ¬ P j → f () (hp j) = some (.inl (), hp (j + 1))) → (∀ j, i ≤ j → j < i + k → P j → f () (hp j) = some (.inr (), hp j)) → f () (hp (i + k)) = some (.inr (), hp (i + k)) → ∀ fuel, k < fuel → jloop f fuel () (hp i) = some ((), hp (fnd P k i)) := by
  intro k
  induction k with
  | zero =>
    intro i _ _ he fuel hf
    obtain ⟨fu, rfl⟩ : ∃ q, fuel = q + 1 := ⟨fuel - 1, by omega⟩
    exact jloop_end he
  | succ k ih =>
    intro i hs hf he fuel hfu
    obtain ⟨fu, rfl⟩ : ∃ q, fuel = q + 1 := ⟨fuel - 1, by omega⟩
    by_cases g : P i
    · rw [show fnd P (k + 1) i = i from if_pos g]
      exact jloop_end (hf i (by omega) (by omega) g)
    · rw [show fnd P (k + 1) i = fnd P k (i + 1) from if_neg g, jloop_go (hs i (by omega) (by omega) g)]
      refine ih (i + 1) (fun j h1 h2 => hs j (by omega) (by omega)) (fun j h1 h2 => hf j (by omega) (by omega)) ?_ fu (by omega)
      rw [show i + 1 + k = i + (k + 1) by omega]
      exact he
theorem up_up (F : Nat → Int) (k : Nat) (v w : Int) : up (up F k v) k w = up F k w := by
  funext j
  by_cases h : j = k <;> simp [up, h]
theorem up_comm (F : Nat → Int) {k l : Nat} (v w : Int) (h : k ≠ l) : up (up F k v) l w = up (up F l w) k v := by
  funext j
  by_cases h1 : j = k
  · subst h1; rw [up_ne _ _ h, up_at, up_at]
  · by_cases h2 : j = l
    · subst h2; rw [up_at, up_ne _ _ h1, up_at]
    · rw [up_ne _ _ h2, up_ne _ _ h1, up_ne _ _ h1, up_ne _ _ h2]
theorem m_isSy (h : JH) {c : Int} (h1 : isSg c) : f_X12_isSign (ii c) h = some (ii ((1 : Nat) : Int), h) := by
  rcases h1 with rfl | rfl | rfl | rfl | rfl | rfl | rfl <;> rfl
theorem m_isSn (h : JH) {c : Int} (h1 : -1 ≤ c) (h2 : c < 256) (h3 : ¬ isSg c) : f_X12_isSign (ii c) h = some (ii ((0 : Nat) : Int), h) := by
  unfold f_X12_isSign
  simp (disch := omega) only [k59, k43, k45, k42, k94, k40, k41, k0, k1, i_eq]
  rw [if_neg (by omega), if_neg (by omega), if_neg (by omega), if_neg (by omega), if_neg (by omega), if_neg (by omega), if_neg (by omega)]
theorem m_winY (h : JH) {z : Int} {x y : Nat} (h1 : (x : Int) ≤ z) (h2 : z ≤ (y : Int)) (h3 : y < 100000) : f_X12_within (ii z) (ii (x : Int)) (ii (y : Int)) h = some (ii ((1 : Nat) : Int), h) := by
  rw [m_win h (by omega) (by omega) (by omega) (by omega) (by omega) (by omega), if_pos ⟨h1, h2⟩]
theorem m_winN (h : JH) {z : Int} {x y : Nat} (h0 : -2147483648 ≤ z) (h01 : z < 2147483648) (h1 : ¬ ((x : Int) ≤ z ∧ z ≤ (y : Int))) (h2 : x < 100000) (h3 : y < 100000) : f_X12_within (ii z) (ii (x : Int)) (ii (y : Int)) h = some (ii ((0 : Nat) : Int), h) := by
  rw [m_win h (by omega) (by omega) (by omega) (by omega) (by omega) (by omega), if_neg h1]
section go
variable {S : SS} {A B : ZA} {c : (Nat × Nat) × (Nat → Nat)} {m n : Nat} {T : Nat → Int}
theorem m_byte (hM : LM S m) (hB : MB A m T n) {k : Nat} (hk : k < n) : f_X12_byteAt m (ii (k : Int)) (mz S A B c) = some (ii (T k % 256), mz S A B c) := by
  obtain ⟨t1, t2, t3⟩ := hB.2.2 k hk
  have hn := hB.2.1
  unfold f_X12_byteAt
  simp (disch := omega) only [MI13 hM, hB.1, Option.bind_some, n_le, show ¬ (n ≤ k) by omega, ↓reduceIte, MR11 hM, Ma9 hM, t1, and255 t2 t3]
theorem m_byteE (hM : LM S m) (hB : MB A m T n) {k : Nat} (hk : n ≤ k) (hk2 : k < 100000) : f_X12_byteAt m (ii (k : Int)) (mz S A B c) = some (ii (-1), mz S A B c) := by
  have hn := hB.2.1
  unfold f_X12_byteAt
  simp (disch := omega) only [MI13 hM, hB.1, Option.bind_some, n_le, hk, ↓reduceIte]
  rfl
theorem MB_of {A' : ZA} (hB : MB A m T n) (h1 : A' m 13 = A m 13) (h2 : A' (m + 9) = A (m + 9)) : MB A' m T n := ⟨by rw [h1]; exact hB.1, hB.2.1, fun k hk => by rw [h2]; exact hB.2.2 k hk⟩
theorem MB_up (hB : MB A m T n) {F : Nat → Int} (h : F 13 = A m 13) : MB (za A m F) m T n := MB_of hB (by rw [za_at]; exact h) (za_ne _ _ (by omega))
theorem m_skip (hM : LM S m) (hB : MB A m T n) {e : Nat} (he : e ≤ n) (h15 : A m 15 = (e : Int)) : jloop (f_X12_go_L0 m) jF () (mz S A B c) = some ((), mz S (za A m (up (A m) 15 ((skp T n e : Nat) : Int))) B c) := by
  have hn := hB.2.1
  have hBj : ∀ j : Nat, MB (za A m (up (A m) 15 (j : Int))) m T n := fun j => MB_up hB (up_ne _ _ (by omega))
  have key := fnd_runH (f := f_X12_go_L0 m) (fun j => mz S (za A m (up (A m) 15 (j : Int))) B c) (fun j => ¬ isSp (T j)) (n - e) e (fun j h1 h2 h3 => by
    obtain ⟨t1, t2, t3⟩ := hB.2.2 j (by omega)
    have hb := m_byte (B := B) (c := c) hM (hBj j) (show j < n by omega)
    have h3' : isSp (T j) := Decidable.not_not.mp h3
    unfold f_X12_go_L0
    simp (disch := omega) only [MI15 hM, za_at, up_at, Option.bind_some, Mv hM, hb, k32, k10, i_eq]
    by_cases g : T j = 32
    · rw [if_pos (by omega), k1, n_add, MP15 hM]
      simp only [Option.bind_some, za_za, za_at, up_up]
    · rw [if_neg (by omega), if_pos (by omega), k1, n_add, MP15 hM]
      simp only [Option.bind_some, za_za, za_at, up_up]) (fun j h1 h2 h3 => by
    obtain ⟨t1, t2, t3⟩ := hB.2.2 j (by omega)
    have hb := m_byte (B := B) (c := c) hM (hBj j) (show j < n by omega)
    unfold f_X12_go_L0
    simp (disch := omega) only [MI15 hM, za_at, up_at, Option.bind_some, Mv hM, hb, k32, k10, i_eq]
    rw [if_neg (by omega), if_neg (by omega)]) (by
    rw [show e + (n - e) = n by omega]
    have hb := m_byteE (B := B) (c := c) hM (hBj n) (Nat.le_refl n) (by omega)
    unfold f_X12_go_L0
    simp (disch := omega) only [MI15 hM, za_at, up_at, Option.bind_some, Mv hM, hb, k32, k10, i_eq]
    rw [if_neg (by omega), if_neg (by omega)]) jF (jF_big (by omega))
  have e0 : za A m (up (A m) 15 (e : Int)) = A := by rw [up_self h15, za_self]
  simp only [e0] at key
  exact key
theorem m_word (hM : LM S m) (hB : MB A m T n) {q : Nat} (hq : q ≤ n) (h15 : A m 15 = (q : Int)) : jloop (f_X12_go_L79 m) jF () (mz S A B c) = some ((), mz S (za A m (up (A m) 15 ((wen T n q : Nat) : Int))) B c) := by
  have hn := hB.2.1
  have hBj : ∀ j : Nat, MB (za A m (up (A m) 15 (j : Int))) m T n := fun j => MB_up hB (up_ne _ _ (by omega))
  have key := fnd_runH (f := f_X12_go_L79 m) (fun j => mz S (za A m (up (A m) 15 (j : Int))) B c) (fun j => ¬ isL (T j)) (n - q) q (fun j h1 h2 h3 => by
    obtain ⟨t1, t2, t3⟩ := hB.2.2 j (by omega)
    have hb := m_byte (B := B) (c := c) hM (hBj j) (show j < n by omega)
    have h3' : isL (T j) := Decidable.not_not.mp h3
    unfold f_X12_go_L79
    simp (disch := omega) only [MI15 hM, za_at, up_at, Option.bind_some, Mv hM, hb, k97, k122, m_winY, k0, n_eq, show ¬ (1 = 0) by omega, ↓reduceIte]
    rw [k1, n_add, MP15 hM]
    simp only [Option.bind_some, za_za, za_at, up_up]) (fun j h1 h2 h3 => by
    obtain ⟨t1, t2, t3⟩ := hB.2.2 j (by omega)
    have hb := m_byte (B := B) (c := c) hM (hBj j) (show j < n by omega)
    unfold f_X12_go_L79
    simp (disch := omega) only [MI15 hM, za_at, up_at, Option.bind_some, Mv hM, hb, k97, k122, m_winN, k0, ↓reduceIte]) (by
    rw [show q + (n - q) = n by omega]
    have hb := m_byteE (B := B) (c := c) hM (hBj n) (Nat.le_refl n) (by omega)
    unfold f_X12_go_L79
    simp (disch := omega) only [MI15 hM, za_at, up_at, Option.bind_some, Mv hM, hb, k97, k122, m_winN, k0, ↓reduceIte]) jF (jF_big (by omega))
  have e0 : za A m (up (A m) 15 (q : Int)) = A := by rw [up_self h15, za_self]
  simp only [e0] at key
  exact key
def nst (T : Nat → Int) (q j : Nat) : Int := if q + 4 < j then 99999 else dv T q (j - q)
theorem m_numb (hM : LM S m) (hB : MB A m T n) {q : Nat} (hq : q ≤ n) (h14 : A m 14 = (q : Int)) (h15 : A m 15 = (q : Int)) (h17 : A m 17 = 0) : jloop (f_X12_go_L134 m) jF () (mz S A B c) = some ((), mz S (za A m (up (up (A m) 15 ((nen T n q : Nat) : Int)) 17 (nst T q (nen T n q)))) B c) := by
  have hn := hB.2.1
  have hBj : ∀ j : Nat, MB (za A m (up (up (A m) 15 (j : Int)) 17 (nst T q j))) m T n := fun j => MB_up hB (by rw [up_ne _ _ (by omega), up_ne _ _ (by omega)])
  have a15 : ∀ j : Nat, za A m (up (up (A m) 15 (j : Int)) 17 (nst T q j)) m 15 = (j : Int) := fun j => by rw [za_at, up_ne _ _ (by omega), up_at]
  have a14 : ∀ j : Nat, za A m (up (up (A m) 15 (j : Int)) 17 (nst T q j)) m 14 = (q : Int) := fun j => by rw [za_at, up_ne _ _ (by omega), up_ne _ _ (by omega)]; exact h14
  have a17 : ∀ j : Nat, za A m (up (up (A m) 15 (j : Int)) 17 (nst T q j)) m 17 = nst T q j := fun j => by rw [za_at, up_at]
  have key := fnd_runH (f := f_X12_go_L134 m) (fun j => mz S (za A m (up (up (A m) 15 (j : Int)) 17 (nst T q j))) B c) (fun j => ¬ isD (T j)) (n - q) q (fun j h1 h2 h3 => by
    obtain ⟨t1, t2, t3⟩ := hB.2.2 j (by omega)
    have hb := m_byte (B := B) (c := c) hM (hBj j) (show j < n by omega)
    have h3' : isD (T j) := Decidable.not_not.mp h3
    unfold f_X12_go_L134
    simp (disch := omega) only [MI15 hM, MI14 hM, MI17 hM, a15, a14, a17, Option.bind_some, Mv hM, hb, k48, k57, m_winY, k0, n_eq, show ¬ (1 = 0) by omega, ↓reduceIte, n_sub, k4, n_le]
    by_cases g : 4 ≤ j - q
    · have hv : ((99999 : Nat) : Int) = nst T q (j + 1) := by unfold nst; rw [if_pos (by omega)]; rfl
      rw [if_pos g, k99999, hv, MP17 hM]
      simp only [Option.bind_some, MI15 hM, za_za, za_at, up_up]
      rw [up_ne _ _ (show 15 ≠ 17 by omega), up_at, k1, n_add, MP15 hM]
      simp only [Option.bind_some, za_za, za_at]
      rw [up_comm _ _ _ (show 17 ≠ 15 by omega), up_up]
    · have hv : ((10 : Nat) : Int) * nst T q j + T j % 256 - ((48 : Nat) : Int) = nst T q (j + 1) := by
        unfold nst
        rw [if_neg (by omega), if_neg (by omega), show j + 1 - q = (j - q) + 1 by omega]
        show _ = dv T q (j - q) * 10 + (T (q + (j - q)) - 48)
        rw [show q + (j - q) = j by omega]
        omega
      rw [if_neg g, k10, ii_mul, ii_add, ii_sub, hv, MP17 hM]
      simp only [Option.bind_some, MI15 hM, za_za, za_at, up_up]
      rw [up_ne _ _ (show 15 ≠ 17 by omega), up_at, k1, n_add, MP15 hM]
      simp only [Option.bind_some, za_za, za_at]
      rw [up_comm _ _ _ (show 17 ≠ 15 by omega), up_up]) (fun j h1 h2 h3 => by
    obtain ⟨t1, t2, t3⟩ := hB.2.2 j (by omega)
    have hb := m_byte (B := B) (c := c) hM (hBj j) (show j < n by omega)
    unfold f_X12_go_L134
    simp (disch := omega) only [MI15 hM, a15, Option.bind_some, Mv hM, hb, k48, k57, m_winN, k0, ↓reduceIte]) (by
    rw [show q + (n - q) = n by omega]
    have hb := m_byteE (B := B) (c := c) hM (hBj n) (Nat.le_refl n) (by omega)
    unfold f_X12_go_L134
    simp (disch := omega) only [MI15 hM, a15, Option.bind_some, Mv hM, hb, k48, k57, m_winN, k0, ↓reduceIte]) jF (jF_big (by omega))
  have e0 : za A m (up (up (A m) 15 (q : Int)) 17 (nst T q q)) = A := by
    have : nst T q q = 0 := by unfold nst; rw [if_neg (by omega), Nat.sub_self]; rfl
    rw [this, up_self h15, up_self h17, za_self]
  simp only [e0] at key
  exact key
theorem m_go (hM : LM S m) (hB : MB A m T n) {e : Nat} (he : e ≤ n) (h15 : A m 15 = (e : Int)) : ∃ A' : ZA, f_X12_go m (mz S A B c) = some ((), mz S A' B c) ∧ TM A' m T n (skp T n e) ∧ (∀ x, x ≠ m → A' x = A x) ∧ (∀ k, ¬ (14 ≤ k ∧ k ≤ 17) → A' m k = A m k) := by
  have hn := hB.2.1
  have hs := fnd_ok (fun j => ¬ isSp (T j)) (n - e) e
  have hs1 : e ≤ skp T n e ∧ skp T n e ≤ n := ⟨hs.1, by have := hs.2.1; unfold skp; omega⟩
  have hs2 : skp T n e < n → ¬ isSp (T (skp T n e)) := fun h => hs.2.2.2 (by show skp T n e < _; omega)
  have sk := m_skip (B := B) (c := c) hM hB he h15
  generalize skp T n e = q at hs1 hs2 sk ⊢
  unfold f_X12_go
  rw [sk]
  simp only [Option.bind_some, MI15 hM, za_at, up_at, MP14 hM, za_za, Mv hM]
  rw [up_ne _ _ (show 15 ≠ 14 by omega), up_at]
  generalize hA1 : za A m (up (up (A m) 15 (q : Int)) 14 (q : Int)) = A1
  have b1 : MB A1 m T n := by rw [← hA1]; exact MB_up hB (by rw [up_ne _ _ (by omega), up_ne _ _ (by omega)])
  have c14 : A1 m 14 = (q : Int) := by rw [← hA1, za_at, up_at]
  have c15 : A1 m 15 = (q : Int) := by rw [← hA1, za_at, up_ne _ _ (by omega), up_at]
  have cx : ∀ x, x ≠ m → A1 x = A x := fun x hx => by rw [← hA1, za_ne _ _ hx]
  have ck : ∀ k, ¬ (14 ≤ k ∧ k ≤ 17) → A1 m k = A m k := fun k hk => by rw [← hA1, za_at, up_ne _ _ (by omega), up_ne _ _ (by omega)]
  by_cases hqn : q < n
  · obtain ⟨t1, t2, t3⟩ := hB.2.2 q hqn
    rw [m_byte hM b1 hqn]
    simp (disch := omega) only [Option.bind_some, k0, i_le]
    rw [if_pos (by omega)]
    by_cases l : isL (T q)
    · simp (disch := omega) only [k97, k122, m_winY, Option.bind_some, n_eq, show ¬ (1 = 0) by omega, ↓reduceIte, m_word hM b1 (show q ≤ n by omega) c15, k1, MP16 hM]
      refine ⟨_, rfl, ⟨?_, ?_, ?_, fun h => ?_, fun h => ?_⟩, fun x hx => ?_, fun k hk => ?_⟩
      · simp only [za_za, za_at]; rw [up_ne _ _ (by omega), up_ne _ _ (by omega)]; exact c14
      · simp only [za_za, za_at]; rw [up_ne _ _ (by omega), up_at]; unfold ten; rw [if_neg (by omega), if_pos l]
      · simp only [za_za, za_at]; rw [up_at]; unfold tk; rw [if_neg (by omega), if_pos l]; rfl
      · unfold tk at h; rw [if_neg (by omega), if_pos l] at h; omega
      · unfold tk at h; rw [if_neg (by omega), if_pos l] at h; omega
      · simp only [za_za]; rw [za_ne _ _ hx]; exact cx x hx
      · simp only [za_za, za_at]; rw [up_ne _ _ (by omega), up_ne _ _ (by omega)]; exact ck k hk
    · simp (disch := omega) only [k97, k122, m_winN, Option.bind_some, ↓reduceIte]
      by_cases d : isD (T q)
      · simp (disch := omega) only [k48, k57, m_winY, Option.bind_some, n_eq, show ¬ (1 = 0) by omega, ↓reduceIte, MP17 hM]
        have b2 : MB (za A1 m (up (A1 m) 17 ((0 : Nat) : Int))) m T n := MB_up b1 (up_ne _ _ (by omega))
        rw [m_numb hM b2 (show q ≤ n by omega) (by rw [za_at, up_ne _ _ (by omega)]; exact c14) (by rw [za_at, up_ne _ _ (by omega)]; exact c15) (by rw [za_at, up_at]; rfl)]
        simp only [Option.bind_some, k2, MP16 hM, za_za, za_at]
        refine ⟨_, rfl, ⟨?_, ?_, ?_, fun h => ?_, fun h => ?_⟩, fun x hx => ?_, fun k hk => ?_⟩
        · rw [za_at, up_ne _ _ (by omega), up_ne _ _ (by omega), up_ne _ _ (by omega), up_ne _ _ (by omega)]; exact c14
        · rw [za_at, up_ne _ _ (by omega), up_ne _ _ (by omega), up_at]; unfold ten; rw [if_neg (by omega), if_neg l, if_pos d]
        · rw [za_at, up_at]; unfold tk; rw [if_neg (by omega), if_neg l, if_pos d]; rfl
        · rw [za_at, up_ne _ _ (by omega), up_at]; rfl
        · unfold tk at h; rw [if_neg (by omega), if_neg l, if_pos d] at h; omega
        · rw [za_ne _ _ hx]; exact cx x hx
        · rw [za_at, up_ne _ _ (by omega), up_ne _ _ (by omega), up_ne _ _ (by omega), up_ne _ _ (by omega)]; exact ck k hk
      · simp (disch := omega) only [k48, k57, m_winN, Option.bind_some, ↓reduceIte, MI15 hM, c15, k1, n_add, MP15 hM, MP17 hM, za_za, za_at]
        by_cases s : isSg (T q)
        · have em : T q % 256 = T q := by omega
          rw [em]
          simp (disch := omega) only [m_isSy _ s, Option.bind_some, n_eq, show ¬ (1 = 0) by omega, ↓reduceIte, k3, MP16 hM, za_za, za_at]
          refine ⟨_, rfl, ⟨?_, ?_, ?_, fun h => ?_, fun h => ?_⟩, fun x hx => ?_, fun k hk => ?_⟩
          · rw [za_at, up_ne _ _ (by omega), up_ne _ _ (by omega), up_ne _ _ (by omega)]; exact c14
          · rw [za_at, up_ne _ _ (by omega), up_ne _ _ (by omega), up_at]; unfold ten; rw [if_neg (by omega), if_neg l, if_neg d]
          · rw [za_at, up_at]; unfold tk; rw [if_neg (by omega), if_neg l, if_neg d, if_pos s]; rfl
          · unfold tk at h; rw [if_neg (by omega), if_neg l, if_neg d, if_pos s] at h; omega
          · rw [za_at, up_ne _ _ (by omega), up_at]
          · rw [za_ne _ _ hx]; exact cx x hx
          · rw [za_at, up_ne _ _ (by omega), up_ne _ _ (by omega), up_ne _ _ (by omega)]; exact ck k hk
        · have s' : ¬ isSg (T q % 256) := by omega
          simp (disch := omega) only [m_isSn _ (show -1 ≤ T q % 256 by omega) (show T q % 256 < 256 by omega) s', Option.bind_some, ↓reduceIte, k4, MP16 hM, za_za, za_at]
          refine ⟨_, rfl, ⟨?_, ?_, ?_, fun h => ?_, fun h => ?_⟩, fun x hx => ?_, fun k hk => ?_⟩
          · rw [za_at, up_ne _ _ (by omega), up_ne _ _ (by omega), up_ne _ _ (by omega)]; exact c14
          · rw [za_at, up_ne _ _ (by omega), up_ne _ _ (by omega), up_at]; unfold ten; rw [if_neg (by omega), if_neg l, if_neg d]
          · rw [za_at, up_at]; unfold tk; rw [if_neg (by omega), if_neg l, if_neg d, if_neg s]; rfl
          · unfold tk at h; rw [if_neg (by omega), if_neg l, if_neg d, if_neg s] at h; omega
          · unfold tk at h; rw [if_neg (by omega), if_neg l, if_neg d, if_neg s] at h; omega
          · rw [za_ne _ _ hx]; exact cx x hx
          · rw [za_at, up_ne _ _ (by omega), up_ne _ _ (by omega), up_ne _ _ (by omega)]; exact ck k hk
  · have e1 : q = n := by omega
    rw [m_byteE hM b1 (show n ≤ q by omega) (by omega)]
    simp (disch := omega) only [Option.bind_some, k0, i_le]
    rw [if_neg (by omega)]
    simp only [MP16 hM, Option.bind_some]
    refine ⟨_, rfl, ⟨?_, ?_, ?_, fun h => ?_, fun h => ?_⟩, fun x hx => ?_, fun k hk => ?_⟩
    · rw [za_at, up_ne _ _ (by omega)]; exact c14
    · rw [za_at, up_ne _ _ (by omega), c15]; unfold ten; rw [if_pos (by omega)]
    · rw [za_at, up_at]; unfold tk; rw [if_pos (by omega)]; rfl
    · unfold tk at h; rw [if_pos (by omega)] at h; omega
    · unfold tk at h; rw [if_pos (by omega)] at h; omega
    · rw [za_ne _ _ hx]; exact cx x hx
    · rw [za_at, up_ne _ _ (by omega)]; exact ck k hk
end go
