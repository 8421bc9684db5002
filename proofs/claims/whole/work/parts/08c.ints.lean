/-! Memory with whole numbers: the numbers of the machine by their values. -/
abbrev ZA : Type := Nat → Nat → Int
def mz (S : SS) (A B : ZA) (n : (Nat × Nat) × (Nat → Nat)) : JH := mk S (fun a k => ii (A a k)) (fun a k => ll (B a k)) n
/-- the row of numbers at an address, all at once -/
def za (A : ZA) (a : Nat) (F : Nat → Int) : ZA := fun b => if b = a then F else A b
def up (F : Nat → Int) (k : Nat) (v : Int) : Nat → Int := fun j => if j = k then v else F j
theorem za_at (A : ZA) (a : Nat) (F : Nat → Int) : za A a F a = F := by simp [za]
theorem za_ne (A : ZA) {a b : Nat} (F : Nat → Int) (h : b ≠ a) : za A a F b = A b := by simp [za, h]
theorem za_za (A : ZA) (a : Nat) (F G : Nat → Int) : za (za A a F) a G = za A a G := by funext b; by_cases h : b = a <;> simp [za, h]
theorem za_self (A : ZA) (a : Nat) : za A a (A a) = A := by funext b; by_cases h : b = a <;> simp [za, h]
theorem za_comm (A : ZA) {a b : Nat} (F G : Nat → Int) (h : a ≠ b) : za (za A a F) b G = za (za A b G) a F := by
  funext c
  by_cases h1 : c = a
  · subst h1; rw [za_at, za_ne _ _ h, za_at]
  · by_cases h2 : c = b
    · subst h2; rw [za_at, za_ne _ _ h1, za_at]
    · rw [za_ne _ _ h2, za_ne _ _ h1, za_ne _ _ h1, za_ne _ _ h2]
theorem up_at (F : Nat → Int) (k : Nat) (v : Int) : up F k v k = v := by simp [up]
theorem up_ne (F : Nat → Int) {k j : Nat} (v : Int) (h : j ≠ k) : up F k v j = F j := by simp [up, h]
theorem mz_2 (S : SS) (A B : ZA) (n) : (mz S A B n).2 = n := rfl
theorem mz_mu (A : ZA) (a k : Nat) (v : Int) : mu (fun a k => ii (A a k)) a k (ii v) = fun b j => ii (za A a (up (A a) k v) b j) := by
  funext b j
  by_cases h : b = a
  · subst h
    rw [za_at]
    by_cases h2 : j = k
    · subst h2; rw [up_at, mu_same]
    · rw [up_ne _ _ h2, mu_ne2 _ _ _ h2]
  · rw [za_ne _ _ h, mu_ne _ _ _ h]
theorem mz_muJ (B : ZA) (a k : Nat) (v : Int) : muJ (fun a k => ll (B a k)) a k (ll v) = fun b j => ll (za B a (up (B a) k v) b j) := by
  funext b j
  by_cases h : b = a
  · subst h
    rw [za_at]
    by_cases h2 : j = k
    · subst h2; simp [up_at, muJ]
    · simp [up_ne _ _ h2, muJ, h2]
  · rw [za_ne _ _ h]; simp [muJ, h]
section Z
variable {S : SS} {A B : ZA} {n : (Nat × Nat) × (Nat → Nat)} {a ci k N q : Nat} {rf : Nat → Option (Option Nat)} {z v : Int}
theorem jgI_z (hS : S a = some (.inl (ci, N, rf))) (hk : k < N) (hr : rf k = none) : jgI (mz S A B n) a ci k = some (ii (A a k)) := by
  unfold mz; rw [jgI_mk, hS]; simp [oI, hk, hr]
theorem jgR_z (hS : S a = some (.inl (ci, N, rf))) (hk : k < N) (hr : rf k = some (some q)) : jgR (mz S A B n) a ci k = some q := by
  unfold mz; rw [jgR_mk, hS]; simp [oR, hk, hr]
theorem jrecv_z (hS : S a = some (.inl (ci, N, rf))) : jrecv (mz S A B n) a ci = some () := by
  unfold mz; rw [jrecv_mk]; simp only [hS, if_true]
theorem jput_z (hS : S a = some (.inl (ci, N, rf))) (hk : k < N) (hr : rf k = none) : jput (mz S A B n) a ci k (.int (ii v)) = some (mz S (za A a (up (A a) k v)) B n) := by
  unfold mz; rw [jputI_mk hS hk hr, mz_mu]
theorem jputR_z (hS : S a = some (.inl (ci, N, rf))) (hk : k < N) : jput (mz S A B n) a ci k (.ref q) = some (mz (ms S a (.inl (ci, N, fun j => if j = k then some (some q) else rf j))) A B n) := by
  unfold mz; rw [jputR_mk hS hk]
theorem jin_z (hz : z = (k : Int)) (hk : k < N) (h31 : k < 2147483648) : jin (ii z) N = true := by
  rw [ii_jin (r31_of (by omega) (by omega))]
  exact decide_eq_true (by omega)
theorem nat_z (hz : z = (k : Int)) (h31 : k < 2147483648) : (ii z).toNatClampNeg = k := by
  rw [ii_nat (r31_of (by omega) (by omega))]; omega
theorem jaI_z (hS : S a = some (.inr (.inl (.int, N)))) (hz : z = (k : Int)) (hk : k < N) (h31 : k < 2147483648) : jaI (mz S A B n) a (ii z) = some (ii (A a k)) := by
  unfold mz; rw [jaI_mk]; simp only [hS, jin_z hz hk h31, nat_z hz h31, if_true]
theorem jaI_zr (hS : S a = some (.inr (.inr (.inr N)))) (hz : z = (k : Int)) (hk : k < N) (h31 : k < 2147483648) : jaI (mz S A B n) a (ii z) = some (ii (A a k)) := by
  unfold mz; rw [jaI_mk]; simp only [hS, jin_z hz hk h31, nat_z hz h31, if_true]
theorem jaB_z (hS : S a = some (.inr (.inl (.byte, N)))) (hz : z = (k : Int)) (hk : k < N) (h31 : k < 2147483648) : jaB (mz S A B n) a (ii z) = some (ii (A a k)) := by
  unfold mz; rw [jaB_mk]; simp only [hS, jin_z hz hk h31, nat_z hz h31, if_true]
theorem jaB_zb (hS : S a = some (.inr (.inl (.boolean, N)))) (hz : z = (k : Int)) (hk : k < N) (h31 : k < 2147483648) : jaB (mz S A B n) a (ii z) = some (ii (A a k)) := by
  unfold mz; rw [jaB_mk]; simp only [hS, jin_z hz hk h31, nat_z hz h31, if_true]
theorem jaJ_z (hS : S a = some (.inr (.inl (.long, N)))) (hz : z = (k : Int)) (hk : k < N) (h31 : k < 2147483648) : jaJ (mz S A B n) a (ii z) = some (ll (B a k)) := by
  unfold mz; rw [jaJ_mk]; simp only [hS, jin_z hz hk h31, nat_z hz h31, if_true]
theorem jaR_z {t : FieldType} {f : Nat → Option Nat} (hS : S a = some (.inr (.inr (.inl (t, N, f))))) (ht : t.isReference = true) (hz : z = (k : Int)) (hk : k < N) (h31 : k < 2147483648) (hf : f k = some q) : jaR (mz S A B n) a (ii z) = some q := by
  unfold mz; rw [jaR_mk]; simp only [hS, jin_z hz hk h31, nat_z hz h31, ht, Bool.and_self, if_true, hf]
theorem jal_z {t : FieldType} (hS : S a = some (.inr (.inl (t, N)))) : jal (mz S A B n) a = some (ii (N : Int)) := by
  unfold mz; rw [jal_mk]; simp only [hS]; exact congrArg some (nI_ii N)
theorem jal_zr (hS : S a = some (.inr (.inr (.inr N)))) : jal (mz S A B n) a = some (ii (N : Int)) := by
  unfold mz; rw [jal_mk]; simp only [hS]; exact congrArg some (nI_ii N)
theorem jal_zo {t : FieldType} {f : Nat → Option Nat} (hS : S a = some (.inr (.inr (.inl (t, N, f))))) : jal (mz S A B n) a = some (ii (N : Int)) := by
  unfold mz; rw [jal_mk]; simp only [hS]; exact congrArg some (nI_ii N)
theorem jsI_z (hS : S a = some (.inr (.inl (.int, N)))) (hz : z = (k : Int)) (hk : k < N) (h31 : k < 2147483648) : jsI (mz S A B n) a (ii z) (ii v) = some (mz S (za A a (up (A a) k v)) B n) := by
  unfold mz; rw [jsI_mk]; simp only [hS, jin_z hz hk h31, nat_z hz h31, if_true, mz_mu]
theorem jsJ_z (hS : S a = some (.inr (.inl (.long, N)))) (hz : z = (k : Int)) (hk : k < N) (h31 : k < 2147483648) : jsJ (mz S A B n) a (ii z) (ll v) = some (mz S A (za B a (up (B a) k v)) n) := by
  unfold mz; rw [jsJ_mk]; simp only [hS, jin_z hz hk h31, nat_z hz h31, if_true, mz_muJ]
end Z
/-- a new cell -/
theorem jnA_z {S : SS} {A B : ZA} {c : Nat → Nat} {N s : Nat} {t : FieldType} (hA : ∀ k, A N k = 0) (hB : ∀ k, B N k = 0) {z : Int} {k : Nat} (hz : z = (k : Int)) (hk : k ≤ 100000) (ht : t = .int ∨ t = .long ∨ t = .byte ∨ t = .boolean) : jnA (mz S A B ((N, s), c)) t (ii z) = some (N, mz (ms S N (.inr (.inl (t, k)))) A B ((N + 1, s + k), c)) := by
  unfold jnA
  rw [nat_z hz (by omega), if_pos ⟨by rw [show (0 : Int32) = ii 0 from rfl, ii_lt (r31_of (by omega) (by omega)) (by decide)]; omega, hk⟩]
  refine congrArg some (Prod.ext rfl (Prod.ext (funext fun b => ?_) rfl))
  have eA : (fun k => ii (A N k)) = fun _ => (0 : Int32) := by funext k; rw [hA]; rfl
  have eB : (fun k => ll (B N k)) = fun _ => (0 : Int64) := by funext k; rw [hB]; rfl
  show (if b = N then (some (.inl (t, (k, jz0 t))) : Option JC) else (S b).map _) = (ms S N _ b).map _
  by_cases h : b = N
  · subst h
    rw [if_pos rfl, ms_at]
    simp only [Option.map_some, mc, eA, eB]
    rcases ht with rfl | rfl | rfl | rfl <;> rfl
  · rw [if_neg h, ms_ne _ _ h]
/-- a new array of references: nothing in it -/
theorem jnAo_z {S : SS} {A B : ZA} {c : Nat → Nat} {N s : Nat} {C : String} {z : Int} {k : Nat} (hz : z = (k : Int)) (hk : k ≤ 100000) : jnA (mz S A B ((N, s), c)) (.object C) (ii z) = some (N, mz (ms S N (.inr (.inr (.inl (.object C, k, fun _ => none))))) A B ((N + 1, s + k), c)) := by
  unfold jnA
  rw [nat_z hz (by omega), if_pos ⟨by rw [show (0 : Int32) = ii 0 from rfl, ii_lt (r31_of (by omega) (by omega)) (by decide)]; omega, hk⟩]
  refine congrArg some (Prod.ext rfl (Prod.ext (funext fun b => ?_) rfl))
  show (if b = N then (some (.inl (.object C, (k, jz0 (.object C)))) : Option JC) else (S b).map _) = (ms S N _ b).map _
  by_cases h : b = N
  · subst h
    rw [if_pos rfl, ms_at]
    rfl
  · rw [if_neg h, ms_ne _ _ h]
/-- fields of a new object -/
def rfz (fs : List Value) : Nat → Option (Option Nat) := fun k => match fs[k]? with
  | some .null => some none
  | _ => none
theorem rfz_mfs (fs : List Value) (h : ∀ v ∈ fs, v = .null ∨ v = .int 0) : mfs (fun _ => 0) fs.length (rfz fs) = fs := by
  refine List.ext_getElem? fun j => ?_
  rw [mfs_get]
  by_cases hj : j < fs.length
  · rw [if_pos hj, List.getElem?_eq_getElem hj]
    have e : rfz fs j = match (some fs[j] : Option Value) with
      | some .null => some none
      | _ => none := by unfold rfz; rw [List.getElem?_eq_getElem hj]
    rcases h fs[j] (List.getElem_mem hj) with h1 | h1
    · rw [e, h1]; rfl
    · rw [e, h1]; rfl
  · rw [if_neg hj, List.getElem?_eq_none (by omega)]
theorem jnO_z {S : SS} {A B : ZA} {c : Nat → Nat} {N s ci : Nat} {fs : List Value} (hA : ∀ k, A N k = 0) (h : ∀ v ∈ fs, v = .null ∨ v = .int 0) : jnO (mz S A B ((N, s), c)) ci fs = some (N, mz (ms S N (.inl (ci, fs.length, rfz fs))) A B ((N + 1, s + fs.length), c)) := by
  unfold jnO
  refine congrArg some (Prod.ext rfl (Prod.ext (funext fun b => ?_) rfl))
  have eA : (fun k => ii (A N k)) = fun _ => (0 : Int32) := by funext k; rw [hA]; rfl
  show (if b = N then (some (.inr (.inl (ci, fs))) : Option JC) else (S b).map _) = (ms S N _ b).map _
  by_cases hb : b = N
  · subst hb
    rw [if_pos rfl, ms_at]
    simp only [Option.map_some, mc, eA]
    rw [rfz_mfs fs h]
  · rw [if_neg hb, ms_ne _ _ hb]
/-- rows of numbers at N + 1 .. -/
def msM (S : SS) (N : Nat) (t : FieldType) (r k : Nat) : SS := fun b => if b = N then some (.inr (.inr (.inl (.array t, r, fun i => if i < r then some (N + 1 + i) else none)))) else if N < b ∧ b < N + 1 + r then some (.inr (.inl (t, k))) else S b
theorem jnM_z {S : SS} {A B : ZA} {c : Nat → Nat} {N s : Nat} {t : FieldType} (hA : ∀ a, N ≤ a → ∀ k, A a k = 0) (hB : ∀ a, N ≤ a → ∀ k, B a k = 0) {z w : Int} {r k : Nat} (hz : z = (r : Int)) (hw : w = (k : Int)) (hr : r ≤ 1000) (hk : k ≤ 1000) (ht : t = .int ∨ t = .long) : jnM (mz S A B ((N, s), c)) t (ii z) (ii w) = some (N, mz (msM S N t r k) A B ((N + 1 + r, s + r + r * k), c)) := by
  unfold jnM
  rw [nat_z hz (by omega), nat_z hw (by omega), if_pos ⟨by rw [show (0 : Int32) = ii 0 from rfl, ii_lt (r31_of (by omega) (by omega)) (by decide)]; omega, by rw [show (0 : Int32) = ii 0 from rfl, ii_lt (r31_of (by omega) (by omega)) (by decide)]; omega, hr, hk⟩]
  refine congrArg some (Prod.ext rfl (Prod.ext (funext fun b => ?_) rfl))
  show (if b = N then (some (.inl (.array t, (r, .inr (.inr (.inr (.inr (fun i => if i < r then some (N + 1 + i) else none))))))) : Option JC) else if N < b ∧ b < N + 1 + r then some (.inl (t, (k, jz0 t))) else (S b).map _) = (msM S N t r k b).map _
  unfold msM
  by_cases h : b = N
  · subst h
    rw [if_pos rfl, if_pos rfl]
    rfl
  · rw [if_neg h, if_neg h]
    by_cases h2 : N < b ∧ b < N + 1 + r
    · rw [if_pos h2, if_pos h2]
      have eA : (fun k => ii (A b k)) = fun _ => (0 : Int32) := by funext k; rw [hA b (by omega)]; rfl
      have eB : (fun k => ll (B b k)) = fun _ => (0 : Int64) := by funext k; rw [hB b (by omega)]; rfl
      simp only [Option.map_some, mc, eA, eB]
      rcases ht with rfl | rfl <;> rfl
    · rw [if_neg h2, if_neg h2]
/-- a reference into an array -/
theorem jsR_z {S : SS} {A B : ZA} {n} {a v ci k N M : Nat} {C : String} {f : Nat → Option Nat} {rf} {z : Int} (hS : S a = some (.inr (.inr (.inl (.object C, N, f))))) (hv : S v = some (.inl (ci, M, rf))) (hC : C = jcn ci) (hz : z = (k : Int)) (hk : k < N) (h31 : k < 2147483648) : jsR (mz S A B n) a (ii z) v ci = some (mz (ms S a (.inr (.inr (.inl (.object C, N, va_up f k (some v)))))) A B n) := by
  unfold jsR mz
  rw [jobj_mk, mk_at, hS]
  simp only [hv, if_true, Option.map_some, mc, jin_z hz hk h31, nat_z hz h31, hC, decide_true, Bool.and_self]
  refine congrArg some (Prod.ext (funext fun b => ?_) rfl)
  by_cases h : b = a
  · subst h; simp only [j_set, if_pos, mk, ms_at]; rfl
  · simp only [j_set, if_neg h, mk, ms_ne _ _ h]
/-- System.arraycopy -/
theorem jcI_z {S : SS} {A B : ZA} {n} {a b N M : Nat} {x y w : Int} {i j k : Nat} (ha : S a = some (.inr (.inl (.int, N)))) (hb : S b = some (.inr (.inl (.int, M)))) (hx : x = (i : Int)) (hy : y = (j : Int)) (hw : w = (k : Int)) (h1 : i + k ≤ N) (h2 : j + k ≤ M) (hN : N < 2147483648) (hM : M < 2147483648) : jcI (mz S A B n) a (ii x) b (ii y) (ii w) = some (mz S (za A b (va_cpy (A a) (A b) i j k)) B n) := by
  have nn : ∀ {z : Int} {k : Nat}, z = (k : Int) → k < 2147483648 → ¬ ii z < 0 := by
    intro z k hz hk
    rw [show (0 : Int32) = ii 0 from rfl, ii_lt (r31_of (by omega) (by omega)) (by decide)]; omega
  unfold jcI mz
  rw [mk_at, mk_at, ha, hb]
  simp only [Option.map_some, mc]
  rw [if_neg (by decide), if_neg (by decide)]
  dsimp only
  rw [nat_z hx (by omega), nat_z hy (by omega), nat_z hw (by omega), if_pos ⟨nn hx (by omega), nn hy (by omega), nn hw (by omega), h1, h2⟩]
  refine congrArg some ?_
  have e := mk_set S (fun a k => ii (A a k)) (fun a k => ll (B a k)) n b (.inr (.inl (.int, M))) (va_cpy (fun k => ii (A a k)) (fun k => ii (A b k)) i j k) hb
  simp only [mc] at e
  rw [if_neg (by decide)] at e
  rw [e]
  refine congrArg (fun I => mk S I _ n) (funext fun q => funext fun m => ?_)
  by_cases h : q = b
  · subst h
    rw [ma_at, za_at]
    unfold va_cpy
    by_cases hm : j ≤ m ∧ m < j + k <;> simp [hm]
  · rw [ma_ne _ _ h, za_ne _ _ h]
theorem jcJ_z {S : SS} {A B : ZA} {n} {a b N M : Nat} {x y w : Int} {i j k : Nat} (ha : S a = some (.inr (.inl (.long, N)))) (hb : S b = some (.inr (.inl (.long, M)))) (hx : x = (i : Int)) (hy : y = (j : Int)) (hw : w = (k : Int)) (h1 : i + k ≤ N) (h2 : j + k ≤ M) (hN : N < 2147483648) (hM : M < 2147483648) : jcJ (mz S A B n) a (ii x) b (ii y) (ii w) = some (mz S A (za B b (va_cpy (B a) (B b) i j k)) n) := by
  have nn : ∀ {z : Int} {k : Nat}, z = (k : Int) → k < 2147483648 → ¬ ii z < 0 := by
    intro z k hz hk
    rw [show (0 : Int32) = ii 0 from rfl, ii_lt (r31_of (by omega) (by omega)) (by decide)]; omega
  unfold jcJ mz
  rw [mk_at, mk_at, ha, hb]
  simp only [Option.map_some, mc, if_true]
  rw [nat_z hx (by omega), nat_z hy (by omega), nat_z hw (by omega), if_pos ⟨nn hx (by omega), nn hy (by omega), nn hw (by omega), h1, h2⟩]
  refine congrArg some ?_
  have e := mk_setJ S (fun a k => ii (A a k)) (fun a k => ll (B a k)) n b (.inr (.inl (.long, M))) (va_cpy (fun k => ll (B a k)) (fun k => ll (B b k)) i j k) hb
  simp only [mc, if_true] at e
  rw [e]
  refine congrArg (fun I => mk S _ I n) (funext fun q => funext fun m => ?_)
  by_cases h : q = b
  · subst h
    simp only [maJ, if_true, za_at]
    unfold va_cpy
    by_cases hm : j ≤ m ∧ m < j + k <;> simp [hm]
  · simp only [maJ, if_neg h, za_ne _ _ h]
/-- truth values and bytes into their arrays -/
theorem jsB_zb {S : SS} {A B : ZA} {n} {a k N : Nat} {z v : Int} (hS : S a = some (.inr (.inl (.boolean, N)))) (hz : z = (k : Int)) (hk : k < N) (h31 : k < 2147483648) (hv : v = 0 ∨ v = 1) : jsB (mz S A B n) a (ii z) (ii v) = some (mz S (za A a (up (A a) k v)) B n) := by
  have e : vp_nar .boolean (ii v) = ii v := by rcases hv with rfl | rfl <;> rfl
  unfold mz; rw [jsB_mk]; simp only [hS, jin_z hz hk h31, nat_z hz h31, if_true, e, mz_mu]
theorem jsB_zv {S : SS} {A B : ZA} {n} {a k N : Nat} {z v w : Int} (hS : S a = some (.inr (.inl (.byte, N)))) (hz : z = (k : Int)) (hk : k < N) (h31 : k < 2147483648) (hv : vp_nar .byte (ii v) = ii w) : jsB (mz S A B n) a (ii z) (ii v) = some (mz S (za A a (up (A a) k w)) B n) := by
  unfold mz; rw [jsB_mk]; simp only [hS, jin_z hz hk h31, nat_z hz h31, if_true, hv, mz_mu]
