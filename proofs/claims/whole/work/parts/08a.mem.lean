/-! Memory: a heap as a shape (which cells there are, where references lead) and numbers (fields and elements by address and place). -/
/-- an object (class, how many fields, what a field is: a number, null, a reference), an array of numbers, an array of references, an array that nobody writes -/
abbrev SC : Type := (Nat × Nat × (Nat → Option (Option Nat))) ⊕ ((FieldType × Nat) ⊕ ((FieldType × Nat × (Nat → Option Nat)) ⊕ Nat))
abbrev SS : Type := Nat → Option SC
abbrev SI : Type := Nat → Nat → Int32
abbrev SJ : Type := Nat → Nat → Int64
def mv (i : Nat → Int32) (k : Nat) (r : Option (Option Nat)) : Value := match r with
  | none => .int (i k)
  | some none => .null
  | some (some q) => .ref q
def mfs (i : Nat → Int32) (N : Nat) (rf : Nat → Option (Option Nat)) : List Value := (List.range N).map fun k => mv i k (rf k)
def mc (i : Nat → Int32) (j : Nat → Int64) (c : SC) : JC := match c with
  | .inl o => .inr (.inl (o.1, mfs i o.2.1 o.2.2))
  | .inr (.inl x) => .inl (x.1, (x.2, if x.1 = .long then .inr (.inl j) else .inl i))
  | .inr (.inr (.inl x)) => .inl (x.1, (x.2.1, .inr (.inr (.inr (.inr x.2.2)))))
  | .inr (.inr (.inr n)) => .inr (.inr (n, i))
def mk (S : SS) (I : SI) (J : SJ) (n : (Nat × Nat) × (Nat → Nat)) : JH := (fun a => (S a).map (mc (I a) (J a)), n)
def mu (I : SI) (a k : Nat) (v : Int32) : SI := fun b j => if b = a then (if j = k then v else I a j) else I b j
def muJ (J : SJ) (a k : Nat) (v : Int64) : SJ := fun b j => if b = a then (if j = k then v else J a j) else J b j
/-- the numbers at an address, all at once -/
def ma (I : SI) (a : Nat) (f : Nat → Int32) : SI := fun b => if b = a then f else I b
def maJ (J : SJ) (a : Nat) (f : Nat → Int64) : SJ := fun b => if b = a then f else J b
theorem mk_at (S : SS) (I : SI) (J : SJ) (n) (a : Nat) : (mk S I J n).1 a = (S a).map (mc (I a) (J a)) := rfl
theorem mk_2 (S : SS) (I : SI) (J : SJ) (n) : (mk S I J n).2 = n := rfl
theorem mfs_get (i : Nat → Int32) (N : Nat) (rf) (k : Nat) : (mfs i N rf)[k]? = if k < N then some (mv i k (rf k)) else none := by
  unfold mfs
  rw [List.getElem?_map]
  by_cases h : k < N
  · rw [List.getElem?_range h, if_pos h]; rfl
  · rw [if_neg h, List.getElem?_eq_none (by rw [List.length_range]; omega)]; rfl
theorem mfs_len (i : Nat → Int32) (N : Nat) (rf) : (mfs i N rf).length = N := by unfold mfs; simp
theorem mu_same (I : SI) (a k : Nat) (v : Int32) : mu I a k v a k = v := by simp [mu]
theorem mu_at (I : SI) (a k : Nat) (v : Int32) : mu I a k v a = upd (I a) k v := by funext j; simp [mu, upd]
theorem mu_ne (I : SI) {a b : Nat} (k : Nat) (v : Int32) (h : b ≠ a) : mu I a k v b = I b := by funext j; simp [mu, h]
theorem mu_ne2 (I : SI) (a : Nat) {k j : Nat} (v : Int32) (h : j ≠ k) : mu I a k v a j = I a j := by simp [mu, h]
theorem muJ_at (J : SJ) (a k : Nat) (v : Int64) : muJ J a k v a = vp_updL (J a) k v := by funext j; simp [muJ, vp_updL]
theorem muJ_ne (J : SJ) {a b : Nat} (k : Nat) (v : Int64) (h : b ≠ a) : muJ J a k v b = J b := by funext j; simp [muJ, h]
theorem ma_at (I : SI) (a : Nat) (f : Nat → Int32) : ma I a f a = f := by simp [ma]
theorem ma_ne (I : SI) {a b : Nat} (f : Nat → Int32) (h : b ≠ a) : ma I a f b = I b := by simp [ma, h]
theorem ma_self (I : SI) (a : Nat) : ma I a (I a) = I := by funext b; by_cases h : b = a <;> simp [ma, h]
theorem ma_ma (I : SI) (a : Nat) (f g : Nat → Int32) : ma (ma I a f) a g = ma I a g := by funext b; by_cases h : b = a <;> simp [ma, h]
theorem mu_ma (I : SI) (a k : Nat) (v : Int32) : mu I a k v = ma I a (upd (I a) k v) := by
  funext b; by_cases h : b = a
  · subst h; rw [mu_at, ma_at]
  · rw [mu_ne _ _ _ h, ma_ne _ _ h]
theorem muJ_ma (J : SJ) (a k : Nat) (v : Int64) : muJ J a k v = maJ J a (vp_updL (J a) k v) := by
  funext b; by_cases h : b = a
  · subst h; rw [muJ_at]; simp [maJ]
  · rw [muJ_ne _ _ _ h]; simp [maJ, h]
/-- what the primitives do -/
def oI (c : Option SC) (i : Nat → Int32) (ci k : Nat) : Option Int32 := match c with
  | some (.inl o) => if o.1 = ci ∧ k < o.2.1 ∧ o.2.2 k = none then some (i k) else none
  | _ => none
def oR (c : Option SC) (ci k : Nat) : Option Nat := match c with
  | some (.inl o) => if o.1 = ci ∧ k < o.2.1 then (o.2.2 k).join else none
  | _ => none
theorem jobj_mk (S : SS) (I : SI) (J : SJ) (n) (a ci : Nat) : jobj (mk S I J n) a ci = match S a with
    | some (.inl o) => if o.1 = ci then some (mfs (I a) o.2.1 o.2.2) else none
    | _ => none := by
  unfold jobj
  rw [mk_at]
  cases h : S a with
  | none => rfl
  | some c =>
    rcases c with o | x | x | x
    · rfl
    · rfl
    · rfl
    · rfl
theorem jgI_mk (S : SS) (I : SI) (J : SJ) (n) (a ci k : Nat) : jgI (mk S I J n) a ci k = oI (S a) (I a) ci k := by
  unfold jgI jget oI
  rw [jobj_mk]
  cases h : S a with
  | none => rfl
  | some c =>
    rcases c with o | x | x | x
    · by_cases h1 : o.1 = ci
      · simp only [h1, if_true, mfs_get, true_and]
        by_cases h2 : k < o.2.1
        · simp only [h2, if_true, true_and]
          cases h3 : o.2.2 k with
          | none => simp [mv]
          | some r => cases r <;> simp [mv]
        · simp [h2]
      · simp [h1]
    · rfl
    · rfl
    · rfl
theorem jgR_mk (S : SS) (I : SI) (J : SJ) (n) (a ci k : Nat) : jgR (mk S I J n) a ci k = oR (S a) ci k := by
  unfold jgR jget oR
  rw [jobj_mk]
  cases h : S a with
  | none => rfl
  | some c =>
    rcases c with o | x | x | x
    · by_cases h1 : o.1 = ci
      · simp only [h1, if_true, mfs_get, true_and]
        by_cases h2 : k < o.2.1
        · simp only [h2, if_true]
          cases h3 : o.2.2 k with
          | none => simp [mv]
          | some r => cases r <;> simp [mv]
        · simp [h2]
      · simp [h1]
    · rfl
    · rfl
    · rfl
theorem jrecv_mk (S : SS) (I : SI) (J : SJ) (n) (a ci : Nat) : jrecv (mk S I J n) a ci = match S a with
    | some (.inl o) => if o.1 = ci then some () else none
    | _ => none := by
  unfold jrecv
  rw [jobj_mk]
  cases h : S a with
  | none => rfl
  | some c =>
    rcases c with o | x | x | x
    · by_cases h1 : o.1 = ci <;> simp [h1]
    · rfl
    · rfl
    · rfl
theorem mk_set (S : SS) (I : SI) (J : SJ) (n) (a : Nat) (c : SC) (f : Nat → Int32) (hc : S a = some c) : j_set (mk S I J n) a (mc f (J a) c) = mk S (ma I a f) J n := by
  unfold j_set
  refine Prod.ext (funext fun q => ?_) rfl
  by_cases h : q = a
  · subst h; simp only [if_pos, mk, ma_at, hc]; rfl
  · simp only [if_neg h, mk, ma_ne _ _ h]
theorem mk_setJ (S : SS) (I : SI) (J : SJ) (n) (a : Nat) (c : SC) (f : Nat → Int64) (hc : S a = some c) : j_set (mk S I J n) a (mc (I a) f c) = mk S I (maJ J a f) n := by
  unfold j_set
  refine Prod.ext (funext fun q => ?_) rfl
  by_cases h : q = a
  · subst h; simp [mk, maJ, hc]
  · simp [mk, maJ, h]
theorem mfs_set (i : Nat → Int32) (N : Nat) (rf) (k : Nat) (v : Int32) (hr : rf k = none) : (mfs i N rf).set k (.int v) = mfs (upd i k v) N rf := by
  refine List.ext_getElem? fun j => ?_
  rw [List.getElem?_set, mfs_get, mfs_get, mfs_len]
  by_cases h : k = j
  · subst h
    by_cases h2 : k < N
    · simp [h2, mv, hr, upd]
    · simp [h2]
  · rw [if_neg h]
    by_cases h2 : j < N
    · simp only [h2, if_true]
      cases h3 : rf j with
      | none => simp [mv, upd, Ne.symm h]
      | some r => cases r <;> simp [mv]
    · simp [h2]
theorem jputI_mk {S : SS} {I : SI} {J : SJ} {n} {a ci k N : Nat} {rf} {v : Int32} (hS : S a = some (.inl (ci, N, rf))) (hk : k < N) (hr : rf k = none) : jput (mk S I J n) a ci k (.int v) = some (mk S (mu I a k v) J n) := by
  unfold jput
  rw [jobj_mk, hS]
  simp only [if_true, mfs_len, hk]
  rw [mfs_set _ _ _ _ _ hr, mu_ma]
  exact congrArg some (mk_set S I J n a _ (upd (I a) k v) hS)
/-- the shape with another cell -/
def ms (S : SS) (a : Nat) (c : SC) : SS := fun b => if b = a then some c else S b
theorem ms_at (S : SS) (a : Nat) (c : SC) : ms S a c a = some c := by simp [ms]
theorem ms_ne (S : SS) {a b : Nat} (c : SC) (h : b ≠ a) : ms S a c b = S b := by simp [ms, h]
theorem jputR_mk {S : SS} {I : SI} {J : SJ} {n} {a ci k N q : Nat} {rf} (hS : S a = some (.inl (ci, N, rf))) (hk : k < N) : jput (mk S I J n) a ci k (.ref q) = some (mk (ms S a (.inl (ci, N, fun j => if j = k then some (some q) else rf j))) I J n) := by
  unfold jput
  rw [jobj_mk, hS]
  simp only [if_true, mfs_len, hk]
  refine congrArg some (Prod.ext (funext fun b => ?_) rfl)
  by_cases h : b = a
  · subst h
    simp only [j_set, if_pos, mk, ms_at, Option.map_some, mc]
    refine congrArg (fun l => some (Sum.inr (Sum.inl (ci, l)))) ?_
    refine List.ext_getElem? fun j => ?_
    rw [List.getElem?_set, mfs_get, mfs_get, mfs_len]
    by_cases h1 : k = j
    · subst h1; simp [hk, mv]
    · rw [if_neg h1]; simp [Ne.symm h1]
  · simp [j_set, mk, h, ms_ne _ _ h]
theorem jaI_mk (S : SS) (I : SI) (J : SJ) (n) (a : Nat) (i : Int32) : jaI (mk S I J n) a i = match S a with
    | some (.inr (.inl (.int, N))) => if jin i N then some (I a i.toNatClampNeg) else none
    | some (.inr (.inr (.inr N))) => if jin i N then some (I a i.toNatClampNeg) else none
    | _ => none := by
  unfold jaI
  rw [mk_at]
  cases h : S a with
  | none => rfl
  | some c =>
    rcases c with o | ⟨t, N⟩ | ⟨t, N, f⟩ | N
    · rfl
    · cases t <;> rfl
    · cases t <;> rfl
    · rfl
theorem jaB_mk (S : SS) (I : SI) (J : SJ) (n) (a : Nat) (i : Int32) : jaB (mk S I J n) a i = match S a with
    | some (.inr (.inl (.byte, N))) => if jin i N then some (I a i.toNatClampNeg) else none
    | some (.inr (.inl (.boolean, N))) => if jin i N then some (I a i.toNatClampNeg) else none
    | _ => none := by
  unfold jaB
  rw [mk_at]
  cases h : S a with
  | none => rfl
  | some c =>
    rcases c with o | ⟨t, N⟩ | ⟨t, N, f⟩ | N
    · rfl
    · cases t <;> rfl
    · cases t <;> rfl
    · rfl
theorem jaJ_mk (S : SS) (I : SI) (J : SJ) (n) (a : Nat) (i : Int32) : jaJ (mk S I J n) a i = match S a with
    | some (.inr (.inl (.long, N))) => if jin i N then some (J a i.toNatClampNeg) else none
    | _ => none := by
  unfold jaJ
  rw [mk_at]
  cases h : S a with
  | none => rfl
  | some c =>
    rcases c with o | ⟨t, N⟩ | ⟨t, N, f⟩ | N
    · rfl
    · cases t <;> rfl
    · cases t <;> rfl
    · rfl
theorem jaR_mk (S : SS) (I : SI) (J : SJ) (n) (a : Nat) (i : Int32) : jaR (mk S I J n) a i = match S a with
    | some (.inr (.inr (.inl (t, N, f)))) => if jin i N && t.isReference then f i.toNatClampNeg else none
    | _ => none := by
  unfold jaR
  rw [mk_at]
  cases h : S a with
  | none => rfl
  | some c =>
    rcases c with o | ⟨t, N⟩ | ⟨t, N, f⟩ | N
    · rfl
    · cases t <;> rfl
    · rfl
    · rfl
theorem jal_mk (S : SS) (I : SI) (J : SJ) (n) (a : Nat) : jal (mk S I J n) a = match S a with
    | some (.inr (.inl (_, N))) => some (Int32.ofNat N)
    | some (.inr (.inr (.inl (_, N, _)))) => some (Int32.ofNat N)
    | some (.inr (.inr (.inr N))) => some (Int32.ofNat N)
    | _ => none := by
  unfold jal
  rw [mk_at]
  cases h : S a with
  | none => rfl
  | some c =>
    rcases c with o | ⟨t, N⟩ | ⟨t, N, f⟩ | N
    · rfl
    · rfl
    · rfl
    · rfl
theorem jsI_mk (S : SS) (I : SI) (J : SJ) (n) (a : Nat) (i v : Int32) : jsI (mk S I J n) a i v = match S a with
    | some (.inr (.inl (.int, N))) => if jin i N then some (mk S (mu I a i.toNatClampNeg v) J n) else none
    | _ => none := by
  unfold jsI
  rw [mk_at]
  cases h : S a with
  | none => rfl
  | some c =>
    rcases c with o | ⟨t, N⟩ | ⟨t, N, f⟩ | N
    · rfl
    · cases t
      case int =>
        show (if jin i N = true then some (j_set (mk S I J n) a (mc (upd (I a) i.toNatClampNeg v) (J a) (.inr (.inl (.int, N))))) else none) = _
        rw [mk_set S I J n a _ _ h, ← mu_ma]
      all_goals rfl
    · cases t <;> rfl
    · rfl
theorem jsB_mk (S : SS) (I : SI) (J : SJ) (n) (a : Nat) (i v : Int32) : jsB (mk S I J n) a i v = match S a with
    | some (.inr (.inl (.byte, N))) => if jin i N then some (mk S (mu I a i.toNatClampNeg (vp_nar .byte v)) J n) else none
    | some (.inr (.inl (.boolean, N))) => if jin i N then some (mk S (mu I a i.toNatClampNeg (vp_nar .boolean v)) J n) else none
    | _ => none := by
  unfold jsB
  rw [mk_at]
  cases h : S a with
  | none => rfl
  | some c =>
    rcases c with o | ⟨t, N⟩ | ⟨t, N, f⟩ | N
    · rfl
    · cases t
      case byte =>
        show (if jin i N = true then some (j_set (mk S I J n) a (mc (upd (I a) i.toNatClampNeg (vp_nar .byte v)) (J a) (.inr (.inl (.byte, N))))) else none) = _
        rw [mk_set S I J n a _ _ h, ← mu_ma]
      case boolean =>
        show (if jin i N = true then some (j_set (mk S I J n) a (mc (upd (I a) i.toNatClampNeg (vp_nar .boolean v)) (J a) (.inr (.inl (.boolean, N))))) else none) = _
        rw [mk_set S I J n a _ _ h, ← mu_ma]
      all_goals rfl
    · cases t <;> rfl
    · rfl
theorem jsJ_mk (S : SS) (I : SI) (J : SJ) (n) (a : Nat) (i : Int32) (v : Int64) : jsJ (mk S I J n) a i v = match S a with
    | some (.inr (.inl (.long, N))) => if jin i N then some (mk S I (muJ J a i.toNatClampNeg v) n) else none
    | _ => none := by
  unfold jsJ
  rw [mk_at]
  cases h : S a with
  | none => rfl
  | some c =>
    rcases c with o | ⟨t, N⟩ | ⟨t, N, f⟩ | N
    · rfl
    · cases t
      case long =>
        show (if jin i N = true then some (j_set (mk S I J n) a (mc (I a) (vp_updL (J a) i.toNatClampNeg v) (.inr (.inl (.long, N))))) else none) = _
        rw [mk_setJ S I J n a _ _ h, ← muJ_ma]
      all_goals rfl
    · cases t <;> rfl
    · rfl
/-- a loop that runs N times and then ends -/
theorem jloop_run {σ τ : Type} {f : σ → JH → Option ((σ ⊕ τ) × JH)} (st : Nat → σ) (hp : Nat → JH) (N : Nat) (hs : ∀ i, i < N → f (st i) (hp i) = some (.inl (st (i + 1)), hp (i + 1))) {t : τ} {h1 : JH} (he : f (st N) (hp N) = some (.inr t, h1)) {fuel : Nat} (hf : N < fuel) : jloop f fuel (st 0) (hp 0) = some (t, h1) := by
  have key : ∀ (k i : Nat), i + k = N → ∀ fuel, k < fuel → jloop f fuel (st i) (hp i) = some (t, h1) := by
    intro k
    induction k with
    | zero =>
      intro i hi fuel hf
      cases fuel with
      | zero => omega
      | succ n =>
        have : i = N := by omega
        subst this
        show (f (st i) (hp i)).bind _ = _
        rw [he]; rfl
    | succ k ih =>
      intro i hi fuel hf
      cases fuel with
      | zero => omega
      | succ n =>
        show (f (st i) (hp i)).bind _ = _
        rw [hs i (by omega)]
        exact ih (i + 1) (by omega) n (by omega)
  exact key N 0 (by omega) fuel hf
theorem jF_big {N : Nat} (h : N < 20000) : N < jF := h
