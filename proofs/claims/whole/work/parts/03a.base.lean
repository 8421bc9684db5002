/-! Base: a heap as a function from addresses to cells, rows of the machine over it. -/
/-- an array (type, length, contents), an object (the number of its class, its fields), an array of ints that nobody writes -/
abbrev JC : Type := (FieldType × vp_A) ⊕ ((Nat × List Value) ⊕ (Nat × (Nat → Int32)))
/-- cells, the next address, slots used, addresses of constants -/
abbrev JH : Type := (Nat → Option JC) × ((Nat × Nat) × (Nat → Nat))
/-- the tables' numbers, the array classes, the first address that is ours, addresses of constants, the arrays of ints that were there before -/
abbrev JE : Type := va_G × ((FieldType → ClassId) × (Nat × ((Nat → Nat) × (Nat → Option (Nat × (Nat → Int32))))))
def j_set (h : JH) (a : Nat) (c : JC) : JH := (fun q => if q = a then some c else h.1 q, h.2)
def j_new (h : JH) (c : JC) (k : Nat) : JH := (fun q => if q = h.2.1.1 then some c else h.1 q, ((h.2.1.1 + 1, h.2.1.2 + k), h.2.2))
def j_E (aid : FieldType → ClassId) (c : JC) : va_E := match c with
  | .inl x => .inl (aid x.1, x.2)
  | .inr (.inl o) => .inr o
  | .inr (.inr r) => .inl (aid .int, (r.1, .inl r.2))
def j_tys : List FieldType := [.int, .long, .byte, .boolean, .array .int, .array .long, .object "HeckeSeries$Form", .object "HeckeSeries$Shelf", .object "HeckeSeries$Image", .object "HeckeSeries$Space"]
def j_w (E : JE) (a : Nat) (c : JC) : Prop := match c with
  | .inl x => E.2.2.1 ≤ a ∧ x.1 ∈ j_tys
  | .inr (.inl _) => E.2.2.1 ≤ a
  | .inr (.inr r) => E.2.2.2.2 a = some r
def j_ro (c : JC) : Bool := match c with
  | .inr (.inr _) => true
  | _ => false
def j_R (E : JE) (h : JH) (H : Heap) : Prop := (∀ a c, h.1 a = some c → (j_ro c = false → va_at E.1 vwCl (a, j_E E.2.1 c) H) ∧ j_w E a c) ∧ H.size = h.2.1.1 ∧ h.2.2 = E.2.2.2.1
abbrev j_T (E : JE) : List (ClassId × FieldType) := j_tys.map fun t => (E.2.1 t, t)
abbrev j_A (E : JE) : Nat → Prop := fun q => E.2.2.1 ≤ q
def j_lens : List Nat := [5, 3, 2, 4, 3, 5]
def j_byts : List (List Int32) := [[112, 114, 105, 109, 101], [108, 101, 116], [98, 101], [102, 111, 117, 114], [115, 105, 120], [100, 101, 108, 116, 97]]
/-- constants of the class that the start gives: three arrays, six texts -/
def j_Z (E : JE) (U : State) : Prop :=
  (va_Z "HeckeSeries$BookReader" "FOUR_HEAD" "[I" (.ref (E.2.2.2.1 0)) (j_A E) U U.heap ∧ va_Z "HeckeSeries$BookReader" "SIX_HEAD" "[I" (.ref (E.2.2.2.1 1)) (j_A E) U U.heap ∧ va_Z "HeckeSeries$BookReader" "DELTA_HEAD" "[I" (.ref (E.2.2.2.1 2)) (j_A E) U U.heap) ∧
  (vk_S 6 j_lens j_byts (fun i => E.2.2.2.1 (3 + i)) (fun i => E.2.2.2.1 (9 + i)) (j_A E) U U.heap ∧ va_Z "java/lang/String" "COMPACT_STRINGS" "Z" (.int 1) (j_A E) U U.heap ∧ va_Zq "jdk/internal/util/Preconditions" "SIOOBE_FORMATTER" "Ljava/util/function/BiFunction;" (j_A E) U U.heap) ∧
  (vk_R "HeckeSeries$Tokens" 56 "prime" (E.2.2.2.1 3) U ∧ vk_R "HeckeSeries$Tokens" 62 "let" (E.2.2.2.1 4) U ∧ vk_R "HeckeSeries$Tokens" 64 "be" (E.2.2.2.1 5) U ∧ vk_R "HeckeSeries$Tokens" 66 "four" (E.2.2.2.1 6) U ∧ vk_R "HeckeSeries$Tokens" 68 "six" (E.2.2.2.1 7) U ∧ vk_R "HeckeSeries$Tokens" 70 "delta" (E.2.2.2.1 8) U) ∧
  (vx_Zq Bundle.tN "UNASSIGNED_STACK" Bundle.steD (j_A E) U U.heap ∧ vx_Zq Bundle.tN "SUPPRESSED_SENTINEL" Bundle.listD (j_A E) U U.heap)
/-- words of the tables that a warmer state keeps by laws of their own -/
def j_N (U : State) : Prop := (∀ a i x h, Cond.methodLinkNest a i x h ∈ lw_tbl → va_Nw (.methodLinkNest a i x h) U) ∧ (∀ C, Cond.arrayOver (.object C) ∈ lw_tbl → va_AO C U) ∧ (∀ t, Cond.arrayOver (.array t) ∈ lw_tbl → (Cond.arrayOver (.array t)).before #[] U = true) ∧ (∀ C T, Cond.castable C T ∈ lw_tbl → va_Nw (.castable C T) U) ∧ (∀ x, Cond.declares x ∈ lw_tbl → va_Nw (.declares x) U)
def j_X (E : JE) (U : State) : Prop := ∀ a r, E.2.2.2.2 a = some r → va_X a r.1 r.2 U U.heap ∧ a < E.2.2.1
def j_K (E : JE) (U : State) : Prop := va_K E.1 vwCl (j_T E) U ∧ E.2.2.1 ≤ U.heap.size ∧ j_Z E U ∧ (j_N U ∧ j_X E U)
def j_rm (d mc ms : Nat) : Room := { frames := d, cells := mc, slots := ms, locals := 60 * d }
def j_tbl : List Cond := lw_tbl.filter goodWord
def j_ws (y : MethodName) (cc : ByteArray) (mL : Nat) (ret : Option FieldType) : List Cond := .code y cc mL ret :: j_tbl
def j_P (E : JE) (av : List Value) (h : JH) : Array Value → State → Prop := va_Pc av (fun U => j_R E h U.heap ∧ j_K E U)
def j_Q (E : JE) (r : Option Value) (h1 : JH) : Array Value → State → Outcome → State → Prop := fun _ st oc t => (oc = .returned r ∧ j_R E h1 t.heap) ∧ va_F (j_A E) st t
/-- the contract: over the heap h with the arguments av the method answers r, and leaves the heap h1 -/
def Con (l : Launch) (E : JE) (d : Nat) (y : MethodName) (cc : ByteArray) (mL : Nat) (ret : Option FieldType) (av : List Value) (h : JH) (r : Option Value) (h1 : JH) : Prop :=
  Met l y (j_ws y cc mL ret) (j_rm d (h1.2.1.1 - h.2.1.1) (h1.2.1.2 - h.2.1.2)) (j_P E av h) (j_Q E r h1) (h1.2.1.1 - h.2.1.1) (h1.2.1.2 - h.2.1.2) (j_A E)
def j_C (p : Program) (s : State) (m : MethodId) (args : Array Value) (meth : Method) (c : Code) (R : Room) (E : JE) (cc : ByteArray) (nL : Nat) (own : String) (h0 hF : JH) (d : Nat) : Prop :=
  p.tables.exec = Jvm.exec ∧ c.code = cc ∧ c.maxLocals = nL ∧ s.vm.findClass own = some m.cls ∧ (∀ w ∈ j_tbl, w.before args s = true) ∧ j_K E s ∧ meth.locks = false ∧ (d ≤ R.frames ∧ 60 * d ≤ R.locals ∧ hF.2.1.1 - h0.2.1.1 ≤ R.cells ∧ hF.2.1.2 - h0.2.1.2 ≤ R.slots)
/-- the walk: at pc, with these locals, this stack, this heap, the machine comes to a state with Q -/
def Xq (p : Program) (l : Launch) (e : Env) (R : Room) (s : State) (m : MethodId) (args : Array Value) (below : List Frame) (meth : Method) (c : Code) (E : JE) (nL : Nat) (h0 : JH) (Q : State → Prop) (pc : Nat) (L : List (Nat × Value)) (st : List Value) (h : JH) : Prop :=
  ∀ (H : Heap) (locs : List Loc) (ls : Array Slot) (cells slots : Nat), lv_has ls nL L → j_R E h H → va_S (j_A E) s.heap H locs → cells + h0.2.1.1 = h.2.1.1 → slots + h0.2.1.2 = h.2.1.2 → cells ≤ R.cells → slots ≤ R.slots →
    W p l e R s m args below meth c H locs cells slots Q (F0 m pc ls st)
/-- the method comes to its end, answers rF and leaves hF -/
abbrev Xw (p : Program) (l : Launch) (e : Env) (R : Room) (s : State) (m : MethodId) (args : Array Value) (below : List Frame) (meth : Method) (c : Code) (E : JE) (nL : Nat) (h0 : JH) (rF : Option Value) (hF : JH) (pc : Nat) (L : List (Nat × Value)) (st : List Value) (h : JH) : Prop :=
  Xq p l e R s m args below meth c E nL h0 (MQ below (j_Q E rF hF) args s (hF.2.1.1 - h0.2.1.1) (hF.2.1.2 - h0.2.1.2) (j_A E)) pc L st h
theorem j_goodIn {ws : List Cond} {y : MethodName} {cc : ByteArray} {mL : Nat} {ret : Option FieldType} (hc : Cond.code y cc mL ret ∈ j_tbl) (hs : ∀ w ∈ j_tbl, w ∈ ws) : GoodIn ws (j_ws y cc mL ret) := by
  intro w hw
  have hg : ∀ w ∈ j_tbl, goodWord w = true := fun w h => (List.mem_filter.mp h).2
  rcases List.mem_cons.mp hw with rfl | h
  · exact ⟨hs _ hc, good_of_word (hg _ hc)⟩
  · exact ⟨hs _ h, good_of_word (hg _ h)⟩
theorem j_mem {w : Cond} (h : w ∈ lw_tbl) (g : goodWord w = true) : w ∈ j_tbl := List.mem_filter.mpr ⟨h, g⟩
theorem j_kinds {u U : State} (hvm : u.vm.Alike U.vm) {β : Type} (f : Class → β) (hf : ∀ k k' : Class, k'.kind = k.kind → f k' = f k) (c : ClassId) : (U.vm.classes[c]?).map f = (u.vm.classes[c]?).map f := by
  cases h : u.vm.classes[c]? with
  | none =>
    have h1 : ¬ c < u.vm.classes.size := fun g => by rw [Array.getElem?_eq_getElem g] at h; cases h
    have h2 : U.vm.classes[c]? = none := Array.getElem?_eq_none (by rw [hvm.2.1]; exact Nat.le_of_not_lt h1)
    rw [h2]
  | some k =>
    obtain ⟨k', g1, g2⟩ := hvm.2.2 c k h
    rw [g1, Option.map_some, Option.map_some, hf k k' (by rw [g2])]
theorem j_AOA {t : FieldType} {u U : State} (hvm : u.vm.Alike U.vm) (h : (Cond.arrayOver (.array t)).before #[] u = true) : (Cond.arrayOver (.array t)).before #[] U = true := by
  have e : (Cond.arrayOver (.array t)).value #[] U none U [] = (Cond.arrayOver (.array t)).value #[] u none u [] := by
    simp only [Cond.value, hvm.findClass]
    refine congrArg (Option.bind _) (funext fun comp => ?_)
    rw [hvm.findIdx?_eqK _ (fun _ => rfl)]
    refine congrArg (Option.bind _) (funext fun c => ?_)
    exact j_kinds hvm _ (fun k k' g => by simp only [g]) c
  have h' : ((Cond.arrayOver (.array t)).value #[] u none u [] == some true) = true := h
  rw [← e] at h'
  exact h'
theorem j_N.warm {s U : State} (hW : s.WarmedH U.vm) (h : j_N s) : j_N U :=
  ⟨fun a i x g q => (h.1 a i x g q).warmM hW, fun C q => (h.2.1 C q).moved hW.alike, fun t q => j_AOA hW.alike (h.2.2.1 t q), fun C T q => (h.2.2.2.1 C T q).warmC hW, fun x q => (h.2.2.2.2 x q).warmD hW⟩
theorem j_Z.warm {E : JE} {s U : State} (hW : s.WarmedH U.vm) (hb : E.2.2.1 ≤ s.heap.size) (hk : ∀ a : Nat, a < s.heap.size → ¬ j_A E a → U.heap[a]? = s.heap[a]?) (h : j_Z E s) : j_Z E U := by
  obtain ⟨⟨a1, a2, a3⟩, ⟨b1, b2, b3⟩, ⟨c1, c2, c3, c4, c5, c6⟩, d1, d2⟩ := h
  have z : ∀ {C n d : String} {v : Value}, va_Z C n d v (j_A E) s s.heap → va_Z C n d v (j_A E) U U.heap := fun h => (h.kept hk).moved hW.alike
  refine ⟨⟨z a1, z a2, z a3⟩, ⟨(b1.kept hk).moved hW.alike, z b2, ?_⟩, ⟨c1.warm hW, c2.warm hW, c3.warm hW, c4.warm hW, c5.warm hW, c6.warm hW⟩, (d1.kept hk).moved hW.alike, (d2.kept hk).moved hW.alike⟩
  rcases b3 with h | ⟨t, h⟩
  · exact Or.inl (z h)
  · exact Or.inr ⟨t, z h⟩
theorem j_K.warm {E : JE} {s U : State} {H : Heap} {locs : List Loc} (hS : va_S (j_A E) s.heap H locs) (hU : U.heap = H) (hW : s.WarmedH U.vm) (h : j_K E s) : j_K E U :=
  ⟨va_K.moved hW.alike h.1, Nat.le_trans h.2.1 (by rw [hU]; exact hS.1), h.2.2.1.warm hW h.2.1 (fun a h1 h2 => by rw [hU]; exact hS.2.1 a h1 h2), h.2.2.2.1.warm hW, fun a r hr => ⟨((h.2.2.2.2 a r hr).1.kept (by rw [hU]; exact hS.2.1 a (Nat.lt_of_lt_of_le (h.2.2.2.2 a r hr).2 h.2.1) (Nat.not_le.mpr (h.2.2.2.2 a r hr).2))).moved hW.alike, (h.2.2.2.2 a r hr).2⟩⟩
theorem j_at {w : Cond} (i : Nat) (h : tables_1[i]? = some w) (g : goodWord w = true) : w ∈ j_tbl := j_mem (List.mem_append_right _ (List.mem_of_getElem? h)) g
theorem j_ap {w : Cond} (i : Nat) (h : (k2_sels lw_privs)[i]? = some w) (g : goodWord w = true) : w ∈ j_tbl := j_mem (List.mem_append_left _ (List.mem_of_getElem? h)) g
theorem j_pl {ws : List Cond} (ps : List Nat) (hp : ws = ps.filterMap (fun i => tables_1[i]?)) (hg : ws.all goodWord = true) : ∀ w ∈ ws, w ∈ j_tbl := by
  intro w hw
  have h1 := List.all_eq_true.mp hg w hw
  rw [hp] at hw
  obtain ⟨i, -, hi⟩ := List.mem_filterMap.mp hw
  exact j_at i hi h1
