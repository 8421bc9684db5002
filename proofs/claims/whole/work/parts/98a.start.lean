/-! The start: from the Statement's premises to the pure functions. -/
/-! THE CLAIM OUT OF ONE WALK OF THE LAW'S BODY. Your part is whole_start (and what it stands on); all else here is the same for every law, but numbers. -/
def R_law : String := "HeckeSeriesLaw"
def lw_P (b : Addr) (xs : List Int32) (args : Array Value) (s : State) : Prop := args = #[.ref b] ∧ s.IntsAt b xs ∧ xs.length ≤ 3072 ∧ (Jvm.Cond.and given_1 narrow_1).before args s = true
/-- what a walk over the start with the record d0 says of its end, said of the start itself -/
theorem lw_closed {s t : State} {o : Outcome} {d0 : Drawn} {L : List Loc} {k n : Nat} (hd0 : s.drawn.sameBut d0 lw_cs) (hv : ∃ v, o = .returned v) (hW : (s.setDrawn d0).WarmedH t.vm) (hs : (s.setDrawn d0).sameButNew ({ t with vm := s.vm } : State) L k n) : State.butDraws s t lw_cs (fun t1 => Framed s o t1 L k n) := by
  have h2 : t.drawn = d0 := congrArg State.drawn hs.1
  refine ⟨⟨hv, hW, State.sameButNew.setDrawn hs s.drawn⟩, ?_, by decide⟩
  rw [h2]
  exact hd0
def lw_Q (_ : Array Value) (s : State) (o : Outcome) (t : State) : Prop := o = .returned (some (.int 1)) ∧ State.butDraws s t lw_cs (fun t1 => Framed s o t1 [] 601024 7293034)
def lw_Z (below : List Frame) (a : Array Value) (s : State) : State → Prop := fun t => ∃ o, t.status = .running ∧ Ended t below o ∧ lw_Q a s o t
/-- the law's own end, with 1 on the stack, nothing written that was there before, its room as the claim has it; d0: the record of draws at this point (at the entry s.drawn: begin with 'refine W.base ?_' and 'have hd0 := Drawn.sameBut.refl s.drawn lw_cs') -/
theorem lw_ret {p : Program} {l : Launch} {e : Env} {s : State} {m : MethodId} {below : List Frame} {meth : Method} {c : Code} {b : Nat} {d0 : Drawn} (hd0 : s.drawn.sameBut d0 lw_cs) (hx : p.tables.exec = Jvm.exec) (hb : c.code = code) (hr : meth.sig.returnType = ret) (hlocks : meth.locks = false) {pc : Nat} {H : Heap} {ls : Array Slot} (hdg : decode code pc = .ok (.ireturn, 1)) : W p l e room_1 (s.setDrawn d0) m #[Value.ref b] below meth c H [] 601024 7293034 (lw_Z below #[Value.ref b] s) (F0 m pc ls [.int 1]) := by
  intro T hT X
  obtain ⟨fs, hret, hrun, hended, hW, hframe⟩ := X.leave (v := some (.int 1)) (hlocks := hlocks) (fun h => by rw [hr] at h; cases h)
  have hmeth' : T.vm.method? m = some meth := X.method'
  refine ⟨T.setFrames fs, ?_, .returned (some (.int 1)), hrun, hended, rfl, lw_closed hd0 ⟨_, rfl⟩ hW hframe⟩
  jvm_step X.here [X.here.top, hx, hb, hdg, hmeth', hr, ret, narrow_b1]
  (try refine ⟨rfl, ?_⟩); (try refine ⟨rfl, ?_⟩)
  first | (intro acts; rw [hret _ acts rfl rfl rfl]) | rw [hret _ _ rfl rfl rfl]
  exact Steps.refl _
/-- what holds at the law's entry: the machine, the code, the tables' words (any of lw_tbl by 'hts w (by decide +kernel)'), the script of L ints xs at the cell b, what the Statement gives of the start (any of its parts by flat_of_before) -/
def lw_At (p : Program) (s : State) (m : MethodId) (meth : Method) (c : Code) (b L : Nat) (xs : Nat → Int32) : Prop :=
  p.tables.exec = Jvm.exec ∧ c.code = code ∧ meth.sig.returnType = ret ∧ c.maxLocals = 8 ∧ s.vm.findClass R_law = some m.cls ∧ (∀ w ∈ lw_tbl, w.before #[Value.ref b] s = true) ∧ va_X b L xs s s.heap ∧ b < s.heap.size ∧ meth.locks = false ∧ (Jvm.Cond.and given_1 narrow_1).before #[Value.ref b] s = true
theorem st_tys {s : State} {args : Array Value} (hts : ∀ w ∈ lw_tbl, w.before args s = true) : ∃ aid : FieldType → ClassId, ∀ t ∈ j_tys, ArrOfT s (aid t) t ∧ va_RA s (aid t) t := by
  have prim : ∀ t : FieldType, (Cond.arrayClass t).before args s = true → (∀ C, t ≠ .object C) → ∃ c, ArrOfT s c t ∧ va_RA s c t := by
    intro t h hne
    obtain ⟨c, k, comp, h1, h2, h3⟩ := Cond.arrayClass_spec (type := t) h
    refine ⟨c, fun n z => ⟨fun _ h => (by cases h), k, h2, comp, h3⟩, ?_⟩
    cases t with
    | object C => exact absurd rfl (hne C)
    | _ => exact h1
  have obj : ∀ C : String, (Cond.arrayOver (.object C)).before args s = true → ∃ c, ArrOfT s c (.object C) ∧ va_RA s c (.object C) := by
    intro C h
    obtain ⟨comp, c, k, h1, -, h2, h3, h4⟩ := Cond.arrayOver_spec h
    exact ⟨c, fun n z => ⟨fun _ h => (by cases h), k, h2, comp, h3⟩, k, comp, h2, h3, h1, h4⟩
  have arr : ∀ t : FieldType, (Cond.arrayOver (.array t)).before args s = true → ∃ c, ArrOfT s c (.array t) ∧ va_RA s c (.array t) := by
    intro t h
    have h' : (Cond.arrayOver (.array t)).value args s none s [] = some true := eq_of_beq h
    simp only [Cond.value] at h'
    obtain ⟨comp, -, h'⟩ := Option.bind_eq_some_iff.mp h'
    obtain ⟨c, -, h'⟩ := Option.bind_eq_some_iff.mp h'
    obtain ⟨k, h2, h'⟩ := Option.map_eq_some_iff.mp h'
    split at h'
    · rename_i d ty hk
      rw [Bool.and_eq_true] at h'
      have e1 : ty = .array t := of_decide_eq_true h'.1
      subst e1
      have e2 : s.vm.findClass ("[" ++ (FieldType.array t).toString) = some c := of_decide_eq_true h'.2
      exact ⟨c, fun n z => ⟨fun _ h => (by cases h), k, h2, d, hk⟩, e2⟩
    · cases h'
  have all : ∀ t : FieldType, ∃ c : ClassId, t ∈ j_tys → ArrOfT s c t ∧ va_RA s c t := by
    intro t
    by_cases ht : t ∈ j_tys
    · have : ∃ c : ClassId, ArrOfT s c t ∧ va_RA s c t := by
        simp only [j_tys, List.mem_cons, List.not_mem_nil, or_false] at ht
        rcases ht with rfl | rfl | rfl | rfl | rfl | rfl | rfl | rfl | rfl | rfl
        · exact prim _ (hts _ (by decide +kernel)) (fun C h => by cases h)
        · exact prim _ (hts _ (by decide +kernel)) (fun C h => by cases h)
        · exact prim _ (hts _ (by decide +kernel)) (fun C h => by cases h)
        · exact prim _ (hts _ (by decide +kernel)) (fun C h => by cases h)
        · exact arr _ (hts _ (by decide +kernel))
        · exact arr _ (hts _ (by decide +kernel))
        · exact obj _ (hts _ (by decide +kernel))
        · exact obj _ (hts _ (by decide +kernel))
        · exact obj _ (hts _ (by decide +kernel))
        · exact obj _ (hts _ (by decide +kernel))
      obtain ⟨c, hc⟩ := this
      exact ⟨c, fun _ => hc⟩
    · exact ⟨0, fun h => absurd h ht⟩
  obtain ⟨aid, h⟩ := Classical.axiomOfChoice all
  exact ⟨aid, fun t ht => h t ht⟩
theorem st_kn {s : State} {args : Array Value} (hts : ∀ w ∈ lw_tbl, w.before args s = true) : ∃ D : va_G, ∀ (c : Nat) (q : vw_C), vwCl[c]? = some q → u_Kn s q.1 q.2.1 q.2.2 (D.1 c) (D.2 c) := by
  have hj : ∀ w ∈ j_tbl, w.before args s = true := fun w hw => hts w (List.mem_filter.mp hw).1
  have all : ∀ c : Nat, ∃ x : ClassId × (Nat → Nat), ∀ q : vw_C, vwCl[c]? = some q → u_Kn s q.1 q.2.1 q.2.2 x.1 x.2 := by
    have one : ∀ {C : String} {T : u_T} {N n : Nat}, (∀ w ∈ u_ws C T N, w ∈ j_tbl) → Cond.instantiable C n ∈ lw_tbl → ∃ x : ClassId × (Nat → Nat), ∀ q : vw_C, some (C, T, N) = some q → u_Kn s q.1 q.2.1 q.2.2 x.1 x.2 := by
      intro C T N n h1 h2
      obtain ⟨cC, iS, h⟩ := u_known hj h1 (hts _ h2)
      exact ⟨(cC, iS), fun q hq => by cases hq; exact h⟩
    intro c
    match c with
    | 0 => exact one in_X0 (n := 11) (by decide +kernel)
    | 1 => exact one in_X2 (n := 2) (by decide +kernel)
    | 2 => exact one in_X3 (n := 3) (by decide +kernel)
    | 3 => exact one in_X5 (n := 6) (by decide +kernel)
    | 4 => exact one in_X6 (n := 3) (by decide +kernel)
    | 5 => exact one in_X7 (n := 8) (by decide +kernel)
    | 6 => exact one in_X8 (n := 1) (by decide +kernel)
    | 7 => exact one in_X9 (n := 4) (by decide +kernel)
    | 8 => exact one in_X11 (n := 13) (by decide +kernel)
    | 9 => exact one in_X12 (n := 51) (by decide +kernel)
    | c + 10 => exact ⟨(0, fun _ => 0), fun q hq => by simp [vwCl] at hq⟩
  obtain ⟨f, h⟩ := Classical.axiomOfChoice all
  exact ⟨(fun c => (f c).1, fun c => (f c).2), h⟩
/-- an array of ints that a static names, with its length and contents -/
theorem st_X {s : State} {args : Array Value} {tm : Term} {N : Nat} {f : Nat → Int32} (hN : N < 2 ^ 31) (harr : (Cond.arrayOf tm .int).before args s = true) (hlen : (Cond.eq (.length tm) (.int (Int32.ofNat N))).before args s = true) (hel : ∀ j : Nat, j < N → (Cond.eq (.elem tm (.int (Int32.ofNat j))) (.int (f j))).before args s = true) :
    ∃ t : Nat, tm.eval args s none [] s = some (.ref t) ∧ va_X t N f s s.heap ∧ t < s.heap.size := by
  have hv := va_eqt hlen
  obtain ⟨b, c, ht', harr', -⟩ := Term.length_spec hv
  have hsz : c.slots.size < 2 ^ 31 := by
    simp only [Term.eval, ht', harr', Option.bind_eq_bind, Option.bind_some] at hv
    by_cases hlt : c.slots.size < 2147483648
    · exact hlt
    · simp [hlt] at hv
  obtain ⟨hcell, -, -, -⟩ := State.arrayAt?_spec harr'
  obtain ⟨t, ht, cell, h1, h2, h3, h4, h5, h6, -⟩ := va_Tof (f := fun j => .int (f j)) (A := fun _ => False) hN harr (va_eqt hlen) (fun j hj => va_eqt (hel j hj)) (fun _ _ h => h)
  cases ht.symm.trans ht'
  cases h1.symm.trans hcell
  refine ⟨b, ht, ⟨c, h1, h2, h3, ?_, h6⟩, (Array.getElem?_eq_some_iff.mp h1).1⟩
  have e := congrArg Int32.toInt h5
  rw [Int32.toInt_ofNat_small hN] at e
  have e2 : c.slots.size.toInt32.toInt = c.slots.size := Int32.toInt_ofNat_small hsz
  rw [e2] at e
  exact Int.ofNat.inj e
def st_tm : Nat → Term := fun i => .string "HeckeSeries$Tokens" ([56, 62, 64, 66, 68, 70].getD i 0)
theorem st_S {s : State} {b : Nat} {A : Nat → Prop} (hg : ∀ c ∈ flatC (Jvm.Cond.and given_1 narrow_1), c.before #[Value.ref b] s = true) (hA : ∀ a : Nat, a < s.heap.size → ¬ A a) : ∃ adK adV : Nat → Nat, vk_S 6 j_lens j_byts adK adV A s s.heap ∧ ∀ i : Nat, i < 6 → (st_tm i).eval #[Value.ref b] s none [] s = some (.ref (adK i)) := by
  have six : ∀ i : Nat, i < 6 → i = 0 ∨ i = 1 ∨ i = 2 ∨ i = 3 ∨ i = 4 ∨ i = 5 := fun i h => by omega
  refine vk_Sof (tm := st_tm) ?_ ?_ ?_ ?_ ?_ ?_ ?_ hA
  · intro i hi
    rcases six i hi with rfl | rfl | rfl | rfl | rfl | rfl <;> decide
  · intro i hi
    rcases six i hi with rfl | rfl | rfl | rfl | rfl | rfl <;> exact hg _ (by decide +kernel)
  · intro i hi
    rcases six i hi with rfl | rfl | rfl | rfl | rfl | rfl <;> exact hg _ (by decide +kernel)
  · intro i hi
    rcases six i hi with rfl | rfl | rfl | rfl | rfl | rfl <;> exact hg _ (by decide +kernel)
  · intro i hi
    rcases six i hi with rfl | rfl | rfl | rfl | rfl | rfl <;> exact hg _ (by decide +kernel)
  · have aux : ∀ i : Nat, i < 6 → ∀ j : Nat, j < j_lens.getD i 0 → (Cond.eq (.elem (.field (st_tm i) "java/lang/String" "value" "[B") (.int (Int32.ofNat j))) (.int ((j_byts.getD i []).getD j 0))) ∈ flatC (Jvm.Cond.and given_1 narrow_1) := by decide +kernel
    exact fun i hi j hj => hg _ (aux i hi j hj)
  · have aux : ∀ i : Nat, i < 6 → ∀ j : Nat, j < 6 → i ≠ j → (Cond.not (Cond.eq (st_tm i) (st_tm j))) ∈ flatC (Jvm.Cond.and given_1 narrow_1) ∨ (Cond.not (Cond.eq (st_tm j) (st_tm i))) ∈ flatC (Jvm.Cond.and given_1 narrow_1) := by decide +kernel
    intro i j hi hj hn
    rcases aux i hi j hj hn with h | h
    · exact Or.inl (hg _ h)
    · exact Or.inr (hg _ h)
theorem st_ne {s : State} {a b N : Nat} {f g : Nat → Int32} (k : Nat) (hk : k < N) (h1 : va_X a N f s s.heap) (h2 : va_X b N g s s.heap) (h : f k ≠ g k) : a ≠ b := by
  rintro rfl
  obtain ⟨x, a1, -, -, -, a5⟩ := h1
  obtain ⟨y, b1, -, -, -, b5⟩ := h2
  cases a1.symm.trans b1
  exact h (Value.int.inj (Option.some.inj ((a5 k hk).symm.trans (b5 k hk))))
theorem whole_start_of (hp : LawPure) {p : Program} {e : Env} {s : State} {m : MethodId} {below : List Frame} {meth : Method} {c : Code} (l : Launch) (hflags : l.flags = flags0) {b L : Nat} {xs : Nat → Int32} (hL : L ≤ 3072) (C0 : lw_At p s m meth c b L xs) : W p l e room_1 s m #[Value.ref b] below meth c s.heap [] 0 0 (lw_Z below #[Value.ref b] s) (entryFrame m ([Value.ref b] : List Value).toArray 8) := by
  obtain ⟨hexec, hcode, hret, hml, hown, hts, hX, hbs, hlocks, hgv⟩ := C0
  have hg := flat_of_before _ hgv
  have hlt : ∀ a : Nat, a < s.heap.size → ¬ (fun q => s.heap.size ≤ q) a := fun a h => Nat.not_le.mpr h
  obtain ⟨aid, haid⟩ := st_tys hts
  obtain ⟨D, hD⟩ := st_kn hts
  obtain ⟨c0, hc0, hx0, hl0⟩ := st_X (N := 6) (f := k_four) (tm := .static "HeckeSeries$BookReader" "FOUR_HEAD" "[I") (by decide) (hg _ (by decide +kernel)) (hg _ (by decide +kernel)) (fun j hj => by
    have : j = 0 ∨ j = 1 ∨ j = 2 ∨ j = 3 ∨ j = 4 ∨ j = 5 := by omega
    rcases this with rfl | rfl | rfl | rfl | rfl | rfl <;> exact hg _ (by decide +kernel))
  obtain ⟨c1, hc1, hx1, hl1⟩ := st_X (N := 6) (f := k_six) (tm := .static "HeckeSeries$BookReader" "SIX_HEAD" "[I") (by decide) (hg _ (by decide +kernel)) (hg _ (by decide +kernel)) (fun j hj => by
    have : j = 0 ∨ j = 1 ∨ j = 2 ∨ j = 3 ∨ j = 4 ∨ j = 5 := by omega
    rcases this with rfl | rfl | rfl | rfl | rfl | rfl <;> exact hg _ (by decide +kernel))
  obtain ⟨c2, hc2, hx2, hl2⟩ := st_X (N := 6) (f := k_delta) (tm := .static "HeckeSeries$BookReader" "DELTA_HEAD" "[I") (by decide) (hg _ (by decide +kernel)) (hg _ (by decide +kernel)) (fun j hj => by
    have : j = 0 ∨ j = 1 ∨ j = 2 ∨ j = 3 ∨ j = 4 ∨ j = 5 := by omega
    rcases this with rfl | rfl | rfl | rfl | rfl | rfl <;> exact hg _ (by decide +kernel))
  obtain ⟨adK, adV, hS, hSe⟩ := st_S (s := s) (b := b) (A := fun q => s.heap.size ≤ q) hg hlt
  have n0 : b ≠ c0 := va_neR (t := .arg 0) (hg _ (by decide +kernel)) rfl hc0
  have n1 : b ≠ c1 := va_neR (t := .arg 0) (hg _ (by decide +kernel)) rfl hc1
  have n2 : b ≠ c2 := va_neR (t := .arg 0) (hg _ (by decide +kernel)) rfl hc2
  have n01 : c0 ≠ c1 := st_ne 1 (by decide) hx0 hx1 (by decide)
  have n02 : c0 ≠ c2 := st_ne 1 (by decide) hx0 hx2 (by decide)
  have n12 : c1 ≠ c2 := st_ne 1 (by decide) hx1 hx2 (by decide)
  let cst : Nat → Nat := fun i => if i = 0 then c0 else if i = 1 then c1 else if i = 2 then c2 else if i < 9 then adK (i - 3) else adV (i - 9)
  let ro : Nat → Option (Nat × (Nat → Int32)) := fun a => if a = b then some (L, xs) else if a = c0 then some (6, k_four) else if a = c1 then some (6, k_six) else if a = c2 then some (6, k_delta) else none
  let E : JE := (D, (aid, (s.heap.size, (cst, ro))))
  let h : JH := (fun a => (ro a).map (fun r => (.inr (.inr r) : JC)), ((s.heap.size, 0), cst))
  have hcK : ∀ i : Nat, i < 6 → cst (3 + i) = adK i := by
    intro i hi
    show (if 3 + i = 0 then c0 else if 3 + i = 1 then c1 else if 3 + i = 2 then c2 else if 3 + i < 9 then adK (3 + i - 3) else adV (3 + i - 9)) = adK i
    rw [if_neg (by omega), if_neg (by omega), if_neg (by omega), if_pos (by omega), Nat.add_sub_cancel_left]
  have hcV : ∀ i : Nat, i < 6 → cst (9 + i) = adV i := by
    intro i hi
    show (if 9 + i = 0 then c0 else if 9 + i = 1 then c1 else if 9 + i = 2 then c2 else if 9 + i < 9 then adK (9 + i - 3) else adV (9 + i - 9)) = adV i
    rw [if_neg (by omega), if_neg (by omega), if_neg (by omega), if_neg (by omega), Nat.add_sub_cancel_left]
  have hro : ∀ a r, ro a = some r → va_X a r.1 r.2 s s.heap ∧ a < s.heap.size := by
    intro a r hr
    simp only [ro] at hr
    by_cases e0 : a = b
    · rw [if_pos e0] at hr; cases hr; subst e0; exact ⟨hX, hbs⟩
    · rw [if_neg e0] at hr
      by_cases e1 : a = c0
      · rw [if_pos e1] at hr; cases hr; subst e1; exact ⟨hx0, hl0⟩
      · rw [if_neg e1] at hr
        by_cases e2 : a = c1
        · rw [if_pos e2] at hr; cases hr; subst e2; exact ⟨hx1, hl1⟩
        · rw [if_neg e2] at hr
          by_cases e3 : a = c2
          · rw [if_pos e3] at hr; cases hr; subst e3; exact ⟨hx2, hl2⟩
          · rw [if_neg e3] at hr; cases hr
  have hR : j_R E h s.heap := by
    refine ⟨fun a cc hc => ?_, rfl, rfl⟩
    obtain ⟨r, hr, rfl⟩ := Option.map_eq_some_iff.mp hc
    exact ⟨fun h => (by cases h), hr⟩
  have hj : ∀ w ∈ j_tbl, w.before #[Value.ref b] s = true := fun w hw => hts w (List.mem_filter.mp hw).1
  have hS' : vk_S 6 j_lens j_byts (fun i => cst (3 + i)) (fun i => cst (9 + i)) (j_A E) s s.heap := by
    refine ⟨fun i hi => ?_, fun i j hi hj e => hS.2 i j hi hj ?_⟩
    · show va_O "java/lang/String" (cst (3 + i)) (j_A E) s s.heap ∧ va_OF "java/lang/String" "coder" "B" (.int 0) (cst (3 + i)) (j_A E) s s.heap ∧ va_OF "java/lang/String" "value" "[B" (.ref (cst (9 + i))) (cst (3 + i)) (j_A E) s s.heap ∧ va_T .byte (cst (9 + i)) (j_lens.getD i 0) (fun j => .int ((j_byts.getD i []).getD j 0)) (j_A E) s s.heap
      rw [hcK i hi, hcV i hi]
      exact hS.1 i hi
    · have e' : cst (3 + i) = cst (3 + j) := e
      rw [hcK i hi, hcK j hj] at e'
      exact e'
  have hZ : j_Z E s := by
    refine ⟨⟨va_Zof (hts _ (by decide +kernel)) (hts _ (by decide +kernel)) hc0 hlt, va_Zof (hts _ (by decide +kernel)) (hts _ (by decide +kernel)) hc1 hlt, va_Zof (hts _ (by decide +kernel)) (hts _ (by decide +kernel)) hc2 hlt⟩, ⟨hS', va_Zof (hts _ (by decide +kernel)) (hts _ (by decide +kernel)) (va_eqt (hg _ (by decide +kernel))) hlt, va_Zqof (hts _ (by decide +kernel)) (hts _ (by decide +kernel)) (hg _ (by decide +kernel)) hlt⟩, ⟨?_, ?_, ?_, ?_, ?_, ?_⟩, vx_Zqof (hts _ (by decide +kernel)) (hts _ (by decide +kernel)) (hg _ (by decide +kernel)) hlt, vx_Zqof (hts _ (by decide +kernel)) (hts _ (by decide +kernel)) (hg _ (by decide +kernel)) hlt⟩
    · exact vk_R.of (hts _ (by decide +kernel)) ((hSe 0 (by decide)).trans (by rw [← hcK 0 (by decide)]))
    · exact vk_R.of (hts _ (by decide +kernel)) ((hSe 1 (by decide)).trans (by rw [← hcK 1 (by decide)]))
    · exact vk_R.of (hts _ (by decide +kernel)) ((hSe 2 (by decide)).trans (by rw [← hcK 2 (by decide)]))
    · exact vk_R.of (hts _ (by decide +kernel)) ((hSe 3 (by decide)).trans (by rw [← hcK 3 (by decide)]))
    · exact vk_R.of (hts _ (by decide +kernel)) ((hSe 4 (by decide)).trans (by rw [← hcK 4 (by decide)]))
    · exact vk_R.of (hts _ (by decide +kernel)) ((hSe 5 (by decide)).trans (by rw [← hcK 5 (by decide)]))
  have hN : j_N s := ⟨fun a i x g q => va_Nw.of rfl (hts _ q), fun C q => va_AO.of (hts _ q), fun t q => hts _ q, fun C T q => va_Nw.of rfl (hts _ q), fun x q => va_Nw.of rfl (hts _ q)⟩
  have hK : j_K E s := by
    refine ⟨⟨hD, fun k q hk => ?_⟩, Nat.le_refl _, hZ, hN, hro⟩
    obtain ⟨t, ht, rfl⟩ := List.mem_map.mp (List.mem_of_getElem? hk)
    exact haid t ht
  have hsz : ∀ i : Nat, i < 15 → cst i < s.heap.size := by
    intro i hi
    by_cases g0 : i < 3
    · have : i = 0 ∨ i = 1 ∨ i = 2 := by omega
      rcases this with rfl | rfl | rfl
      · exact hl0
      · exact hl1
      · exact hl2
    · by_cases g1 : i < 9
      · obtain ⟨cell, q1, -⟩ := (hS.1 (i - 3) (by omega)).1
        have e := hcK (i - 3) (by omega)
        rw [show 3 + (i - 3) = i by omega] at e
        rw [e]
        exact (Array.getElem?_eq_some_iff.mp q1).1
      · obtain ⟨cell, q1, -⟩ := (hS.1 (i - 9) (by omega)).2.2.2
        have e := hcV (i - 9) (by omega)
        rw [show 9 + (i - 9) = i by omega] at e
        rw [e]
        exact (Array.getElem?_eq_some_iff.mp q1).1
  obtain ⟨h1, hf, hm1, hm2⟩ := hp b L xs h hL rfl (by show (ro b).map _ = _; simp only [ro, if_true]; rfl)
    (by show (ro c0).map _ = _; simp only [ro]; rw [if_neg (Ne.symm n0), if_pos trivial]; rfl)
    (by show (ro c1).map _ = _; simp only [ro]; rw [if_neg (Ne.symm n1), if_neg (Ne.symm n01), if_pos trivial]; rfl)
    (by show (ro c2).map _ = _; simp only [ro]; rw [if_neg (Ne.symm n2), if_neg (Ne.symm n02), if_neg (Ne.symm n12), if_pos trivial]; rfl)
    (by
      intro a ha
      show (ro a).map _ = none
      cases hr : ro a with
      | none => rfl
      | some r => exact absurd (hro a r hr).2 (Nat.not_lt.mpr ha))
    (fun i j hi hj e => hS'.2 i j hi hj e) hsz
    (by
      intro a cc hc
      obtain ⟨r, hr, rfl⟩ := Option.map_eq_some_iff.mp hc
      rfl)
  have hm1' : h1.2.1.1 ≤ s.heap.size + 601024 := hm1
  have C : j_C p s m #[Value.ref b] meth c room_1 E cL_law 8 RL h h1 1400 := ⟨hexec, hcode, hml, hown, hj, hK, hlocks, by decide, by decide, by show h1.2.1.1 - s.heap.size ≤ 601024; omega, by show h1.2.1.2 - 0 ≤ 7293034; omega⟩
  have K := x_L_law (e := e) (below := below) hflags (q := (1, h1)) C hret (by decide) hf
  rw [lg_entry_eq]
  have K2 := K s.heap [] _ 0 0 (lv_entry [Value.ref b] (n := 8) (Nat.le_of_ble_eq_true rfl)) hR va_S.rf (Nat.zero_add _) (Nat.zero_add _) (Nat.zero_le _) (Nat.zero_le _)
  intro T hT X
  obtain ⟨t, st, o, hrun, hended, ⟨⟨ho, -⟩, -⟩, L', ⟨hv, hW, hsame⟩, hfree⟩ := K2 T hT X
  refine ⟨t, st, o, hrun, hended, ho, ?_⟩
  refine lw_closed (d0 := s.drawn) (Drawn.sameBut.refl s.drawn lw_cs) hv hW ?_
  have hd : s.sameButNew ({ t with vm := s.vm } : State) ([] ++ L') (h1.2.1.1 - s.heap.size) (h1.2.1.2 - 0) := hsame
  exact (State.sameButNew.drop_fresh hd hfree).mono (by omega) (by omega)
