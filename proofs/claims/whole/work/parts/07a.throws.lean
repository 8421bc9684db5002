/-! The law's two methods that catch. -/
def f_L_whole (a0 : Nat) (a1 : Int32) (a2 : Nat) (h : JH) : Option (Int32 × JH) :=
  (jrecv h a0 8).bind fun _ => (f_X11_whole a0 a1 h).bind fun q =>
  q.1.elim (some (1, q.2)) (fun v => (jsJ q.2 a2 0 v.toInt64).bind fun h2 => some (0, h2))
def f_L_row (a0 : Nat) (a1 a2 a3 : Int32) (a4 : Nat) (h : JH) : Option (Int32 × JH) :=
  (jrecv h a0 8).bind fun _ => (f_X11_row a0 a1 a2 a3 h).bind fun q =>
  q.1.elim (some (1, q.2)) (fun v => (jsJ q.2 a4 0 v).bind fun h2 => some (0, h2))
theorem n_L_whole {a0 : Nat} {a1 : Int32} {a2 : Nat} {h : JH} {q : Int32 × JH} (hf : f_L_whole a0 a1 a2 h = some q) : j_le h q.2 := by
  unfold f_L_whole at hf
  obtain ⟨_, -, hf⟩ := j_bind hf
  obtain ⟨q1, e1, hf⟩ := j_bind hf
  refine j_le_trans (n_X11_whole e1) ?_
  cases hq : q1.1 with
  | none => rw [hq] at hf; obtain rfl := j_inj (show some ((1 : Int32), q1.2) = some q from hf); exact j_le_refl _
  | some v =>
    rw [hq] at hf
    obtain ⟨h2, e2, hf⟩ := j_bind (show (jsJ q1.2 a2 0 v.toInt64).bind (fun h2 => some ((0 : Int32), h2)) = some q from hf)
    obtain rfl := j_inj hf
    exact j_le_of (jsJ_n e2)
theorem n_L_row {a0 : Nat} {a1 a2 a3 : Int32} {a4 : Nat} {h : JH} {q : Int32 × JH} (hf : f_L_row a0 a1 a2 a3 a4 h = some q) : j_le h q.2 := by
  unfold f_L_row at hf
  obtain ⟨_, -, hf⟩ := j_bind hf
  obtain ⟨q1, e1, hf⟩ := j_bind hf
  refine j_le_trans (n_X11_row e1) ?_
  cases hq : q1.1 with
  | none => rw [hq] at hf; obtain rfl := j_inj (show some ((1 : Int32), q1.2) = some q from hf); exact j_le_refl _
  | some v =>
    rw [hq] at hf
    obtain ⟨h2, e2, hf⟩ := j_bind (show (jsJ q1.2 a4 0 v).bind (fun h2 => some ((0 : Int32), h2)) = some q from hf)
    obtain rfl := j_inj hf
    exact j_le_of (jsJ_n e2)
abbrev j_nse : String := "java/util/NoSuchElementException"
abbrev j_ups : List String := ["java/lang/RuntimeException", "java/lang/Exception"]
theorem j_fl {l : Launch} (h : l.flags = flags0) : l.stackTraces = false := by
  unfold Launch.stackTraces
  rw [h]
  decide +kernel
/-- the words of the exception: good ones of the tables, or such as are kept by laws of their own -/
def j_cd (w : Cond) : Bool := match w with
  | .castable _ _ => true
  | .declares _ => true
  | _ => false
theorem j_at0_in : ∀ w ∈ vx_at0 RX11 170 j_nse j_ups, w ∈ lw_tbl ∧ (goodWord w || j_cd w) = true := by decide +kernel
theorem j_at0_ot : ∀ w ∈ Cond.classLink RX11 168 j_nse :: Cond.initialized j_nse :: vx_at0 RX11 170 j_nse j_ups, vx_ot w = true := by decide +kernel
theorem j_at0 {s : State} {args : Array Value} (hts : ∀ w ∈ j_tbl, w.before args s = true) (hN : j_N s) : ∀ w ∈ vx_at0 RX11 170 j_nse j_ups, w.before args s = true := by
  intro w hw
  obtain ⟨h1, h2⟩ := j_at0_in w hw
  rw [Bool.or_eq_true] at h2
  rcases h2 with h2 | h2
  · exact hts w (j_mem h1 h2)
  · cases w with
    | castable C T => exact va_Nw.use (A := args) rfl (hN.2.2.2.1 C T h1)
    | declares x => exact va_Nw.use (A := args) rfl (hN.2.2.2.2 x h1)
    | _ => cases h2
section JT
variable {p : Program} {l : Launch} {e : Env} {R : Room} {s : State} {m : MethodId} {args : Array Value} {below : List Frame} {meth : Method} {c : Code} {H : Heap} {locs : List Loc} {cells slots : Nat} {rest : List Value} {Qc : Array Value → State → Outcome → State → Prop} {XC : String → State → State → Prop} {free : Addr → Prop} {ls : Array Slot}
/-- 'throw new E()', as the kit's row vx_throw0, with the heap's size told -/
theorem j_throw0 {cc : ByteArray} {pc : Nat} (hexec : p.tables.exec = Jvm.exec) (hb : c.code = cc) (hl : l.stackTraces = false) {own cls : String} {names : List String} {ik ic mc ms : Nat} {A : Nat → Prop}
    (hown : s.vm.findClass own = some m.cls) (hcls : Bundle.fit cls = true) (hnames : ∀ n ∈ names, Bundle.fit n = true)
    (hk : (Cond.classLink own ik cls).before args s = true) (hini : (Cond.initialized cls).before args s = true) (hat : ∀ w ∈ vx_at0 own ic cls names, w.before args s = true)
    (hgood : ∀ w ∈ Cond.classLink own ik cls :: Cond.initialized cls :: vx_at0 own ic cls names, vx_ot w = true)
    (hU : vx_Zq Bundle.tN "UNASSIGNED_STACK" Bundle.steD A s s.heap) (hN : vx_Zq Bundle.tN "SUPPRESSED_SENTINEL" Bundle.listD A s s.heap) (hS : va_S A s.heap H locs) (hsize : ls.size = c.maxLocals)
    (d0 : decode cc pc = .ok (.new ik, 3)) (d3 : decode cc (pc + 3) = .ok (.dup, 1)) (d4 : decode cc (pc + 4) = .ok (.invokespecial ic, 3)) (d7 : decode cc (pc + 7) = .ok (.athrow, 1))
    (hout : ∀ x ∈ c.exceptionTable.toList, covers x (pc + 7) = false)
    (hRframes : names.length + 3 < R.frames) (hRlocals : (rest.map fun v => v.category).sum + (13 * (names.length + 1) + 42) ≤ R.locals) (hRcells : cells + 1 ≤ R.cells) (hRslots : slots + 6 ≤ R.slots) (hlocks : meth.locks = false)
    (hx : ∀ t : State, s.vm.Alike t.vm → t.heap.size = H.size + 1 → (∀ q : Nat, q < H.size → t.heap[q]? = H[q]?) → XC cls s t)
    (hf : ∀ z ∈ locs, free z.base) (hc : cells + 1 ≤ mc) (hs : slots + 6 ≤ ms) :
    W p l e R s m args below meth c H locs cells slots (vx_MQ below Qc XC args s mc ms free) (F0 m pc ls rest) := by
  intro T hT X
  have htr : e.platform.stackTraces = false := (show e.platform.stackTraces = l.stackTraces by rw [X.admits.platform]).trans hl
  have Y := vx_rebase X (R' := { frames := R.frames, locals := R.locals, cells := 1, slots := 6 }) (Nat.le_refl _) (Nat.le_refl _) hRcells hRslots
  obtain ⟨s', hA⟩ : ∃ z, z = (T.setVm s.vm).setFrames (.invoking m args :: below) := ⟨_, rfl⟩
  rw [← hA] at Y
  have hvm : s'.vm = s.vm := by rw [hA]; rfl
  have hhp : s'.heap = H := by rw [hA]; exact hT
  have hW0 : s.WarmedH s'.vm := by rw [hvm]; exact State.WarmedH.refl s
  have hat' : ∀ w ∈ vx_at0 own ic cls names, w.before args s' = true := fun w hw => vx_ot_at hW0 hvm.symm (hgood w (List.mem_cons_of_mem _ (List.mem_cons_of_mem _ hw))) (hat w hw)
  have hk' : (Cond.classLink own ik cls).before args s' = true := vx_ot_at hW0 hvm.symm (hgood _ List.mem_cons_self) hk
  have hini' : (Cond.initialized cls).before args s' = true := vx_ot_at hW0 hvm.symm (hgood _ (List.mem_cons_of_mem _ List.mem_cons_self)) hini
  have hU' : vx_Zq Bundle.tN "UNASSIGNED_STACK" Bundle.steD A s' s'.heap := by rw [hhp]; exact vx_Zq.moved hW0.alike (hU.kept hS.2.1)
  have hN' : vx_Zq Bundle.tN "SUPPRESSED_SENTINEL" Bundle.listD A s' s'.heap := by rw [hhp]; exact vx_Zq.moved hW0.alike (hN.kept hS.2.1)
  have h : ∀ w ∈ Bundle.ownAtoms0 own ic cls names, w.before args s' = true := vx_own hat' (vx_isRefq hU'.1) (vx_isRefq hN'.1) hU'.2.word hN'.2.word
  have hown' : s'.vm.findClass own = some m.cls := by rw [hvm]; exact hown
  have hins : (Cond.instantiable cls 6).before args s' = true := h _ (by simp [Bundle.ownAtoms0])
  obtain ⟨vm₁, cX, kX, hfX, hkX, -, -, X₁, st1⟩ := Y.newCold hexec (own := own) (C := cls) (index := ik) (n := 6) hown' hk' hins hini'
    (g := F0 m pc ls rest) rfl (by rw [hb]; exact d0) (Nat.le_refl _) (Nat.le_refl _)
  generalize hT1 : (T.setVm vm₁).pushCell { cls := cX, slots := kX.instanceTypes.map defaultValue, vm := .none } = T1 at X₁ st1
  have hcat : (Value.ref T.heap.size).category = 1 := rfl
  have hcellA : T1.heap[T.heap.size]? = some (freshCell cX kX) := by rw [← hT1]; exact State.heap_pushCell_size _ _
  have d3' : decode c.code (pc + 3) = .ok (.dup, 1) := by rw [hb]; exact d3
  obtain ⟨U, hsteps, hrun, hend, hW, hsame, ce, hce, hO⟩ := X₁.ctorThrow0 hexec htr (own := own) (cls := cls) (names := names) (ic := ic) hown' hcls hnames h (fun x hx => nomatch hx) hfX hkX hcellA (by rw [hhp, hT]; exact Nat.le_refl _)
    (g := { method := m, pc := pc + 4, locals := ls, stack := .ref T.heap.size :: .ref T.heap.size :: rest, locked := none }) rfl hsize rfl rfl (rest := rest) rfl
    (by rw [hb]; exact d4) (by rw [hb]; exact d7) hout hRframes (by simp only [List.map_cons, List.sum_cons, hcat]; omega) hlocks
  obtain ⟨f1, f2⟩ := vx_frame hsame
  rw [hhp] at f1 f2
  have hup : U.heap.size ≤ H.size + 1 := by
    have h9 := hsame.2.2.1
    rw [hhp] at h9
    exact h9
  have hlo : T.heap.size < U.heap.size := (Array.getElem?_eq_some_iff.mp hce).1
  have hWs : s.WarmedH U.vm := State.WarmedH.trans hW0 hW
  have hcl : s.vm.findClass cls = some ce.cls := by
    have h9 := hO.cls
    rw [hvm] at h9
    exact h9
  have hall : s.sameButNew ({ U with vm := s.vm } : State) locs mc ms := by
    subst hA
    obtain ⟨e1, e2⟩ := hsame
    rw [State.setFrames_setFrames] at e1
    have h2 : (T.setVm s.vm).sameButNew ({ U with vm := s.vm } : State) [] (0 + 1) (0 + 6) := ⟨e1, e2⟩
    have h3 := X.same.trans h2
    rw [List.append_nil] at h3
    exact h3.mono hc hs
  refine ⟨U, ?_, .threw T.heap.size, hrun, hend, Or.inr ⟨T.heap.size, rfl, cls, ce, locs, hx U hWs.alike (by rw [hT] at hlo; omega) (fun q hq => f2 q hq (fun z hz => nomatch hz)), hce, hO.vm, hcl, hWs, hall, hf⟩⟩
  refine st1 _ ?_
  show Steps p.tables e below (T1.setTop { method := m, pc := pc + 3, locals := ls, stack := .ref T.heap.size :: rest, locked := none }) _
  jvm_step X₁.here [X₁.here.top, hexec, d3', Value.category]
  exact hsteps
end JT
/-- the heap behind the exception -/
theorem j_R.exc {E : JE} {h : JH} {H H1 : Heap} (hR : j_R E h H) (z : H1.size = H.size + 1) (oq : ∀ q : Nat, q < H.size → H1[q]? = H[q]?) : j_R E (jexc h) H1 :=
  ⟨fun a x hx => ⟨fun r => ((hR.1 a x hx).1 r).kept (oq a (((hR.1 a x hx).1 r).lt)), (hR.1 a x hx).2⟩, by rw [z, hR.2.1]; rfl, hR.2.2⟩
def j_XC (E : JE) (h1 : JH) : String → State → State → Prop := fun C st t => C = j_nse ∧ j_R E h1 t.heap ∧ va_F (j_A E) st t
/-- the contract of a method that throws -/
def ConX (l : Launch) (E : JE) (d : Nat) (y : MethodName) (cc : ByteArray) (mL : Nat) (ret : Option FieldType) (av : List Value) (h h1 : JH) : Prop :=
  vx_Met l y (j_ws y cc mL ret) (j_rm d (h1.2.1.1 - h.2.1.1) (h1.2.1.2 - h.2.1.2)) (j_P E av h) (fun _ _ _ _ => False) (j_XC E h1) (h1.2.1.1 - h.2.1.1) (h1.2.1.2 - h.2.1.2) (j_A E)
theorem j_startX {l : Launch} {E : JE} {d nL : Nat} {y : MethodName} {cc : ByteArray} {ret : Option FieldType} {av : List Value} {h0 hF : JH} (hy : plainName y.cls = true) (hav : (lg_sl av).length ≤ nL)
    (body : ∀ (p : Program) (e : Env) (s : State) (m : MethodId) (args : Array Value) (below : List Frame) (meth : Method) (c : Code), j_C p s m args meth c (j_rm d (hF.2.1.1 - h0.2.1.1) (hF.2.1.2 - h0.2.1.2)) E cc nL y.cls h0 hF d → (∀ x ∈ c.exceptionTable.toList, False) →
      Xq p l e (j_rm d (hF.2.1.1 - h0.2.1.1) (hF.2.1.2 - h0.2.1.2)) s m args below meth c E nL h0 (vx_MQ below (fun _ _ _ _ => False) (j_XC E hF) args s (hF.2.1.1 - h0.2.1.1) (hF.2.1.2 - h0.2.1.2) (j_A E)) 0 (lv_args 0 av) [] h0) : ConX l E d y cc nL ret av h0 hF := by
  refine vx_ofW (cc := cc) (maxL := nL) (ret := ret) hy rfl ?_
  intro p e s m args below meth c s₁ B hml htab hv
  obtain ⟨rfl, hR, hK⟩ := hv
  have hts := atoms_spec (ws := j_ws y cc nL ret) B.pre
  have hl := lv_entry av (n := nL) hav
  rw [lg_entry_eq]
  exact body p e s m av.toArray below meth c ⟨B.exec, B.bytes, hml, findClass_of_methodNamed B.named, fun w hw => hts w (List.mem_cons_of_mem _ hw), hK, B.notSynchronized, Nat.le_refl _, Nat.le_refl _, Nat.le_refl _, Nat.le_refl _⟩ htab s.heap [] _ 0 0 hl hR va_S.rf (by omega) (by omega) (Nat.zero_le _) (Nat.zero_le _)
/-- the two throwing methods, where they throw -/
theorem j_thrown {p : Program} {l : Launch} {e : Env} {R : Room} {s : State} {m : MethodId} {args : Array Value} {below : List Frame} {meth : Method} {c : Code} {E : JE} {cc : ByteArray} {nL : Nat} {h0 h : JH} {d pc : Nat} {L : List (Nat × Value)} (hfl : l.flags = flags0) (C : j_C p s m args meth c R E cc nL RX11 h0 (jexc h) d) (htab : ∀ x ∈ c.exceptionTable.toList, False) (hdd : 10 ≤ d)
    (d0 : decode cc pc = .ok (.new 168, 3)) (d3 : decode cc (pc + 3) = .ok (.dup, 1)) (d4 : decode cc (pc + 4) = .ok (.invokespecial 170, 3)) (d7 : decode cc (pc + 7) = .ok (.athrow, 1)) :
    Xq p l e R s m args below meth c E nL h0 (vx_MQ below (fun _ _ _ _ => False) (j_XC E (jexc h)) args s ((jexc h).2.1.1 - h0.2.1.1) ((jexc h).2.1.2 - h0.2.1.2) (j_A E)) pc L [] h := by
  intro H locs ls cells slots hl hR hS hc hs hcl hsl
  have hts := C.2.2.2.2.1
  have hK := C.2.2.2.2.2.1
  have hRm := C.2.2.2.2.2.2.2
  have e1 : (jexc h).2.1.1 = h.2.1.1 + 1 := rfl
  have e2 : (jexc h).2.1.2 = h.2.1.2 + 6 := rfl
  refine j_throw0 (cls := j_nse) (names := j_ups) C.1 C.2.1 (j_fl hfl) C.2.2.2.1 (by decide +kernel) (by decide +kernel) (hts _ (j_mem (by decide +kernel) rfl)) (hts _ (j_mem (by decide +kernel) rfl)) (j_at0 hts hK.2.2.2.1) j_at0_ot hK.2.2.1.2.2.2.1 hK.2.2.1.2.2.2.2 hS (by rw [hl.1, C.2.2.1]) d0 d3 d4 d7 (fun x hx => (htab x hx).elim)
    (by have := hRm.1; show 2 + 3 < R.frames; omega) (by have := hRm.2.1; show 0 + (13 * (2 + 1) + 42) ≤ R.locals; omega) (by have := hRm.2.2.1; omega) (by have := hRm.2.2.2; omega) C.2.2.2.2.2.2.1 (fun t hvm hz hq => ⟨rfl, hR.exc hz hq, ⟨Nat.le_trans hS.1 (by omega), fun q g1 g2 => by rw [hq q (Nat.lt_of_lt_of_le g1 hS.1)]; exact hS.2.1 q g1 g2⟩⟩) hS.2.2 (by omega) (by omega)
theorem mt_X11_whole {l : Launch} {E : JE} {d : Nat} (hfl : l.flags = flags0) (hdd : 10 ≤ d) {a0 : Nat} {a1 : Int32} {h h1 : JH} (hf : f_X11_whole a0 a1 h = some (none, h1)) : ConX l E d yX11_whole cX11_whole 2 (some .int) [.ref a0, .int a1] h h1 := by
  refine j_startX rfl (Nat.le_of_ble_eq_true rfl) ?_
  intro p e s m args below meth c C htab
  refine v_X11_whole (q := (none, h1)) C (by omega) hf (fun _ _ _ _ _ q => by cases q) (fun L h2 q => ?_)
  have hq : h1 = jexc h2 := congrArg Prod.snd q
  subst hq
  exact j_thrown hfl C htab hdd dX11_whole_7 dX11_whole_10 dX11_whole_11 dX11_whole_14
theorem mt_X11_row {l : Launch} {E : JE} {d : Nat} (hfl : l.flags = flags0) (hdd : 12 ≤ d) {a0 : Nat} {a1 a2 a3 : Int32} {h h1 : JH} (hf : f_X11_row a0 a1 a2 a3 h = some (none, h1)) : ConX l E d yX11_row cX11_row 4 (some .long) [.ref a0, .int a1, .int a2, .int a3] h h1 := by
  refine j_startX rfl (Nat.le_of_ble_eq_true rfl) ?_
  intro p e s m args below meth c C htab
  refine v_X11_row (q := (none, h1)) C (by omega) hf (fun _ _ _ _ _ q => by cases q) (fun L h2 q => ?_)
  have hq : h1 = jexc h2 := congrArg Prod.snd q
  subst hq
  exact j_thrown hfl C htab (by omega) dX11_row_39 dX11_row_42 dX11_row_43 dX11_row_46
theorem m_X11_whole {l : Launch} {E : JE} {d : Nat} (hdd : 12 ≤ d) {a0 : Nat} {a1 v : Int32} {h h1 : JH} (hf : f_X11_whole a0 a1 h = some (some v, h1)) : Con l E d yX11_whole cX11_whole 2 (some .int) [.ref a0, .int a1] h (some (.int v)) h1 := by
  refine j_start rfl (Nat.le_of_ble_eq_true rfl) ?_
  intro p e s m args below meth c C hret hnm
  refine v_X11_whole (q := (some v, h1)) C (by omega) hf (fun pc L v2 h2 d9 q => ?_) (fun L h2 q => by cases q)
  cases q
  exact x_iret C hret d9
theorem m_X11_row {l : Launch} {E : JE} {d : Nat} (hdd : 12 ≤ d) {a0 : Nat} {a1 a2 a3 : Int32} {v : Int64} {h h1 : JH} (hf : f_X11_row a0 a1 a2 a3 h = some (some v, h1)) : Con l E d yX11_row cX11_row 4 (some .long) [.ref a0, .int a1, .int a2, .int a3] h (some (.long v)) h1 := by
  refine j_start rfl (Nat.le_of_ble_eq_true rfl) ?_
  intro p e s m args below meth c C hret hnm
  refine v_X11_row (q := (some v, h1)) C (by omega) hf (fun pc L v2 h2 d9 q => ?_) (fun L h2 q => by cases q)
  cases q
  exact x_lret C hret d9
theorem j_startW {l : Launch} {E : JE} {d nL : Nat} {y : MethodName} {cc : ByteArray} {ret : Option FieldType} {hh : List (Nat × Nat × Nat × Nat)} {av : List Value} {h0 hF : JH} {rF : Option Value} (hy : plainName y.cls = true) (hav : (lg_sl av).length ≤ nL)
    (body : ∀ (p : Program) (e : Env) (s : State) (m : MethodId) (args : Array Value) (below : List Frame) (meth : Method) (c : Code), j_C p s m args meth c (j_rm d (hF.2.1.1 - h0.2.1.1) (hF.2.1.2 - h0.2.1.2)) E cc nL y.cls h0 hF d → c.exceptionTable.toList.map (fun h => (h.startPc, h.endPc, h.handlerPc, h.catchType)) = hh → meth.sig.returnType = ret →
      Xw p l e (j_rm d (hF.2.1.1 - h0.2.1.1) (hF.2.1.2 - h0.2.1.2)) s m args below meth c E nL h0 rF hF 0 (lv_args 0 av) [] h0) : ConW l E d y cc nL ret hh av h0 rF hF := by
  refine va_MetW (cc := cc) (maxL := nL) (ret := ret) (hh := hh) hy rfl ?_
  intro p e s m args below meth c s₁ B hml hv
  obtain ⟨rfl, hR, hK⟩ := hv
  have hts := atoms_spec (ws := .codeWith y cc nL ret hh :: j_tbl) B.pre
  obtain ⟨m9, meth9, c9, n1, n2, n3, -, -, htab, -, -, -⟩ := Cond.codeWith_spec (hts _ List.mem_cons_self)
  have en : m9 = m := Option.some.inj (n1.symm.trans B.named)
  subst en
  have em : meth9 = meth := Option.some.inj (n2.symm.trans B.method)
  subst em
  have ec : c9 = c := Option.some.inj (n3.symm.trans (Stand.of_body B).code)
  subst ec
  have hl := lv_entry av (n := nL) hav
  rw [lg_entry_eq]
  exact body p e s m9 av.toArray below meth9 c9 ⟨B.exec, B.bytes, hml, findClass_of_methodNamed B.named, fun w hw => hts w (List.mem_cons_of_mem _ hw), hK, B.notSynchronized, Nat.le_refl _, Nat.le_refl _, Nat.le_refl _, Nat.le_refl _⟩ htab B.returns s.heap [] _ 0 0 hl hR va_S.rf (by omega) (by omega) (Nat.zero_le _) (Nat.zero_le _)
/-- a call that throws, and the handler behind it -/
theorem x_callVX {p : Program} {l : Launch} {e : Env} {R : Room} {s : State} {m : MethodId} {args : Array Value} {below : List Frame} {meth : Method} {c : Code} {E : JE} {cc : ByteArray} {nL : Nat} {own : String} {h0 hF h : JH} {Q : State → Prop} {d pc : Nat} {L : List (Nat × Value)} (C : j_C p s m args meth c R E cc nL own h0 hF d) {idx n d1 mL : Nat} {y : MethodName} {cy : ByteArray} {rt : Option FieldType} {As rest : List Value} {b ci : Nat} {h1 : JH} {s1 s2 s3 s4 : Nat}
    (hd : decode cc pc = .ok (.invokevirtual idx, 3)) (hcon : ConX l E d1 y cy mL rt (.ref b :: As) h h1) (hm : j_m y cy mL rt n) (hlk : Cond.methodLink own idx y ∈ j_tbl) (hk9 : Cond.instanceMethod y ∈ j_tbl ∧ Cond.selects y.cls y y ∈ j_tbl) (hcn : jcn ci = y.cls) (hrecv : jrecv h b ci = some ()) (hn : As.length = n) (hdd : d1 + 1 ≤ d) (hrest : (rest.map fun v => v.category).sum ≤ 8) (hle : j_le h h1) (hle2 : j_le h1 hF)
    (htab : c.exceptionTable.toList.map (fun h => (h.startPc, h.endPc, h.handlerPc, h.catchType)) = [(s1, s2, s3, s4)]) (hcov : s1 ≤ pc ∧ pc < s2) (h40 : s4 ≠ 0) (hcl4 : Cond.classLink own s4 j_nse ∈ j_tbl) (hcast : Cond.castable j_nse j_nse ∈ lw_tbl)
    (k : ∀ q9 : Nat, Xq p l e R s m args below meth c E nL h0 Q s3 L [.ref q9] h1) : Xq p l e R s m args below meth c E nL h0 Q pc L (As.reverse ++ .ref b :: rest) h := by
  intro H locs ls cells slots hl hR hS hc hs hcl hsl
  have hts := C.2.2.2.2.1
  have hRm := C.2.2.2.2.2.2.2
  obtain ⟨fs9, g9⟩ := jrecv_some hrecv
  have hcell : ∃ cell : Cell, H[b]? = some cell ∧ cell.vm.isStatics = false ∧ s.vm.findClass y.cls = some cell.cls := by
    obtain ⟨hat9, -⟩ := hR.1 b _ g9
    obtain ⟨r9, hr9, -⟩ := hat9 rfl
    have hr9' : vwCl[ci]? = some r9 := hr9
    have e9 : jcn ci = r9.1 := by unfold jcn; rw [hr9']
    rw [← hcn, e9]
    exact va_recv C.2.2.2.2.2.1.1 (hR.at g9) hr9' (q0 := 0) rfl
  have hroom : (j_rm d1 (h1.2.1.1 - h.2.1.1) (h1.2.1.2 - h.2.1.2)).frames + 1 ≤ R.frames ∧ 8 + (mL + 11) + (j_rm d1 (h1.2.1.1 - h.2.1.1) (h1.2.1.2 - h.2.1.2)).locals ≤ R.locals := by
    have := hm.2.2.1
    have := hRm.2.1
    exact ⟨Nat.le_trans hdd hRm.1, by show 8 + (mL + 11) + 60 * d1 ≤ R.locals; omega⟩
  have hfit : cells + (h1.2.1.1 - h.2.1.1) ≤ R.cells ∧ slots + (h1.2.1.2 - h.2.1.2) ≤ R.slots := by
    have := hRm.2.2.1
    have := hRm.2.2.2
    have := hle.1
    have := hle.2
    have := hle2.1
    have := hle2.2
    exact ⟨by omega, by omega⟩
  have hrun := vx_runV (p := p) (e := e) (below := below) (meth := meth) (locs := locs) (cells := cells) (slots := slots) (g := F0 m pc ls (As.reverse ++ .ref b :: rest)) (As := As) (rest := rest) (n := n) ⟨C.1, C.2.1, C.2.2.1, C.2.2.2.1, hts⟩ hcon ⟨callB_of n hts (j_goodIn hm.1 (fun _ q => q)) rfl rfl rfl (hts _ hm.2.1) (hts _ hlk) ⟨hm.2.2.2.1, hm.2.2.2.2.1, hm.2.2.2.2.2⟩ hroom, hts _ hk9.1, hts _ hk9.2⟩ ⟨j_blind E _ h, hcell, fun U hU hW => ⟨rfl, by rw [hU]; exact hR, C.2.2.2.2.2.1.warm hS hU hW⟩⟩ rfl hn hl.1 rfl (lv_room hrest) hd hfit
  obtain ⟨x, hx1, hx2⟩ := List.map_eq_singleton_iff.mp htab
  have y1 : x.startPc = s1 := congrArg (fun q => q.1) hx2
  have y2 : x.endPc = s2 := congrArg (fun q => q.2.1) hx2
  have y3 : x.handlerPc = s3 := congrArg (fun q => q.2.2.1) hx2
  have y4 : x.catchType = s4 := congrArg (fun q => q.2.2.2) hx2
  intro T hT X
  rcases hrun T hT X with ⟨v, st₀, t, T', L9, z0, X', hL, e1, e2, hq, -⟩ | ⟨q9, st₀, t, T', L9, E9, ce, z0, X', hL, e1, e2, ⟨rfl, hRt, hFt⟩, hce, hv, hcl9, hst⟩
  · exact hq.elim
  · have hz := hFt.1
    have hk := hFt.2
    rw [z0] at hz hk
    have hS1 : va_S (j_A E) s.heap T'.heap (locs ++ L9) := ⟨Nat.le_trans hS.1 (by rw [e1]; exact hz), fun q g1 g2 => by rw [e1, hk q (Nat.lt_of_lt_of_le g1 hS.1) g2]; exact hS.2.1 q g1 g2, fun q hq => by
      rcases List.mem_append.mp hq with h | h
      · exact hS.2.2 q h
      · exact hL q h⟩
    have kk := k q9 T'.heap (locs ++ L9) ls (cells + (h1.2.1.1 - h.2.1.1)) (slots + (h1.2.1.2 - h.2.1.2)) hl (by rw [e1]; exact hRt) hS1 (by have := hle.1; omega) (by have := hle.2; omega) hfit.1 hfit.2
    rw [← y3] at kk
    obtain ⟨t2, a1, b1⟩ := vx_catch (E := j_nse) (name := j_nse) (pc := pc) (ls := ls) (rest := rest) C.2.2.2.1 [] x [] hx1 (fun z hz => nomatch hz) (by simp [covers, y1, y2, hcov.1, hcov.2]) (by rw [y4]; exact h40) (by rw [y4]; exact hts _ hcl4) (va_Nw.use (A := args) rfl (C.2.2.2.2.2.1.2.2.2.1.2.2.2.1 _ _ hcast)) (by rw [e1]; exact hce) hv hcl9 kk T' rfl X'
    exact ⟨t2, hst.trans a1, b1⟩
theorem lk_L_7 : Cond.methodLink RL 7 yX11_whole ∈ j_tbl := (j_mem (by decide +kernel) rfl)
theorem lk_L_15 : Cond.methodLink RL 15 yX11_row ∈ j_tbl := (j_mem (by decide +kernel) rfl)
theorem km_X11_whole : j_m yX11_whole cX11_whole 2 (some .int) 1 := ⟨(j_mem (by decide +kernel) rfl), (j_mem (by decide +kernel) rfl), by decide, by decide +kernel, by decide +kernel, by decide +kernel⟩
theorem km_X11_row : j_m yX11_row cX11_row 4 (some .long) 3 := ⟨(j_mem (by decide +kernel) rfl), (j_mem (by decide +kernel) rfl), by decide, by decide +kernel, by decide +kernel, by decide +kernel⟩
theorem kv_X11_whole : Cond.instanceMethod yX11_whole ∈ j_tbl ∧ Cond.selects yX11_whole.cls yX11_whole yX11_whole ∈ j_tbl := ⟨(j_mem (by decide +kernel) rfl), (j_mem (by decide +kernel) rfl)⟩
theorem kv_X11_row : Cond.instanceMethod yX11_row ∈ j_tbl ∧ Cond.selects yX11_row.cls yX11_row yX11_row ∈ j_tbl := ⟨(j_mem (by decide +kernel) rfl), (j_mem (by decide +kernel) rfl)⟩
theorem j_cast1 : Cond.castable j_nse j_nse ∈ lw_tbl := by decide +kernel
theorem j_cl13 : Cond.classLink RL 13 j_nse ∈ j_tbl := j_mem (by decide +kernel) rfl
set_option maxHeartbeats 4000000 in
set_option maxRecDepth 100000 in
theorem m_L_whole {l : Launch} {E : JE} {d : Nat} (hfl : l.flags = flags0) (hdd : 20 ≤ d) {a0 : Nat} {a1 : Int32} {a2 : Nat} {h : JH} {q : Int32 × JH} (hf : f_L_whole a0 a1 a2 h = some q) : ConW l E d yL_whole cL_whole 4 (some .int) [(0, 9, 12, 13)] [.ref a0, .int a1, .ref a2] h (some (.int q.1)) q.2 := by
  refine j_startW rfl (Nat.le_of_ble_eq_true rfl) ?_
  intro p e s m args below meth c C htab hret
  refine x_loc [(0, .ref a0), (1, .int a1), (2, .ref a2)] rfl ?_
  unfold f_L_whole at hf
  obtain ⟨u1, e1, hf⟩ := j_bind hf
  obtain ⟨q1, e2, hf⟩ := j_bind hf
  refine x_aload_n (v := a2) C dL_whole_0 rfl ?_
  refine x_iconst C dL_whole_1 ki_0 ?_
  refine x_aload_n (v := a0) C dL_whole_2 rfl ?_
  refine x_iload_n (v := a1) C dL_whole_3 rfl ?_
  obtain ⟨r1, h1⟩ := q1
  cases r1 with
  | none =>
    obtain rfl := j_inj (show some ((1 : Int32), h1) = some q from hf)
    refine x_callVX (As := [.int a1]) (rest := [.int 0, .ref a2]) C dL_whole_4 (mt_X11_whole (d := d - 1) hfl (by omega) e2) km_X11_whole lk_L_7 kv_X11_whole (ci := 8) rfl e1 rfl (by omega) (Nat.le_of_ble_eq_true rfl) (n_X11_whole e2) (j_le_refl _) htab ⟨by omega, by omega⟩ (by omega) j_cl13 j_cast1 (fun q9 => ?_)
    refine x_astore_n C dL_whole_12 (by decide) ?_
    refine x_iconst C dL_whole_13 ki_1 ?_
    exact x_iret C hret dL_whole_14
  | some v =>
    obtain ⟨h2, e3, hf⟩ := j_bind (show (jsJ h1 a2 0 v.toInt64).bind (fun h2 => some ((0 : Int32), h2)) = some q from hf)
    obtain rfl := j_inj hf
    refine x_callV (As := [.int a1]) (rest := [.int 0, .ref a2]) C dL_whole_4 (m_X11_whole (d := d - 1) (by omega) e2) km_X11_whole lk_L_7 kv_X11_whole (ci := 8) rfl e1 rfl (by omega) (Nat.le_of_ble_eq_true rfl) (n_X11_whole e2) (Or.inl (j_le_of (jsJ_n e3))) ?_
    refine x_i2l C dL_whole_7 ?_
    refine x_last C dL_whole_8 e3 ?_
    refine x_goto (tgt := 15) C dL_whole_9 (by decide) ?_
    refine x_iconst C dL_whole_15 ki_0 ?_
    exact x_iret C hret dL_whole_16
set_option maxHeartbeats 4000000 in
set_option maxRecDepth 100000 in
theorem m_L_row {l : Launch} {E : JE} {d : Nat} (hfl : l.flags = flags0) (hdd : 20 ≤ d) {a0 : Nat} {a1 a2 a3 : Int32} {a4 : Nat} {h : JH} {q : Int32 × JH} (hf : f_L_row a0 a1 a2 a3 a4 h = some q) : ConW l E d yL_row cL_row 6 (some .int) [(0, 11, 14, 13)] [.ref a0, .int a1, .int a2, .int a3, .ref a4] h (some (.int q.1)) q.2 := by
  refine j_startW rfl (Nat.le_of_ble_eq_true rfl) ?_
  intro p e s m args below meth c C htab hret
  refine x_loc [(0, .ref a0), (1, .int a1), (2, .int a2), (3, .int a3), (4, .ref a4)] rfl ?_
  unfold f_L_row at hf
  obtain ⟨u1, e1, hf⟩ := j_bind hf
  obtain ⟨q1, e2, hf⟩ := j_bind hf
  refine x_aload (v := a4) C dL_row_0 rfl ?_
  refine x_iconst C dL_row_2 ki_0 ?_
  refine x_aload_n (v := a0) C dL_row_3 rfl ?_
  refine x_iload_n (v := a1) C dL_row_4 rfl ?_
  refine x_iload_n (v := a2) C dL_row_5 rfl ?_
  refine x_iload_n (v := a3) C dL_row_6 rfl ?_
  obtain ⟨r1, h1⟩ := q1
  cases r1 with
  | none =>
    obtain rfl := j_inj (show some ((1 : Int32), h1) = some q from hf)
    refine x_callVX (As := [.int a1, .int a2, .int a3]) (rest := [.int 0, .ref a4]) C dL_row_7 (mt_X11_row (d := d - 1) hfl (by omega) e2) km_X11_row lk_L_15 kv_X11_row (ci := 8) rfl e1 rfl (by omega) (Nat.le_of_ble_eq_true rfl) (n_X11_row e2) (j_le_refl _) htab ⟨by omega, by omega⟩ (by omega) j_cl13 j_cast1 (fun q9 => ?_)
    refine x_astore C dL_row_14 (by decide) ?_
    refine x_iconst C dL_row_16 ki_1 ?_
    exact x_iret C hret dL_row_17
  | some v =>
    obtain ⟨h2, e3, hf⟩ := j_bind (show (jsJ h1 a4 0 v).bind (fun h2 => some ((0 : Int32), h2)) = some q from hf)
    obtain rfl := j_inj hf
    refine x_callV (As := [.int a1, .int a2, .int a3]) (rest := [.int 0, .ref a4]) C dL_row_7 (m_X11_row (d := d - 1) (by omega) e2) km_X11_row lk_L_15 kv_X11_row (ci := 8) rfl e1 rfl (by omega) (Nat.le_of_ble_eq_true rfl) (n_X11_row e2) (Or.inl (j_le_of (jsJ_n e3))) ?_
    refine x_last C dL_row_10 e3 ?_
    refine x_goto (tgt := 18) C dL_row_11 (by decide) ?_
    refine x_iconst C dL_row_18 ki_0 ?_
    exact x_iret C hret dL_row_19
