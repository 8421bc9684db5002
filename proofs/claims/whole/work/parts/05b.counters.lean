theorem n_X2_init {a0 : Nat} {h : JH} {q : Unit × JH} (hf : f_X2_init a0 h = some q) : j_le h q.2 := by
  unfold f_X2_init at hf
  obtain ⟨q1, e2, hf⟩ := j_bind hf
  refine j_le_trans (jnA_le e2) ?_
  obtain ⟨h3, e4, hf⟩ := j_bind hf
  refine j_le_trans (j_le_of (jput_n e4)) ?_
  obtain rfl := j_inj hf
  exact j_le_refl _
theorem n_X11_newForms_L7 {a0 : Int32} {a1 : Nat} {z : Int32} {h : JH} {r : Int32 ⊕ Int32} {h1 : JH} (hf : f_X11_newForms_L7 a0 a1 z h = some (r, h1)) : j_le h h1 := by
  unfold f_X11_newForms_L7 at hf
  rcases j_ite hf with hf | hf
  ·
    obtain ⟨rfl, rfl⟩ := j_inj2 hf
    exact j_le_refl _
  ·
    obtain ⟨q3, e4, hf⟩ := j_bind hf
    refine j_le_trans (jnO_le e4) ?_
    obtain ⟨q5, e6, hf⟩ := j_bind hf
    refine j_le_trans (n_X2_init e6) ?_
    obtain ⟨h7, e8, hf⟩ := j_bind hf
    refine j_le_trans (j_le_of (jsR_n e8)) ?_
    obtain ⟨rfl, rfl⟩ := j_inj2 hf
    exact j_le_refl _
theorem n_X11_newForms {a0 : Int32} {h : JH} {q : Nat × JH} (hf : f_X11_newForms a0 h = some q) : j_le h q.2 := by
  unfold f_X11_newForms at hf
  obtain ⟨q1, e2, hf⟩ := j_bind hf
  refine j_le_trans (jnA_le e2) ?_
  obtain ⟨q10, e11, hf⟩ := j_bind hf
  refine j_le_trans ((jloop_le (fun _ _ _ _ q => n_X11_newForms_L7 q) e11)) ?_
  obtain rfl := j_inj hf
  exact j_le_refl _
theorem n_X9_init {a0 : Nat} {h : JH} {q : Unit × JH} (hf : f_X9_init a0 h = some q) : j_le h q.2 := by
  unfold f_X9_init at hf
  obtain ⟨q1, e2, hf⟩ := j_bind hf
  refine j_le_trans (jnA_le e2) ?_
  obtain ⟨h3, e4, hf⟩ := j_bind hf
  refine j_le_trans (j_le_of (jput_n e4)) ?_
  obtain ⟨q5, e6, hf⟩ := j_bind hf
  refine j_le_trans (jnA_le e6) ?_
  obtain ⟨h7, e8, hf⟩ := j_bind hf
  refine j_le_trans (j_le_of (jput_n e8)) ?_
  obtain ⟨q9, e10, hf⟩ := j_bind hf
  refine j_le_trans (jnA_le e10) ?_
  obtain ⟨h11, e12, hf⟩ := j_bind hf
  refine j_le_trans (j_le_of (jput_n e12)) ?_
  obtain rfl := j_inj hf
  exact j_le_refl _
theorem n_X0_init {a0 : Nat} {h : JH} {q : Unit × JH} (hf : f_X0_init a0 h = some q) : j_le h q.2 := by
  unfold f_X0_init at hf
  obtain ⟨q1, e2, hf⟩ := j_bind hf
  refine j_le_trans (n_X11_newForms e2) ?_
  obtain ⟨h3, e4, hf⟩ := j_bind hf
  refine j_le_trans (j_le_of (jput_n e4)) ?_
  obtain ⟨q5, e6, hf⟩ := j_bind hf
  refine j_le_trans (jnA_le e6) ?_
  obtain ⟨h7, e8, hf⟩ := j_bind hf
  refine j_le_trans (j_le_of (jput_n e8)) ?_
  obtain ⟨q9, e10, hf⟩ := j_bind hf
  refine j_le_trans (jnO_le e10) ?_
  obtain ⟨q11, e12, hf⟩ := j_bind hf
  refine j_le_trans (n_X9_init e12) ?_
  obtain ⟨h13, e14, hf⟩ := j_bind hf
  refine j_le_trans (j_le_of (jput_n e14)) ?_
  obtain ⟨q15, e16, hf⟩ := j_bind hf
  refine j_le_trans (n_X11_newForms e16) ?_
  obtain ⟨h17, e18, hf⟩ := j_bind hf
  refine j_le_trans (j_le_of (jput_n e18)) ?_
  obtain ⟨q19, e20, hf⟩ := j_bind hf
  refine j_le_trans (n_X11_newForms e20) ?_
  obtain ⟨h21, e22, hf⟩ := j_bind hf
  refine j_le_trans (j_le_of (jput_n e22)) ?_
  obtain ⟨q23, e24, hf⟩ := j_bind hf
  refine j_le_trans (n_X11_newForms e24) ?_
  obtain ⟨h25, e26, hf⟩ := j_bind hf
  refine j_le_trans (j_le_of (jput_n e26)) ?_
  obtain ⟨q27, e28, hf⟩ := j_bind hf
  refine j_le_trans (jnO_le e28) ?_
  obtain ⟨q29, e30, hf⟩ := j_bind hf
  refine j_le_trans (n_X2_init e30) ?_
  obtain ⟨h31, e32, hf⟩ := j_bind hf
  refine j_le_trans (j_le_of (jput_n e32)) ?_
  obtain rfl := j_inj hf
  exact j_le_refl _
theorem q_X9_addToken {a0 : Nat} {a1 : Int32} {a2 : Int32} {a3 : Int32} {h : JH} {q : Unit × JH} (hf : f_X9_addToken a0 a1 a2 a3 h = some q) : q.2.2.1 = h.2.1 := by
  unfold f_X9_addToken at hf
  obtain ⟨v1, e2, hf⟩ := j_bind hf
  obtain ⟨v3, e4, hf⟩ := j_bind hf
  obtain ⟨h5, e6, hf⟩ := j_bind hf
  refine Eq.trans ?_ (jsI_n e6)
  obtain ⟨v7, e8, hf⟩ := j_bind hf
  obtain ⟨v9, e10, hf⟩ := j_bind hf
  obtain ⟨h11, e12, hf⟩ := j_bind hf
  refine Eq.trans ?_ (jsI_n e12)
  obtain ⟨v13, e14, hf⟩ := j_bind hf
  obtain ⟨v15, e16, hf⟩ := j_bind hf
  obtain ⟨h17, e18, hf⟩ := j_bind hf
  refine Eq.trans ?_ (jsI_n e18)
  obtain ⟨v19, e20, hf⟩ := j_bind hf
  obtain ⟨h21, e22, hf⟩ := j_bind hf
  refine Eq.trans ?_ (jput_n e22)
  obtain rfl := j_inj hf
  rfl
theorem q_X9_addWord_L22 {a0 : Nat} {a1 : Nat} {a2 : Int32} {a3 : Int32} {z : (Int32 × Int32)} {h : JH} {r : (Int32 × Int32) ⊕ (Int32 × Int32)} {h1 : JH} (hf : f_X9_addWord_L22 a0 a1 a2 a3 z h = some (r, h1)) : h1.2.1 = h.2.1 := by
  unfold f_X9_addWord_L22 at hf
  rcases j_ite hf with hf | hf
  ·
    obtain ⟨rfl, rfl⟩ := j_inj2 hf
    rfl
  ·
    obtain ⟨v1, e2, hf⟩ := j_bind hf
    obtain ⟨rfl, rfl⟩ := j_inj2 hf
    rfl
theorem q_X9_addWord {a0 : Nat} {a1 : Nat} {a2 : Int32} {a3 : Int32} {h : JH} {q : Unit × JH} (hf : f_X9_addWord a0 a1 a2 a3 h = some q) : q.2.2.1 = h.2.1 := by
  unfold f_X9_addWord at hf
  rcases j_ite hf with hf | hf
  ·
    obtain ⟨q4, e5, hf⟩ := j_bind hf
    refine Eq.trans ?_ ((jloop_eq (fun _ _ _ _ q => q_X9_addWord_L22 q) e5))
    obtain ⟨q6, e7, hf⟩ := j_bind hf
    refine Eq.trans ?_ ((q_X9_kindOfWord e7))
    obtain ⟨u10, e11, hf⟩ := j_bind hf
    obtain ⟨q8, e9, hf⟩ := j_bind hf
    refine Eq.trans ?_ ((q_X9_addToken e9))
    obtain rfl := j_inj hf
    rfl
  ·
    obtain ⟨u14, e15, hf⟩ := j_bind hf
    obtain ⟨q12, e13, hf⟩ := j_bind hf
    refine Eq.trans ?_ ((q_X9_addToken e13))
    obtain rfl := j_inj hf
    rfl
theorem q_X9_isDigit {a0 : Int32} {h : JH} {q : Int32 × JH} (hf : f_X9_isDigit a0 h = some q) : q.2.2.1 = h.2.1 := by
  unfold f_X9_isDigit at hf
  rcases j_ite hf with hf | hf
  ·
    obtain rfl := j_inj hf
    rfl
  ·
    rcases j_ite hf with hf | hf
    ·
      obtain rfl := j_inj hf
      rfl
    ·
      obtain rfl := j_inj hf
      rfl
theorem q_X9_endOfNumber_L2 {a0 : Nat} {a2 : Int32} {z : Int32} {h : JH} {r : Int32 ⊕ Int32} {h1 : JH} (hf : f_X9_endOfNumber_L2 a0 a2 z h = some (r, h1)) : h1.2.1 = h.2.1 := by
  unfold f_X9_endOfNumber_L2 at hf
  rcases j_ite hf with hf | hf
  ·
    obtain ⟨rfl, rfl⟩ := j_inj2 hf
    rfl
  ·
    obtain ⟨v1, e2, hf⟩ := j_bind hf
    obtain ⟨q3, e4, hf⟩ := j_bind hf
    refine Eq.trans ?_ ((q_X9_isDigit e4))
    rcases j_ite hf with hf | hf
    ·
      obtain ⟨rfl, rfl⟩ := j_inj2 hf
      rfl
    ·
      obtain ⟨rfl, rfl⟩ := j_inj2 hf
      rfl
theorem q_X9_endOfNumber {a0 : Nat} {a1 : Int32} {a2 : Int32} {h : JH} {q : Int32 × JH} (hf : f_X9_endOfNumber a0 a1 a2 h = some q) : q.2.2.1 = h.2.1 := by
  unfold f_X9_endOfNumber at hf
  obtain ⟨q7, e8, hf⟩ := j_bind hf
  refine Eq.trans ?_ ((jloop_eq (fun _ _ _ _ q => q_X9_endOfNumber_L2 q) e8))
  obtain rfl := j_inj hf
  rfl
theorem q_X9_isLetter {a0 : Int32} {h : JH} {q : Int32 × JH} (hf : f_X9_isLetter a0 h = some q) : q.2.2.1 = h.2.1 := by
  unfold f_X9_isLetter at hf
  rcases j_ite hf with hf | hf
  ·
    obtain rfl := j_inj hf
    rfl
  ·
    rcases j_ite hf with hf | hf
    ·
      obtain rfl := j_inj hf
      rfl
    ·
      obtain rfl := j_inj hf
      rfl
theorem q_X9_endOfWord_L2 {a0 : Nat} {a2 : Int32} {z : Int32} {h : JH} {r : Int32 ⊕ Int32} {h1 : JH} (hf : f_X9_endOfWord_L2 a0 a2 z h = some (r, h1)) : h1.2.1 = h.2.1 := by
  unfold f_X9_endOfWord_L2 at hf
  rcases j_ite hf with hf | hf
  ·
    obtain ⟨rfl, rfl⟩ := j_inj2 hf
    rfl
  ·
    obtain ⟨v1, e2, hf⟩ := j_bind hf
    obtain ⟨q3, e4, hf⟩ := j_bind hf
    refine Eq.trans ?_ ((q_X9_isLetter e4))
    rcases j_ite hf with hf | hf
    ·
      obtain ⟨rfl, rfl⟩ := j_inj2 hf
      rfl
    ·
      obtain ⟨rfl, rfl⟩ := j_inj2 hf
      rfl
theorem q_X9_endOfWord {a0 : Nat} {a1 : Int32} {a2 : Int32} {h : JH} {q : Int32 × JH} (hf : f_X9_endOfWord a0 a1 a2 h = some q) : q.2.2.1 = h.2.1 := by
  unfold f_X9_endOfWord at hf
  obtain ⟨q7, e8, hf⟩ := j_bind hf
  refine Eq.trans ?_ ((jloop_eq (fun _ _ _ _ q => q_X9_endOfWord_L2 q) e8))
  obtain rfl := j_inj hf
  rfl
theorem q_X9_isSign {a0 : Int32} {h : JH} {q : Int32 × JH} (hf : f_X9_isSign a0 h = some q) : q.2.2.1 = h.2.1 := by
  unfold f_X9_isSign at hf
  rcases j_ite hf with hf | hf
  ·
    obtain rfl := j_inj hf
    rfl
  ·
    rcases j_ite hf with hf | hf
    ·
      obtain rfl := j_inj hf
      rfl
    ·
      rcases j_ite hf with hf | hf
      ·
        obtain rfl := j_inj hf
        rfl
      ·
        rcases j_ite hf with hf | hf
        ·
          obtain rfl := j_inj hf
          rfl
        ·
          rcases j_ite hf with hf | hf
          ·
            obtain rfl := j_inj hf
            rfl
          ·
            rcases j_ite hf with hf | hf
            ·
              obtain rfl := j_inj hf
              rfl
            ·
              rcases j_ite hf with hf | hf
              ·
                obtain rfl := j_inj hf
                rfl
              ·
                obtain rfl := j_inj hf
                rfl
theorem q_X9_numberOf_L14 {a0 : Nat} {a2 : Int32} {z : (Int32 × Int32)} {h : JH} {r : (Int32 × Int32) ⊕ (Int32 × Int32)} {h1 : JH} (hf : f_X9_numberOf_L14 a0 a2 z h = some (r, h1)) : h1.2.1 = h.2.1 := by
  unfold f_X9_numberOf_L14 at hf
  rcases j_ite hf with hf | hf
  ·
    obtain ⟨rfl, rfl⟩ := j_inj2 hf
    rfl
  ·
    obtain ⟨v1, e2, hf⟩ := j_bind hf
    obtain ⟨rfl, rfl⟩ := j_inj2 hf
    rfl
theorem q_X9_numberOf {a0 : Nat} {a1 : Int32} {a2 : Int32} {h : JH} {q : Int32 × JH} (hf : f_X9_numberOf a0 a1 a2 h = some q) : q.2.2.1 = h.2.1 := by
  unfold f_X9_numberOf at hf
  rcases j_ite hf with hf | hf
  ·
    obtain ⟨q4, e5, hf⟩ := j_bind hf
    refine Eq.trans ?_ ((jloop_eq (fun _ _ _ _ q => q_X9_numberOf_L14 q) e5))
    obtain rfl := j_inj hf
    rfl
  ·
    obtain rfl := j_inj hf
    rfl
theorem q_X9_scan_L7 {a0 : Nat} {a1 : Nat} {a2 : Int32} {z : Int32} {h : JH} {r : Int32 ⊕ Int32} {h1 : JH} (hf : f_X9_scan_L7 a0 a1 a2 z h = some (r, h1)) : h1.2.1 = h.2.1 := by
  unfold f_X9_scan_L7 at hf
  rcases j_ite hf with hf | hf
  ·
    obtain ⟨rfl, rfl⟩ := j_inj2 hf
    rfl
  ·
    obtain ⟨v3, e4, hf⟩ := j_bind hf
    rcases j_ite hf with hf | hf
    ·
      obtain ⟨q5, e6, hf⟩ := j_bind hf
      refine Eq.trans ?_ ((q_X9_isLetter e6))
      rcases j_ite hf with hf | hf
      ·
        obtain ⟨q7, e8, hf⟩ := j_bind hf
        refine Eq.trans ?_ ((q_X9_isDigit e8))
        rcases j_ite hf with hf | hf
        ·
          rcases j_ite hf with hf | hf
          ·
            obtain ⟨rfl, rfl⟩ := j_inj2 hf
            rfl
          ·
            rcases j_ite hf with hf | hf
            ·
              obtain ⟨rfl, rfl⟩ := j_inj2 hf
              rfl
            ·
              obtain ⟨q9, e10, hf⟩ := j_bind hf
              refine Eq.trans ?_ ((q_X9_isSign e10))
              rcases j_ite hf with hf | hf
              ·
                obtain ⟨u13, e14, hf⟩ := j_bind hf
                obtain ⟨q11, e12, hf⟩ := j_bind hf
                refine Eq.trans ?_ ((q_X9_addToken e12))
                obtain ⟨rfl, rfl⟩ := j_inj2 hf
                rfl
              ·
                obtain ⟨u17, e18, hf⟩ := j_bind hf
                obtain ⟨q15, e16, hf⟩ := j_bind hf
                refine Eq.trans ?_ ((q_X9_addToken e16))
                obtain ⟨rfl, rfl⟩ := j_inj2 hf
                rfl
        ·
          obtain ⟨q19, e20, hf⟩ := j_bind hf
          refine Eq.trans ?_ ((q_X9_isDigit e20))
          rcases j_ite hf with hf | hf
          ·
            obtain ⟨q21, e22, hf⟩ := j_bind hf
            refine Eq.trans ?_ ((q_X9_endOfNumber e22))
            obtain ⟨q23, e24, hf⟩ := j_bind hf
            refine Eq.trans ?_ ((q_X9_numberOf e24))
            obtain ⟨u27, e28, hf⟩ := j_bind hf
            obtain ⟨q25, e26, hf⟩ := j_bind hf
            refine Eq.trans ?_ ((q_X9_addToken e26))
            obtain ⟨rfl, rfl⟩ := j_inj2 hf
            rfl
          ·
            obtain ⟨rfl, rfl⟩ := j_inj2 hf
            rfl
      ·
        obtain ⟨q29, e30, hf⟩ := j_bind hf
        refine Eq.trans ?_ ((q_X9_isLetter e30))
        rcases j_ite hf with hf | hf
        ·
          obtain ⟨q31, e32, hf⟩ := j_bind hf
          refine Eq.trans ?_ ((q_X9_endOfWord e32))
          obtain ⟨u35, e36, hf⟩ := j_bind hf
          obtain ⟨q33, e34, hf⟩ := j_bind hf
          refine Eq.trans ?_ ((q_X9_addWord e34))
          obtain ⟨rfl, rfl⟩ := j_inj2 hf
          rfl
        ·
          obtain ⟨rfl, rfl⟩ := j_inj2 hf
          rfl
    ·
      obtain ⟨v37, e38, hf⟩ := j_bind hf
      obtain ⟨q39, e40, hf⟩ := j_bind hf
      refine Eq.trans ?_ ((q_X9_isLetter e40))
      rcases j_ite hf with hf | hf
      ·
        obtain ⟨q41, e42, hf⟩ := j_bind hf
        refine Eq.trans ?_ ((q_X9_isDigit e42))
        rcases j_ite hf with hf | hf
        ·
          rcases j_ite hf with hf | hf
          ·
            obtain ⟨rfl, rfl⟩ := j_inj2 hf
            rfl
          ·
            rcases j_ite hf with hf | hf
            ·
              obtain ⟨rfl, rfl⟩ := j_inj2 hf
              rfl
            ·
              obtain ⟨q43, e44, hf⟩ := j_bind hf
              refine Eq.trans ?_ ((q_X9_isSign e44))
              rcases j_ite hf with hf | hf
              ·
                obtain ⟨u47, e48, hf⟩ := j_bind hf
                obtain ⟨q45, e46, hf⟩ := j_bind hf
                refine Eq.trans ?_ ((q_X9_addToken e46))
                obtain ⟨rfl, rfl⟩ := j_inj2 hf
                rfl
              ·
                obtain ⟨u51, e52, hf⟩ := j_bind hf
                obtain ⟨q49, e50, hf⟩ := j_bind hf
                refine Eq.trans ?_ ((q_X9_addToken e50))
                obtain ⟨rfl, rfl⟩ := j_inj2 hf
                rfl
        ·
          obtain ⟨q53, e54, hf⟩ := j_bind hf
          refine Eq.trans ?_ ((q_X9_isDigit e54))
          rcases j_ite hf with hf | hf
          ·
            obtain ⟨q55, e56, hf⟩ := j_bind hf
            refine Eq.trans ?_ ((q_X9_endOfNumber e56))
            obtain ⟨q57, e58, hf⟩ := j_bind hf
            refine Eq.trans ?_ ((q_X9_numberOf e58))
            obtain ⟨u61, e62, hf⟩ := j_bind hf
            obtain ⟨q59, e60, hf⟩ := j_bind hf
            refine Eq.trans ?_ ((q_X9_addToken e60))
            obtain ⟨rfl, rfl⟩ := j_inj2 hf
            rfl
          ·
            obtain ⟨rfl, rfl⟩ := j_inj2 hf
            rfl
      ·
        obtain ⟨q63, e64, hf⟩ := j_bind hf
        refine Eq.trans ?_ ((q_X9_isLetter e64))
        rcases j_ite hf with hf | hf
        ·
          obtain ⟨q65, e66, hf⟩ := j_bind hf
          refine Eq.trans ?_ ((q_X9_endOfWord e66))
          obtain ⟨u69, e70, hf⟩ := j_bind hf
          obtain ⟨q67, e68, hf⟩ := j_bind hf
          refine Eq.trans ?_ ((q_X9_addWord e68))
          obtain ⟨rfl, rfl⟩ := j_inj2 hf
          rfl
        ·
          obtain ⟨rfl, rfl⟩ := j_inj2 hf
          rfl
theorem q_X9_scan {a0 : Nat} {a1 : Nat} {a2 : Int32} {h : JH} {q : Unit × JH} (hf : f_X9_scan a0 a1 a2 h = some q) : q.2.2.1 = h.2.1 := by
  unfold f_X9_scan at hf
  obtain ⟨h1, e2, hf⟩ := j_bind hf
  refine Eq.trans ?_ (jput_n e2)
  obtain ⟨q87, e88, hf⟩ := j_bind hf
  refine Eq.trans ?_ ((jloop_eq (fun _ _ _ _ q => q_X9_scan_L7 q) e88))
  obtain ⟨v89, e90, hf⟩ := j_bind hf
  obtain ⟨v91, e92, hf⟩ := j_bind hf
  obtain ⟨h93, e94, hf⟩ := j_bind hf
  refine Eq.trans ?_ (jsI_n e94)
  obtain ⟨v95, e96, hf⟩ := j_bind hf
  obtain ⟨v97, e98, hf⟩ := j_bind hf
  obtain ⟨h99, e100, hf⟩ := j_bind hf
  refine Eq.trans ?_ (jsI_n e100)
  obtain rfl := j_inj hf
  rfl
theorem q_X0_open {a0 : Nat} {a1 : Nat} {a2 : Int32} {h : JH} {q : Unit × JH} (hf : f_X0_open a0 a1 a2 h = some q) : q.2.2.1 = h.2.1 := by
  unfold f_X0_open at hf
  obtain ⟨v1, e2, hf⟩ := j_bind hf
  obtain ⟨u11, e12, hf⟩ := j_bind hf
  obtain ⟨q3, e4, hf⟩ := j_bind hf
  refine Eq.trans ?_ ((q_X9_scan e4))
  obtain ⟨h5, e6, hf⟩ := j_bind hf
  refine Eq.trans ?_ (jput_n e6)
  obtain ⟨h7, e8, hf⟩ := j_bind hf
  refine Eq.trans ?_ (jput_n e8)
  obtain ⟨h9, e10, hf⟩ := j_bind hf
  refine Eq.trans ?_ (jput_n e10)
  obtain rfl := j_inj hf
  rfl
theorem q_X0_kind {a0 : Nat} {h : JH} {q : Int32 × JH} (hf : f_X0_kind a0 h = some q) : q.2.2.1 = h.2.1 := by
  unfold f_X0_kind at hf
  obtain ⟨v1, e2, hf⟩ := j_bind hf
  obtain ⟨v3, e4, hf⟩ := j_bind hf
  obtain ⟨v5, e6, hf⟩ := j_bind hf
  obtain ⟨v7, e8, hf⟩ := j_bind hf
  obtain rfl := j_inj hf
  rfl
theorem q_X0_value {a0 : Nat} {h : JH} {q : Int32 × JH} (hf : f_X0_value a0 h = some q) : q.2.2.1 = h.2.1 := by
  unfold f_X0_value at hf
  obtain ⟨v1, e2, hf⟩ := j_bind hf
  obtain ⟨v3, e4, hf⟩ := j_bind hf
  obtain ⟨v5, e6, hf⟩ := j_bind hf
  obtain ⟨v7, e8, hf⟩ := j_bind hf
  obtain rfl := j_inj hf
  rfl
theorem q_X0_goOn {a0 : Nat} {h : JH} {q : Unit × JH} (hf : f_X0_goOn a0 h = some q) : q.2.2.1 = h.2.1 := by
  unfold f_X0_goOn at hf
  obtain ⟨v1, e2, hf⟩ := j_bind hf
  obtain ⟨v3, e4, hf⟩ := j_bind hf
  obtain ⟨v5, e6, hf⟩ := j_bind hf
  rcases j_ite hf with hf | hf
  ·
    obtain rfl := j_inj hf
    rfl
  ·
    obtain ⟨v7, e8, hf⟩ := j_bind hf
    obtain ⟨h9, e10, hf⟩ := j_bind hf
    refine Eq.trans ?_ (jput_n e10)
    obtain rfl := j_inj hf
    rfl
theorem q_X0_fail {a0 : Nat} {a1 : Int32} {a2 : Int32} {h : JH} {q : Int32 × JH} (hf : f_X0_fail a0 a1 a2 h = some q) : q.2.2.1 = h.2.1 := by
  unfold f_X0_fail at hf
  obtain ⟨v1, e2, hf⟩ := j_bind hf
  obtain ⟨v3, e4, hf⟩ := j_bind hf
  obtain ⟨v5, e6, hf⟩ := j_bind hf
  obtain ⟨h7, e8, hf⟩ := j_bind hf
  refine Eq.trans ?_ (jput_n e8)
  obtain rfl := j_inj hf
  rfl
theorem q_X0_expect {a0 : Nat} {a1 : Int32} {h : JH} {q : Int32 × JH} (hf : f_X0_expect a0 a1 h = some q) : q.2.2.1 = h.2.1 := by
  unfold f_X0_expect at hf
  obtain ⟨u15, e16, hf⟩ := j_bind hf
  obtain ⟨q1, e2, hf⟩ := j_bind hf
  refine Eq.trans ?_ ((q_X0_kind e2))
  rcases j_ite hf with hf | hf
  ·
    obtain ⟨u5, e6, hf⟩ := j_bind hf
    obtain ⟨q3, e4, hf⟩ := j_bind hf
    refine Eq.trans ?_ ((q_X0_goOn e4))
    obtain rfl := j_inj hf
    rfl
  ·
    obtain ⟨v7, e8, hf⟩ := j_bind hf
    obtain ⟨u13, e14, hf⟩ := j_bind hf
    obtain ⟨q9, e10, hf⟩ := j_bind hf
    refine Eq.trans ?_ ((q_X0_fail e10))
    obtain ⟨u11, e12, hf⟩ := j_bind hf
    obtain rfl := j_inj hf
    rfl
theorem q_X0_isPrime_L17 {a0 : Int32} {z : Int32} {h : JH} {r : Int32 ⊕ (Int32 ⊕ Int32)} {h1 : JH} (hf : f_X0_isPrime_L17 a0 z h = some (r, h1)) : h1.2.1 = h.2.1 := by
  unfold f_X0_isPrime_L17 at hf
  rcases j_ite hf with hf | hf
  ·
    obtain ⟨rfl, rfl⟩ := j_inj2 hf
    rfl
  ·
    obtain ⟨u1, e2, hf⟩ := j_bind hf
    rcases j_ite hf with hf | hf
    ·
      obtain ⟨rfl, rfl⟩ := j_inj2 hf
      rfl
    ·
      obtain ⟨rfl, rfl⟩ := j_inj2 hf
      rfl
theorem q_X0_isPrime {a0 : Int32} {h : JH} {q : Int32 × JH} (hf : f_X0_isPrime a0 h = some q) : q.2.2.1 = h.2.1 := by
  unfold f_X0_isPrime at hf
  rcases j_ite hf with hf | hf
  ·
    obtain rfl := j_inj hf
    rfl
  ·
    rcases j_ite hf with hf | hf
    ·
      obtain ⟨q5, e6, hf⟩ := j_bind hf
      refine Eq.trans ?_ ((jloop_eq (fun _ _ _ _ q => q_X0_isPrime_L17 q) e6))
      cases y9 : q5.1 with
      | inl r8 =>
        rw [y9] at hf
        have hf := j_eliml hf
        obtain rfl := j_inj hf
        rfl
      | inr t7 =>
        rw [y9] at hf
        have hf := j_elimr hf
        obtain rfl := j_inj hf
        rfl
    ·
      obtain rfl := j_inj hf
      rfl
theorem q_X0_readPrime {a0 : Nat} {h : JH} {q : Int32 × JH} (hf : f_X0_readPrime a0 h = some q) : q.2.2.1 = h.2.1 := by
  unfold f_X0_readPrime at hf
  obtain ⟨u49, e50, hf⟩ := j_bind hf
  obtain ⟨q1, e2, hf⟩ := j_bind hf
  refine Eq.trans ?_ ((q_X0_kind e2))
  rcases j_ite hf with hf | hf
  ·
    obtain ⟨u47, e48, hf⟩ := j_bind hf
    obtain ⟨q3, e4, hf⟩ := j_bind hf
    refine Eq.trans ?_ ((q_X0_goOn e4))
    obtain ⟨u45, e46, hf⟩ := j_bind hf
    obtain ⟨q5, e6, hf⟩ := j_bind hf
    refine Eq.trans ?_ ((q_X0_kind e6))
    rcases j_ite hf with hf | hf
    ·
      obtain ⟨u35, e36, hf⟩ := j_bind hf
      obtain ⟨q7, e8, hf⟩ := j_bind hf
      refine Eq.trans ?_ ((q_X0_value e8))
      obtain ⟨q9, e10, hf⟩ := j_bind hf
      refine Eq.trans ?_ ((q_X0_isPrime e10))
      rcases j_ite hf with hf | hf
      ·
        obtain ⟨v27, e28, hf⟩ := j_bind hf
        obtain ⟨u33, e34, hf⟩ := j_bind hf
        obtain ⟨q29, e30, hf⟩ := j_bind hf
        refine Eq.trans ?_ ((q_X0_fail e30))
        obtain ⟨u31, e32, hf⟩ := j_bind hf
        obtain rfl := j_inj hf
        rfl
      ·
        obtain ⟨u25, e26, hf⟩ := j_bind hf
        obtain ⟨q11, e12, hf⟩ := j_bind hf
        refine Eq.trans ?_ ((q_X0_value e12))
        obtain ⟨h13, e14, hf⟩ := j_bind hf
        refine Eq.trans ?_ (jput_n e14)
        obtain ⟨u23, e24, hf⟩ := j_bind hf
        obtain ⟨q15, e16, hf⟩ := j_bind hf
        refine Eq.trans ?_ ((q_X0_goOn e16))
        obtain ⟨u21, e22, hf⟩ := j_bind hf
        obtain ⟨q17, e18, hf⟩ := j_bind hf
        refine Eq.trans ?_ ((q_X0_expect e18))
        obtain ⟨u19, e20, hf⟩ := j_bind hf
        obtain rfl := j_inj hf
        rfl
    ·
      obtain ⟨v37, e38, hf⟩ := j_bind hf
      obtain ⟨u43, e44, hf⟩ := j_bind hf
      obtain ⟨q39, e40, hf⟩ := j_bind hf
      refine Eq.trans ?_ ((q_X0_fail e40))
      obtain ⟨u41, e42, hf⟩ := j_bind hf
      obtain rfl := j_inj hf
      rfl
  ·
    obtain rfl := j_inj hf
    rfl
theorem q_X0_findLet_L2 {a0 : Nat} {a1 : Int32} {z : Int32} {h : JH} {r : Int32 ⊕ (Int32 ⊕ Int32)} {h1 : JH} (hf : f_X0_findLet_L2 a0 a1 z h = some (r, h1)) : h1.2.1 = h.2.1 := by
  unfold f_X0_findLet_L2 at hf
  obtain ⟨v1, e2, hf⟩ := j_bind hf
  rcases j_ite hf with hf | hf
  ·
    obtain ⟨rfl, rfl⟩ := j_inj2 hf
    rfl
  ·
    obtain ⟨v3, e4, hf⟩ := j_bind hf
    obtain ⟨v5, e6, hf⟩ := j_bind hf
    rcases j_ite hf with hf | hf
    ·
      obtain ⟨rfl, rfl⟩ := j_inj2 hf
      rfl
    ·
      obtain ⟨rfl, rfl⟩ := j_inj2 hf
      rfl
theorem q_X0_findLet {a0 : Nat} {a1 : Int32} {h : JH} {q : Int32 × JH} (hf : f_X0_findLet a0 a1 h = some q) : q.2.2.1 = h.2.1 := by
  unfold f_X0_findLet at hf
  obtain ⟨q9, e10, hf⟩ := j_bind hf
  refine Eq.trans ?_ ((jloop_eq (fun _ _ _ _ q => q_X0_findLet_L2 q) e10))
  cases y13 : q9.1 with
  | inl r12 =>
    rw [y13] at hf
    have hf := j_eliml hf
    obtain rfl := j_inj hf
    rfl
  | inr t11 =>
    rw [y13] at hf
    have hf := j_elimr hf
    obtain rfl := j_inj hf
    rfl
theorem q_X2_copyFrom {a0 : Nat} {a1 : Nat} {h : JH} {q : Unit × JH} (hf : f_X2_copyFrom a0 a1 h = some q) : q.2.2.1 = h.2.1 := by
  unfold f_X2_copyFrom at hf
  obtain ⟨v1, e2, hf⟩ := j_bind hf
  obtain ⟨h3, e4, hf⟩ := j_bind hf
  refine Eq.trans ?_ (jput_n e4)
  obtain ⟨v5, e6, hf⟩ := j_bind hf
  obtain ⟨v7, e8, hf⟩ := j_bind hf
  obtain ⟨h9, e10, hf⟩ := j_bind hf
  refine Eq.trans ?_ (jcI_n e10)
  obtain rfl := j_inj hf
  rfl
theorem q_X4_of {a0 : Int64} {a2 : Int32} {h : JH} {q : Int32 × JH} (hf : f_X4_of a0 a2 h = some q) : q.2.2.1 = h.2.1 := by
  unfold f_X4_of at hf
  rcases j_ite hf with hf | hf
  ·
    obtain ⟨u1, e2, hf⟩ := j_bind hf
    rcases j_ite hf with hf | hf
    ·
      obtain rfl := j_inj hf
      rfl
    ·
      obtain rfl := j_inj hf
      rfl
  ·
    obtain rfl := j_inj hf
    rfl
theorem q_X2_multiplyBy_L12 {a0 : Nat} {a1 : Nat} {a2 : Int32} {a3 : Int32} {z : (Int64 × Int32)} {h : JH} {r : (Int64 × Int32) ⊕ (Int64 × Int32)} {h1 : JH} (hf : f_X2_multiplyBy_L12 a0 a1 a2 a3 z h = some (r, h1)) : h1.2.1 = h.2.1 := by
  unfold f_X2_multiplyBy_L12 at hf
  rcases j_ite hf with hf | hf
  ·
    obtain ⟨rfl, rfl⟩ := j_inj2 hf
    rfl
  ·
    obtain ⟨v1, e2, hf⟩ := j_bind hf
    obtain ⟨v3, e4, hf⟩ := j_bind hf
    obtain ⟨v5, e6, hf⟩ := j_bind hf
    obtain ⟨v7, e8, hf⟩ := j_bind hf
    obtain ⟨rfl, rfl⟩ := j_inj2 hf
    rfl
theorem q_X2_multiplyBy_L2 {a0 : Nat} {a1 : Nat} {a2 : Int32} {z : Int32} {h : JH} {r : Int32 ⊕ Int32} {h1 : JH} (hf : f_X2_multiplyBy_L2 a0 a1 a2 z h = some (r, h1)) : h1.2.1 = h.2.1 := by
  unfold f_X2_multiplyBy_L2 at hf
  rcases j_ite hf with hf | hf
  ·
    obtain ⟨rfl, rfl⟩ := j_inj2 hf
    rfl
  ·
    obtain ⟨q1, e2, hf⟩ := j_bind hf
    refine Eq.trans ?_ ((jloop_eq (fun _ _ _ _ q => q_X2_multiplyBy_L12 q) e2))
    obtain ⟨v3, e4, hf⟩ := j_bind hf
    obtain ⟨q5, e6, hf⟩ := j_bind hf
    refine Eq.trans ?_ ((q_X4_of e6))
    obtain ⟨h7, e8, hf⟩ := j_bind hf
    refine Eq.trans ?_ (jsI_n e8)
    obtain ⟨rfl, rfl⟩ := j_inj2 hf
    rfl
theorem q_X2_multiplyBy {a0 : Nat} {a1 : Nat} {a2 : Int32} {h : JH} {q : Unit × JH} (hf : f_X2_multiplyBy a0 a1 a2 h = some q) : q.2.2.1 = h.2.1 := by
  unfold f_X2_multiplyBy at hf
  obtain ⟨q10, e11, hf⟩ := j_bind hf
  refine Eq.trans ?_ ((jloop_eq (fun _ _ _ _ q => q_X2_multiplyBy_L2 q) e11))
  obtain ⟨v12, e13, hf⟩ := j_bind hf
  obtain ⟨v14, e15, hf⟩ := j_bind hf
  obtain ⟨h16, e17, hf⟩ := j_bind hf
  refine Eq.trans ?_ (jput_n e17)
  obtain rfl := j_inj hf
  rfl
theorem q_J7_fill_53178_L5 {a0 : Nat} {a1 : Int32} {a3 : Int32} {z : Int32} {h : JH} {r : Int32 ⊕ Int32} {h1 : JH} (hf : f_J7_fill_53178_L5 a0 a1 a3 z h = some (r, h1)) : h1.2.1 = h.2.1 := by
  unfold f_J7_fill_53178_L5 at hf
  rcases j_ite hf with hf | hf
  ·
    obtain ⟨rfl, rfl⟩ := j_inj2 hf
    rfl
  ·
    obtain ⟨h3, e4, hf⟩ := j_bind hf
    refine Eq.trans ?_ (jsI_n e4)
    obtain ⟨rfl, rfl⟩ := j_inj2 hf
    rfl
theorem q_J7_fill_53178 {a0 : Nat} {a1 : Int32} {h : JH} {q : Unit × JH} (hf : f_J7_fill_53178 a0 a1 h = some q) : q.2.2.1 = h.2.1 := by
  unfold f_J7_fill_53178 at hf
  obtain ⟨v1, e2, hf⟩ := j_bind hf
  obtain ⟨q6, e7, hf⟩ := j_bind hf
  refine Eq.trans ?_ ((jloop_eq (fun _ _ _ _ q => q_J7_fill_53178_L5 q) e7))
  obtain rfl := j_inj hf
  rfl
theorem q_X2_setNumber {a0 : Nat} {a1 : Int32} {h : JH} {q : Unit × JH} (hf : f_X2_setNumber a0 a1 h = some q) : q.2.2.1 = h.2.1 := by
  unfold f_X2_setNumber at hf
  obtain ⟨h1, e2, hf⟩ := j_bind hf
  refine Eq.trans ?_ (jput_n e2)
  obtain ⟨v3, e4, hf⟩ := j_bind hf
  obtain ⟨q5, e6, hf⟩ := j_bind hf
  refine Eq.trans ?_ ((q_J7_fill_53178 e6))
  obtain ⟨v7, e8, hf⟩ := j_bind hf
  obtain ⟨h9, e10, hf⟩ := j_bind hf
  refine Eq.trans ?_ (jsI_n e10)
  obtain rfl := j_inj hf
  rfl
theorem q_X0_raise_L15 {a0 : Nat} {a1 : Nat} {a2 : Int32} {z : Int32} {h : JH} {r : Int32 ⊕ Int32} {h1 : JH} (hf : f_X0_raise_L15 a0 a1 a2 z h = some (r, h1)) : h1.2.1 = h.2.1 := by
  unfold f_X0_raise_L15 at hf
  rcases j_ite hf with hf | hf
  ·
    obtain ⟨rfl, rfl⟩ := j_inj2 hf
    rfl
  ·
    obtain ⟨v7, e8, hf⟩ := j_bind hf
    obtain ⟨v9, e10, hf⟩ := j_bind hf
    obtain ⟨u13, e14, hf⟩ := j_bind hf
    obtain ⟨q11, e12, hf⟩ := j_bind hf
    refine Eq.trans ?_ ((q_X2_multiplyBy e12))
    obtain ⟨rfl, rfl⟩ := j_inj2 hf
    rfl
theorem q_X0_raise {a0 : Nat} {a1 : Nat} {a2 : Int32} {h : JH} {q : Unit × JH} (hf : f_X0_raise a0 a1 a2 h = some q) : q.2.2.1 = h.2.1 := by
  unfold f_X0_raise at hf
  obtain ⟨v1, e2, hf⟩ := j_bind hf
  obtain ⟨u20, e21, hf⟩ := j_bind hf
  obtain ⟨q3, e4, hf⟩ := j_bind hf
  refine Eq.trans ?_ ((q_X2_copyFrom e4))
  obtain ⟨u18, e19, hf⟩ := j_bind hf
  obtain ⟨q5, e6, hf⟩ := j_bind hf
  refine Eq.trans ?_ ((q_X2_setNumber e6))
  obtain ⟨q16, e17, hf⟩ := j_bind hf
  refine Eq.trans ?_ ((jloop_eq (fun _ _ _ _ q => q_X0_raise_L15 q) e17))
  obtain rfl := j_inj hf
  rfl
theorem q_X0_setKnown_L8 {a0 : Nat} {a1 : Nat} {a3 : Nat} {z : Int32} {h : JH} {r : Int32 ⊕ Int32} {h1 : JH} (hf : f_X0_setKnown_L8 a0 a1 a3 z h = some (r, h1)) : h1.2.1 = h.2.1 := by
  unfold f_X0_setKnown_L8 at hf
  rcases j_ite hf with hf | hf
  ·
    obtain ⟨rfl, rfl⟩ := j_inj2 hf
    rfl
  ·
    obtain ⟨v3, e4, hf⟩ := j_bind hf
    obtain ⟨v5, e6, hf⟩ := j_bind hf
    obtain ⟨v7, e8, hf⟩ := j_bind hf
    obtain ⟨q9, e10, hf⟩ := j_bind hf
    refine Eq.trans ?_ ((q_X4_of e10))
    obtain ⟨h11, e12, hf⟩ := j_bind hf
    refine Eq.trans ?_ (jsI_n e12)
    obtain ⟨rfl, rfl⟩ := j_inj2 hf
    rfl
theorem q_X0_setKnown {a0 : Nat} {a1 : Nat} {a2 : Int32} {a3 : Nat} {h : JH} {q : Unit × JH} (hf : f_X0_setKnown a0 a1 a2 a3 h = some q) : q.2.2.1 = h.2.1 := by
  unfold f_X0_setKnown at hf
  obtain ⟨h1, e2, hf⟩ := j_bind hf
  refine Eq.trans ?_ (jput_n e2)
  obtain ⟨q14, e15, hf⟩ := j_bind hf
  refine Eq.trans ?_ ((jloop_eq (fun _ _ _ _ q => q_X0_setKnown_L8 q) e15))
  obtain rfl := j_inj hf
  rfl
theorem q_X0_readAtom {rec : Nat → Int32 → JH → Option (Int32 × JH)} (hrecq : ∀ {x0 : Nat} {x1 : Int32} {hh : JH} {qq : Int32 × JH}, rec x0 x1 hh = some qq → qq.2.2.1 = hh.2.1) {a0 : Nat} {a1 : Int32} {h : JH} {q : Int32 × JH} (hf : f_X0_readAtom rec a0 a1 h = some q) : q.2.2.1 = h.2.1 := by
  unfold f_X0_readAtom at hf
  obtain ⟨v1, e2, hf⟩ := j_bind hf
  obtain ⟨v3, e4, hf⟩ := j_bind hf
  obtain ⟨u143, e144, hf⟩ := j_bind hf
  obtain ⟨q5, e6, hf⟩ := j_bind hf
  refine Eq.trans ?_ ((q_X0_kind e6))
  rcases j_ite hf with hf | hf
  ·
    obtain ⟨u41, e42, hf⟩ := j_bind hf
    obtain ⟨q7, e8, hf⟩ := j_bind hf
    refine Eq.trans ?_ ((q_X0_value e8))
    obtain ⟨u39, e40, hf⟩ := j_bind hf
    obtain ⟨q9, e10, hf⟩ := j_bind hf
    refine Eq.trans ?_ ((q_X0_findLet e10))
    rcases j_ite hf with hf | hf
    ·
      obtain ⟨v31, e32, hf⟩ := j_bind hf
      obtain ⟨u37, e38, hf⟩ := j_bind hf
      obtain ⟨q33, e34, hf⟩ := j_bind hf
      refine Eq.trans ?_ ((q_X0_fail e34))
      obtain ⟨u35, e36, hf⟩ := j_bind hf
      obtain rfl := j_inj hf
      rfl
    ·
      obtain ⟨v11, e12, hf⟩ := j_bind hf
      obtain ⟨u29, e30, hf⟩ := j_bind hf
      obtain ⟨q13, e14, hf⟩ := j_bind hf
      refine Eq.trans ?_ ((q_X0_value e14))
      obtain ⟨u27, e28, hf⟩ := j_bind hf
      obtain ⟨q15, e16, hf⟩ := j_bind hf
      refine Eq.trans ?_ ((q_X0_findLet e16))
      obtain ⟨v17, e18, hf⟩ := j_bind hf
      obtain ⟨u25, e26, hf⟩ := j_bind hf
      obtain ⟨q19, e20, hf⟩ := j_bind hf
      refine Eq.trans ?_ ((q_X2_copyFrom e20))
      obtain ⟨u23, e24, hf⟩ := j_bind hf
      obtain ⟨q21, e22, hf⟩ := j_bind hf
      refine Eq.trans ?_ ((q_X0_goOn e22))
      obtain rfl := j_inj hf
      rfl
  rcases j_ite hf with hf | hf
  ·
    obtain ⟨u69, e70, hf⟩ := j_bind hf
    obtain ⟨q43, e44, hf⟩ := j_bind hf
    refine Eq.trans ?_ ((q_X0_value e44))
    rcases j_ite hf with hf | hf
    ·
      obtain ⟨u59, e60, hf⟩ := j_bind hf
      obtain ⟨q45, e46, hf⟩ := j_bind hf
      refine Eq.trans ?_ ((q_X0_value e46))
      obtain ⟨v47, e48, hf⟩ := j_bind hf
      obtain ⟨q49, e50, hf⟩ := j_bind hf
      refine Eq.trans ?_ ((q_X4_of e50))
      obtain ⟨u57, e58, hf⟩ := j_bind hf
      obtain ⟨q51, e52, hf⟩ := j_bind hf
      refine Eq.trans ?_ ((q_X2_setNumber e52))
      obtain ⟨u55, e56, hf⟩ := j_bind hf
      obtain ⟨q53, e54, hf⟩ := j_bind hf
      refine Eq.trans ?_ ((q_X0_goOn e54))
      obtain rfl := j_inj hf
      rfl
    ·
      obtain ⟨v61, e62, hf⟩ := j_bind hf
      obtain ⟨u67, e68, hf⟩ := j_bind hf
      obtain ⟨q63, e64, hf⟩ := j_bind hf
      refine Eq.trans ?_ ((q_X0_fail e64))
      obtain ⟨u65, e66, hf⟩ := j_bind hf
      obtain rfl := j_inj hf
      rfl
  rcases j_ite hf with hf | hf
  ·
    obtain ⟨u77, e78, hf⟩ := j_bind hf
    obtain ⟨q71, e72, hf⟩ := j_bind hf
    refine Eq.trans ?_ ((q_X0_setKnown e72))
    obtain ⟨u75, e76, hf⟩ := j_bind hf
    obtain ⟨q73, e74, hf⟩ := j_bind hf
    refine Eq.trans ?_ ((q_X0_goOn e74))
    obtain rfl := j_inj hf
    rfl
  rcases j_ite hf with hf | hf
  ·
    obtain ⟨u85, e86, hf⟩ := j_bind hf
    obtain ⟨q79, e80, hf⟩ := j_bind hf
    refine Eq.trans ?_ ((q_X0_setKnown e80))
    obtain ⟨u83, e84, hf⟩ := j_bind hf
    obtain ⟨q81, e82, hf⟩ := j_bind hf
    refine Eq.trans ?_ ((q_X0_goOn e82))
    obtain rfl := j_inj hf
    rfl
  rcases j_ite hf with hf | hf
  ·
    obtain ⟨u93, e94, hf⟩ := j_bind hf
    obtain ⟨q87, e88, hf⟩ := j_bind hf
    refine Eq.trans ?_ ((q_X0_setKnown e88))
    obtain ⟨u91, e92, hf⟩ := j_bind hf
    obtain ⟨q89, e90, hf⟩ := j_bind hf
    refine Eq.trans ?_ ((q_X0_goOn e90))
    obtain rfl := j_inj hf
    rfl
  rcases j_ite hf with hf | hf
  ·
    rcases j_ite hf with hf | hf
    ·
      obtain ⟨u125, e126, hf⟩ := j_bind hf
      obtain ⟨q95, e96, hf⟩ := j_bind hf
      refine Eq.trans ?_ ((q_X0_goOn e96))
      obtain ⟨u123, e124, hf⟩ := j_bind hf
      obtain ⟨q97, e98, hf⟩ := j_bind hf
      refine Eq.trans ?_ ((hrecq e98))
      rcases j_ite hf with hf | hf
      ·
        obtain rfl := j_inj hf
        rfl
      ·
        obtain ⟨u121, e122, hf⟩ := j_bind hf
        obtain ⟨q99, e100, hf⟩ := j_bind hf
        refine Eq.trans ?_ ((q_X0_kind e100))
        rcases j_ite hf with hf | hf
        ·
          obtain ⟨v101, e102, hf⟩ := j_bind hf
          obtain ⟨v103, e104, hf⟩ := j_bind hf
          obtain ⟨u111, e112, hf⟩ := j_bind hf
          obtain ⟨q105, e106, hf⟩ := j_bind hf
          refine Eq.trans ?_ ((q_X2_copyFrom e106))
          obtain ⟨u109, e110, hf⟩ := j_bind hf
          obtain ⟨q107, e108, hf⟩ := j_bind hf
          refine Eq.trans ?_ ((q_X0_goOn e108))
          obtain rfl := j_inj hf
          rfl
        ·
          obtain ⟨v113, e114, hf⟩ := j_bind hf
          obtain ⟨u119, e120, hf⟩ := j_bind hf
          obtain ⟨q115, e116, hf⟩ := j_bind hf
          refine Eq.trans ?_ ((q_X0_fail e116))
          obtain ⟨u117, e118, hf⟩ := j_bind hf
          obtain rfl := j_inj hf
          rfl
    ·
      obtain ⟨v127, e128, hf⟩ := j_bind hf
      obtain ⟨u133, e134, hf⟩ := j_bind hf
      obtain ⟨q129, e130, hf⟩ := j_bind hf
      refine Eq.trans ?_ ((q_X0_fail e130))
      obtain ⟨u131, e132, hf⟩ := j_bind hf
      obtain rfl := j_inj hf
      rfl
  obtain ⟨v135, e136, hf⟩ := j_bind hf
  obtain ⟨u141, e142, hf⟩ := j_bind hf
  obtain ⟨q137, e138, hf⟩ := j_bind hf
  refine Eq.trans ?_ ((q_X0_fail e138))
  obtain ⟨u139, e140, hf⟩ := j_bind hf
  obtain rfl := j_inj hf
  rfl
theorem q_X0_readPower {rec : Nat → Int32 → JH → Option (Int32 × JH)} (hrecq : ∀ {x0 : Nat} {x1 : Int32} {hh : JH} {qq : Int32 × JH}, rec x0 x1 hh = some qq → qq.2.2.1 = hh.2.1) {a0 : Nat} {a1 : Int32} {h : JH} {q : Int32 × JH} (hf : f_X0_readPower rec a0 a1 h = some q) : q.2.2.1 = h.2.1 := by
  unfold f_X0_readPower at hf
  obtain ⟨v1, e2, hf⟩ := j_bind hf
  obtain ⟨u69, e70, hf⟩ := j_bind hf
  obtain ⟨q3, e4, hf⟩ := j_bind hf
  refine Eq.trans ?_ ((q_X0_readAtom hrecq e4))
  rcases j_ite hf with hf | hf
  ·
    obtain rfl := j_inj hf
    rfl
  ·
    obtain ⟨u67, e68, hf⟩ := j_bind hf
    obtain ⟨q5, e6, hf⟩ := j_bind hf
    refine Eq.trans ?_ ((q_X0_kind e6))
    rcases j_ite hf with hf | hf
    ·
      obtain ⟨u65, e66, hf⟩ := j_bind hf
      obtain ⟨q7, e8, hf⟩ := j_bind hf
      refine Eq.trans ?_ ((q_X0_goOn e8))
      obtain ⟨u63, e64, hf⟩ := j_bind hf
      obtain ⟨q9, e10, hf⟩ := j_bind hf
      refine Eq.trans ?_ ((q_X0_kind e10))
      rcases j_ite hf with hf | hf
      ·
        obtain ⟨u53, e54, hf⟩ := j_bind hf
        obtain ⟨q11, e12, hf⟩ := j_bind hf
        refine Eq.trans ?_ ((q_X0_value e12))
        rcases j_ite hf with hf | hf
        ·
          obtain ⟨v13, e14, hf⟩ := j_bind hf
          obtain ⟨u19, e20, hf⟩ := j_bind hf
          obtain ⟨q15, e16, hf⟩ := j_bind hf
          refine Eq.trans ?_ ((q_X0_fail e16))
          obtain ⟨u17, e18, hf⟩ := j_bind hf
          obtain rfl := j_inj hf
          rfl
        ·
          rcases j_ite hf with hf | hf
          ·
            obtain ⟨u43, e44, hf⟩ := j_bind hf
            obtain ⟨q21, e22, hf⟩ := j_bind hf
            refine Eq.trans ?_ ((q_X0_goOn e22))
            obtain ⟨v23, e24, hf⟩ := j_bind hf
            obtain ⟨v25, e26, hf⟩ := j_bind hf
            obtain ⟨v27, e28, hf⟩ := j_bind hf
            rcases j_ite hf with hf | hf
            ·
              obtain ⟨v29, e30, hf⟩ := j_bind hf
              obtain ⟨v31, e32, hf⟩ := j_bind hf
              obtain ⟨u35, e36, hf⟩ := j_bind hf
              obtain ⟨q33, e34, hf⟩ := j_bind hf
              refine Eq.trans ?_ ((q_X0_raise e34))
              obtain rfl := j_inj hf
              rfl
            ·
              obtain ⟨u41, e42, hf⟩ := j_bind hf
              obtain ⟨q37, e38, hf⟩ := j_bind hf
              refine Eq.trans ?_ ((q_X0_fail e38))
              obtain ⟨u39, e40, hf⟩ := j_bind hf
              obtain rfl := j_inj hf
              rfl
          ·
            obtain ⟨v45, e46, hf⟩ := j_bind hf
            obtain ⟨u51, e52, hf⟩ := j_bind hf
            obtain ⟨q47, e48, hf⟩ := j_bind hf
            refine Eq.trans ?_ ((q_X0_fail e48))
            obtain ⟨u49, e50, hf⟩ := j_bind hf
            obtain rfl := j_inj hf
            rfl
      ·
        obtain ⟨v55, e56, hf⟩ := j_bind hf
        obtain ⟨u61, e62, hf⟩ := j_bind hf
        obtain ⟨q57, e58, hf⟩ := j_bind hf
        refine Eq.trans ?_ ((q_X0_fail e58))
        obtain ⟨u59, e60, hf⟩ := j_bind hf
        obtain rfl := j_inj hf
        rfl
    ·
      obtain rfl := j_inj hf
      rfl
theorem q_X0_readProduct_L32 {rec : Nat → Int32 → JH → Option (Int32 × JH)} (hrecq : ∀ {x0 : Nat} {x1 : Int32} {hh : JH} {qq : Int32 × JH}, rec x0 x1 hh = some qq → qq.2.2.1 = hh.2.1) {a0 : Nat} {a1 : Int32} {a2 : Nat} {a3 : Nat} {z : Int32} {h : JH} {r : Int32 ⊕ (Int32 ⊕ Int32)} {h1 : JH} (hf : f_X0_readProduct_L32 rec a0 a1 a2 a3 z h = some (r, h1)) : h1.2.1 = h.2.1 := by
  unfold f_X0_readProduct_L32 at hf
  obtain ⟨v13, e14, hf⟩ := j_bind hf
  obtain ⟨v15, e16, hf⟩ := j_bind hf
  rcases j_ite hf with hf | hf
  ·
    obtain ⟨rfl, rfl⟩ := j_inj2 hf
    rfl
  ·
    obtain ⟨u45, e46, hf⟩ := j_bind hf
    obtain ⟨q17, e18, hf⟩ := j_bind hf
    refine Eq.trans ?_ ((q_X0_kind e18))
    rcases j_ite hf with hf | hf
    ·
      obtain ⟨u43, e44, hf⟩ := j_bind hf
      obtain ⟨q19, e20, hf⟩ := j_bind hf
      refine Eq.trans ?_ ((q_X0_goOn e20))
      obtain ⟨v21, e22, hf⟩ := j_bind hf
      obtain ⟨u41, e42, hf⟩ := j_bind hf
      obtain ⟨q23, e24, hf⟩ := j_bind hf
      refine Eq.trans ?_ ((q_X0_readPower hrecq e24))
      rcases j_ite hf with hf | hf
      ·
        obtain ⟨rfl, rfl⟩ := j_inj2 hf
        rfl
      ·
        obtain ⟨v25, e26, hf⟩ := j_bind hf
        obtain ⟨v27, e28, hf⟩ := j_bind hf
        rcases j_ite hf with hf | hf
        ·
          obtain ⟨v29, e30, hf⟩ := j_bind hf
          obtain ⟨u33, e34, hf⟩ := j_bind hf
          obtain ⟨q31, e32, hf⟩ := j_bind hf
          refine Eq.trans ?_ ((q_X2_multiplyBy e32))
          obtain ⟨rfl, rfl⟩ := j_inj2 hf
          rfl
        ·
          obtain ⟨u39, e40, hf⟩ := j_bind hf
          obtain ⟨q35, e36, hf⟩ := j_bind hf
          refine Eq.trans ?_ ((q_X0_fail e36))
          obtain ⟨u37, e38, hf⟩ := j_bind hf
          obtain ⟨rfl, rfl⟩ := j_inj2 hf
          rfl
    ·
      obtain ⟨rfl, rfl⟩ := j_inj2 hf
      rfl
theorem q_X0_readProduct {rec : Nat → Int32 → JH → Option (Int32 × JH)} (hrecq : ∀ {x0 : Nat} {x1 : Int32} {hh : JH} {qq : Int32 × JH}, rec x0 x1 hh = some qq → qq.2.2.1 = hh.2.1) {a0 : Nat} {a1 : Int32} {h : JH} {q : Int32 × JH} (hf : f_X0_readProduct rec a0 a1 h = some q) : q.2.2.1 = h.2.1 := by
  unfold f_X0_readProduct at hf
  obtain ⟨u57, e58, hf⟩ := j_bind hf
  obtain ⟨q1, e2, hf⟩ := j_bind hf
  refine Eq.trans ?_ ((q_X0_readPower hrecq e2))
  rcases j_ite hf with hf | hf
  ·
    obtain rfl := j_inj hf
    rfl
  ·
    obtain ⟨v3, e4, hf⟩ := j_bind hf
    obtain ⟨v5, e6, hf⟩ := j_bind hf
    obtain ⟨v7, e8, hf⟩ := j_bind hf
    obtain ⟨v9, e10, hf⟩ := j_bind hf
    obtain ⟨u55, e56, hf⟩ := j_bind hf
    obtain ⟨q11, e12, hf⟩ := j_bind hf
    refine Eq.trans ?_ ((q_X2_copyFrom e12))
    obtain ⟨q51, e52, hf⟩ := j_bind hf
    refine Eq.trans ?_ ((jloop_eq (fun _ _ _ _ q => q_X0_readProduct_L32 hrecq q) e52))
    cases y59 : q51.1 with
    | inl r54 =>
      rw [y59] at hf
      have hf := j_eliml hf
      obtain rfl := j_inj hf
      rfl
    | inr t53 =>
      rw [y59] at hf
      have hf := j_elimr hf
      obtain rfl := j_inj hf
      rfl
theorem q_X2_add_L3 {a0 : Nat} {a1 : Nat} {a2 : Int32} {a3 : Int32} {z : Int32} {h : JH} {r : Int32 ⊕ Int32} {h1 : JH} (hf : f_X2_add_L3 a0 a1 a2 a3 z h = some (r, h1)) : h1.2.1 = h.2.1 := by
  unfold f_X2_add_L3 at hf
  rcases j_ite hf with hf | hf
  ·
    obtain ⟨rfl, rfl⟩ := j_inj2 hf
    rfl
  ·
    obtain ⟨v1, e2, hf⟩ := j_bind hf
    obtain ⟨v3, e4, hf⟩ := j_bind hf
    obtain ⟨v5, e6, hf⟩ := j_bind hf
    obtain ⟨v7, e8, hf⟩ := j_bind hf
    obtain ⟨v9, e10, hf⟩ := j_bind hf
    obtain ⟨q11, e12, hf⟩ := j_bind hf
    refine Eq.trans ?_ ((q_X4_of e12))
    obtain ⟨h13, e14, hf⟩ := j_bind hf
    refine Eq.trans ?_ (jsI_n e14)
    obtain ⟨rfl, rfl⟩ := j_inj2 hf
    rfl
theorem q_X2_add {a0 : Nat} {a1 : Nat} {a2 : Int32} {a3 : Int32} {h : JH} {q : Unit × JH} (hf : f_X2_add a0 a1 a2 a3 h = some q) : q.2.2.1 = h.2.1 := by
  unfold f_X2_add at hf
  obtain ⟨q16, e17, hf⟩ := j_bind hf
  refine Eq.trans ?_ ((jloop_eq (fun _ _ _ _ q => q_X2_add_L3 q) e17))
  obtain rfl := j_inj hf
  rfl
theorem q_X0_readSum_L32 {rec : Nat → Int32 → JH → Option (Int32 × JH)} (hrecq : ∀ {x0 : Nat} {x1 : Int32} {hh : JH} {qq : Int32 × JH}, rec x0 x1 hh = some qq → qq.2.2.1 = hh.2.1) {a0 : Nat} {a1 : Int32} {a2 : Nat} {a3 : Nat} {z : Int32} {h : JH} {r : Int32 ⊕ (Int32 ⊕ Int32)} {h1 : JH} (hf : f_X0_readSum_L32 rec a0 a1 a2 a3 z h = some (r, h1)) : h1.2.1 = h.2.1 := by
  unfold f_X0_readSum_L32 at hf
  obtain ⟨v13, e14, hf⟩ := j_bind hf
  obtain ⟨v15, e16, hf⟩ := j_bind hf
  rcases j_ite hf with hf | hf
  ·
    obtain ⟨rfl, rfl⟩ := j_inj2 hf
    rfl
  ·
    obtain ⟨u139, e140, hf⟩ := j_bind hf
    obtain ⟨q17, e18, hf⟩ := j_bind hf
    refine Eq.trans ?_ ((q_X0_kind e18))
    rcases j_ite hf with hf | hf
    ·
      obtain ⟨u75, e76, hf⟩ := j_bind hf
      obtain ⟨q19, e20, hf⟩ := j_bind hf
      refine Eq.trans ?_ ((q_X0_kind e20))
      rcases j_ite hf with hf | hf
      ·
        obtain ⟨u73, e74, hf⟩ := j_bind hf
        obtain ⟨q49, e50, hf⟩ := j_bind hf
        refine Eq.trans ?_ ((q_X0_goOn e50))
        obtain ⟨v51, e52, hf⟩ := j_bind hf
        obtain ⟨u71, e72, hf⟩ := j_bind hf
        obtain ⟨q53, e54, hf⟩ := j_bind hf
        refine Eq.trans ?_ ((q_X0_readProduct hrecq e54))
        rcases j_ite hf with hf | hf
        ·
          obtain ⟨rfl, rfl⟩ := j_inj2 hf
          rfl
        ·
          obtain ⟨v55, e56, hf⟩ := j_bind hf
          obtain ⟨v57, e58, hf⟩ := j_bind hf
          rcases j_ite hf with hf | hf
          ·
            obtain ⟨v59, e60, hf⟩ := j_bind hf
            obtain ⟨u63, e64, hf⟩ := j_bind hf
            obtain ⟨q61, e62, hf⟩ := j_bind hf
            refine Eq.trans ?_ ((q_X2_add e62))
            obtain ⟨rfl, rfl⟩ := j_inj2 hf
            rfl
          ·
            obtain ⟨u69, e70, hf⟩ := j_bind hf
            obtain ⟨q65, e66, hf⟩ := j_bind hf
            refine Eq.trans ?_ ((q_X0_fail e66))
            obtain ⟨u67, e68, hf⟩ := j_bind hf
            obtain ⟨rfl, rfl⟩ := j_inj2 hf
            rfl
      ·
        obtain ⟨v21, e22, hf⟩ := j_bind hf
        obtain ⟨u47, e48, hf⟩ := j_bind hf
        obtain ⟨q23, e24, hf⟩ := j_bind hf
        refine Eq.trans ?_ ((q_X0_goOn e24))
        obtain ⟨v25, e26, hf⟩ := j_bind hf
        obtain ⟨u45, e46, hf⟩ := j_bind hf
        obtain ⟨q27, e28, hf⟩ := j_bind hf
        refine Eq.trans ?_ ((q_X0_readProduct hrecq e28))
        rcases j_ite hf with hf | hf
        ·
          obtain ⟨rfl, rfl⟩ := j_inj2 hf
          rfl
        ·
          obtain ⟨v29, e30, hf⟩ := j_bind hf
          obtain ⟨v31, e32, hf⟩ := j_bind hf
          rcases j_ite hf with hf | hf
          ·
            obtain ⟨v33, e34, hf⟩ := j_bind hf
            obtain ⟨u37, e38, hf⟩ := j_bind hf
            obtain ⟨q35, e36, hf⟩ := j_bind hf
            refine Eq.trans ?_ ((q_X2_add e36))
            obtain ⟨rfl, rfl⟩ := j_inj2 hf
            rfl
          ·
            obtain ⟨u43, e44, hf⟩ := j_bind hf
            obtain ⟨q39, e40, hf⟩ := j_bind hf
            refine Eq.trans ?_ ((q_X0_fail e40))
            obtain ⟨u41, e42, hf⟩ := j_bind hf
            obtain ⟨rfl, rfl⟩ := j_inj2 hf
            rfl
    ·
      obtain ⟨u137, e138, hf⟩ := j_bind hf
      obtain ⟨q77, e78, hf⟩ := j_bind hf
      refine Eq.trans ?_ ((q_X0_kind e78))
      rcases j_ite hf with hf | hf
      ·
        obtain ⟨u135, e136, hf⟩ := j_bind hf
        obtain ⟨q79, e80, hf⟩ := j_bind hf
        refine Eq.trans ?_ ((q_X0_kind e80))
        rcases j_ite hf with hf | hf
        ·
          obtain ⟨u133, e134, hf⟩ := j_bind hf
          obtain ⟨q109, e110, hf⟩ := j_bind hf
          refine Eq.trans ?_ ((q_X0_goOn e110))
          obtain ⟨v111, e112, hf⟩ := j_bind hf
          obtain ⟨u131, e132, hf⟩ := j_bind hf
          obtain ⟨q113, e114, hf⟩ := j_bind hf
          refine Eq.trans ?_ ((q_X0_readProduct hrecq e114))
          rcases j_ite hf with hf | hf
          ·
            obtain ⟨rfl, rfl⟩ := j_inj2 hf
            rfl
          ·
            obtain ⟨v115, e116, hf⟩ := j_bind hf
            obtain ⟨v117, e118, hf⟩ := j_bind hf
            rcases j_ite hf with hf | hf
            ·
              obtain ⟨v119, e120, hf⟩ := j_bind hf
              obtain ⟨u123, e124, hf⟩ := j_bind hf
              obtain ⟨q121, e122, hf⟩ := j_bind hf
              refine Eq.trans ?_ ((q_X2_add e122))
              obtain ⟨rfl, rfl⟩ := j_inj2 hf
              rfl
            ·
              obtain ⟨u129, e130, hf⟩ := j_bind hf
              obtain ⟨q125, e126, hf⟩ := j_bind hf
              refine Eq.trans ?_ ((q_X0_fail e126))
              obtain ⟨u127, e128, hf⟩ := j_bind hf
              obtain ⟨rfl, rfl⟩ := j_inj2 hf
              rfl
        ·
          obtain ⟨v81, e82, hf⟩ := j_bind hf
          obtain ⟨u107, e108, hf⟩ := j_bind hf
          obtain ⟨q83, e84, hf⟩ := j_bind hf
          refine Eq.trans ?_ ((q_X0_goOn e84))
          obtain ⟨v85, e86, hf⟩ := j_bind hf
          obtain ⟨u105, e106, hf⟩ := j_bind hf
          obtain ⟨q87, e88, hf⟩ := j_bind hf
          refine Eq.trans ?_ ((q_X0_readProduct hrecq e88))
          rcases j_ite hf with hf | hf
          ·
            obtain ⟨rfl, rfl⟩ := j_inj2 hf
            rfl
          ·
            obtain ⟨v89, e90, hf⟩ := j_bind hf
            obtain ⟨v91, e92, hf⟩ := j_bind hf
            rcases j_ite hf with hf | hf
            ·
              obtain ⟨v93, e94, hf⟩ := j_bind hf
              obtain ⟨u97, e98, hf⟩ := j_bind hf
              obtain ⟨q95, e96, hf⟩ := j_bind hf
              refine Eq.trans ?_ ((q_X2_add e96))
              obtain ⟨rfl, rfl⟩ := j_inj2 hf
              rfl
            ·
              obtain ⟨u103, e104, hf⟩ := j_bind hf
              obtain ⟨q99, e100, hf⟩ := j_bind hf
              refine Eq.trans ?_ ((q_X0_fail e100))
              obtain ⟨u101, e102, hf⟩ := j_bind hf
              obtain ⟨rfl, rfl⟩ := j_inj2 hf
              rfl
      ·
        obtain ⟨rfl, rfl⟩ := j_inj2 hf
        rfl
theorem q_X0_readSum {rec : Nat → Int32 → JH → Option (Int32 × JH)} (hrecq : ∀ {x0 : Nat} {x1 : Int32} {hh : JH} {qq : Int32 × JH}, rec x0 x1 hh = some qq → qq.2.2.1 = hh.2.1) {a0 : Nat} {a1 : Int32} {h : JH} {q : Int32 × JH} (hf : f_X0_readSum rec a0 a1 h = some q) : q.2.2.1 = h.2.1 := by
  unfold f_X0_readSum at hf
  obtain ⟨u160, e161, hf⟩ := j_bind hf
  obtain ⟨q1, e2, hf⟩ := j_bind hf
  refine Eq.trans ?_ ((q_X0_readProduct hrecq e2))
  rcases j_ite hf with hf | hf
  ·
    obtain rfl := j_inj hf
    rfl
  ·
    obtain ⟨v3, e4, hf⟩ := j_bind hf
    obtain ⟨v5, e6, hf⟩ := j_bind hf
    obtain ⟨v7, e8, hf⟩ := j_bind hf
    obtain ⟨v9, e10, hf⟩ := j_bind hf
    obtain ⟨u158, e159, hf⟩ := j_bind hf
    obtain ⟨q11, e12, hf⟩ := j_bind hf
    refine Eq.trans ?_ ((q_X2_copyFrom e12))
    obtain ⟨q154, e155, hf⟩ := j_bind hf
    refine Eq.trans ?_ ((jloop_eq (fun _ _ _ _ q => q_X0_readSum_L32 hrecq q) e155))
    cases y162 : q154.1 with
    | inl r157 =>
      rw [y162] at hf
      have hf := j_eliml hf
      obtain rfl := j_inj hf
      rfl
    | inr t156 =>
      rw [y162] at hf
      have hf := j_elimr hf
      obtain rfl := j_inj hf
      rfl
theorem qn_X0_readSum {n : Nat} {x0 : Nat} {x1 : Int32} {h : JH} {q : Int32 × JH} (hf : n_X0_readSum n x0 x1 h = some q) : q.2.2.1 = h.2.1 := by
  induction n generalizing x0 x1 h q with
  | zero => cases hf
  | succ n ih => exact q_X0_readSum (rec := n_X0_readSum n) (fun q => ih q) hf
theorem q_X0_readLets_L2 {a0 : Nat} {z : Int32} {h : JH} {r : Int32 ⊕ (Int32 ⊕ Int32)} {h1 : JH} (hf : f_X0_readLets_L2 a0 z h = some (r, h1)) : h1.2.1 = h.2.1 := by
  unfold f_X0_readLets_L2 at hf
  rcases j_ite hf with hf | hf
  ·
    obtain ⟨rfl, rfl⟩ := j_inj2 hf
    rfl
  ·
    obtain ⟨u225, e226, hf⟩ := j_bind hf
    obtain ⟨q1, e2, hf⟩ := j_bind hf
    refine Eq.trans ?_ ((q_X0_kind e2))
    rcases j_ite hf with hf | hf
    ·
      obtain ⟨rfl, rfl⟩ := j_inj2 hf
      rfl
    ·
      obtain ⟨u223, e224, hf⟩ := j_bind hf
      obtain ⟨q3, e4, hf⟩ := j_bind hf
      refine Eq.trans ?_ ((q_X0_kind e4))
      rcases j_ite hf with hf | hf
      ·
        obtain ⟨v109, e110, hf⟩ := j_bind hf
        rcases j_ite hf with hf | hf
        ·
          obtain ⟨u213, e214, hf⟩ := j_bind hf
          obtain ⟨q111, e112, hf⟩ := j_bind hf
          refine Eq.trans ?_ ((q_X0_expect e112))
          rcases j_ite hf with hf | hf
          ·
            obtain ⟨rfl, rfl⟩ := j_inj2 hf
            rfl
          ·
            obtain ⟨u211, e212, hf⟩ := j_bind hf
            obtain ⟨q113, e114, hf⟩ := j_bind hf
            refine Eq.trans ?_ ((q_X0_value e114))
            obtain ⟨u209, e210, hf⟩ := j_bind hf
            obtain ⟨q115, e116, hf⟩ := j_bind hf
            refine Eq.trans ?_ ((q_X0_kind e116))
            rcases j_ite hf with hf | hf
            ·
              obtain ⟨u207, e208, hf⟩ := j_bind hf
              obtain ⟨q157, e158, hf⟩ := j_bind hf
              refine Eq.trans ?_ ((q_X0_findLet e158))
              rcases j_ite hf with hf | hf
              ·
                obtain ⟨u197, e198, hf⟩ := j_bind hf
                obtain ⟨q159, e160, hf⟩ := j_bind hf
                refine Eq.trans ?_ ((q_X0_expect e160))
                rcases j_ite hf with hf | hf
                ·
                  obtain ⟨rfl, rfl⟩ := j_inj2 hf
                  rfl
                ·
                  obtain ⟨u195, e196, hf⟩ := j_bind hf
                  obtain ⟨q161, e162, hf⟩ := j_bind hf
                  refine Eq.trans ?_ ((q_X0_expect e162))
                  rcases j_ite hf with hf | hf
                  ·
                    obtain ⟨rfl, rfl⟩ := j_inj2 hf
                    rfl
                  ·
                    obtain ⟨u193, e194, hf⟩ := j_bind hf
                    obtain ⟨q163, e164, hf⟩ := j_bind hf
                    refine Eq.trans ?_ ((qn_X0_readSum e164))
                    rcases j_ite hf with hf | hf
                    ·
                      obtain ⟨rfl, rfl⟩ := j_inj2 hf
                      rfl
                    ·
                      obtain ⟨u191, e192, hf⟩ := j_bind hf
                      obtain ⟨q165, e166, hf⟩ := j_bind hf
                      refine Eq.trans ?_ ((q_X0_expect e166))
                      rcases j_ite hf with hf | hf
                      ·
                        obtain ⟨rfl, rfl⟩ := j_inj2 hf
                        rfl
                      ·
                        obtain ⟨v167, e168, hf⟩ := j_bind hf
                        obtain ⟨v169, e170, hf⟩ := j_bind hf
                        obtain ⟨h171, e172, hf⟩ := j_bind hf
                        refine Eq.trans ?_ (jsI_n e172)
                        obtain ⟨v173, e174, hf⟩ := j_bind hf
                        obtain ⟨v175, e176, hf⟩ := j_bind hf
                        obtain ⟨v177, e178, hf⟩ := j_bind hf
                        obtain ⟨v179, e180, hf⟩ := j_bind hf
                        obtain ⟨v181, e182, hf⟩ := j_bind hf
                        obtain ⟨u189, e190, hf⟩ := j_bind hf
                        obtain ⟨q183, e184, hf⟩ := j_bind hf
                        refine Eq.trans ?_ ((q_X2_copyFrom e184))
                        obtain ⟨v185, e186, hf⟩ := j_bind hf
                        obtain ⟨h187, e188, hf⟩ := j_bind hf
                        refine Eq.trans ?_ (jput_n e188)
                        obtain ⟨rfl, rfl⟩ := j_inj2 hf
                        rfl
              ·
                obtain ⟨v199, e200, hf⟩ := j_bind hf
                obtain ⟨u205, e206, hf⟩ := j_bind hf
                obtain ⟨q201, e202, hf⟩ := j_bind hf
                refine Eq.trans ?_ ((q_X0_fail e202))
                obtain ⟨u203, e204, hf⟩ := j_bind hf
                obtain ⟨rfl, rfl⟩ := j_inj2 hf
                rfl
            ·
              obtain ⟨u155, e156, hf⟩ := j_bind hf
              obtain ⟨q117, e118, hf⟩ := j_bind hf
              refine Eq.trans ?_ ((q_X0_expect e118))
              rcases j_ite hf with hf | hf
              ·
                obtain ⟨rfl, rfl⟩ := j_inj2 hf
                rfl
              ·
                obtain ⟨u153, e154, hf⟩ := j_bind hf
                obtain ⟨q119, e120, hf⟩ := j_bind hf
                refine Eq.trans ?_ ((q_X0_expect e120))
                rcases j_ite hf with hf | hf
                ·
                  obtain ⟨rfl, rfl⟩ := j_inj2 hf
                  rfl
                ·
                  obtain ⟨u151, e152, hf⟩ := j_bind hf
                  obtain ⟨q121, e122, hf⟩ := j_bind hf
                  refine Eq.trans ?_ ((qn_X0_readSum e122))
                  rcases j_ite hf with hf | hf
                  ·
                    obtain ⟨rfl, rfl⟩ := j_inj2 hf
                    rfl
                  ·
                    obtain ⟨u149, e150, hf⟩ := j_bind hf
                    obtain ⟨q123, e124, hf⟩ := j_bind hf
                    refine Eq.trans ?_ ((q_X0_expect e124))
                    rcases j_ite hf with hf | hf
                    ·
                      obtain ⟨rfl, rfl⟩ := j_inj2 hf
                      rfl
                    ·
                      obtain ⟨v125, e126, hf⟩ := j_bind hf
                      obtain ⟨v127, e128, hf⟩ := j_bind hf
                      obtain ⟨h129, e130, hf⟩ := j_bind hf
                      refine Eq.trans ?_ (jsI_n e130)
                      obtain ⟨v131, e132, hf⟩ := j_bind hf
                      obtain ⟨v133, e134, hf⟩ := j_bind hf
                      obtain ⟨v135, e136, hf⟩ := j_bind hf
                      obtain ⟨v137, e138, hf⟩ := j_bind hf
                      obtain ⟨v139, e140, hf⟩ := j_bind hf
                      obtain ⟨u147, e148, hf⟩ := j_bind hf
                      obtain ⟨q141, e142, hf⟩ := j_bind hf
                      refine Eq.trans ?_ ((q_X2_copyFrom e142))
                      obtain ⟨v143, e144, hf⟩ := j_bind hf
                      obtain ⟨h145, e146, hf⟩ := j_bind hf
                      refine Eq.trans ?_ (jput_n e146)
                      obtain ⟨rfl, rfl⟩ := j_inj2 hf
                      rfl
        ·
          obtain ⟨v215, e216, hf⟩ := j_bind hf
          obtain ⟨u221, e222, hf⟩ := j_bind hf
          obtain ⟨q217, e218, hf⟩ := j_bind hf
          refine Eq.trans ?_ ((q_X0_fail e218))
          obtain ⟨u219, e220, hf⟩ := j_bind hf
          obtain ⟨rfl, rfl⟩ := j_inj2 hf
          rfl
      ·
        obtain ⟨u107, e108, hf⟩ := j_bind hf
        obtain ⟨q5, e6, hf⟩ := j_bind hf
        refine Eq.trans ?_ ((q_X0_expect e6))
        rcases j_ite hf with hf | hf
        ·
          obtain ⟨rfl, rfl⟩ := j_inj2 hf
          rfl
        ·
          obtain ⟨u105, e106, hf⟩ := j_bind hf
          obtain ⟨q7, e8, hf⟩ := j_bind hf
          refine Eq.trans ?_ ((q_X0_value e8))
          obtain ⟨u103, e104, hf⟩ := j_bind hf
          obtain ⟨q9, e10, hf⟩ := j_bind hf
          refine Eq.trans ?_ ((q_X0_kind e10))
          rcases j_ite hf with hf | hf
          ·
            obtain ⟨u101, e102, hf⟩ := j_bind hf
            obtain ⟨q51, e52, hf⟩ := j_bind hf
            refine Eq.trans ?_ ((q_X0_findLet e52))
            rcases j_ite hf with hf | hf
            ·
              obtain ⟨u91, e92, hf⟩ := j_bind hf
              obtain ⟨q53, e54, hf⟩ := j_bind hf
              refine Eq.trans ?_ ((q_X0_expect e54))
              rcases j_ite hf with hf | hf
              ·
                obtain ⟨rfl, rfl⟩ := j_inj2 hf
                rfl
              ·
                obtain ⟨u89, e90, hf⟩ := j_bind hf
                obtain ⟨q55, e56, hf⟩ := j_bind hf
                refine Eq.trans ?_ ((q_X0_expect e56))
                rcases j_ite hf with hf | hf
                ·
                  obtain ⟨rfl, rfl⟩ := j_inj2 hf
                  rfl
                ·
                  obtain ⟨u87, e88, hf⟩ := j_bind hf
                  obtain ⟨q57, e58, hf⟩ := j_bind hf
                  refine Eq.trans ?_ ((qn_X0_readSum e58))
                  rcases j_ite hf with hf | hf
                  ·
                    obtain ⟨rfl, rfl⟩ := j_inj2 hf
                    rfl
                  ·
                    obtain ⟨u85, e86, hf⟩ := j_bind hf
                    obtain ⟨q59, e60, hf⟩ := j_bind hf
                    refine Eq.trans ?_ ((q_X0_expect e60))
                    rcases j_ite hf with hf | hf
                    ·
                      obtain ⟨rfl, rfl⟩ := j_inj2 hf
                      rfl
                    ·
                      obtain ⟨v61, e62, hf⟩ := j_bind hf
                      obtain ⟨v63, e64, hf⟩ := j_bind hf
                      obtain ⟨h65, e66, hf⟩ := j_bind hf
                      refine Eq.trans ?_ (jsI_n e66)
                      obtain ⟨v67, e68, hf⟩ := j_bind hf
                      obtain ⟨v69, e70, hf⟩ := j_bind hf
                      obtain ⟨v71, e72, hf⟩ := j_bind hf
                      obtain ⟨v73, e74, hf⟩ := j_bind hf
                      obtain ⟨v75, e76, hf⟩ := j_bind hf
                      obtain ⟨u83, e84, hf⟩ := j_bind hf
                      obtain ⟨q77, e78, hf⟩ := j_bind hf
                      refine Eq.trans ?_ ((q_X2_copyFrom e78))
                      obtain ⟨v79, e80, hf⟩ := j_bind hf
                      obtain ⟨h81, e82, hf⟩ := j_bind hf
                      refine Eq.trans ?_ (jput_n e82)
                      obtain ⟨rfl, rfl⟩ := j_inj2 hf
                      rfl
            ·
              obtain ⟨v93, e94, hf⟩ := j_bind hf
              obtain ⟨u99, e100, hf⟩ := j_bind hf
              obtain ⟨q95, e96, hf⟩ := j_bind hf
              refine Eq.trans ?_ ((q_X0_fail e96))
              obtain ⟨u97, e98, hf⟩ := j_bind hf
              obtain ⟨rfl, rfl⟩ := j_inj2 hf
              rfl
          ·
            obtain ⟨u49, e50, hf⟩ := j_bind hf
            obtain ⟨q11, e12, hf⟩ := j_bind hf
            refine Eq.trans ?_ ((q_X0_expect e12))
            rcases j_ite hf with hf | hf
            ·
              obtain ⟨rfl, rfl⟩ := j_inj2 hf
              rfl
            ·
              obtain ⟨u47, e48, hf⟩ := j_bind hf
              obtain ⟨q13, e14, hf⟩ := j_bind hf
              refine Eq.trans ?_ ((q_X0_expect e14))
              rcases j_ite hf with hf | hf
              ·
                obtain ⟨rfl, rfl⟩ := j_inj2 hf
                rfl
              ·
                obtain ⟨u45, e46, hf⟩ := j_bind hf
                obtain ⟨q15, e16, hf⟩ := j_bind hf
                refine Eq.trans ?_ ((qn_X0_readSum e16))
                rcases j_ite hf with hf | hf
                ·
                  obtain ⟨rfl, rfl⟩ := j_inj2 hf
                  rfl
                ·
                  obtain ⟨u43, e44, hf⟩ := j_bind hf
                  obtain ⟨q17, e18, hf⟩ := j_bind hf
                  refine Eq.trans ?_ ((q_X0_expect e18))
                  rcases j_ite hf with hf | hf
                  ·
                    obtain ⟨rfl, rfl⟩ := j_inj2 hf
                    rfl
                  ·
                    obtain ⟨v19, e20, hf⟩ := j_bind hf
                    obtain ⟨v21, e22, hf⟩ := j_bind hf
                    obtain ⟨h23, e24, hf⟩ := j_bind hf
                    refine Eq.trans ?_ (jsI_n e24)
                    obtain ⟨v25, e26, hf⟩ := j_bind hf
                    obtain ⟨v27, e28, hf⟩ := j_bind hf
                    obtain ⟨v29, e30, hf⟩ := j_bind hf
                    obtain ⟨v31, e32, hf⟩ := j_bind hf
                    obtain ⟨v33, e34, hf⟩ := j_bind hf
                    obtain ⟨u41, e42, hf⟩ := j_bind hf
                    obtain ⟨q35, e36, hf⟩ := j_bind hf
                    refine Eq.trans ?_ ((q_X2_copyFrom e36))
                    obtain ⟨v37, e38, hf⟩ := j_bind hf
                    obtain ⟨h39, e40, hf⟩ := j_bind hf
                    refine Eq.trans ?_ (jput_n e40)
                    obtain ⟨rfl, rfl⟩ := j_inj2 hf
                    rfl
theorem q_X0_readLets {a0 : Nat} {h : JH} {q : Int32 × JH} (hf : f_X0_readLets a0 h = some q) : q.2.2.1 = h.2.1 := by
  unfold f_X0_readLets at hf
  obtain ⟨q253, e254, hf⟩ := j_bind hf
  refine Eq.trans ?_ ((jloop_eq (fun _ _ _ _ q => q_X0_readLets_L2 q) e254))
  cases y257 : q253.1 with
  | inl r256 =>
    rw [y257] at hf
    have hf := j_eliml hf
    obtain rfl := j_inj hf
    rfl
  | inr t255 =>
    rw [y257] at hf
    have hf := j_elimr hf
    obtain rfl := j_inj hf
    rfl
theorem q_X1_onlyIfPrimitive_L2 {a0 : Int32} {a1 : Int32} {a2 : Int32} {z : Int32} {h : JH} {r : Int32 ⊕ (Int32 ⊕ Int32)} {h1 : JH} (hf : f_X1_onlyIfPrimitive_L2 a0 a1 a2 z h = some (r, h1)) : h1.2.1 = h.2.1 := by
  unfold f_X1_onlyIfPrimitive_L2 at hf
  rcases j_ite hf with hf | hf
  ·
    obtain ⟨rfl, rfl⟩ := j_inj2 hf
    rfl
  ·
    obtain ⟨u1, e2, hf⟩ := j_bind hf
    rcases j_ite hf with hf | hf
    ·
      obtain ⟨u3, e4, hf⟩ := j_bind hf
      rcases j_ite hf with hf | hf
      ·
        obtain ⟨u5, e6, hf⟩ := j_bind hf
        rcases j_ite hf with hf | hf
        ·
          obtain ⟨rfl, rfl⟩ := j_inj2 hf
          rfl
        ·
          obtain ⟨rfl, rfl⟩ := j_inj2 hf
          rfl
      ·
        obtain ⟨rfl, rfl⟩ := j_inj2 hf
        rfl
    ·
      obtain ⟨rfl, rfl⟩ := j_inj2 hf
      rfl
theorem q_X1_onlyIfPrimitive {a0 : Int32} {a1 : Int32} {a2 : Int32} {h : JH} {q : Int32 × JH} (hf : f_X1_onlyIfPrimitive a0 a1 a2 h = some q) : q.2.2.1 = h.2.1 := by
  unfold f_X1_onlyIfPrimitive at hf
  obtain ⟨q11, e12, hf⟩ := j_bind hf
  refine Eq.trans ?_ ((jloop_eq (fun _ _ _ _ q => q_X1_onlyIfPrimitive_L2 q) e12))
  cases y15 : q11.1 with
  | inl r14 =>
    rw [y15] at hf
    have hf := j_eliml hf
    obtain rfl := j_inj hf
    rfl
  | inr t13 =>
    rw [y15] at hf
    have hf := j_elimr hf
    obtain rfl := j_inj hf
    rfl
theorem q_X1_twelfths {a0 : Int32} {a1 : Int32} {a2 : Int32} {h : JH} {q : Int32 × JH} (hf : f_X1_twelfths a0 a1 a2 h = some q) : q.2.2.1 = h.2.1 := by
  unfold f_X1_twelfths at hf
  rcases j_ite hf with hf | hf
  ·
    rcases j_ite hf with hf | hf
    ·
      obtain rfl := j_inj hf
      rfl
    ·
      rcases j_ite hf with hf | hf
      ·
        obtain rfl := j_inj hf
        rfl
      ·
        obtain rfl := j_inj hf
        rfl
  ·
    obtain rfl := j_inj hf
    rfl
theorem q_X1_addUp_L18 {a0 : Int32} {a1 : Int32} {a3 : Int32} {z : (Int32 × Int32)} {h : JH} {r : (Int32 × Int32) ⊕ (Int32 × Int32)} {h1 : JH} (hf : f_X1_addUp_L18 a0 a1 a3 z h = some (r, h1)) : h1.2.1 = h.2.1 := by
  unfold f_X1_addUp_L18 at hf
  rcases j_ite hf with hf | hf
  ·
    obtain ⟨rfl, rfl⟩ := j_inj2 hf
    rfl
  ·
    obtain ⟨u1, e2, hf⟩ := j_bind hf
    obtain ⟨u3, e4, hf⟩ := j_bind hf
    rcases j_ite hf with hf | hf
    ·
      rcases j_ite hf with hf | hf
      ·
        rcases j_ite hf with hf | hf
        ·
          obtain ⟨q5, e6, hf⟩ := j_bind hf
          refine Eq.trans ?_ ((q_X1_twelfths e6))
          obtain ⟨rfl, rfl⟩ := j_inj2 hf
          rfl
        ·
          obtain ⟨q7, e8, hf⟩ := j_bind hf
          refine Eq.trans ?_ ((q_X1_onlyIfPrimitive e8))
          obtain ⟨rfl, rfl⟩ := j_inj2 hf
          rfl
      ·
        rcases j_ite hf with hf | hf
        ·
          rcases j_ite hf with hf | hf
          ·
            obtain ⟨rfl, rfl⟩ := j_inj2 hf
            rfl
          ·
            rcases j_ite hf with hf | hf
            ·
              obtain ⟨q9, e10, hf⟩ := j_bind hf
              refine Eq.trans ?_ ((q_X1_twelfths e10))
              obtain ⟨rfl, rfl⟩ := j_inj2 hf
              rfl
            ·
              obtain ⟨q11, e12, hf⟩ := j_bind hf
              refine Eq.trans ?_ ((q_X1_onlyIfPrimitive e12))
              obtain ⟨rfl, rfl⟩ := j_inj2 hf
              rfl
        ·
          obtain ⟨rfl, rfl⟩ := j_inj2 hf
          rfl
    ·
      obtain ⟨rfl, rfl⟩ := j_inj2 hf
      rfl
theorem q_X1_addUp_L4 {a0 : Int32} {a1 : Int32} {z : (Int32 × Int32)} {h : JH} {r : (Int32 × Int32) ⊕ (Int32 × Int32)} {h1 : JH} (hf : f_X1_addUp_L4 a0 a1 z h = some (r, h1)) : h1.2.1 = h.2.1 := by
  unfold f_X1_addUp_L4 at hf
  rcases j_ite hf with hf | hf
  ·
    obtain ⟨rfl, rfl⟩ := j_inj2 hf
    rfl
  ·
    obtain ⟨q1, e2, hf⟩ := j_bind hf
    refine Eq.trans ?_ ((jloop_eq (fun _ _ _ _ q => q_X1_addUp_L18 q) e2))
    obtain ⟨rfl, rfl⟩ := j_inj2 hf
    rfl
theorem q_X1_addUp {a0 : Int32} {a1 : Int32} {h : JH} {q : Int32 × JH} (hf : f_X1_addUp a0 a1 h = some q) : q.2.2.1 = h.2.1 := by
  unfold f_X1_addUp at hf
  obtain ⟨q4, e5, hf⟩ := j_bind hf
  refine Eq.trans ?_ ((jloop_eq (fun _ _ _ _ q => q_X1_addUp_L4 q) e5))
  obtain rfl := j_inj hf
  rfl
theorem q_X1_isDiscriminant {a0 : Int32} {h : JH} {q : Int32 × JH} (hf : f_X1_isDiscriminant a0 h = some q) : q.2.2.1 = h.2.1 := by
  unfold f_X1_isDiscriminant at hf
  rcases j_ite hf with hf | hf
  ·
    obtain rfl := j_inj hf
    rfl
  ·
    rcases j_ite hf with hf | hf
    ·
      obtain rfl := j_inj hf
      rfl
    ·
      rcases j_ite hf with hf | hf
      ·
        obtain rfl := j_inj hf
        rfl
      ·
        rcases j_ite hf with hf | hf
        ·
          obtain rfl := j_inj hf
          rfl
        ·
          obtain rfl := j_inj hf
          rfl
theorem q_X1_inTwelfths {a0 : Int32} {h : JH} {q : Int32 × JH} (hf : f_X1_inTwelfths a0 h = some q) : q.2.2.1 = h.2.1 := by
  unfold f_X1_inTwelfths at hf
  rcases j_ite hf with hf | hf
  ·
    obtain rfl := j_inj hf
    rfl
  ·
    obtain ⟨q1, e2, hf⟩ := j_bind hf
    refine Eq.trans ?_ ((q_X1_isDiscriminant e2))
    rcases j_ite hf with hf | hf
    ·
      obtain rfl := j_inj hf
      rfl
    ·
      obtain ⟨q3, e4, hf⟩ := j_bind hf
      refine Eq.trans ?_ ((q_X1_addUp e4))
      obtain rfl := j_inj hf
      rfl
theorem q_X1_ofNothingInCommon {a0 : Int32} {h : JH} {q : Int32 × JH} (hf : f_X1_ofNothingInCommon a0 h = some q) : q.2.2.1 = h.2.1 := by
  unfold f_X1_ofNothingInCommon at hf
  obtain ⟨q1, e2, hf⟩ := j_bind hf
  refine Eq.trans ?_ ((q_X1_isDiscriminant e2))
  rcases j_ite hf with hf | hf
  ·
    obtain rfl := j_inj hf
    rfl
  ·
    obtain ⟨q3, e4, hf⟩ := j_bind hf
    refine Eq.trans ?_ ((q_X1_addUp e4))
    obtain rfl := j_inj hf
    rfl
theorem q_X2_firstNotZero_L2 {a0 : Nat} {z : Int32} {h : JH} {r : Int32 ⊕ (Int32 ⊕ Int32)} {h1 : JH} (hf : f_X2_firstNotZero_L2 a0 z h = some (r, h1)) : h1.2.1 = h.2.1 := by
  unfold f_X2_firstNotZero_L2 at hf
  rcases j_ite hf with hf | hf
  ·
    obtain ⟨rfl, rfl⟩ := j_inj2 hf
    rfl
  ·
    obtain ⟨v1, e2, hf⟩ := j_bind hf
    obtain ⟨v3, e4, hf⟩ := j_bind hf
    rcases j_ite hf with hf | hf
    ·
      obtain ⟨rfl, rfl⟩ := j_inj2 hf
      rfl
    ·
      obtain ⟨rfl, rfl⟩ := j_inj2 hf
      rfl
theorem q_X2_firstNotZero {a0 : Nat} {h : JH} {q : Int32 × JH} (hf : f_X2_firstNotZero a0 h = some q) : q.2.2.1 = h.2.1 := by
  unfold f_X2_firstNotZero at hf
  obtain ⟨q7, e8, hf⟩ := j_bind hf
  refine Eq.trans ?_ ((jloop_eq (fun _ _ _ _ q => q_X2_firstNotZero_L2 q) e8))
  cases y11 : q7.1 with
  | inl r10 =>
    rw [y11] at hf
    have hf := j_eliml hf
    obtain rfl := j_inj hf
    rfl
  | inr t9 =>
    rw [y11] at hf
    have hf := j_elimr hf
    obtain rfl := j_inj hf
    rfl
theorem n_X6_init {a0 : Nat} {h : JH} {q : Unit × JH} (hf : f_X6_init a0 h = some q) : j_le h q.2 := by
  unfold f_X6_init at hf
  obtain ⟨q1, e2, hf⟩ := j_bind hf
  refine j_le_trans (jnA_le e2) ?_
  obtain ⟨h3, e4, hf⟩ := j_bind hf
  refine j_le_trans (j_le_of (jput_n e4)) ?_
  obtain ⟨q5, e6, hf⟩ := j_bind hf
  refine j_le_trans (jnM_le e6) ?_
  obtain ⟨h7, e8, hf⟩ := j_bind hf
  refine j_le_trans (j_le_of (jput_n e8)) ?_
  obtain rfl := j_inj hf
  exact j_le_refl _
theorem n_X11_newShelves_L7 {a0 : Nat} {z : Int32} {h : JH} {r : Int32 ⊕ Int32} {h1 : JH} (hf : f_X11_newShelves_L7 a0 z h = some (r, h1)) : j_le h h1 := by
  unfold f_X11_newShelves_L7 at hf
  rcases j_ite hf with hf | hf
  ·
    obtain ⟨rfl, rfl⟩ := j_inj2 hf
    exact j_le_refl _
  ·
    obtain ⟨q3, e4, hf⟩ := j_bind hf
    refine j_le_trans (jnO_le e4) ?_
    obtain ⟨q5, e6, hf⟩ := j_bind hf
    refine j_le_trans (n_X6_init e6) ?_
    obtain ⟨h7, e8, hf⟩ := j_bind hf
    refine j_le_trans (j_le_of (jsR_n e8)) ?_
    obtain ⟨rfl, rfl⟩ := j_inj2 hf
    exact j_le_refl _
theorem n_X11_newShelves  {h : JH} {q : Nat × JH} (hf : f_X11_newShelves  h = some q) : j_le h q.2 := by
  unfold f_X11_newShelves at hf
  obtain ⟨q1, e2, hf⟩ := j_bind hf
  refine j_le_trans (jnA_le e2) ?_
  obtain ⟨q10, e11, hf⟩ := j_bind hf
  refine j_le_trans ((jloop_le (fun _ _ _ _ q => n_X11_newShelves_L7 q) e11)) ?_
  obtain rfl := j_inj hf
  exact j_le_refl _
theorem n_X3_init {a0 : Nat} {h : JH} {q : Unit × JH} (hf : f_X3_init a0 h = some q) : j_le h q.2 := by
  unfold f_X3_init at hf
  obtain ⟨q1, e2, hf⟩ := j_bind hf
  refine j_le_trans (n_X11_newForms e2) ?_
  obtain ⟨h3, e4, hf⟩ := j_bind hf
  refine j_le_trans (j_le_of (jput_n e4)) ?_
  obtain ⟨q5, e6, hf⟩ := j_bind hf
  refine j_le_trans (n_X11_newShelves e6) ?_
  obtain ⟨h7, e8, hf⟩ := j_bind hf
  refine j_le_trans (j_le_of (jput_n e8)) ?_
  obtain rfl := j_inj hf
  exact j_le_refl _
theorem q_X6_copyFrom_L10 {a0 : Nat} {a1 : Nat} {z : Int32} {h : JH} {r : Int32 ⊕ Int32} {h1 : JH} (hf : f_X6_copyFrom_L10 a0 a1 z h = some (r, h1)) : h1.2.1 = h.2.1 := by
  unfold f_X6_copyFrom_L10 at hf
  rcases j_ite hf with hf | hf
  ·
    obtain ⟨rfl, rfl⟩ := j_inj2 hf
    rfl
  ·
    obtain ⟨v7, e8, hf⟩ := j_bind hf
    obtain ⟨v9, e10, hf⟩ := j_bind hf
    obtain ⟨v11, e12, hf⟩ := j_bind hf
    obtain ⟨h13, e14, hf⟩ := j_bind hf
    refine Eq.trans ?_ (jsB_n e14)
    obtain ⟨v15, e16, hf⟩ := j_bind hf
    obtain ⟨v17, e18, hf⟩ := j_bind hf
    obtain ⟨v19, e20, hf⟩ := j_bind hf
    obtain ⟨v21, e22, hf⟩ := j_bind hf
    obtain ⟨h23, e24, hf⟩ := j_bind hf
    refine Eq.trans ?_ (jcJ_n e24)
    obtain ⟨rfl, rfl⟩ := j_inj2 hf
    rfl
theorem q_X6_copyFrom {a0 : Nat} {a1 : Nat} {h : JH} {q : Unit × JH} (hf : f_X6_copyFrom a0 a1 h = some q) : q.2.2.1 = h.2.1 := by
  unfold f_X6_copyFrom at hf
  obtain ⟨v1, e2, hf⟩ := j_bind hf
  obtain ⟨u5, e6, hf⟩ := j_bind hf
  obtain ⟨h3, e4, hf⟩ := j_bind hf
  refine Eq.trans ?_ (jput_n e4)
  obtain ⟨q26, e27, hf⟩ := j_bind hf
  refine Eq.trans ?_ ((jloop_eq (fun _ _ _ _ q => q_X6_copyFrom_L10 q) e27))
  obtain rfl := j_inj hf
  rfl
theorem q_X3_copyAll_L3 {a0 : Nat} {a1 : Nat} {a2 : Nat} {a3 : Nat} {z : Int32} {h : JH} {r : Int32 ⊕ Int32} {h1 : JH} (hf : f_X3_copyAll_L3 a0 a1 a2 a3 z h = some (r, h1)) : h1.2.1 = h.2.1 := by
  unfold f_X3_copyAll_L3 at hf
  rcases j_ite hf with hf | hf
  ·
    obtain ⟨rfl, rfl⟩ := j_inj2 hf
    rfl
  ·
    obtain ⟨v1, e2, hf⟩ := j_bind hf
    obtain ⟨v3, e4, hf⟩ := j_bind hf
    obtain ⟨u7, e8, hf⟩ := j_bind hf
    obtain ⟨q5, e6, hf⟩ := j_bind hf
    refine Eq.trans ?_ ((q_X2_copyFrom e6))
    obtain ⟨rfl, rfl⟩ := j_inj2 hf
    rfl
theorem q_X3_copyAll_L29 {a1 : Nat} {a3 : Nat} {z : Int32} {h : JH} {r : Int32 ⊕ Int32} {h1 : JH} (hf : f_X3_copyAll_L29 a1 a3 z h = some (r, h1)) : h1.2.1 = h.2.1 := by
  unfold f_X3_copyAll_L29 at hf
  rcases j_ite hf with hf | hf
  ·
    obtain ⟨rfl, rfl⟩ := j_inj2 hf
    rfl
  ·
    obtain ⟨v12, e13, hf⟩ := j_bind hf
    obtain ⟨v14, e15, hf⟩ := j_bind hf
    obtain ⟨u18, e19, hf⟩ := j_bind hf
    obtain ⟨q16, e17, hf⟩ := j_bind hf
    refine Eq.trans ?_ ((q_X6_copyFrom e17))
    obtain ⟨rfl, rfl⟩ := j_inj2 hf
    rfl
theorem q_X3_copyAll {a0 : Nat} {a1 : Nat} {a2 : Nat} {a3 : Nat} {h : JH} {q : Unit × JH} (hf : f_X3_copyAll a0 a1 a2 a3 h = some q) : q.2.2.1 = h.2.1 := by
  unfold f_X3_copyAll at hf
  obtain ⟨q10, e11, hf⟩ := j_bind hf
  refine Eq.trans ?_ ((jloop_eq (fun _ _ _ _ q => q_X3_copyAll_L3 q) e11))
  obtain ⟨q21, e22, hf⟩ := j_bind hf
  refine Eq.trans ?_ ((jloop_eq (fun _ _ _ _ q => q_X3_copyAll_L29 q) e22))
  obtain rfl := j_inj hf
  rfl
theorem q_X3_lay {a0 : Nat} {a1 : Nat} {a2 : Nat} {h : JH} {q : Unit × JH} (hf : f_X3_lay a0 a1 a2 h = some q) : q.2.2.1 = h.2.1 := by
  unfold f_X3_lay at hf
  obtain ⟨v1, e2, hf⟩ := j_bind hf
  obtain ⟨v3, e4, hf⟩ := j_bind hf
  obtain ⟨q5, e6, hf⟩ := j_bind hf
  refine Eq.trans ?_ ((q_X3_copyAll e6))
  obtain ⟨h7, e8, hf⟩ := j_bind hf
  refine Eq.trans ?_ (jput_n e8)
  obtain rfl := j_inj hf
  rfl
theorem q_X3_bringBack_L11 {a0 : Nat} {a1 : Nat} {a2 : Nat} {z : Int32} {h : JH} {r : Int32 ⊕ (Int32 ⊕ Int32)} {h1 : JH} (hf : f_X3_bringBack_L11 a0 a1 a2 z h = some (r, h1)) : h1.2.1 = h.2.1 := by
  unfold f_X3_bringBack_L11 at hf
  rcases j_ite hf with hf | hf
  ·
    obtain ⟨rfl, rfl⟩ := j_inj2 hf
    rfl
  ·
    obtain ⟨v3, e4, hf⟩ := j_bind hf
    obtain ⟨v5, e6, hf⟩ := j_bind hf
    obtain ⟨v7, e8, hf⟩ := j_bind hf
    obtain ⟨v9, e10, hf⟩ := j_bind hf
    obtain ⟨v11, e12, hf⟩ := j_bind hf
    rcases j_ite hf with hf | hf
    ·
      obtain ⟨rfl, rfl⟩ := j_inj2 hf
      rfl
    ·
      obtain ⟨rfl, rfl⟩ := j_inj2 hf
      rfl
theorem q_X3_bringBack {a0 : Nat} {a1 : Nat} {a2 : Nat} {h : JH} {q : Int32 × JH} (hf : f_X3_bringBack a0 a1 a2 h = some q) : q.2.2.1 = h.2.1 := by
  unfold f_X3_bringBack at hf
  obtain ⟨v1, e2, hf⟩ := j_bind hf
  rcases j_ite hf with hf | hf
  ·
    obtain rfl := j_inj hf
    rfl
  ·
    obtain ⟨q15, e16, hf⟩ := j_bind hf
    refine Eq.trans ?_ ((jloop_eq (fun _ _ _ _ q => q_X3_bringBack_L11 q) e16))
    cases y25 : q15.1 with
    | inl r18 =>
      rw [y25] at hf
      have hf := j_eliml hf
      obtain rfl := j_inj hf
      rfl
    | inr t17 =>
      rw [y25] at hf
      have hf := j_elimr hf
      obtain ⟨v19, e20, hf⟩ := j_bind hf
      obtain ⟨v21, e22, hf⟩ := j_bind hf
      obtain ⟨q23, e24, hf⟩ := j_bind hf
      refine Eq.trans ?_ ((q_X3_copyAll e24))
      obtain rfl := j_inj hf
      rfl
theorem q_X4_power_L13 {a2 : Int32} {z : (Int32 × Int32 × Int32)} {h : JH} {r : (Int32 × Int32 × Int32) ⊕ (Int32 × Int32 × Int32)} {h1 : JH} (hf : f_X4_power_L13 a2 z h = some (r, h1)) : h1.2.1 = h.2.1 := by
  unfold f_X4_power_L13 at hf
  rcases j_ite hf with hf | hf
  ·
    obtain ⟨rfl, rfl⟩ := j_inj2 hf
    rfl
  ·
    rcases j_ite hf with hf | hf
    ·
      obtain ⟨q5, e6, hf⟩ := j_bind hf
      refine Eq.trans ?_ ((q_X4_of e6))
      obtain ⟨q7, e8, hf⟩ := j_bind hf
      refine Eq.trans ?_ ((q_X4_of e8))
      obtain ⟨rfl, rfl⟩ := j_inj2 hf
      rfl
    ·
      obtain ⟨q3, e4, hf⟩ := j_bind hf
      refine Eq.trans ?_ ((q_X4_of e4))
      obtain ⟨rfl, rfl⟩ := j_inj2 hf
      rfl
theorem q_X4_power {a0 : Int32} {a1 : Int32} {a2 : Int32} {h : JH} {q : Int32 × JH} (hf : f_X4_power a0 a1 a2 h = some q) : q.2.2.1 = h.2.1 := by
  unfold f_X4_power at hf
  obtain ⟨q1, e2, hf⟩ := j_bind hf
  refine Eq.trans ?_ ((q_X4_of e2))
  obtain ⟨q11, e12, hf⟩ := j_bind hf
  refine Eq.trans ?_ ((jloop_eq (fun _ _ _ _ q => q_X4_power_L13 q) e12))
  obtain rfl := j_inj hf
  rfl
theorem q_X4_divide {a0 : Int32} {a1 : Int32} {a2 : Int32} {h : JH} {q : Int32 × JH} (hf : f_X4_divide a0 a1 a2 h = some q) : q.2.2.1 = h.2.1 := by
  unfold f_X4_divide at hf
  obtain ⟨q1, e2, hf⟩ := j_bind hf
  refine Eq.trans ?_ ((q_X4_power e2))
  obtain ⟨q3, e4, hf⟩ := j_bind hf
  refine Eq.trans ?_ ((q_X4_of e4))
  obtain rfl := j_inj hf
  rfl
theorem n_X5_init {a0 : Nat} {h : JH} {q : Unit × JH} (hf : f_X5_init a0 h = some q) : j_le h q.2 := by
  unfold f_X5_init at hf
  obtain ⟨q1, e2, hf⟩ := j_bind hf
  refine j_le_trans (jnA_le e2) ?_
  obtain ⟨h3, e4, hf⟩ := j_bind hf
  refine j_le_trans (j_le_of (jput_n e4)) ?_
  obtain ⟨q5, e6, hf⟩ := j_bind hf
  refine j_le_trans (jnM_le e6) ?_
  obtain ⟨h7, e8, hf⟩ := j_bind hf
  refine j_le_trans (j_le_of (jput_n e8)) ?_
  obtain ⟨q9, e10, hf⟩ := j_bind hf
  refine j_le_trans (jnM_le e10) ?_
  obtain ⟨h11, e12, hf⟩ := j_bind hf
  refine j_le_trans (j_le_of (jput_n e12)) ?_
  obtain ⟨q13, e14, hf⟩ := j_bind hf
  refine j_le_trans (jnM_le e14) ?_
  obtain ⟨h15, e16, hf⟩ := j_bind hf
  refine j_le_trans (j_le_of (jput_n e16)) ?_
  obtain rfl := j_inj hf
  exact j_le_refl _
theorem q_X11_lengthOf {a0 : Int32} {h : JH} {q : Int32 × JH} (hf : f_X11_lengthOf a0 h = some q) : q.2.2.1 = h.2.1 := by
  unfold f_X11_lengthOf at hf
  rcases j_ite hf with hf | hf
  ·
    obtain rfl := j_inj hf
    rfl
  ·
    obtain rfl := j_inj hf
    rfl
theorem q_X11_cuspsOf {a0 : Int32} {h : JH} {q : Int32 × JH} (hf : f_X11_cuspsOf a0 h = some q) : q.2.2.1 = h.2.1 := by
  unfold f_X11_cuspsOf at hf
  obtain ⟨q1, e2, hf⟩ := j_bind hf
  refine Eq.trans ?_ ((q_X11_lengthOf e2))
  obtain rfl := j_inj hf
  rfl
theorem q_X7_expand_L5 {a0 : Nat} {a1 : Nat} {a2 : Int32} {z : (Int64 × Int32)} {h : JH} {r : (Int64 × Int32) ⊕ (Int64 × Int32)} {h1 : JH} (hf : f_X7_expand_L5 a0 a1 a2 z h = some (r, h1)) : h1.2.1 = h.2.1 := by
  unfold f_X7_expand_L5 at hf
  obtain ⟨v1, e2, hf⟩ := j_bind hf
  rcases j_ite hf with hf | hf
  ·
    obtain ⟨rfl, rfl⟩ := j_inj2 hf
    rfl
  ·
    obtain ⟨v3, e4, hf⟩ := j_bind hf
    obtain ⟨v5, e6, hf⟩ := j_bind hf
    obtain ⟨v7, e8, hf⟩ := j_bind hf
    obtain ⟨v9, e10, hf⟩ := j_bind hf
    obtain ⟨rfl, rfl⟩ := j_inj2 hf
    rfl
theorem q_X7_expand {a0 : Nat} {a1 : Nat} {a2 : Int32} {h : JH} {q : Int32 × JH} (hf : f_X7_expand a0 a1 a2 h = some q) : q.2.2.1 = h.2.1 := by
  unfold f_X7_expand at hf
  obtain ⟨q12, e13, hf⟩ := j_bind hf
  refine Eq.trans ?_ ((jloop_eq (fun _ _ _ _ q => q_X7_expand_L5 q) e13))
  obtain ⟨v14, e15, hf⟩ := j_bind hf
  obtain ⟨q16, e17, hf⟩ := j_bind hf
  refine Eq.trans ?_ ((q_X4_of e17))
  obtain rfl := j_inj hf
  rfl
theorem q_X7_heckeAt_L16 {a0 : Nat} {a1 : Nat} {a2 : Int32} {a3 : Int32} {z : (Int32 × Int32)} {h : JH} {r : (Int32 × Int32) ⊕ (Int32 × Int32)} {h1 : JH} (hf : f_X7_heckeAt_L16 a0 a1 a2 a3 z h = some (r, h1)) : h1.2.1 = h.2.1 := by
  unfold f_X7_heckeAt_L16 at hf
  rcases j_ite hf with hf | hf
  ·
    obtain ⟨rfl, rfl⟩ := j_inj2 hf
    rfl
  ·
    obtain ⟨u3, e4, hf⟩ := j_bind hf
    rcases j_ite hf with hf | hf
    ·
      obtain ⟨u5, e6, hf⟩ := j_bind hf
      rcases j_ite hf with hf | hf
      ·
        obtain ⟨v7, e8, hf⟩ := j_bind hf
        obtain ⟨v9, e10, hf⟩ := j_bind hf
        obtain ⟨q11, e12, hf⟩ := j_bind hf
        refine Eq.trans ?_ ((q_X4_power e12))
        obtain ⟨u13, e14, hf⟩ := j_bind hf
        obtain ⟨u15, e16, hf⟩ := j_bind hf
        obtain ⟨u23, e24, hf⟩ := j_bind hf
        obtain ⟨q17, e18, hf⟩ := j_bind hf
        refine Eq.trans ?_ ((q_X7_expand e18))
        obtain ⟨v19, e20, hf⟩ := j_bind hf
        obtain ⟨q21, e22, hf⟩ := j_bind hf
        refine Eq.trans ?_ ((q_X4_of e22))
        obtain ⟨rfl, rfl⟩ := j_inj2 hf
        rfl
      ·
        obtain ⟨rfl, rfl⟩ := j_inj2 hf
        rfl
    ·
      obtain ⟨rfl, rfl⟩ := j_inj2 hf
      rfl
theorem q_X7_heckeAt {a0 : Nat} {a1 : Nat} {a2 : Int32} {a3 : Int32} {h : JH} {q : Int32 × JH} (hf : f_X7_heckeAt a0 a1 a2 a3 h = some q) : q.2.2.1 = h.2.1 := by
  unfold f_X7_heckeAt at hf
  obtain ⟨v1, e2, hf⟩ := j_bind hf
  rcases j_ite hf with hf | hf
  ·
    obtain ⟨q28, e29, hf⟩ := j_bind hf
    refine Eq.trans ?_ ((jloop_eq (fun _ _ _ _ q => q_X7_heckeAt_L16 q) e29))
    obtain rfl := j_inj hf
    rfl
  ·
    obtain rfl := j_inj hf
    rfl
theorem q_X5_load_L32 {a0 : Nat} {a1 : Nat} {a2 : Int32} {a3 : Int32} {z : Int32} {h : JH} {r : Int32 ⊕ Int32} {h1 : JH} (hf : f_X5_load_L32 a0 a1 a2 a3 z h = some (r, h1)) : h1.2.1 = h.2.1 := by
  unfold f_X5_load_L32 at hf
  obtain ⟨v13, e14, hf⟩ := j_bind hf
  rcases j_ite hf with hf | hf
  ·
    obtain ⟨rfl, rfl⟩ := j_inj2 hf
    rfl
  ·
    obtain ⟨v15, e16, hf⟩ := j_bind hf
    obtain ⟨v17, e18, hf⟩ := j_bind hf
    obtain ⟨v19, e20, hf⟩ := j_bind hf
    obtain ⟨v21, e22, hf⟩ := j_bind hf
    obtain ⟨u27, e28, hf⟩ := j_bind hf
    obtain ⟨q23, e24, hf⟩ := j_bind hf
    refine Eq.trans ?_ ((q_X7_heckeAt e24))
    obtain ⟨h25, e26, hf⟩ := j_bind hf
    refine Eq.trans ?_ (jsI_n e26)
    obtain ⟨rfl, rfl⟩ := j_inj2 hf
    rfl
theorem q_X5_load_L21 {a0 : Nat} {a1 : Nat} {a2 : Int32} {z : Int32} {h : JH} {r : Int32 ⊕ Int32} {h1 : JH} (hf : f_X5_load_L21 a0 a1 a2 z h = some (r, h1)) : h1.2.1 = h.2.1 := by
  unfold f_X5_load_L21 at hf
  obtain ⟨v11, e12, hf⟩ := j_bind hf
  rcases j_ite hf with hf | hf
  ·
    obtain ⟨rfl, rfl⟩ := j_inj2 hf
    rfl
  ·
    obtain ⟨q13, e14, hf⟩ := j_bind hf
    refine Eq.trans ?_ ((jloop_eq (fun _ _ _ _ q => q_X5_load_L32 q) e14))
    obtain ⟨rfl, rfl⟩ := j_inj2 hf
    rfl
theorem q_X5_load {a0 : Nat} {a1 : Nat} {a2 : Int32} {h : JH} {q : Unit × JH} (hf : f_X5_load a0 a1 a2 h = some q) : q.2.2.1 = h.2.1 := by
  unfold f_X5_load at hf
  obtain ⟨v1, e2, hf⟩ := j_bind hf
  obtain ⟨q3, e4, hf⟩ := j_bind hf
  refine Eq.trans ?_ ((q_X11_cuspsOf e4))
  obtain ⟨h5, e6, hf⟩ := j_bind hf
  refine Eq.trans ?_ (jput_n e6)
  obtain ⟨v7, e8, hf⟩ := j_bind hf
  obtain ⟨h9, e10, hf⟩ := j_bind hf
  refine Eq.trans ?_ (jput_n e10)
  obtain ⟨q16, e17, hf⟩ := j_bind hf
  refine Eq.trans ?_ ((jloop_eq (fun _ _ _ _ q => q_X5_load_L21 q) e17))
  obtain rfl := j_inj hf
  rfl
theorem q_X5_multiplyTableByWork_L25 {a0 : Nat} {a1 : Int32} {a2 : Int32} {z : (Int64 × Int32)} {h : JH} {r : (Int64 × Int32) ⊕ (Int64 × Int32)} {h1 : JH} (hf : f_X5_multiplyTableByWork_L25 a0 a1 a2 z h = some (r, h1)) : h1.2.1 = h.2.1 := by
  unfold f_X5_multiplyTableByWork_L25 at hf
  obtain ⟨v5, e6, hf⟩ := j_bind hf
  rcases j_ite hf with hf | hf
  ·
    obtain ⟨rfl, rfl⟩ := j_inj2 hf
    rfl
  ·
    obtain ⟨v7, e8, hf⟩ := j_bind hf
    obtain ⟨v9, e10, hf⟩ := j_bind hf
    obtain ⟨v11, e12, hf⟩ := j_bind hf
    obtain ⟨v13, e14, hf⟩ := j_bind hf
    obtain ⟨v15, e16, hf⟩ := j_bind hf
    obtain ⟨v17, e18, hf⟩ := j_bind hf
    obtain ⟨rfl, rfl⟩ := j_inj2 hf
    rfl
theorem q_X5_multiplyTableByWork_L12 {a0 : Nat} {a1 : Int32} {z : Int32} {h : JH} {r : Int32 ⊕ Int32} {h1 : JH} (hf : f_X5_multiplyTableByWork_L12 a0 a1 z h = some (r, h1)) : h1.2.1 = h.2.1 := by
  unfold f_X5_multiplyTableByWork_L12 at hf
  obtain ⟨v3, e4, hf⟩ := j_bind hf
  rcases j_ite hf with hf | hf
  ·
    obtain ⟨rfl, rfl⟩ := j_inj2 hf
    rfl
  ·
    obtain ⟨q5, e6, hf⟩ := j_bind hf
    refine Eq.trans ?_ ((jloop_eq (fun _ _ _ _ q => q_X5_multiplyTableByWork_L25 q) e6))
    obtain ⟨v7, e8, hf⟩ := j_bind hf
    obtain ⟨v9, e10, hf⟩ := j_bind hf
    obtain ⟨v11, e12, hf⟩ := j_bind hf
    obtain ⟨q13, e14, hf⟩ := j_bind hf
    refine Eq.trans ?_ ((q_X4_of e14))
    obtain ⟨h15, e16, hf⟩ := j_bind hf
    refine Eq.trans ?_ (jsI_n e16)
    obtain ⟨rfl, rfl⟩ := j_inj2 hf
    rfl
theorem q_X5_multiplyTableByWork_L2 {a0 : Nat} {z : Int32} {h : JH} {r : Int32 ⊕ Int32} {h1 : JH} (hf : f_X5_multiplyTableByWork_L2 a0 z h = some (r, h1)) : h1.2.1 = h.2.1 := by
  unfold f_X5_multiplyTableByWork_L2 at hf
  obtain ⟨v1, e2, hf⟩ := j_bind hf
  rcases j_ite hf with hf | hf
  ·
    obtain ⟨rfl, rfl⟩ := j_inj2 hf
    rfl
  ·
    obtain ⟨q3, e4, hf⟩ := j_bind hf
    refine Eq.trans ?_ ((jloop_eq (fun _ _ _ _ q => q_X5_multiplyTableByWork_L12 q) e4))
    obtain ⟨rfl, rfl⟩ := j_inj2 hf
    rfl
theorem q_X5_multiplyTableByWork {a0 : Nat} {h : JH} {q : Unit × JH} (hf : f_X5_multiplyTableByWork a0 h = some q) : q.2.2.1 = h.2.1 := by
  unfold f_X5_multiplyTableByWork at hf
  obtain ⟨q6, e7, hf⟩ := j_bind hf
  refine Eq.trans ?_ ((jloop_eq (fun _ _ _ _ q => q_X5_multiplyTableByWork_L2 q) e7))
  obtain rfl := j_inj hf
  rfl
theorem q_X5_takeProduct_L2 {a0 : Nat} {a1 : Int32} {z : Int32} {h : JH} {r : Int32 ⊕ Int32} {h1 : JH} (hf : f_X5_takeProduct_L2 a0 a1 z h = some (r, h1)) : h1.2.1 = h.2.1 := by
  unfold f_X5_takeProduct_L2 at hf
  obtain ⟨v1, e2, hf⟩ := j_bind hf
  rcases j_ite hf with hf | hf
  ·
    obtain ⟨rfl, rfl⟩ := j_inj2 hf
    rfl
  ·
    obtain ⟨v3, e4, hf⟩ := j_bind hf
    obtain ⟨v5, e6, hf⟩ := j_bind hf
    obtain ⟨v7, e8, hf⟩ := j_bind hf
    obtain ⟨v9, e10, hf⟩ := j_bind hf
    obtain ⟨v11, e12, hf⟩ := j_bind hf
    obtain ⟨h13, e14, hf⟩ := j_bind hf
    refine Eq.trans ?_ (jcI_n e14)
    obtain ⟨v15, e16, hf⟩ := j_bind hf
    obtain ⟨v17, e18, hf⟩ := j_bind hf
    obtain ⟨v19, e20, hf⟩ := j_bind hf
    obtain ⟨v21, e22, hf⟩ := j_bind hf
    obtain ⟨v23, e24, hf⟩ := j_bind hf
    obtain ⟨v25, e26, hf⟩ := j_bind hf
    obtain ⟨q27, e28, hf⟩ := j_bind hf
    refine Eq.trans ?_ ((q_X4_of e28))
    obtain ⟨h29, e30, hf⟩ := j_bind hf
    refine Eq.trans ?_ (jsI_n e30)
    obtain ⟨rfl, rfl⟩ := j_inj2 hf
    rfl
theorem q_X5_takeProduct {a0 : Nat} {a1 : Int32} {h : JH} {q : Unit × JH} (hf : f_X5_takeProduct a0 a1 h = some q) : q.2.2.1 = h.2.1 := by
  unfold f_X5_takeProduct at hf
  obtain ⟨q32, e33, hf⟩ := j_bind hf
  refine Eq.trans ?_ ((jloop_eq (fun _ _ _ _ q => q_X5_takeProduct_L2 q) e33))
  obtain rfl := j_inj hf
  rfl
theorem q_X5_findPolynomial_L2 {a0 : Nat} {z : Int32} {h : JH} {r : Int32 ⊕ Int32} {h1 : JH} (hf : f_X5_findPolynomial_L2 a0 z h = some (r, h1)) : h1.2.1 = h.2.1 := by
  unfold f_X5_findPolynomial_L2 at hf
  obtain ⟨v1, e2, hf⟩ := j_bind hf
  rcases j_ite hf with hf | hf
  ·
    obtain ⟨rfl, rfl⟩ := j_inj2 hf
    rfl
  ·
    obtain ⟨v3, e4, hf⟩ := j_bind hf
    obtain ⟨v5, e6, hf⟩ := j_bind hf
    obtain ⟨q7, e8, hf⟩ := j_bind hf
    refine Eq.trans ?_ ((q_J7_fill_53178 e8))
    obtain ⟨rfl, rfl⟩ := j_inj2 hf
    rfl
theorem q_X5_findPolynomial_L72 {a0 : Nat} {a1 : Int32} {z : (Int64 × Int32)} {h : JH} {r : (Int64 × Int32) ⊕ (Int64 × Int32)} {h1 : JH} (hf : f_X5_findPolynomial_L72 a0 a1 z h = some (r, h1)) : h1.2.1 = h.2.1 := by
  unfold f_X5_findPolynomial_L72 at hf
  obtain ⟨v30, e31, hf⟩ := j_bind hf
  rcases j_ite hf with hf | hf
  ·
    obtain ⟨rfl, rfl⟩ := j_inj2 hf
    rfl
  ·
    obtain ⟨v32, e33, hf⟩ := j_bind hf
    obtain ⟨v34, e35, hf⟩ := j_bind hf
    obtain ⟨v36, e37, hf⟩ := j_bind hf
    obtain ⟨rfl, rfl⟩ := j_inj2 hf
    rfl
theorem q_X5_findPolynomial_L38 {a0 : Nat} {z : Int32} {h : JH} {r : Int32 ⊕ Int32} {h1 : JH} (hf : f_X5_findPolynomial_L38 a0 z h = some (r, h1)) : h1.2.1 = h.2.1 := by
  unfold f_X5_findPolynomial_L38 at hf
  obtain ⟨v18, e19, hf⟩ := j_bind hf
  rcases j_ite hf with hf | hf
  ·
    obtain ⟨rfl, rfl⟩ := j_inj2 hf
    rfl
  ·
    obtain ⟨v20, e21, hf⟩ := j_bind hf
    obtain ⟨v22, e23, hf⟩ := j_bind hf
    obtain ⟨v24, e25, hf⟩ := j_bind hf
    obtain ⟨u48, e49, hf⟩ := j_bind hf
    obtain ⟨q26, e27, hf⟩ := j_bind hf
    refine Eq.trans ?_ ((q_X5_takeProduct e27))
    obtain ⟨u46, e47, hf⟩ := j_bind hf
    obtain ⟨q28, e29, hf⟩ := j_bind hf
    refine Eq.trans ?_ ((q_X5_multiplyTableByWork e29))
    obtain ⟨q30, e31, hf⟩ := j_bind hf
    refine Eq.trans ?_ ((jloop_eq (fun _ _ _ _ q => q_X5_findPolynomial_L72 q) e31))
    obtain ⟨v32, e33, hf⟩ := j_bind hf
    obtain ⟨v34, e35, hf⟩ := j_bind hf
    obtain ⟨v36, e37, hf⟩ := j_bind hf
    obtain ⟨q38, e39, hf⟩ := j_bind hf
    refine Eq.trans ?_ ((q_X4_of e39))
    obtain ⟨v40, e41, hf⟩ := j_bind hf
    obtain ⟨q42, e43, hf⟩ := j_bind hf
    refine Eq.trans ?_ ((q_X4_divide e43))
    obtain ⟨h44, e45, hf⟩ := j_bind hf
    refine Eq.trans ?_ (jsI_n e45)
    obtain ⟨rfl, rfl⟩ := j_inj2 hf
    rfl
theorem q_X5_findPolynomial {a0 : Nat} {h : JH} {q : Unit × JH} (hf : f_X5_findPolynomial a0 h = some q) : q.2.2.1 = h.2.1 := by
  unfold f_X5_findPolynomial at hf
  obtain ⟨q10, e11, hf⟩ := j_bind hf
  refine Eq.trans ?_ ((jloop_eq (fun _ _ _ _ q => q_X5_findPolynomial_L2 q) e11))
  obtain ⟨v12, e13, hf⟩ := j_bind hf
  obtain ⟨v14, e15, hf⟩ := j_bind hf
  obtain ⟨h16, e17, hf⟩ := j_bind hf
  refine Eq.trans ?_ (jsI_n e17)
  obtain ⟨q51, e52, hf⟩ := j_bind hf
  refine Eq.trans ?_ ((jloop_eq (fun _ _ _ _ q => q_X5_findPolynomial_L38 q) e52))
  obtain rfl := j_inj hf
  rfl
theorem q_X5_polynomialAt_L7 {a0 : Nat} {a1 : Int32} {z : (Int32 × Int32)} {h : JH} {r : (Int32 × Int32) ⊕ (Int32 × Int32)} {h1 : JH} (hf : f_X5_polynomialAt_L7 a0 a1 z h = some (r, h1)) : h1.2.1 = h.2.1 := by
  unfold f_X5_polynomialAt_L7 at hf
  rcases j_ite hf with hf | hf
  ·
    obtain ⟨rfl, rfl⟩ := j_inj2 hf
    rfl
  ·
    obtain ⟨v3, e4, hf⟩ := j_bind hf
    obtain ⟨v5, e6, hf⟩ := j_bind hf
    obtain ⟨v7, e8, hf⟩ := j_bind hf
    obtain ⟨q9, e10, hf⟩ := j_bind hf
    refine Eq.trans ?_ ((q_X4_of e10))
    obtain ⟨rfl, rfl⟩ := j_inj2 hf
    rfl
theorem q_X5_polynomialAt {a0 : Nat} {a1 : Int32} {h : JH} {q : Int32 × JH} (hf : f_X5_polynomialAt a0 a1 h = some q) : q.2.2.1 = h.2.1 := by
  unfold f_X5_polynomialAt at hf
  obtain ⟨v1, e2, hf⟩ := j_bind hf
  obtain ⟨q12, e13, hf⟩ := j_bind hf
  refine Eq.trans ?_ ((jloop_eq (fun _ _ _ _ q => q_X5_polynomialAt_L7 q) e13))
  obtain rfl := j_inj hf
  rfl
theorem q_X5_findRoots_L4 {a0 : Nat} {a1 : Nat} {z : (Int32 × Int32)} {h : JH} {r : (Int32 × Int32) ⊕ (Int32 × Int32)} {h1 : JH} (hf : f_X5_findRoots_L4 a0 a1 z h = some (r, h1)) : h1.2.1 = h.2.1 := by
  unfold f_X5_findRoots_L4 at hf
  obtain ⟨v1, e2, hf⟩ := j_bind hf
  rcases j_ite hf with hf | hf
  ·
    obtain ⟨rfl, rfl⟩ := j_inj2 hf
    rfl
  ·
    obtain ⟨v3, e4, hf⟩ := j_bind hf
    rcases j_ite hf with hf | hf
    ·
      obtain ⟨rfl, rfl⟩ := j_inj2 hf
      rfl
    ·
      obtain ⟨u9, e10, hf⟩ := j_bind hf
      obtain ⟨q5, e6, hf⟩ := j_bind hf
      refine Eq.trans ?_ ((q_X5_polynomialAt e6))
      rcases j_ite hf with hf | hf
      ·
        obtain ⟨h7, e8, hf⟩ := j_bind hf
        refine Eq.trans ?_ (jsI_n e8)
        obtain ⟨rfl, rfl⟩ := j_inj2 hf
        rfl
      ·
        obtain ⟨rfl, rfl⟩ := j_inj2 hf
        rfl
theorem q_X5_findRoots {a0 : Nat} {a1 : Nat} {h : JH} {q : Int32 × JH} (hf : f_X5_findRoots a0 a1 h = some q) : q.2.2.1 = h.2.1 := by
  unfold f_X5_findRoots at hf
  obtain ⟨q14, e15, hf⟩ := j_bind hf
  refine Eq.trans ?_ ((jloop_eq (fun _ _ _ _ q => q_X5_findRoots_L4 q) e15))
  obtain rfl := j_inj hf
  rfl
theorem q_X5_clearColumn_L19 {a0 : Nat} {a1 : Int32} {a2 : Int32} {z : Int32} {h : JH} {r : Int32 ⊕ Int32} {h1 : JH} (hf : f_X5_clearColumn_L19 a0 a1 a2 z h = some (r, h1)) : h1.2.1 = h.2.1 := by
  unfold f_X5_clearColumn_L19 at hf
  obtain ⟨v11, e12, hf⟩ := j_bind hf
  rcases j_ite hf with hf | hf
  ·
    obtain ⟨rfl, rfl⟩ := j_inj2 hf
    rfl
  ·
    obtain ⟨v13, e14, hf⟩ := j_bind hf
    obtain ⟨v15, e16, hf⟩ := j_bind hf
    obtain ⟨v17, e18, hf⟩ := j_bind hf
    obtain ⟨v19, e20, hf⟩ := j_bind hf
    obtain ⟨v21, e22, hf⟩ := j_bind hf
    obtain ⟨v23, e24, hf⟩ := j_bind hf
    obtain ⟨q25, e26, hf⟩ := j_bind hf
    refine Eq.trans ?_ ((q_X4_of e26))
    obtain ⟨h27, e28, hf⟩ := j_bind hf
    refine Eq.trans ?_ (jsI_n e28)
    obtain ⟨rfl, rfl⟩ := j_inj2 hf
    rfl
theorem q_X5_clearColumn_L93 {a0 : Nat} {a1 : Int32} {a3 : Int32} {a4 : Int32} {z : Int32} {h : JH} {r : Int32 ⊕ Int32} {h1 : JH} (hf : f_X5_clearColumn_L93 a0 a1 a3 a4 z h = some (r, h1)) : h1.2.1 = h.2.1 := by
  unfold f_X5_clearColumn_L93 at hf
  obtain ⟨v40, e41, hf⟩ := j_bind hf
  rcases j_ite hf with hf | hf
  ·
    obtain ⟨rfl, rfl⟩ := j_inj2 hf
    rfl
  ·
    obtain ⟨v42, e43, hf⟩ := j_bind hf
    obtain ⟨v44, e45, hf⟩ := j_bind hf
    obtain ⟨v46, e47, hf⟩ := j_bind hf
    obtain ⟨v48, e49, hf⟩ := j_bind hf
    obtain ⟨v50, e51, hf⟩ := j_bind hf
    obtain ⟨v52, e53, hf⟩ := j_bind hf
    obtain ⟨v54, e55, hf⟩ := j_bind hf
    obtain ⟨v56, e57, hf⟩ := j_bind hf
    obtain ⟨v58, e59, hf⟩ := j_bind hf
    obtain ⟨q60, e61, hf⟩ := j_bind hf
    refine Eq.trans ?_ ((q_X4_of e61))
    obtain ⟨h62, e63, hf⟩ := j_bind hf
    refine Eq.trans ?_ (jsI_n e63)
    obtain ⟨rfl, rfl⟩ := j_inj2 hf
    rfl
theorem q_X5_clearColumn_L62 {a0 : Nat} {a1 : Int32} {z : Int32} {h : JH} {r : Int32 ⊕ Int32} {h1 : JH} (hf : f_X5_clearColumn_L62 a0 a1 z h = some (r, h1)) : h1.2.1 = h.2.1 := by
  unfold f_X5_clearColumn_L62 at hf
  obtain ⟨v32, e33, hf⟩ := j_bind hf
  rcases j_ite hf with hf | hf
  ·
    obtain ⟨rfl, rfl⟩ := j_inj2 hf
    rfl
  ·
    obtain ⟨v34, e35, hf⟩ := j_bind hf
    obtain ⟨v36, e37, hf⟩ := j_bind hf
    obtain ⟨v38, e39, hf⟩ := j_bind hf
    rcases j_ite hf with hf | hf
    ·
      obtain ⟨rfl, rfl⟩ := j_inj2 hf
      rfl
    ·
      rcases j_ite hf with hf | hf
      ·
        obtain ⟨rfl, rfl⟩ := j_inj2 hf
        rfl
      ·
        obtain ⟨q40, e41, hf⟩ := j_bind hf
        refine Eq.trans ?_ ((jloop_eq (fun _ _ _ _ q => q_X5_clearColumn_L93 q) e41))
        obtain ⟨rfl, rfl⟩ := j_inj2 hf
        rfl
theorem q_X5_clearColumn {a0 : Nat} {a1 : Int32} {h : JH} {q : Unit × JH} (hf : f_X5_clearColumn a0 a1 h = some q) : q.2.2.1 = h.2.1 := by
  unfold f_X5_clearColumn at hf
  obtain ⟨v1, e2, hf⟩ := j_bind hf
  obtain ⟨v3, e4, hf⟩ := j_bind hf
  obtain ⟨v5, e6, hf⟩ := j_bind hf
  obtain ⟨v7, e8, hf⟩ := j_bind hf
  obtain ⟨q9, e10, hf⟩ := j_bind hf
  refine Eq.trans ?_ ((q_X4_divide e10))
  obtain ⟨q30, e31, hf⟩ := j_bind hf
  refine Eq.trans ?_ ((jloop_eq (fun _ _ _ _ q => q_X5_clearColumn_L19 q) e31))
  obtain ⟨q45, e46, hf⟩ := j_bind hf
  refine Eq.trans ?_ ((jloop_eq (fun _ _ _ _ q => q_X5_clearColumn_L62 q) e46))
  obtain rfl := j_inj hf
  rfl
theorem q_X5_layEquations_L12 {a0 : Nat} {a1 : Int32} {a2 : Int32} {z : Int32} {h : JH} {r : Int32 ⊕ Int32} {h1 : JH} (hf : f_X5_layEquations_L12 a0 a1 a2 z h = some (r, h1)) : h1.2.1 = h.2.1 := by
  unfold f_X5_layEquations_L12 at hf
  obtain ⟨v3, e4, hf⟩ := j_bind hf
  rcases j_ite hf with hf | hf
  ·
    obtain ⟨rfl, rfl⟩ := j_inj2 hf
    rfl
  ·
    obtain ⟨v5, e6, hf⟩ := j_bind hf
    obtain ⟨v7, e8, hf⟩ := j_bind hf
    obtain ⟨v9, e10, hf⟩ := j_bind hf
    obtain ⟨v11, e12, hf⟩ := j_bind hf
    obtain ⟨v13, e14, hf⟩ := j_bind hf
    rcases j_ite hf with hf | hf
    ·
      obtain ⟨v21, e22, hf⟩ := j_bind hf
      obtain ⟨q23, e24, hf⟩ := j_bind hf
      refine Eq.trans ?_ ((q_X4_of e24))
      obtain ⟨h25, e26, hf⟩ := j_bind hf
      refine Eq.trans ?_ (jsI_n e26)
      obtain ⟨rfl, rfl⟩ := j_inj2 hf
      rfl
    ·
      obtain ⟨v15, e16, hf⟩ := j_bind hf
      obtain ⟨q17, e18, hf⟩ := j_bind hf
      refine Eq.trans ?_ ((q_X4_of e18))
      obtain ⟨h19, e20, hf⟩ := j_bind hf
      refine Eq.trans ?_ (jsI_n e20)
      obtain ⟨rfl, rfl⟩ := j_inj2 hf
      rfl
theorem q_X5_layEquations_L2 {a0 : Nat} {a1 : Int32} {z : Int32} {h : JH} {r : Int32 ⊕ Int32} {h1 : JH} (hf : f_X5_layEquations_L2 a0 a1 z h = some (r, h1)) : h1.2.1 = h.2.1 := by
  unfold f_X5_layEquations_L2 at hf
  obtain ⟨v1, e2, hf⟩ := j_bind hf
  rcases j_ite hf with hf | hf
  ·
    obtain ⟨rfl, rfl⟩ := j_inj2 hf
    rfl
  ·
    obtain ⟨q3, e4, hf⟩ := j_bind hf
    refine Eq.trans ?_ ((jloop_eq (fun _ _ _ _ q => q_X5_layEquations_L12 q) e4))
    obtain ⟨v5, e6, hf⟩ := j_bind hf
    obtain ⟨v7, e8, hf⟩ := j_bind hf
    obtain ⟨v9, e10, hf⟩ := j_bind hf
    rcases j_ite hf with hf | hf
    ·
      obtain ⟨v23, e24, hf⟩ := j_bind hf
      obtain ⟨v25, e26, hf⟩ := j_bind hf
      obtain ⟨v27, e28, hf⟩ := j_bind hf
      obtain ⟨v29, e30, hf⟩ := j_bind hf
      obtain ⟨q31, e32, hf⟩ := j_bind hf
      refine Eq.trans ?_ ((q_X4_of e32))
      obtain ⟨h33, e34, hf⟩ := j_bind hf
      refine Eq.trans ?_ (jsI_n e34)
      obtain ⟨rfl, rfl⟩ := j_inj2 hf
      rfl
    ·
      obtain ⟨v11, e12, hf⟩ := j_bind hf
      obtain ⟨v13, e14, hf⟩ := j_bind hf
      obtain ⟨v15, e16, hf⟩ := j_bind hf
      obtain ⟨v17, e18, hf⟩ := j_bind hf
      obtain ⟨q19, e20, hf⟩ := j_bind hf
      refine Eq.trans ?_ ((q_X4_of e20))
      obtain ⟨h21, e22, hf⟩ := j_bind hf
      refine Eq.trans ?_ (jsI_n e22)
      obtain ⟨rfl, rfl⟩ := j_inj2 hf
      rfl
theorem q_X5_layEquations {a0 : Nat} {a1 : Int32} {h : JH} {q : Unit × JH} (hf : f_X5_layEquations a0 a1 h = some q) : q.2.2.1 = h.2.1 := by
  unfold f_X5_layEquations at hf
  obtain ⟨q37, e38, hf⟩ := j_bind hf
  refine Eq.trans ?_ ((jloop_eq (fun _ _ _ _ q => q_X5_layEquations_L2 q) e38))
  obtain rfl := j_inj hf
  rfl
theorem q_X5_exchange_L2 {a0 : Nat} {a1 : Nat} {a2 : Nat} {z : Int32} {h : JH} {r : Int32 ⊕ Int32} {h1 : JH} (hf : f_X5_exchange_L2 a0 a1 a2 z h = some (r, h1)) : h1.2.1 = h.2.1 := by
  unfold f_X5_exchange_L2 at hf
  obtain ⟨v1, e2, hf⟩ := j_bind hf
  rcases j_ite hf with hf | hf
  ·
    obtain ⟨rfl, rfl⟩ := j_inj2 hf
    rfl
  ·
    obtain ⟨v3, e4, hf⟩ := j_bind hf
    obtain ⟨v5, e6, hf⟩ := j_bind hf
    obtain ⟨h7, e8, hf⟩ := j_bind hf
    refine Eq.trans ?_ (jsI_n e8)
    obtain ⟨h9, e10, hf⟩ := j_bind hf
    refine Eq.trans ?_ (jsI_n e10)
    obtain ⟨rfl, rfl⟩ := j_inj2 hf
    rfl
theorem q_X5_exchange {a0 : Nat} {a1 : Nat} {a2 : Nat} {h : JH} {q : Unit × JH} (hf : f_X5_exchange a0 a1 a2 h = some q) : q.2.2.1 = h.2.1 := by
  unfold f_X5_exchange at hf
  obtain ⟨q12, e13, hf⟩ := j_bind hf
  refine Eq.trans ?_ ((jloop_eq (fun _ _ _ _ q => q_X5_exchange_L2 q) e13))
  obtain rfl := j_inj hf
  rfl
theorem q_X5_liftPivot_L2 {a0 : Nat} {a1 : Int32} {z : Int32} {h : JH} {r : Int32 ⊕ (Int32 ⊕ Int32)} {h1 : JH} (hf : f_X5_liftPivot_L2 a0 a1 z h = some (r, h1)) : h1.2.1 = h.2.1 := by
  unfold f_X5_liftPivot_L2 at hf
  obtain ⟨v1, e2, hf⟩ := j_bind hf
  rcases j_ite hf with hf | hf
  ·
    obtain ⟨rfl, rfl⟩ := j_inj2 hf
    rfl
  ·
    obtain ⟨v3, e4, hf⟩ := j_bind hf
    obtain ⟨v5, e6, hf⟩ := j_bind hf
    obtain ⟨v7, e8, hf⟩ := j_bind hf
    rcases j_ite hf with hf | hf
    ·
      obtain ⟨rfl, rfl⟩ := j_inj2 hf
      rfl
    ·
      obtain ⟨v9, e10, hf⟩ := j_bind hf
      obtain ⟨v11, e12, hf⟩ := j_bind hf
      obtain ⟨v13, e14, hf⟩ := j_bind hf
      obtain ⟨v15, e16, hf⟩ := j_bind hf
      obtain ⟨u19, e20, hf⟩ := j_bind hf
      obtain ⟨q17, e18, hf⟩ := j_bind hf
      refine Eq.trans ?_ ((q_X5_exchange e18))
      obtain ⟨rfl, rfl⟩ := j_inj2 hf
      rfl
theorem q_X5_liftPivot {a0 : Nat} {a1 : Int32} {h : JH} {q : Int32 × JH} (hf : f_X5_liftPivot a0 a1 h = some q) : q.2.2.1 = h.2.1 := by
  unfold f_X5_liftPivot at hf
  obtain ⟨q23, e24, hf⟩ := j_bind hf
  refine Eq.trans ?_ ((jloop_eq (fun _ _ _ _ q => q_X5_liftPivot_L2 q) e24))
  cases y27 : q23.1 with
  | inl r26 =>
    rw [y27] at hf
    have hf := j_eliml hf
    obtain rfl := j_inj hf
    rfl
  | inr t25 =>
    rw [y27] at hf
    have hf := j_elimr hf
    obtain rfl := j_inj hf
    rfl
theorem q_X5_findOwn_L15 {a0 : Nat} {a2 : Nat} {a3 : Int32} {z : Int32} {h : JH} {r : Int32 ⊕ (Int32 ⊕ Int32)} {h1 : JH} (hf : f_X5_findOwn_L15 a0 a2 a3 z h = some (r, h1)) : h1.2.1 = h.2.1 := by
  unfold f_X5_findOwn_L15 at hf
  rcases j_ite hf with hf | hf
  ·
    obtain ⟨rfl, rfl⟩ := j_inj2 hf
    rfl
  ·
    obtain ⟨u11, e12, hf⟩ := j_bind hf
    obtain ⟨q5, e6, hf⟩ := j_bind hf
    refine Eq.trans ?_ ((q_X5_liftPivot e6))
    rcases j_ite hf with hf | hf
    ·
      obtain ⟨rfl, rfl⟩ := j_inj2 hf
      rfl
    ·
      obtain ⟨u9, e10, hf⟩ := j_bind hf
      obtain ⟨q7, e8, hf⟩ := j_bind hf
      refine Eq.trans ?_ ((q_X5_clearColumn e8))
      obtain ⟨rfl, rfl⟩ := j_inj2 hf
      rfl
theorem q_X5_findOwn_L68 {a0 : Nat} {a2 : Nat} {a3 : Int32} {z : Int32} {h : JH} {r : Int32 ⊕ Int32} {h1 : JH} (hf : f_X5_findOwn_L68 a0 a2 a3 z h = some (r, h1)) : h1.2.1 = h.2.1 := by
  unfold f_X5_findOwn_L68 at hf
  rcases j_ite hf with hf | hf
  ·
    obtain ⟨rfl, rfl⟩ := j_inj2 hf
    rfl
  ·
    obtain ⟨v27, e28, hf⟩ := j_bind hf
    obtain ⟨v29, e30, hf⟩ := j_bind hf
    obtain ⟨v31, e32, hf⟩ := j_bind hf
    obtain ⟨h33, e34, hf⟩ := j_bind hf
    refine Eq.trans ?_ (jsI_n e34)
    obtain ⟨rfl, rfl⟩ := j_inj2 hf
    rfl
theorem q_X5_findOwn {a0 : Nat} {a1 : Int32} {a2 : Nat} {h : JH} {q : Int32 × JH} (hf : f_X5_findOwn a0 a1 a2 h = some q) : q.2.2.1 = h.2.1 := by
  unfold f_X5_findOwn at hf
  obtain ⟨u38, e39, hf⟩ := j_bind hf
  obtain ⟨q1, e2, hf⟩ := j_bind hf
  refine Eq.trans ?_ ((q_X5_layEquations e2))
  obtain ⟨v3, e4, hf⟩ := j_bind hf
  obtain ⟨q15, e16, hf⟩ := j_bind hf
  refine Eq.trans ?_ ((jloop_eq (fun _ _ _ _ q => q_X5_findOwn_L15 q) e16))
  cases y40 : q15.1 with
  | inl r18 =>
    rw [y40] at hf
    have hf := j_eliml hf
    obtain rfl := j_inj hf
    rfl
  | inr t17 =>
    rw [y40] at hf
    have hf := j_elimr hf
    rcases j_ite hf with hf | hf
    ·
      obtain rfl := j_inj hf
      rfl
    ·
      obtain ⟨v19, e20, hf⟩ := j_bind hf
      obtain ⟨v21, e22, hf⟩ := j_bind hf
      obtain ⟨v23, e24, hf⟩ := j_bind hf
      rcases j_ite hf with hf | hf
      ·
        obtain ⟨h25, e26, hf⟩ := j_bind hf
        refine Eq.trans ?_ (jsI_n e26)
        obtain ⟨q36, e37, hf⟩ := j_bind hf
        refine Eq.trans ?_ ((jloop_eq (fun _ _ _ _ q => q_X5_findOwn_L68 q) e37))
        obtain rfl := j_inj hf
        rfl
      ·
        obtain rfl := j_inj hf
        rfl
theorem q_X6_numbersInRow {a0 : Nat} {h : JH} {q : Int32 × JH} (hf : f_X6_numbersInRow a0 h = some q) : q.2.2.1 = h.2.1 := by
  unfold f_X6_numbersInRow at hf
  obtain ⟨v1, e2, hf⟩ := j_bind hf
  rcases j_ite hf with hf | hf
  ·
    obtain rfl := j_inj hf
    rfl
  ·
    obtain rfl := j_inj hf
    rfl
theorem q_X6_empty_L2 {a0 : Nat} {z : Int32} {h : JH} {r : Int32 ⊕ Int32} {h1 : JH} (hf : f_X6_empty_L2 a0 z h = some (r, h1)) : h1.2.1 = h.2.1 := by
  unfold f_X6_empty_L2 at hf
  rcases j_ite hf with hf | hf
  ·
    obtain ⟨rfl, rfl⟩ := j_inj2 hf
    rfl
  ·
    obtain ⟨v1, e2, hf⟩ := j_bind hf
    obtain ⟨h3, e4, hf⟩ := j_bind hf
    refine Eq.trans ?_ (jsB_n e4)
    obtain ⟨rfl, rfl⟩ := j_inj2 hf
    rfl
theorem q_X6_empty {a0 : Nat} {h : JH} {q : Unit × JH} (hf : f_X6_empty a0 h = some q) : q.2.2.1 = h.2.1 := by
  unfold f_X6_empty at hf
  obtain ⟨q6, e7, hf⟩ := j_bind hf
  refine Eq.trans ?_ ((jloop_eq (fun _ _ _ _ q => q_X6_empty_L2 q) e7))
  obtain rfl := j_inj hf
  rfl
theorem n_X7_init {a0 : Nat} {a1 : Int32} {h : JH} {q : Unit × JH} (hf : f_X7_init a0 a1 h = some q) : j_le h q.2 := by
  unfold f_X7_init at hf
  obtain ⟨q1, e2, hf⟩ := j_bind hf
  refine j_le_trans (jnM_le e2) ?_
  obtain ⟨h3, e4, hf⟩ := j_bind hf
  refine j_le_trans (j_le_of (jput_n e4)) ?_
  obtain ⟨q5, e6, hf⟩ := j_bind hf
  refine j_le_trans (jnA_le e6) ?_
  obtain ⟨h7, e8, hf⟩ := j_bind hf
  refine j_le_trans (j_le_of (jput_n e8)) ?_
  obtain ⟨h9, e10, hf⟩ := j_bind hf
  refine j_le_trans (j_le_of (jput_n e10)) ?_
  obtain ⟨q11, e12, hf⟩ := j_bind hf
  refine j_le_trans (j_le_of ((q_X11_lengthOf e12))) ?_
  obtain ⟨h13, e14, hf⟩ := j_bind hf
  refine j_le_trans (j_le_of (jput_n e14)) ?_
  obtain rfl := j_inj hf
  exact j_le_refl _
theorem q_X7_isReady {a0 : Nat} {a1 : Int32} {a2 : Int32} {h : JH} {q : Int32 × JH} (hf : f_X7_isReady a0 a1 a2 h = some q) : q.2.2.1 = h.2.1 := by
  unfold f_X7_isReady at hf
  obtain ⟨v1, e2, hf⟩ := j_bind hf
  rcases j_ite hf with hf | hf
  ·
    obtain ⟨v3, e4, hf⟩ := j_bind hf
    rcases j_ite hf with hf | hf
    ·
      obtain rfl := j_inj hf
      rfl
    ·
      obtain rfl := j_inj hf
      rfl
  ·
    obtain rfl := j_inj hf
    rfl
theorem n_X7_begin {a0 : Nat} {a1 : Int32} {a2 : Int32} {h : JH} {q : Unit × JH} (hf : f_X7_begin a0 a1 a2 h = some q) : j_le h q.2 := by
  unfold f_X7_begin at hf
  obtain ⟨h1, e2, hf⟩ := j_bind hf
  refine j_le_trans (j_le_of (jput_n e2)) ?_
  obtain ⟨h3, e4, hf⟩ := j_bind hf
  refine j_le_trans (j_le_of (jput_n e4)) ?_
  obtain ⟨v5, e6, hf⟩ := j_bind hf
  obtain ⟨v7, e8, hf⟩ := j_bind hf
  obtain ⟨v9, e10, hf⟩ := j_bind hf
  rcases j_ite hf with hf | hf
  ·
    obtain rfl := j_inj hf
    exact j_le_refl _
  ·
    obtain ⟨v11, e12, hf⟩ := j_bind hf
    obtain ⟨q13, e14, hf⟩ := j_bind hf
    refine j_le_trans (jnM_le e14) ?_
    obtain ⟨h15, e16, hf⟩ := j_bind hf
    refine j_le_trans (j_le_of (jput_n e16)) ?_
    obtain rfl := j_inj hf
    exact j_le_refl _
theorem q_X7_factorOfSums {a0 : Nat} {h : JH} {q : Int32 × JH} (hf : f_X7_factorOfSums a0 h = some q) : q.2.2.1 = h.2.1 := by
  unfold f_X7_factorOfSums at hf
  obtain ⟨v1, e2, hf⟩ := j_bind hf
  rcases j_ite hf with hf | hf
  ·
    obtain rfl := j_inj hf
    rfl
  rcases j_ite hf with hf | hf
  ·
    obtain rfl := j_inj hf
    rfl
  rcases j_ite hf with hf | hf
  ·
    obtain rfl := j_inj hf
    rfl
  rcases j_ite hf with hf | hf
  ·
    obtain rfl := j_inj hf
    rfl
  rcases j_ite hf with hf | hf
  ·
    obtain rfl := j_inj hf
    rfl
  obtain rfl := j_inj hf
  rfl
theorem q_X7_makeAlone_L65 {a0 : Nat} {a3 : Nat} {a4 : Int32} {a5 : Int32} {a6 : Int32} {z : Int32} {h : JH} {r : Int32 ⊕ Int32} {h1 : JH} (hf : f_X7_makeAlone_L65 a0 a3 a4 a5 a6 z h = some (r, h1)) : h1.2.1 = h.2.1 := by
  unfold f_X7_makeAlone_L65 at hf
  obtain ⟨v23, e24, hf⟩ := j_bind hf
  rcases j_ite hf with hf | hf
  ·
    obtain ⟨rfl, rfl⟩ := j_inj2 hf
    rfl
  ·
    obtain ⟨v25, e26, hf⟩ := j_bind hf
    obtain ⟨h27, e28, hf⟩ := j_bind hf
    refine Eq.trans ?_ (jsI_n e28)
    obtain ⟨rfl, rfl⟩ := j_inj2 hf
    rfl
theorem q_X7_makeAlone_L35 {a0 : Nat} {a3 : Nat} {a4 : Int32} {z : Int32} {h : JH} {r : Int32 ⊕ Int32} {h1 : JH} (hf : f_X7_makeAlone_L35 a0 a3 a4 z h = some (r, h1)) : h1.2.1 = h.2.1 := by
  unfold f_X7_makeAlone_L35 at hf
  obtain ⟨v15, e16, hf⟩ := j_bind hf
  rcases j_ite hf with hf | hf
  ·
    obtain ⟨rfl, rfl⟩ := j_inj2 hf
    rfl
  ·
    obtain ⟨v17, e18, hf⟩ := j_bind hf
    obtain ⟨v19, e20, hf⟩ := j_bind hf
    obtain ⟨q21, e22, hf⟩ := j_bind hf
    refine Eq.trans ?_ ((q_X4_power e22))
    obtain ⟨q23, e24, hf⟩ := j_bind hf
    refine Eq.trans ?_ ((jloop_eq (fun _ _ _ _ q => q_X7_makeAlone_L65 q) e24))
    obtain ⟨rfl, rfl⟩ := j_inj2 hf
    rfl
theorem q_X7_makeAlone_L102 {a0 : Nat} {a3 : Nat} {a4 : Int32} {z : Int32} {h : JH} {r : Int32 ⊕ Int32} {h1 : JH} (hf : f_X7_makeAlone_L102 a0 a3 a4 z h = some (r, h1)) : h1.2.1 = h.2.1 := by
  unfold f_X7_makeAlone_L102 at hf
  obtain ⟨v28, e29, hf⟩ := j_bind hf
  rcases j_ite hf with hf | hf
  ·
    obtain ⟨rfl, rfl⟩ := j_inj2 hf
    rfl
  ·
    obtain ⟨v30, e31, hf⟩ := j_bind hf
    obtain ⟨v32, e33, hf⟩ := j_bind hf
    obtain ⟨q34, e35, hf⟩ := j_bind hf
    refine Eq.trans ?_ ((q_X4_of e35))
    obtain ⟨h36, e37, hf⟩ := j_bind hf
    refine Eq.trans ?_ (jsI_n e37)
    obtain ⟨rfl, rfl⟩ := j_inj2 hf
    rfl
theorem n_X7_makeAlone {a0 : Nat} {a1 : Int32} {a2 : Int32} {h : JH} {q : Unit × JH} (hf : f_X7_makeAlone a0 a1 a2 h = some q) : j_le h q.2 := by
  unfold f_X7_makeAlone at hf
  obtain ⟨u45, e46, hf⟩ := j_bind hf
  obtain ⟨q1, e2, hf⟩ := j_bind hf
  refine j_le_trans (n_X7_begin e2) ?_
  obtain ⟨v3, e4, hf⟩ := j_bind hf
  obtain ⟨v5, e6, hf⟩ := j_bind hf
  obtain ⟨q7, e8, hf⟩ := j_bind hf
  refine j_le_trans (j_le_of ((q_J7_fill_53178 e8))) ?_
  obtain ⟨u43, e44, hf⟩ := j_bind hf
  obtain ⟨q9, e10, hf⟩ := j_bind hf
  refine j_le_trans (j_le_of ((q_X7_factorOfSums e10))) ?_
  obtain ⟨v11, e12, hf⟩ := j_bind hf
  obtain ⟨q13, e14, hf⟩ := j_bind hf
  refine j_le_trans (j_le_of ((q_X4_of e14))) ?_
  obtain ⟨q26, e27, hf⟩ := j_bind hf
  refine j_le_trans (j_le_of ((jloop_eq (fun _ _ _ _ q => q_X7_makeAlone_L35 q) e27))) ?_
  obtain ⟨q39, e40, hf⟩ := j_bind hf
  refine j_le_trans (j_le_of ((jloop_eq (fun _ _ _ _ q => q_X7_makeAlone_L102 q) e40))) ?_
  obtain ⟨h41, e42, hf⟩ := j_bind hf
  refine j_le_trans (j_le_of (jsI_n e42)) ?_
  obtain rfl := j_inj hf
  exact j_le_refl _
theorem q_X7_multiply_L18 {a0 : Nat} {a1 : Nat} {a2 : Nat} {a3 : Nat} {a4 : Int32} {z : (Int64 × Int32)} {h : JH} {r : (Int64 × Int32) ⊕ (Int64 × Int32)} {h1 : JH} (hf : f_X7_multiply_L18 a0 a1 a2 a3 a4 z h = some (r, h1)) : h1.2.1 = h.2.1 := by
  unfold f_X7_multiply_L18 at hf
  rcases j_ite hf with hf | hf
  ·
    obtain ⟨rfl, rfl⟩ := j_inj2 hf
    rfl
  ·
    obtain ⟨v3, e4, hf⟩ := j_bind hf
    obtain ⟨v5, e6, hf⟩ := j_bind hf
    obtain ⟨rfl, rfl⟩ := j_inj2 hf
    rfl
theorem q_X7_multiply_L3 {a0 : Nat} {a1 : Nat} {a2 : Nat} {a3 : Nat} {z : Int32} {h : JH} {r : Int32 ⊕ Int32} {h1 : JH} (hf : f_X7_multiply_L3 a0 a1 a2 a3 z h = some (r, h1)) : h1.2.1 = h.2.1 := by
  unfold f_X7_multiply_L3 at hf
  obtain ⟨v1, e2, hf⟩ := j_bind hf
  rcases j_ite hf with hf | hf
  ·
    obtain ⟨rfl, rfl⟩ := j_inj2 hf
    rfl
  ·
    obtain ⟨q3, e4, hf⟩ := j_bind hf
    refine Eq.trans ?_ ((jloop_eq (fun _ _ _ _ q => q_X7_multiply_L18 q) e4))
    obtain ⟨v5, e6, hf⟩ := j_bind hf
    obtain ⟨q7, e8, hf⟩ := j_bind hf
    refine Eq.trans ?_ ((q_X4_of e8))
    obtain ⟨h9, e10, hf⟩ := j_bind hf
    refine Eq.trans ?_ (jsI_n e10)
    obtain ⟨rfl, rfl⟩ := j_inj2 hf
    rfl
theorem q_X7_multiply {a0 : Nat} {a1 : Nat} {a2 : Nat} {a3 : Nat} {h : JH} {q : Unit × JH} (hf : f_X7_multiply a0 a1 a2 a3 h = some q) : q.2.2.1 = h.2.1 := by
  unfold f_X7_multiply at hf
  obtain ⟨q12, e13, hf⟩ := j_bind hf
  refine Eq.trans ?_ ((jloop_eq (fun _ _ _ _ q => q_X7_multiply_L3 q) e13))
  obtain rfl := j_inj hf
  rfl
theorem q_X7_subtract_L3 {a0 : Nat} {a1 : Nat} {a2 : Nat} {a3 : Int32} {z : Int32} {h : JH} {r : Int32 ⊕ Int32} {h1 : JH} (hf : f_X7_subtract_L3 a0 a1 a2 a3 z h = some (r, h1)) : h1.2.1 = h.2.1 := by
  unfold f_X7_subtract_L3 at hf
  obtain ⟨v1, e2, hf⟩ := j_bind hf
  rcases j_ite hf with hf | hf
  ·
    obtain ⟨rfl, rfl⟩ := j_inj2 hf
    rfl
  ·
    obtain ⟨v3, e4, hf⟩ := j_bind hf
    obtain ⟨v5, e6, hf⟩ := j_bind hf
    obtain ⟨v7, e8, hf⟩ := j_bind hf
    obtain ⟨q9, e10, hf⟩ := j_bind hf
    refine Eq.trans ?_ ((q_X4_of e10))
    obtain ⟨h11, e12, hf⟩ := j_bind hf
    refine Eq.trans ?_ (jsI_n e12)
    obtain ⟨rfl, rfl⟩ := j_inj2 hf
    rfl
theorem q_X7_subtract {a0 : Nat} {a1 : Nat} {a2 : Nat} {a3 : Int32} {h : JH} {q : Unit × JH} (hf : f_X7_subtract a0 a1 a2 a3 h = some q) : q.2.2.1 = h.2.1 := by
  unfold f_X7_subtract at hf
  obtain ⟨q14, e15, hf⟩ := j_bind hf
  refine Eq.trans ?_ ((jloop_eq (fun _ _ _ _ q => q_X7_subtract_L3 q) e15))
  obtain rfl := j_inj hf
  rfl
theorem q_X7_reduce_L15 {a0 : Nat} {a1 : Int32} {z : Int32} {h : JH} {r : Int32 ⊕ Int32} {h1 : JH} (hf : f_X7_reduce_L15 a0 a1 z h = some (r, h1)) : h1.2.1 = h.2.1 := by
  unfold f_X7_reduce_L15 at hf
  obtain ⟨v3, e4, hf⟩ := j_bind hf
  rcases j_ite hf with hf | hf
  ·
    obtain ⟨rfl, rfl⟩ := j_inj2 hf
    rfl
  ·
    obtain ⟨v5, e6, hf⟩ := j_bind hf
    obtain ⟨v7, e8, hf⟩ := j_bind hf
    obtain ⟨v9, e10, hf⟩ := j_bind hf
    obtain ⟨v11, e12, hf⟩ := j_bind hf
    obtain ⟨v13, e14, hf⟩ := j_bind hf
    obtain ⟨v15, e16, hf⟩ := j_bind hf
    obtain ⟨v17, e18, hf⟩ := j_bind hf
    obtain ⟨u21, e22, hf⟩ := j_bind hf
    obtain ⟨q19, e20, hf⟩ := j_bind hf
    refine Eq.trans ?_ ((q_X7_subtract e20))
    obtain ⟨rfl, rfl⟩ := j_inj2 hf
    rfl
theorem q_X7_reduce_L7 {a0 : Nat} {z : Int32} {h : JH} {r : Int32 ⊕ Int32} {h1 : JH} (hf : f_X7_reduce_L7 a0 z h = some (r, h1)) : h1.2.1 = h.2.1 := by
  unfold f_X7_reduce_L7 at hf
  rcases j_ite hf with hf | hf
  ·
    obtain ⟨rfl, rfl⟩ := j_inj2 hf
    rfl
  ·
    obtain ⟨q3, e4, hf⟩ := j_bind hf
    refine Eq.trans ?_ ((jloop_eq (fun _ _ _ _ q => q_X7_reduce_L15 q) e4))
    obtain ⟨rfl, rfl⟩ := j_inj2 hf
    rfl
theorem q_X7_reduce {a0 : Nat} {h : JH} {q : Unit × JH} (hf : f_X7_reduce a0 h = some q) : q.2.2.1 = h.2.1 := by
  unfold f_X7_reduce at hf
  obtain ⟨v1, e2, hf⟩ := j_bind hf
  obtain ⟨q6, e7, hf⟩ := j_bind hf
  refine Eq.trans ?_ ((jloop_eq (fun _ _ _ _ q => q_X7_reduce_L7 q) e7))
  obtain rfl := j_inj hf
  rfl
theorem q_X7_makeTwelve_L78 {a0 : Nat} {a5 : Nat} {a6 : Nat} {a7 : Int32} {z : Int32} {h : JH} {r : Int32 ⊕ Int32} {h1 : JH} (hf : f_X7_makeTwelve_L78 a0 a5 a6 a7 z h = some (r, h1)) : h1.2.1 = h.2.1 := by
  unfold f_X7_makeTwelve_L78 at hf
  obtain ⟨v37, e38, hf⟩ := j_bind hf
  rcases j_ite hf with hf | hf
  ·
    obtain ⟨rfl, rfl⟩ := j_inj2 hf
    rfl
  ·
    obtain ⟨v39, e40, hf⟩ := j_bind hf
    obtain ⟨v41, e42, hf⟩ := j_bind hf
    obtain ⟨v43, e44, hf⟩ := j_bind hf
    obtain ⟨q45, e46, hf⟩ := j_bind hf
    refine Eq.trans ?_ ((q_X4_of e46))
    obtain ⟨h47, e48, hf⟩ := j_bind hf
    refine Eq.trans ?_ (jsI_n e48)
    obtain ⟨rfl, rfl⟩ := j_inj2 hf
    rfl
theorem n_X7_makeTwelve {a0 : Nat} {a1 : Nat} {a2 : Nat} {a3 : Nat} {a4 : Int32} {h : JH} {q : Unit × JH} (hf : f_X7_makeTwelve a0 a1 a2 a3 a4 h = some q) : j_le h q.2 := by
  unfold f_X7_makeTwelve at hf
  obtain ⟨v1, e2, hf⟩ := j_bind hf
  obtain ⟨u60, e61, hf⟩ := j_bind hf
  obtain ⟨q3, e4, hf⟩ := j_bind hf
  refine j_le_trans (n_X7_begin e4) ?_
  obtain ⟨v5, e6, hf⟩ := j_bind hf
  obtain ⟨v7, e8, hf⟩ := j_bind hf
  obtain ⟨v9, e10, hf⟩ := j_bind hf
  obtain ⟨v11, e12, hf⟩ := j_bind hf
  obtain ⟨v13, e14, hf⟩ := j_bind hf
  obtain ⟨v15, e16, hf⟩ := j_bind hf
  obtain ⟨v17, e18, hf⟩ := j_bind hf
  obtain ⟨v19, e20, hf⟩ := j_bind hf
  obtain ⟨u58, e59, hf⟩ := j_bind hf
  obtain ⟨q21, e22, hf⟩ := j_bind hf
  refine j_le_trans (j_le_of ((q_X7_multiply e22))) ?_
  obtain ⟨v23, e24, hf⟩ := j_bind hf
  obtain ⟨v25, e26, hf⟩ := j_bind hf
  obtain ⟨v27, e28, hf⟩ := j_bind hf
  obtain ⟨v29, e30, hf⟩ := j_bind hf
  obtain ⟨u56, e57, hf⟩ := j_bind hf
  obtain ⟨q31, e32, hf⟩ := j_bind hf
  refine j_le_trans (j_le_of ((q_X7_multiply e32))) ?_
  obtain ⟨v33, e34, hf⟩ := j_bind hf
  obtain ⟨q35, e36, hf⟩ := j_bind hf
  refine j_le_trans (j_le_of ((q_X4_divide e36))) ?_
  obtain ⟨q50, e51, hf⟩ := j_bind hf
  refine j_le_trans (j_le_of ((jloop_eq (fun _ _ _ _ q => q_X7_makeTwelve_L78 q) e51))) ?_
  obtain ⟨u54, e55, hf⟩ := j_bind hf
  obtain ⟨q52, e53, hf⟩ := j_bind hf
  refine j_le_trans (j_le_of ((q_X7_reduce e53))) ?_
  obtain rfl := j_inj hf
  exact j_le_refl _
theorem q_X7_makeFrom_L34 {a0 : Nat} {a1 : Nat} {a2 : Nat} {z : Int32} {h : JH} {r : Int32 ⊕ Int32} {h1 : JH} (hf : f_X7_makeFrom_L34 a0 a1 a2 z h = some (r, h1)) : h1.2.1 = h.2.1 := by
  unfold f_X7_makeFrom_L34 at hf
  obtain ⟨v19, e20, hf⟩ := j_bind hf
  rcases j_ite hf with hf | hf
  ·
    obtain ⟨rfl, rfl⟩ := j_inj2 hf
    rfl
  ·
    obtain ⟨v21, e22, hf⟩ := j_bind hf
    obtain ⟨v23, e24, hf⟩ := j_bind hf
    obtain ⟨v25, e26, hf⟩ := j_bind hf
    obtain ⟨v27, e28, hf⟩ := j_bind hf
    obtain ⟨v29, e30, hf⟩ := j_bind hf
    obtain ⟨v31, e32, hf⟩ := j_bind hf
    obtain ⟨u35, e36, hf⟩ := j_bind hf
    obtain ⟨q33, e34, hf⟩ := j_bind hf
    refine Eq.trans ?_ ((q_X7_multiply e34))
    obtain ⟨rfl, rfl⟩ := j_inj2 hf
    rfl
theorem n_X7_makeFrom {a0 : Nat} {a1 : Nat} {a2 : Nat} {a3 : Int32} {h : JH} {q : Unit × JH} (hf : f_X7_makeFrom a0 a1 a2 a3 h = some q) : j_le h q.2 := by
  unfold f_X7_makeFrom at hf
  obtain ⟨v1, e2, hf⟩ := j_bind hf
  obtain ⟨u46, e47, hf⟩ := j_bind hf
  obtain ⟨q3, e4, hf⟩ := j_bind hf
  refine j_le_trans (n_X7_begin e4) ?_
  obtain ⟨v5, e6, hf⟩ := j_bind hf
  obtain ⟨v7, e8, hf⟩ := j_bind hf
  obtain ⟨v9, e10, hf⟩ := j_bind hf
  obtain ⟨v11, e12, hf⟩ := j_bind hf
  obtain ⟨v13, e14, hf⟩ := j_bind hf
  obtain ⟨v15, e16, hf⟩ := j_bind hf
  obtain ⟨u44, e45, hf⟩ := j_bind hf
  obtain ⟨q17, e18, hf⟩ := j_bind hf
  refine j_le_trans (j_le_of ((q_X7_multiply e18))) ?_
  obtain ⟨q38, e39, hf⟩ := j_bind hf
  refine j_le_trans (j_le_of ((jloop_eq (fun _ _ _ _ q => q_X7_makeFrom_L34 q) e39))) ?_
  obtain ⟨u42, e43, hf⟩ := j_bind hf
  obtain ⟨q40, e41, hf⟩ := j_bind hf
  refine j_le_trans (j_le_of ((q_X7_reduce e41))) ?_
  obtain rfl := j_inj hf
  exact j_le_refl _
theorem q_X7_complete_L13 {a0 : Nat} {a1 : Nat} {z : Int32} {h : JH} {r : Int32 ⊕ Int32} {h1 : JH} (hf : f_X7_complete_L13 a0 a1 z h = some (r, h1)) : h1.2.1 = h.2.1 := by
  unfold f_X7_complete_L13 at hf
  rcases j_ite hf with hf | hf
  ·
    obtain ⟨rfl, rfl⟩ := j_inj2 hf
    rfl
  ·
    obtain ⟨v7, e8, hf⟩ := j_bind hf
    obtain ⟨v9, e10, hf⟩ := j_bind hf
    obtain ⟨u15, e16, hf⟩ := j_bind hf
    obtain ⟨q11, e12, hf⟩ := j_bind hf
    refine Eq.trans ?_ ((q_X7_expand e12))
    obtain ⟨h13, e14, hf⟩ := j_bind hf
    refine Eq.trans ?_ (jsI_n e14)
    obtain ⟨rfl, rfl⟩ := j_inj2 hf
    rfl
theorem q_X7_complete {a0 : Nat} {a1 : Nat} {h : JH} {q : Unit × JH} (hf : f_X7_complete a0 a1 h = some q) : q.2.2.1 = h.2.1 := by
  unfold f_X7_complete at hf
  obtain ⟨v1, e2, hf⟩ := j_bind hf
  obtain ⟨h3, e4, hf⟩ := j_bind hf
  refine Eq.trans ?_ (jput_n e4)
  obtain ⟨v5, e6, hf⟩ := j_bind hf
  obtain ⟨q18, e19, hf⟩ := j_bind hf
  refine Eq.trans ?_ ((jloop_eq (fun _ _ _ _ q => q_X7_complete_L13 q) e19))
  obtain rfl := j_inj hf
  rfl
theorem n_X8_init_L15 {a0 : Nat} {z : Int32} {h : JH} {r : Int32 ⊕ Int32} {h1 : JH} (hf : f_X8_init_L15 a0 z h = some (r, h1)) : j_le h h1 := by
  unfold f_X8_init_L15 at hf
  obtain ⟨v5, e6, hf⟩ := j_bind hf
  obtain ⟨v7, e8, hf⟩ := j_bind hf
  rcases j_ite hf with hf | hf
  ·
    obtain ⟨rfl, rfl⟩ := j_inj2 hf
    exact j_le_refl _
  ·
    obtain ⟨v9, e10, hf⟩ := j_bind hf
    obtain ⟨q11, e12, hf⟩ := j_bind hf
    refine j_le_trans (jnO_le e12) ?_
    obtain ⟨q13, e14, hf⟩ := j_bind hf
    refine j_le_trans (n_X7_init e14) ?_
    obtain ⟨h15, e16, hf⟩ := j_bind hf
    refine j_le_trans (j_le_of (jsR_n e16)) ?_
    obtain ⟨rfl, rfl⟩ := j_inj2 hf
    exact j_le_refl _
theorem n_X8_init {a0 : Nat} {h : JH} {q : Unit × JH} (hf : f_X8_init a0 h = some q) : j_le h q.2 := by
  unfold f_X8_init at hf
  obtain ⟨q1, e2, hf⟩ := j_bind hf
  refine j_le_trans (jnA_le e2) ?_
  obtain ⟨h3, e4, hf⟩ := j_bind hf
  refine j_le_trans (j_le_of (jput_n e4)) ?_
  obtain ⟨q18, e19, hf⟩ := j_bind hf
  refine j_le_trans ((jloop_le (fun _ _ _ _ q => n_X8_init_L15 q) e19)) ?_
  obtain rfl := j_inj hf
  exact j_le_refl _
theorem n_X8_makeAlone {a0 : Nat} {a1 : Int32} {a2 : Int32} {a3 : Int32} {h : JH} {q : Unit × JH} (hf : f_X8_makeAlone a0 a1 a2 a3 h = some q) : j_le h q.2 := by
  unfold f_X8_makeAlone at hf
  obtain ⟨v1, e2, hf⟩ := j_bind hf
  obtain ⟨v3, e4, hf⟩ := j_bind hf
  obtain ⟨u15, e16, hf⟩ := j_bind hf
  obtain ⟨q5, e6, hf⟩ := j_bind hf
  refine j_le_trans (j_le_of ((q_X7_isReady e6))) ?_
  rcases j_ite hf with hf | hf
  ·
    obtain ⟨v7, e8, hf⟩ := j_bind hf
    obtain ⟨v9, e10, hf⟩ := j_bind hf
    obtain ⟨u13, e14, hf⟩ := j_bind hf
    obtain ⟨q11, e12, hf⟩ := j_bind hf
    refine j_le_trans (n_X7_makeAlone e12) ?_
    obtain rfl := j_inj hf
    exact j_le_refl _
  ·
    obtain rfl := j_inj hf
    exact j_le_refl _
theorem n_X8_makeTwelve {a0 : Nat} {a1 : Int32} {a2 : Int32} {h : JH} {q : Unit × JH} (hf : f_X8_makeTwelve a0 a1 a2 h = some q) : j_le h q.2 := by
  unfold f_X8_makeTwelve at hf
  obtain ⟨v1, e2, hf⟩ := j_bind hf
  obtain ⟨v3, e4, hf⟩ := j_bind hf
  obtain ⟨u39, e40, hf⟩ := j_bind hf
  obtain ⟨q5, e6, hf⟩ := j_bind hf
  refine j_le_trans (j_le_of ((q_X7_isReady e6))) ?_
  rcases j_ite hf with hf | hf
  ·
    obtain ⟨u37, e38, hf⟩ := j_bind hf
    obtain ⟨q7, e8, hf⟩ := j_bind hf
    refine j_le_trans (n_X8_makeAlone e8) ?_
    obtain ⟨u35, e36, hf⟩ := j_bind hf
    obtain ⟨q9, e10, hf⟩ := j_bind hf
    refine j_le_trans (n_X8_makeAlone e10) ?_
    obtain ⟨u33, e34, hf⟩ := j_bind hf
    obtain ⟨q11, e12, hf⟩ := j_bind hf
    refine j_le_trans (n_X8_makeAlone e12) ?_
    obtain ⟨v13, e14, hf⟩ := j_bind hf
    obtain ⟨v15, e16, hf⟩ := j_bind hf
    obtain ⟨v17, e18, hf⟩ := j_bind hf
    obtain ⟨v19, e20, hf⟩ := j_bind hf
    obtain ⟨v21, e22, hf⟩ := j_bind hf
    obtain ⟨v23, e24, hf⟩ := j_bind hf
    obtain ⟨v25, e26, hf⟩ := j_bind hf
    obtain ⟨v27, e28, hf⟩ := j_bind hf
    obtain ⟨u31, e32, hf⟩ := j_bind hf
    obtain ⟨q29, e30, hf⟩ := j_bind hf
    refine j_le_trans (n_X7_makeTwelve e30) ?_
    obtain rfl := j_inj hf
    exact j_le_refl _
  ·
    obtain rfl := j_inj hf
    exact j_le_refl _
theorem n_X8_ready_L94 {a0 : Nat} {a1 : Int32} {a2 : Int32} {a4 : Nat} {a5 : Int32} {z : Int32} {h : JH} {r : Int32 ⊕ Int32} {h1 : JH} (hf : f_X8_ready_L94 a0 a1 a2 a4 a5 z h = some (r, h1)) : j_le h h1 := by
  unfold f_X8_ready_L94 at hf
  rcases j_ite hf with hf | hf
  ·
    obtain ⟨rfl, rfl⟩ := j_inj2 hf
    exact j_le_refl _
  ·
    obtain ⟨v7, e8, hf⟩ := j_bind hf
    obtain ⟨v9, e10, hf⟩ := j_bind hf
    obtain ⟨u29, e30, hf⟩ := j_bind hf
    obtain ⟨q11, e12, hf⟩ := j_bind hf
    refine j_le_trans (j_le_of ((q_X7_isReady e12))) ?_
    rcases j_ite hf with hf | hf
    ·
      obtain ⟨v13, e14, hf⟩ := j_bind hf
      obtain ⟨v15, e16, hf⟩ := j_bind hf
      obtain ⟨v17, e18, hf⟩ := j_bind hf
      obtain ⟨v19, e20, hf⟩ := j_bind hf
      obtain ⟨v21, e22, hf⟩ := j_bind hf
      obtain ⟨v23, e24, hf⟩ := j_bind hf
      obtain ⟨u27, e28, hf⟩ := j_bind hf
      obtain ⟨q25, e26, hf⟩ := j_bind hf
      refine j_le_trans (n_X7_makeFrom e26) ?_
      obtain ⟨rfl, rfl⟩ := j_inj2 hf
      exact j_le_refl _
    ·
      obtain ⟨rfl, rfl⟩ := j_inj2 hf
      exact j_le_refl _
theorem n_X8_ready {a0 : Nat} {a1 : Int32} {a2 : Int32} {a3 : Int32} {h : JH} {q : Nat × JH} (hf : f_X8_ready a0 a1 a2 a3 h = some q) : j_le h q.2 := by
  unfold f_X8_ready at hf
  obtain ⟨v1, e2, hf⟩ := j_bind hf
  obtain ⟨v3, e4, hf⟩ := j_bind hf
  rcases j_ite hf with hf | hf
  ·
    obtain ⟨u73, e74, hf⟩ := j_bind hf
    obtain ⟨q5, e6, hf⟩ := j_bind hf
    refine j_le_trans (j_le_of ((q_X7_isReady e6))) ?_
    rcases j_ite hf with hf | hf
    ·
      rcases j_ite hf with hf | hf
      ·
        rcases j_ite hf with hf | hf
        ·
          rcases j_ite hf with hf | hf
          ·
            obtain ⟨q53, e54, hf⟩ := j_bind hf
            refine j_le_trans ((jloop_le (fun _ _ _ _ q => n_X8_ready_L94 q) e54)) ?_
            obtain rfl := j_inj hf
            exact j_le_refl _
          ·
            obtain ⟨u59, e60, hf⟩ := j_bind hf
            obtain ⟨q55, e56, hf⟩ := j_bind hf
            refine j_le_trans (n_X8_makeTwelve e56) ?_
            obtain ⟨q57, e58, hf⟩ := j_bind hf
            refine j_le_trans ((jloop_le (fun _ _ _ _ q => n_X8_ready_L94 q) e58)) ?_
            obtain rfl := j_inj hf
            exact j_le_refl _
        ·
          obtain ⟨u71, e72, hf⟩ := j_bind hf
          obtain ⟨q61, e62, hf⟩ := j_bind hf
          refine j_le_trans (n_X8_makeAlone e62) ?_
          rcases j_ite hf with hf | hf
          ·
            obtain ⟨q63, e64, hf⟩ := j_bind hf
            refine j_le_trans ((jloop_le (fun _ _ _ _ q => n_X8_ready_L94 q) e64)) ?_
            obtain rfl := j_inj hf
            exact j_le_refl _
          ·
            obtain ⟨u69, e70, hf⟩ := j_bind hf
            obtain ⟨q65, e66, hf⟩ := j_bind hf
            refine j_le_trans (n_X8_makeTwelve e66) ?_
            obtain ⟨q67, e68, hf⟩ := j_bind hf
            refine j_le_trans ((jloop_le (fun _ _ _ _ q => n_X8_ready_L94 q) e68)) ?_
            obtain rfl := j_inj hf
            exact j_le_refl _
      ·
        rcases j_ite hf with hf | hf
        ·
          rcases j_ite hf with hf | hf
          ·
            obtain ⟨q33, e34, hf⟩ := j_bind hf
            refine j_le_trans ((jloop_le (fun _ _ _ _ q => n_X8_ready_L94 q) e34)) ?_
            obtain rfl := j_inj hf
            exact j_le_refl _
          ·
            obtain ⟨u39, e40, hf⟩ := j_bind hf
            obtain ⟨q35, e36, hf⟩ := j_bind hf
            refine j_le_trans (n_X8_makeTwelve e36) ?_
            obtain ⟨q37, e38, hf⟩ := j_bind hf
            refine j_le_trans ((jloop_le (fun _ _ _ _ q => n_X8_ready_L94 q) e38)) ?_
            obtain rfl := j_inj hf
            exact j_le_refl _
        ·
          obtain ⟨u51, e52, hf⟩ := j_bind hf
          obtain ⟨q41, e42, hf⟩ := j_bind hf
          refine j_le_trans (n_X8_makeAlone e42) ?_
          rcases j_ite hf with hf | hf
          ·
            obtain ⟨q43, e44, hf⟩ := j_bind hf
            refine j_le_trans ((jloop_le (fun _ _ _ _ q => n_X8_ready_L94 q) e44)) ?_
            obtain rfl := j_inj hf
            exact j_le_refl _
          ·
            obtain ⟨u49, e50, hf⟩ := j_bind hf
            obtain ⟨q45, e46, hf⟩ := j_bind hf
            refine j_le_trans (n_X8_makeTwelve e46) ?_
            obtain ⟨q47, e48, hf⟩ := j_bind hf
            refine j_le_trans ((jloop_le (fun _ _ _ _ q => n_X8_ready_L94 q) e48)) ?_
            obtain rfl := j_inj hf
            exact j_le_refl _
    ·
      obtain rfl := j_inj hf
      exact j_le_refl _
  ·
    obtain ⟨u117, e118, hf⟩ := j_bind hf
    obtain ⟨q75, e76, hf⟩ := j_bind hf
    refine j_le_trans (j_le_of ((q_X7_isReady e76))) ?_
    rcases j_ite hf with hf | hf
    ·
      rcases j_ite hf with hf | hf
      ·
        rcases j_ite hf with hf | hf
        ·
          rcases j_ite hf with hf | hf
          ·
            obtain ⟨q97, e98, hf⟩ := j_bind hf
            refine j_le_trans ((jloop_le (fun _ _ _ _ q => n_X8_ready_L94 q) e98)) ?_
            obtain rfl := j_inj hf
            exact j_le_refl _
          ·
            obtain ⟨u103, e104, hf⟩ := j_bind hf
            obtain ⟨q99, e100, hf⟩ := j_bind hf
            refine j_le_trans (n_X8_makeTwelve e100) ?_
            obtain ⟨q101, e102, hf⟩ := j_bind hf
            refine j_le_trans ((jloop_le (fun _ _ _ _ q => n_X8_ready_L94 q) e102)) ?_
            obtain rfl := j_inj hf
            exact j_le_refl _
        ·
          obtain ⟨u115, e116, hf⟩ := j_bind hf
          obtain ⟨q105, e106, hf⟩ := j_bind hf
          refine j_le_trans (n_X8_makeAlone e106) ?_
          rcases j_ite hf with hf | hf
          ·
            obtain ⟨q107, e108, hf⟩ := j_bind hf
            refine j_le_trans ((jloop_le (fun _ _ _ _ q => n_X8_ready_L94 q) e108)) ?_
            obtain rfl := j_inj hf
            exact j_le_refl _
          ·
            obtain ⟨u113, e114, hf⟩ := j_bind hf
            obtain ⟨q109, e110, hf⟩ := j_bind hf
            refine j_le_trans (n_X8_makeTwelve e110) ?_
            obtain ⟨q111, e112, hf⟩ := j_bind hf
            refine j_le_trans ((jloop_le (fun _ _ _ _ q => n_X8_ready_L94 q) e112)) ?_
            obtain rfl := j_inj hf
            exact j_le_refl _
      ·
        rcases j_ite hf with hf | hf
        ·
          rcases j_ite hf with hf | hf
          ·
            obtain ⟨q77, e78, hf⟩ := j_bind hf
            refine j_le_trans ((jloop_le (fun _ _ _ _ q => n_X8_ready_L94 q) e78)) ?_
            obtain rfl := j_inj hf
            exact j_le_refl _
          ·
            obtain ⟨u83, e84, hf⟩ := j_bind hf
            obtain ⟨q79, e80, hf⟩ := j_bind hf
            refine j_le_trans (n_X8_makeTwelve e80) ?_
            obtain ⟨q81, e82, hf⟩ := j_bind hf
            refine j_le_trans ((jloop_le (fun _ _ _ _ q => n_X8_ready_L94 q) e82)) ?_
            obtain rfl := j_inj hf
            exact j_le_refl _
        ·
          obtain ⟨u95, e96, hf⟩ := j_bind hf
          obtain ⟨q85, e86, hf⟩ := j_bind hf
          refine j_le_trans (n_X8_makeAlone e86) ?_
          rcases j_ite hf with hf | hf
          ·
            obtain ⟨q87, e88, hf⟩ := j_bind hf
            refine j_le_trans ((jloop_le (fun _ _ _ _ q => n_X8_ready_L94 q) e88)) ?_
            obtain rfl := j_inj hf
            exact j_le_refl _
          ·
            obtain ⟨u93, e94, hf⟩ := j_bind hf
            obtain ⟨q89, e90, hf⟩ := j_bind hf
            refine j_le_trans (n_X8_makeTwelve e90) ?_
            obtain ⟨q91, e92, hf⟩ := j_bind hf
            refine j_le_trans ((jloop_le (fun _ _ _ _ q => n_X8_ready_L94 q) e92)) ?_
            obtain rfl := j_inj hf
            exact j_le_refl _
    ·
      obtain rfl := j_inj hf
      exact j_le_refl _
theorem q_X11_isWeight {a0 : Int32} {h : JH} {q : Int32 × JH} (hf : f_X11_isWeight a0 h = some q) : q.2.2.1 = h.2.1 := by
  unfold f_X11_isWeight at hf
  rcases j_ite hf with hf | hf
  ·
    obtain rfl := j_inj hf
    rfl
  ·
    rcases j_ite hf with hf | hf
    ·
      obtain rfl := j_inj hf
      rfl
    ·
      rcases j_ite hf with hf | hf
      ·
        obtain rfl := j_inj hf
        rfl
      ·
        obtain rfl := j_inj hf
        rfl
theorem q_X10_isAsked {a0 : Int32} {a1 : Int32} {h : JH} {q : Int32 × JH} (hf : f_X10_isAsked a0 a1 h = some q) : q.2.2.1 = h.2.1 := by
  unfold f_X10_isAsked at hf
  obtain ⟨q1, e2, hf⟩ := j_bind hf
  refine Eq.trans ?_ ((q_X11_isWeight e2))
  rcases j_ite hf with hf | hf
  ·
    obtain rfl := j_inj hf
    rfl
  ·
    rcases j_ite hf with hf | hf
    ·
      obtain rfl := j_inj hf
      rfl
    ·
      rcases j_ite hf with hf | hf
      ·
        obtain rfl := j_inj hf
        rfl
      ·
        rcases j_ite hf with hf | hf
        ·
          obtain rfl := j_inj hf
          rfl
        ·
          obtain rfl := j_inj hf
          rfl
theorem q_X10_add {a0 : Int64} {a2 : Int64} {h : JH} {q : Int64 × JH} (hf : f_X10_add a0 a2 h = some q) : q.2.2.1 = h.2.1 := by
  unfold f_X10_add at hf
  rcases j_ite hf with hf | hf
  ·
    obtain rfl := j_inj hf
    rfl
  ·
    rcases j_ite hf with hf | hf
    ·
      obtain rfl := j_inj hf
      rfl
    ·
      rcases j_ite hf with hf | hf
      ·
        obtain rfl := j_inj hf
        rfl
      ·
        rcases j_ite hf with hf | hf
        ·
          obtain rfl := j_inj hf
          rfl
        ·
          obtain rfl := j_inj hf
          rfl
theorem q_X10_multiply {a0 : Int64} {a2 : Int64} {h : JH} {q : Int64 × JH} (hf : f_X10_multiply a0 a2 h = some q) : q.2.2.1 = h.2.1 := by
  unfold f_X10_multiply at hf
  rcases j_ite hf with hf | hf
  ·
    obtain rfl := j_inj hf
    rfl
  ·
    rcases j_ite hf with hf | hf
    ·
      obtain rfl := j_inj hf
      rfl
    ·
      rcases j_ite hf with hf | hf
      ·
        obtain rfl := j_inj hf
        rfl
      ·
        obtain ⟨u1, e2, hf⟩ := j_bind hf
        rcases j_ite hf with hf | hf
        ·
          obtain rfl := j_inj hf
          rfl
        ·
          obtain rfl := j_inj hf
          rfl
theorem q_X10_exactPower_L5 {a0 : Int32} {a1 : Int32} {z : (Int64 × Int32)} {h : JH} {r : (Int64 × Int32) ⊕ (Int64 × Int32)} {h1 : JH} (hf : f_X10_exactPower_L5 a0 a1 z h = some (r, h1)) : h1.2.1 = h.2.1 := by
  unfold f_X10_exactPower_L5 at hf
  rcases j_ite hf with hf | hf
  ·
    obtain ⟨rfl, rfl⟩ := j_inj2 hf
    rfl
  ·
    obtain ⟨q1, e2, hf⟩ := j_bind hf
    refine Eq.trans ?_ ((q_X10_multiply e2))
    obtain ⟨rfl, rfl⟩ := j_inj2 hf
    rfl
theorem q_X10_exactPower {a0 : Int32} {a1 : Int32} {h : JH} {q : Int64 × JH} (hf : f_X10_exactPower a0 a1 h = some q) : q.2.2.1 = h.2.1 := by
  unfold f_X10_exactPower at hf
  obtain ⟨q4, e5, hf⟩ := j_bind hf
  refine Eq.trans ?_ ((jloop_eq (fun _ _ _ _ q => q_X10_exactPower_L5 q) e5))
  obtain rfl := j_inj hf
  rfl
theorem q_X10_exactQ_L9 {a0 : Int32} {a1 : Int32} {a2 : Int32} {z : (Int64 × Int64 × Int32)} {h : JH} {r : (Int64 × Int64 × Int32) ⊕ (Int64 × Int64 × Int32)} {h1 : JH} (hf : f_X10_exactQ_L9 a0 a1 a2 z h = some (r, h1)) : h1.2.1 = h.2.1 := by
  unfold f_X10_exactQ_L9 at hf
  rcases j_ite hf with hf | hf
  ·
    obtain ⟨rfl, rfl⟩ := j_inj2 hf
    rfl
  ·
    obtain ⟨q1, e2, hf⟩ := j_bind hf
    refine Eq.trans ?_ ((q_X10_multiply e2))
    obtain ⟨q3, e4, hf⟩ := j_bind hf
    refine Eq.trans ?_ ((q_X10_multiply e4))
    obtain ⟨q5, e6, hf⟩ := j_bind hf
    refine Eq.trans ?_ ((q_X10_add e6))
    obtain ⟨rfl, rfl⟩ := j_inj2 hf
    rfl
theorem q_X10_exactQ {a0 : Int32} {a1 : Int32} {a2 : Int32} {h : JH} {q : Int64 × JH} (hf : f_X10_exactQ a0 a1 a2 h = some q) : q.2.2.1 = h.2.1 := by
  unfold f_X10_exactQ at hf
  obtain ⟨q8, e9, hf⟩ := j_bind hf
  refine Eq.trans ?_ ((jloop_eq (fun _ _ _ _ q => q_X10_exactQ_L9 q) e9))
  obtain rfl := j_inj hf
  rfl
theorem q_X10_reachOf_L4 {a0 : Int32} {z : (Int32 × Int32)} {h : JH} {r : (Int32 × Int32) ⊕ (Int32 × Int32)} {h1 : JH} (hf : f_X10_reachOf_L4 a0 z h = some (r, h1)) : h1.2.1 = h.2.1 := by
  unfold f_X10_reachOf_L4 at hf
  rcases j_ite hf with hf | hf
  ·
    obtain ⟨rfl, rfl⟩ := j_inj2 hf
    rfl
  ·
    obtain ⟨rfl, rfl⟩ := j_inj2 hf
    rfl
theorem q_X10_reachOf {a0 : Int32} {h : JH} {q : Int32 × JH} (hf : f_X10_reachOf a0 h = some q) : q.2.2.1 = h.2.1 := by
  unfold f_X10_reachOf at hf
  obtain ⟨q2, e3, hf⟩ := j_bind hf
  refine Eq.trans ?_ ((jloop_eq (fun _ _ _ _ q => q_X10_reachOf_L4 q) e3))
  obtain rfl := j_inj hf
  rfl
theorem q_X10_exact_L13 {a0 : Int32} {a1 : Int32} {a4 : Int32} {z : (Int64 × Int32)} {h : JH} {r : (Int64 × Int32) ⊕ (Int64 × Int32)} {h1 : JH} (hf : f_X10_exact_L13 a0 a1 a4 z h = some (r, h1)) : h1.2.1 = h.2.1 := by
  unfold f_X10_exact_L13 at hf
  rcases j_ite hf with hf | hf
  ·
    obtain ⟨rfl, rfl⟩ := j_inj2 hf
    rfl
  ·
    obtain ⟨q3, e4, hf⟩ := j_bind hf
    refine Eq.trans ?_ ((q_X1_inTwelfths e4))
    obtain ⟨q5, e6, hf⟩ := j_bind hf
    refine Eq.trans ?_ ((q_X10_exactQ e6))
    obtain ⟨q7, e8, hf⟩ := j_bind hf
    refine Eq.trans ?_ ((q_X10_multiply e8))
    obtain ⟨q9, e10, hf⟩ := j_bind hf
    refine Eq.trans ?_ ((q_X10_add e10))
    obtain ⟨rfl, rfl⟩ := j_inj2 hf
    rfl
theorem q_X10_exact_L61 {a0 : Int32} {a1 : Int32} {z : (Int64 × Int32)} {h : JH} {r : (Int64 × Int32) ⊕ (Int64 × Int32)} {h1 : JH} (hf : f_X10_exact_L61 a0 a1 z h = some (r, h1)) : h1.2.1 = h.2.1 := by
  unfold f_X10_exact_L61 at hf
  rcases j_ite hf with hf | hf
  ·
    obtain ⟨rfl, rfl⟩ := j_inj2 hf
    rfl
  ·
    obtain ⟨u14, e15, hf⟩ := j_bind hf
    rcases j_ite hf with hf | hf
    ·
      obtain ⟨u16, e17, hf⟩ := j_bind hf
      obtain ⟨q18, e19, hf⟩ := j_bind hf
      refine Eq.trans ?_ ((q_X10_exactPower e19))
      obtain ⟨q20, e21, hf⟩ := j_bind hf
      refine Eq.trans ?_ ((q_X10_multiply e21))
      obtain ⟨q22, e23, hf⟩ := j_bind hf
      refine Eq.trans ?_ ((q_X10_add e23))
      obtain ⟨rfl, rfl⟩ := j_inj2 hf
      rfl
    ·
      obtain ⟨rfl, rfl⟩ := j_inj2 hf
      rfl
theorem q_X10_exact {a0 : Int32} {a1 : Int32} {h : JH} {q : Int64 × JH} (hf : f_X10_exact a0 a1 h = some q) : q.2.2.1 = h.2.1 := by
  unfold f_X10_exact at hf
  obtain ⟨q1, e2, hf⟩ := j_bind hf
  refine Eq.trans ?_ ((q_X10_reachOf e2))
  obtain ⟨q12, e13, hf⟩ := j_bind hf
  refine Eq.trans ?_ ((jloop_eq (fun _ _ _ _ q => q_X10_exact_L13 q) e13))
  obtain ⟨q26, e27, hf⟩ := j_bind hf
  refine Eq.trans ?_ ((jloop_eq (fun _ _ _ _ q => q_X10_exact_L61 q) e27))
  rcases j_ite hf with hf | hf
  ·
    obtain rfl := j_inj hf
    rfl
  ·
    obtain rfl := j_inj hf
    rfl
theorem q_X10_leftQ_L14 {a0 : Int32} {a1 : Int32} {a2 : Int32} {a3 : Int32} {z : (Int32 × Int32 × Int32)} {h : JH} {r : (Int32 × Int32 × Int32) ⊕ (Int32 × Int32 × Int32)} {h1 : JH} (hf : f_X10_leftQ_L14 a0 a1 a2 a3 z h = some (r, h1)) : h1.2.1 = h.2.1 := by
  unfold f_X10_leftQ_L14 at hf
  rcases j_ite hf with hf | hf
  ·
    obtain ⟨rfl, rfl⟩ := j_inj2 hf
    rfl
  ·
    obtain ⟨q3, e4, hf⟩ := j_bind hf
    refine Eq.trans ?_ ((q_X4_of e4))
    obtain ⟨rfl, rfl⟩ := j_inj2 hf
    rfl
theorem q_X10_leftQ {a0 : Int32} {a1 : Int32} {a2 : Int32} {a3 : Int32} {h : JH} {q : Int32 × JH} (hf : f_X10_leftQ a0 a1 a2 a3 h = some q) : q.2.2.1 = h.2.1 := by
  unfold f_X10_leftQ at hf
  obtain ⟨q1, e2, hf⟩ := j_bind hf
  refine Eq.trans ?_ ((q_X4_of e2))
  obtain ⟨q6, e7, hf⟩ := j_bind hf
  refine Eq.trans ?_ ((jloop_eq (fun _ _ _ _ q => q_X10_leftQ_L14 q) e7))
  obtain rfl := j_inj hf
  rfl
theorem q_X10_left_L13 {a0 : Int32} {a1 : Int32} {a2 : Int32} {a5 : Int32} {z : (Int64 × Int32)} {h : JH} {r : (Int64 × Int32) ⊕ (Int64 × Int32)} {h1 : JH} (hf : f_X10_left_L13 a0 a1 a2 a5 z h = some (r, h1)) : h1.2.1 = h.2.1 := by
  unfold f_X10_left_L13 at hf
  rcases j_ite hf with hf | hf
  ·
    obtain ⟨rfl, rfl⟩ := j_inj2 hf
    rfl
  ·
    obtain ⟨q3, e4, hf⟩ := j_bind hf
    refine Eq.trans ?_ ((q_X10_leftQ e4))
    obtain ⟨q5, e6, hf⟩ := j_bind hf
    refine Eq.trans ?_ ((q_X1_inTwelfths e6))
    obtain ⟨rfl, rfl⟩ := j_inj2 hf
    rfl
theorem q_X10_left_L55 {a0 : Int32} {a1 : Int32} {a2 : Int32} {z : (Int64 × Int32)} {h : JH} {r : (Int64 × Int32) ⊕ (Int64 × Int32)} {h1 : JH} (hf : f_X10_left_L55 a0 a1 a2 z h = some (r, h1)) : h1.2.1 = h.2.1 := by
  unfold f_X10_left_L55 at hf
  rcases j_ite hf with hf | hf
  ·
    obtain ⟨rfl, rfl⟩ := j_inj2 hf
    rfl
  ·
    obtain ⟨u10, e11, hf⟩ := j_bind hf
    rcases j_ite hf with hf | hf
    ·
      obtain ⟨u12, e13, hf⟩ := j_bind hf
      obtain ⟨q14, e15, hf⟩ := j_bind hf
      refine Eq.trans ?_ ((q_X4_power e15))
      obtain ⟨rfl, rfl⟩ := j_inj2 hf
      rfl
    ·
      obtain ⟨rfl, rfl⟩ := j_inj2 hf
      rfl
theorem q_X10_left {a0 : Int32} {a1 : Int32} {a2 : Int32} {h : JH} {q : Int32 × JH} (hf : f_X10_left a0 a1 a2 h = some q) : q.2.2.1 = h.2.1 := by
  unfold f_X10_left at hf
  obtain ⟨q1, e2, hf⟩ := j_bind hf
  refine Eq.trans ?_ ((q_X10_reachOf e2))
  obtain ⟨q8, e9, hf⟩ := j_bind hf
  refine Eq.trans ?_ ((jloop_eq (fun _ _ _ _ q => q_X10_left_L13 q) e9))
  obtain ⟨q18, e19, hf⟩ := j_bind hf
  refine Eq.trans ?_ ((jloop_eq (fun _ _ _ _ q => q_X10_left_L55 q) e19))
  obtain ⟨q20, e21, hf⟩ := j_bind hf
  refine Eq.trans ?_ ((q_X4_of e21))
  obtain ⟨q22, e23, hf⟩ := j_bind hf
  refine Eq.trans ?_ ((q_X4_divide e23))
  obtain rfl := j_inj hf
  rfl
theorem q_X10_shareOf_L19 {a0 : Int64} {a2 : Int32} {a3 : Int32} {a4 : Int32} {z : (UInt32 × Int32)} {h : JH} {r : (UInt32 × Int32) ⊕ (UInt32 × Int32)} {h1 : JH} (hf : f_X10_shareOf_L19 a0 a2 a3 a4 z h = some (r, h1)) : h1.2.1 = h.2.1 := by
  unfold f_X10_shareOf_L19 at hf
  rcases j_ite hf with hf | hf
  ·
    obtain ⟨rfl, rfl⟩ := j_inj2 hf
    rfl
  ·
    obtain ⟨u3, e4, hf⟩ := j_bind hf
    obtain ⟨rfl, rfl⟩ := j_inj2 hf
    rfl
theorem q_X10_shareOf_L49 {a0 : Int64} {a3 : Int32} {a4 : Int32} {a5 : UInt32} {z : (UInt32 × Int32)} {h : JH} {r : (UInt32 × Int32) ⊕ (UInt32 × Int32)} {h1 : JH} (hf : f_X10_shareOf_L49 a0 a3 a4 a5 z h = some (r, h1)) : h1.2.1 = h.2.1 := by
  unfold f_X10_shareOf_L49 at hf
  rcases j_ite hf with hf | hf
  ·
    obtain ⟨rfl, rfl⟩ := j_inj2 hf
    rfl
  ·
    obtain ⟨u8, e9, hf⟩ := j_bind hf
    obtain ⟨u10, e11, hf⟩ := j_bind hf
    obtain ⟨u12, e13, hf⟩ := j_bind hf
    obtain ⟨rfl, rfl⟩ := j_inj2 hf
    rfl
theorem q_X10_shareOf {a0 : Int64} {a2 : Int32} {a3 : Int32} {h : JH} {q : UInt32 × JH} (hf : f_X10_shareOf a0 a2 a3 h = some q) : q.2.2.1 = h.2.1 := by
  unfold f_X10_shareOf at hf
  obtain ⟨q1, e2, hf⟩ := j_bind hf
  refine Eq.trans ?_ ((q_X11_cuspsOf e2))
  rcases j_ite hf with hf | hf
  ·
    obtain rfl := j_inj hf
    rfl
  ·
    obtain ⟨q6, e7, hf⟩ := j_bind hf
    refine Eq.trans ?_ ((jloop_eq (fun _ _ _ _ q => q_X10_shareOf_L19 q) e7))
    obtain ⟨q15, e16, hf⟩ := j_bind hf
    refine Eq.trans ?_ ((jloop_eq (fun _ _ _ _ q => q_X10_shareOf_L49 q) e16))
    obtain ⟨u17, e18, hf⟩ := j_bind hf
    obtain ⟨u19, e20, hf⟩ := j_bind hf
    obtain ⟨u21, e22, hf⟩ := j_bind hf
    obtain ⟨u23, e24, hf⟩ := j_bind hf
    obtain rfl := j_inj hf
    rfl
theorem q_X10_bitsOf_L27 {a0 : UInt32} {z : (UInt32 × Int32 × Int32)} {h : JH} {r : (UInt32 × Int32 × Int32) ⊕ (UInt32 × Int32 × Int32)} {h1 : JH} (hf : f_X10_bitsOf_L27 a0 z h = some (r, h1)) : h1.2.1 = h.2.1 := by
  unfold f_X10_bitsOf_L27 at hf
  rcases j_ite hf with hf | hf
  ·
    obtain ⟨rfl, rfl⟩ := j_inj2 hf
    rfl
  ·
    rcases j_ite hf with hf | hf
    ·
      obtain ⟨rfl, rfl⟩ := j_inj2 hf
      rfl
    ·
      obtain ⟨u1, e2, hf⟩ := j_bind hf
      obtain ⟨rfl, rfl⟩ := j_inj2 hf
      rfl
theorem q_X10_bitsOf {a0 : UInt32} {h : JH} {q : Int32 × JH} (hf : f_X10_bitsOf a0 h = some q) : q.2.2.1 = h.2.1 := by
  unfold f_X10_bitsOf at hf
  rcases j_ite hf with hf | hf
  ·
    obtain rfl := j_inj hf
    rfl
  ·
    rcases j_ite hf with hf | hf
    ·
      obtain ⟨q5, e6, hf⟩ := j_bind hf
      refine Eq.trans ?_ ((jloop_eq (fun _ _ _ _ q => q_X10_bitsOf_L27 q) e6))
      rcases j_ite hf with hf | hf
      ·
        obtain rfl := j_inj hf
        rfl
      ·
        obtain rfl := j_inj hf
        rfl
    ·
      obtain ⟨q7, e8, hf⟩ := j_bind hf
      refine Eq.trans ?_ ((jloop_eq (fun _ _ _ _ q => q_X10_bitsOf_L27 q) e8))
      rcases j_ite hf with hf | hf
      ·
        obtain rfl := j_inj hf
        rfl
      ·
        obtain rfl := j_inj hf
        rfl
theorem q_X11_forget_L2 {a0 : Nat} {z : Int32} {h : JH} {r : Int32 ⊕ Int32} {h1 : JH} (hf : f_X11_forget_L2 a0 z h = some (r, h1)) : h1.2.1 = h.2.1 := by
  unfold f_X11_forget_L2 at hf
  rcases j_ite hf with hf | hf
  ·
    obtain ⟨rfl, rfl⟩ := j_inj2 hf
    rfl
  ·
    obtain ⟨v1, e2, hf⟩ := j_bind hf
    obtain ⟨v3, e4, hf⟩ := j_bind hf
    obtain ⟨u7, e8, hf⟩ := j_bind hf
    obtain ⟨q5, e6, hf⟩ := j_bind hf
    refine Eq.trans ?_ ((q_X2_setNumber e6))
    obtain ⟨rfl, rfl⟩ := j_inj2 hf
    rfl
theorem q_X11_forget_L25 {a0 : Nat} {z : Int32} {h : JH} {r : Int32 ⊕ Int32} {h1 : JH} (hf : f_X11_forget_L25 a0 z h = some (r, h1)) : h1.2.1 = h.2.1 := by
  unfold f_X11_forget_L25 at hf
  rcases j_ite hf with hf | hf
  ·
    obtain ⟨rfl, rfl⟩ := j_inj2 hf
    rfl
  ·
    obtain ⟨v12, e13, hf⟩ := j_bind hf
    obtain ⟨v14, e15, hf⟩ := j_bind hf
    obtain ⟨u18, e19, hf⟩ := j_bind hf
    obtain ⟨q16, e17, hf⟩ := j_bind hf
    refine Eq.trans ?_ ((q_X6_empty e17))
    obtain ⟨rfl, rfl⟩ := j_inj2 hf
    rfl
theorem q_X11_forget_L47 {a0 : Nat} {z : Int32} {h : JH} {r : Int32 ⊕ Int32} {h1 : JH} (hf : f_X11_forget_L47 a0 z h = some (r, h1)) : h1.2.1 = h.2.1 := by
  unfold f_X11_forget_L47 at hf
  rcases j_ite hf with hf | hf
  ·
    obtain ⟨rfl, rfl⟩ := j_inj2 hf
    rfl
  ·
    obtain ⟨v23, e24, hf⟩ := j_bind hf
    obtain ⟨v25, e26, hf⟩ := j_bind hf
    obtain ⟨h27, e28, hf⟩ := j_bind hf
    refine Eq.trans ?_ (jput_n e28)
    obtain ⟨rfl, rfl⟩ := j_inj2 hf
    rfl
theorem q_X11_forget {a0 : Nat} {h : JH} {q : Unit × JH} (hf : f_X11_forget a0 h = some q) : q.2.2.1 = h.2.1 := by
  unfold f_X11_forget at hf
  obtain ⟨q10, e11, hf⟩ := j_bind hf
  refine Eq.trans ?_ ((jloop_eq (fun _ _ _ _ q => q_X11_forget_L2 q) e11))
  obtain ⟨q21, e22, hf⟩ := j_bind hf
  refine Eq.trans ?_ ((jloop_eq (fun _ _ _ _ q => q_X11_forget_L25 q) e22))
  obtain ⟨q30, e31, hf⟩ := j_bind hf
  refine Eq.trans ?_ ((jloop_eq (fun _ _ _ _ q => q_X11_forget_L47 q) e31))
  obtain rfl := j_inj hf
  rfl
theorem n_X11_init_L106 {a0 : Nat} {z : Int32} {h : JH} {r : Int32 ⊕ Int32} {h1 : JH} (hf : f_X11_init_L106 a0 z h = some (r, h1)) : j_le h h1 := by
  unfold f_X11_init_L106 at hf
  rcases j_ite hf with hf | hf
  ·
    obtain ⟨rfl, rfl⟩ := j_inj2 hf
    exact j_le_refl _
  ·
    obtain ⟨v51, e52, hf⟩ := j_bind hf
    obtain ⟨q53, e54, hf⟩ := j_bind hf
    refine j_le_trans (jnO_le e54) ?_
    obtain ⟨q55, e56, hf⟩ := j_bind hf
    refine j_le_trans (n_X3_init e56) ?_
    obtain ⟨h57, e58, hf⟩ := j_bind hf
    refine j_le_trans (j_le_of (jsR_n e58)) ?_
    obtain ⟨rfl, rfl⟩ := j_inj2 hf
    exact j_le_refl _
theorem n_X11_init {a0 : Nat} {h : JH} {q : Unit × JH} (hf : f_X11_init a0 h = some q) : j_le h q.2 := by
  unfold f_X11_init at hf
  obtain ⟨q1, e2, hf⟩ := j_bind hf
  refine j_le_trans (jnA_le e2) ?_
  obtain ⟨h3, e4, hf⟩ := j_bind hf
  refine j_le_trans (j_le_of (jput_n e4)) ?_
  obtain ⟨h5, e6, hf⟩ := j_bind hf
  refine j_le_trans (j_le_of (jput_n e6)) ?_
  obtain ⟨q7, e8, hf⟩ := j_bind hf
  refine j_le_trans (n_X11_newForms e8) ?_
  obtain ⟨h9, e10, hf⟩ := j_bind hf
  refine j_le_trans (j_le_of (jput_n e10)) ?_
  obtain ⟨q11, e12, hf⟩ := j_bind hf
  refine j_le_trans (n_X11_newForms e12) ?_
  obtain ⟨h13, e14, hf⟩ := j_bind hf
  refine j_le_trans (j_le_of (jput_n e14)) ?_
  obtain ⟨q15, e16, hf⟩ := j_bind hf
  refine j_le_trans (n_X11_newShelves e16) ?_
  obtain ⟨h17, e18, hf⟩ := j_bind hf
  refine j_le_trans (j_le_of (jput_n e18)) ?_
  obtain ⟨q19, e20, hf⟩ := j_bind hf
  refine j_le_trans (jnA_le e20) ?_
  obtain ⟨h21, e22, hf⟩ := j_bind hf
  refine j_le_trans (j_le_of (jput_n e22)) ?_
  obtain ⟨q23, e24, hf⟩ := j_bind hf
  refine j_le_trans (jnO_le e24) ?_
  obtain ⟨q25, e26, hf⟩ := j_bind hf
  refine j_le_trans (n_X8_init e26) ?_
  obtain ⟨h27, e28, hf⟩ := j_bind hf
  refine j_le_trans (j_le_of (jput_n e28)) ?_
  obtain ⟨q29, e30, hf⟩ := j_bind hf
  refine j_le_trans (jnO_le e30) ?_
  obtain ⟨q31, e32, hf⟩ := j_bind hf
  refine j_le_trans (n_X5_init e32) ?_
  obtain ⟨h33, e34, hf⟩ := j_bind hf
  refine j_le_trans (j_le_of (jput_n e34)) ?_
  obtain ⟨q35, e36, hf⟩ := j_bind hf
  refine j_le_trans (jnO_le e36) ?_
  obtain ⟨q37, e38, hf⟩ := j_bind hf
  refine j_le_trans (n_X0_init e38) ?_
  obtain ⟨h39, e40, hf⟩ := j_bind hf
  refine j_le_trans (j_le_of (jput_n e40)) ?_
  obtain ⟨q41, e42, hf⟩ := j_bind hf
  refine j_le_trans (jnO_le e42) ?_
  obtain ⟨q43, e44, hf⟩ := j_bind hf
  refine j_le_trans (n_X2_init e44) ?_
  obtain ⟨h45, e46, hf⟩ := j_bind hf
  refine j_le_trans (j_le_of (jput_n e46)) ?_
  obtain ⟨q47, e48, hf⟩ := j_bind hf
  refine j_le_trans (jnA_le e48) ?_
  obtain ⟨h49, e50, hf⟩ := j_bind hf
  refine j_le_trans (j_le_of (jput_n e50)) ?_
  obtain ⟨q60, e61, hf⟩ := j_bind hf
  refine j_le_trans ((jloop_le (fun _ _ _ _ q => n_X11_init_L106 q) e61)) ?_
  obtain ⟨v62, e63, hf⟩ := j_bind hf
  obtain ⟨v64, e65, hf⟩ := j_bind hf
  obtain ⟨h66, e67, hf⟩ := j_bind hf
  refine j_le_trans (j_le_of (jput_n e67)) ?_
  obtain ⟨u70, e71, hf⟩ := j_bind hf
  obtain ⟨q68, e69, hf⟩ := j_bind hf
  refine j_le_trans (j_le_of ((q_X11_forget e69))) ?_
  obtain rfl := j_inj hf
  exact j_le_refl _
theorem q_X11_feedFour_L3 {a0 : Nat} {a1 : Int32} {z : Int32} {h : JH} {r : Int32 ⊕ Int32} {h1 : JH} (hf : f_X11_feedFour_L3 a0 a1 z h = some (r, h1)) : h1.2.1 = h.2.1 := by
  unfold f_X11_feedFour_L3 at hf
  rcases j_ite hf with hf | hf
  ·
    obtain ⟨rfl, rfl⟩ := j_inj2 hf
    rfl
  ·
    obtain ⟨v1, e2, hf⟩ := j_bind hf
    rcases j_ite hf with hf | hf
    ·
      obtain ⟨rfl, rfl⟩ := j_inj2 hf
      rfl
    ·
      obtain ⟨v3, e4, hf⟩ := j_bind hf
      obtain ⟨v5, e6, hf⟩ := j_bind hf
      obtain ⟨h7, e8, hf⟩ := j_bind hf
      refine Eq.trans ?_ (jsB_n e8)
      obtain ⟨v9, e10, hf⟩ := j_bind hf
      obtain ⟨h11, e12, hf⟩ := j_bind hf
      refine Eq.trans ?_ (jput_n e12)
      obtain ⟨rfl, rfl⟩ := j_inj2 hf
      rfl
theorem q_X11_feedFour {a0 : Nat} {a1 : Int32} {h : JH} {q : Unit × JH} (hf : f_X11_feedFour a0 a1 h = some q) : q.2.2.1 = h.2.1 := by
  unfold f_X11_feedFour at hf
  obtain ⟨q15, e16, hf⟩ := j_bind hf
  refine Eq.trans ?_ ((jloop_eq (fun _ _ _ _ q => q_X11_feedFour_L3 q) e16))
  obtain rfl := j_inj hf
  rfl
theorem q_X11_feed {a0 : Nat} {a1 : Int32} {a2 : Int32} {a3 : Int32} {a4 : Int32} {a5 : Int32} {h : JH} {q : Int32 × JH} (hf : f_X11_feed a0 a1 a2 a3 a4 a5 h = some q) : q.2.2.1 = h.2.1 := by
  unfold f_X11_feed at hf
  obtain ⟨v1, e2, hf⟩ := j_bind hf
  rcases j_ite hf with hf | hf
  ·
    obtain ⟨u23, e24, hf⟩ := j_bind hf
    obtain ⟨q3, e4, hf⟩ := j_bind hf
    refine Eq.trans ?_ ((q_X11_feedFour e4))
    obtain ⟨u21, e22, hf⟩ := j_bind hf
    obtain ⟨q5, e6, hf⟩ := j_bind hf
    refine Eq.trans ?_ ((q_X11_feedFour e6))
    obtain ⟨u19, e20, hf⟩ := j_bind hf
    obtain ⟨q7, e8, hf⟩ := j_bind hf
    refine Eq.trans ?_ ((q_X11_feedFour e8))
    obtain ⟨u17, e18, hf⟩ := j_bind hf
    obtain ⟨q9, e10, hf⟩ := j_bind hf
    refine Eq.trans ?_ ((q_X11_feedFour e10))
    obtain ⟨u15, e16, hf⟩ := j_bind hf
    obtain ⟨q11, e12, hf⟩ := j_bind hf
    refine Eq.trans ?_ ((q_X11_feedFour e12))
    obtain ⟨v13, e14, hf⟩ := j_bind hf
    obtain rfl := j_inj hf
    rfl
  ·
    obtain rfl := j_inj hf
    rfl
theorem q_X11_book_L86 {a0 : Nat} {z : Int32} {h : JH} {r : Int32 ⊕ Int32} {h1 : JH} (hf : f_X11_book_L86 a0 z h = some (r, h1)) : h1.2.1 = h.2.1 := by
  unfold f_X11_book_L86 at hf
  obtain ⟨v35, e36, hf⟩ := j_bind hf
  rcases j_ite hf with hf | hf
  ·
    obtain ⟨rfl, rfl⟩ := j_inj2 hf
    rfl
  ·
    obtain ⟨v37, e38, hf⟩ := j_bind hf
    obtain ⟨v39, e40, hf⟩ := j_bind hf
    obtain ⟨v41, e42, hf⟩ := j_bind hf
    obtain ⟨v43, e44, hf⟩ := j_bind hf
    obtain ⟨v45, e46, hf⟩ := j_bind hf
    obtain ⟨u49, e50, hf⟩ := j_bind hf
    obtain ⟨q47, e48, hf⟩ := j_bind hf
    refine Eq.trans ?_ ((q_X2_copyFrom e48))
    obtain ⟨rfl, rfl⟩ := j_inj2 hf
    rfl
theorem q_X11_book {a0 : Nat} {a1 : Int32} {h : JH} {q : Int32 × JH} (hf : f_X11_book a0 a1 h = some q) : q.2.2.1 = h.2.1 := by
  unfold f_X11_book at hf
  rcases j_ite hf with hf | hf
  ·
    obtain rfl := j_inj hf
    rfl
  ·
    obtain ⟨v1, e2, hf⟩ := j_bind hf
    rcases j_ite hf with hf | hf
    ·
      obtain ⟨h3, e4, hf⟩ := j_bind hf
      refine Eq.trans ?_ (jput_n e4)
      obtain ⟨v5, e6, hf⟩ := j_bind hf
      obtain ⟨v7, e8, hf⟩ := j_bind hf
      obtain ⟨u68, e69, hf⟩ := j_bind hf
      obtain ⟨q9, e10, hf⟩ := j_bind hf
      refine Eq.trans ?_ ((q_X0_open e10))
      obtain ⟨v11, e12, hf⟩ := j_bind hf
      obtain ⟨u66, e67, hf⟩ := j_bind hf
      obtain ⟨q13, e14, hf⟩ := j_bind hf
      refine Eq.trans ?_ ((q_X0_readPrime e14))
      rcases j_ite hf with hf | hf
      ·
        obtain ⟨v15, e16, hf⟩ := j_bind hf
        obtain ⟨v17, e18, hf⟩ := j_bind hf
        obtain rfl := j_inj hf
        rfl
      ·
        obtain ⟨v19, e20, hf⟩ := j_bind hf
        obtain ⟨u64, e65, hf⟩ := j_bind hf
        obtain ⟨q21, e22, hf⟩ := j_bind hf
        refine Eq.trans ?_ ((q_X0_readLets e22))
        rcases j_ite hf with hf | hf
        ·
          obtain ⟨v60, e61, hf⟩ := j_bind hf
          obtain ⟨v62, e63, hf⟩ := j_bind hf
          obtain rfl := j_inj hf
          rfl
        ·
          obtain ⟨v23, e24, hf⟩ := j_bind hf
          obtain ⟨v25, e26, hf⟩ := j_bind hf
          obtain ⟨h27, e28, hf⟩ := j_bind hf
          refine Eq.trans ?_ (jput_n e28)
          obtain ⟨v29, e30, hf⟩ := j_bind hf
          obtain ⟨v31, e32, hf⟩ := j_bind hf
          obtain ⟨h33, e34, hf⟩ := j_bind hf
          refine Eq.trans ?_ (jput_n e34)
          obtain ⟨q52, e53, hf⟩ := j_bind hf
          refine Eq.trans ?_ ((jloop_eq (fun _ _ _ _ q => q_X11_book_L86 q) e53))
          obtain ⟨u58, e59, hf⟩ := j_bind hf
          obtain ⟨q54, e55, hf⟩ := j_bind hf
          refine Eq.trans ?_ ((q_X11_forget e55))
          obtain ⟨v56, e57, hf⟩ := j_bind hf
          obtain rfl := j_inj hf
          rfl
    ·
      obtain rfl := j_inj hf
      rfl
theorem q_X11_laidImages_L4 {a0 : Nat} {z : (Int32 × Int32)} {h : JH} {r : (Int32 × Int32) ⊕ (Int32 × Int32)} {h1 : JH} (hf : f_X11_laidImages_L4 a0 z h = some (r, h1)) : h1.2.1 = h.2.1 := by
  unfold f_X11_laidImages_L4 at hf
  rcases j_ite hf with hf | hf
  ·
    obtain ⟨rfl, rfl⟩ := j_inj2 hf
    rfl
  ·
    obtain ⟨v1, e2, hf⟩ := j_bind hf
    obtain ⟨v3, e4, hf⟩ := j_bind hf
    obtain ⟨v5, e6, hf⟩ := j_bind hf
    rcases j_ite hf with hf | hf
    ·
      obtain ⟨rfl, rfl⟩ := j_inj2 hf
      rfl
    ·
      obtain ⟨rfl, rfl⟩ := j_inj2 hf
      rfl
theorem q_X11_laidImages {a0 : Nat} {h : JH} {q : Int32 × JH} (hf : f_X11_laidImages a0 h = some q) : q.2.2.1 = h.2.1 := by
  unfold f_X11_laidImages at hf
  obtain ⟨q9, e10, hf⟩ := j_bind hf
  refine Eq.trans ?_ ((jloop_eq (fun _ _ _ _ q => q_X11_laidImages_L4 q) e10))
  obtain rfl := j_inj hf
  rfl
theorem q_X11_count {a0 : Nat} {a1 : Int32} {h : JH} {q : Int32 × JH} (hf : f_X11_count a0 a1 h = some q) : q.2.2.1 = h.2.1 := by
  unfold f_X11_count at hf
  rcases j_ite hf with hf | hf
  ·
    obtain ⟨v1, e2, hf⟩ := j_bind hf
    obtain rfl := j_inj hf
    rfl
  rcases j_ite hf with hf | hf
  ·
    obtain ⟨v3, e4, hf⟩ := j_bind hf
    obtain rfl := j_inj hf
    rfl
  rcases j_ite hf with hf | hf
  ·
    obtain ⟨v5, e6, hf⟩ := j_bind hf
    obtain rfl := j_inj hf
    rfl
  rcases j_ite hf with hf | hf
  ·
    obtain ⟨u9, e10, hf⟩ := j_bind hf
    obtain ⟨q7, e8, hf⟩ := j_bind hf
    refine Eq.trans ?_ ((q_X11_laidImages e8))
    obtain rfl := j_inj hf
    rfl
  obtain rfl := j_inj hf
  rfl
theorem q_X11_isLet {a0 : Nat} {a1 : Int32} {h : JH} {q : Int32 × JH} (hf : f_X11_isLet a0 a1 h = some q) : q.2.2.1 = h.2.1 := by
  unfold f_X11_isLet at hf
  rcases j_ite hf with hf | hf
  ·
    obtain rfl := j_inj hf
    rfl
  ·
    obtain ⟨v1, e2, hf⟩ := j_bind hf
    rcases j_ite hf with hf | hf
    ·
      obtain rfl := j_inj hf
      rfl
    ·
      obtain rfl := j_inj hf
      rfl
theorem q_X11_let {a0 : Nat} {a1 : Int32} {a2 : Int32} {h : JH} {q : Int32 × JH} (hf : f_X11_let a0 a1 a2 h = some q) : q.2.2.1 = h.2.1 := by
  unfold f_X11_let at hf
  obtain ⟨u17, e18, hf⟩ := j_bind hf
  obtain ⟨q1, e2, hf⟩ := j_bind hf
  refine Eq.trans ?_ ((q_X11_isLet e2))
  rcases j_ite hf with hf | hf
  ·
    obtain rfl := j_inj hf
    rfl
  ·
    obtain ⟨v3, e4, hf⟩ := j_bind hf
    obtain ⟨v5, e6, hf⟩ := j_bind hf
    rcases j_ite hf with hf | hf
    ·
      obtain ⟨v7, e8, hf⟩ := j_bind hf
      obtain rfl := j_inj hf
      rfl
    rcases j_ite hf with hf | hf
    ·
      obtain ⟨v9, e10, hf⟩ := j_bind hf
      obtain ⟨q11, e12, hf⟩ := j_bind hf
      refine Eq.trans ?_ ((q_X11_lengthOf e12))
      obtain rfl := j_inj hf
      rfl
    rcases j_ite hf with hf | hf
    ·
      obtain ⟨v13, e14, hf⟩ := j_bind hf
      obtain ⟨v15, e16, hf⟩ := j_bind hf
      rcases j_ite hf with hf | hf
      ·
        obtain rfl := j_inj hf
        rfl
      ·
        obtain rfl := j_inj hf
        rfl
    obtain rfl := j_inj hf
    rfl
theorem n_X11_coefficientOf {a0 : Nat} {a1 : Nat} {a2 : Int32} {h : JH} {q : Int32 × JH} (hf : f_X11_coefficientOf a0 a1 a2 h = some q) : j_le h q.2 := by
  unfold f_X11_coefficientOf at hf
  rcases j_ite hf with hf | hf
  ·
    obtain ⟨v1, e2, hf⟩ := j_bind hf
    obtain ⟨v3, e4, hf⟩ := j_bind hf
    obtain ⟨v5, e6, hf⟩ := j_bind hf
    obtain ⟨u15, e16, hf⟩ := j_bind hf
    obtain ⟨q7, e8, hf⟩ := j_bind hf
    refine j_le_trans (n_X8_ready e8) ?_
    obtain ⟨v9, e10, hf⟩ := j_bind hf
    obtain ⟨u13, e14, hf⟩ := j_bind hf
    obtain ⟨q11, e12, hf⟩ := j_bind hf
    refine j_le_trans (j_le_of ((q_X7_expand e12))) ?_
    obtain rfl := j_inj hf
    exact j_le_refl _
  ·
    obtain ⟨v17, e18, hf⟩ := j_bind hf
    obtain ⟨v19, e20, hf⟩ := j_bind hf
    obtain rfl := j_inj hf
    exact j_le_refl _
theorem q_X11_isRegister {a0 : Int32} {h : JH} {q : Int32 × JH} (hf : f_X11_isRegister a0 h = some q) : q.2.2.1 = h.2.1 := by
  unfold f_X11_isRegister at hf
  rcases j_ite hf with hf | hf
  ·
    obtain rfl := j_inj hf
    rfl
  ·
    rcases j_ite hf with hf | hf
    ·
      obtain rfl := j_inj hf
      rfl
    ·
      obtain rfl := j_inj hf
      rfl
theorem n_X11_coefficient {a0 : Nat} {a1 : Int32} {a2 : Int32} {h : JH} {q : Int32 × JH} (hf : f_X11_coefficient a0 a1 a2 h = some q) : j_le h q.2 := by
  unfold f_X11_coefficient at hf
  obtain ⟨q1, e2, hf⟩ := j_bind hf
  refine j_le_trans (j_le_of ((q_X11_isRegister e2))) ?_
  rcases j_ite hf with hf | hf
  ·
    obtain rfl := j_inj hf
    exact j_le_refl _
  ·
    rcases j_ite hf with hf | hf
    ·
      obtain rfl := j_inj hf
      exact j_le_refl _
    ·
      rcases j_ite hf with hf | hf
      ·
        obtain ⟨v3, e4, hf⟩ := j_bind hf
        obtain ⟨v5, e6, hf⟩ := j_bind hf
        obtain ⟨u9, e10, hf⟩ := j_bind hf
        obtain ⟨q7, e8, hf⟩ := j_bind hf
        refine j_le_trans (n_X11_coefficientOf e8) ?_
        obtain rfl := j_inj hf
        exact j_le_refl _
      ·
        obtain rfl := j_inj hf
        exact j_le_refl _
theorem q_X11_weight {a0 : Nat} {a1 : Int32} {h : JH} {q : Int32 × JH} (hf : f_X11_weight a0 a1 h = some q) : q.2.2.1 = h.2.1 := by
  unfold f_X11_weight at hf
  obtain ⟨q1, e2, hf⟩ := j_bind hf
  refine Eq.trans ?_ ((q_X11_isRegister e2))
  rcases j_ite hf with hf | hf
  ·
    obtain rfl := j_inj hf
    rfl
  ·
    obtain ⟨v3, e4, hf⟩ := j_bind hf
    obtain ⟨v5, e6, hf⟩ := j_bind hf
    obtain ⟨v7, e8, hf⟩ := j_bind hf
    obtain rfl := j_inj hf
    rfl
theorem q_X11_makes {a0 : Nat} {a1 : Int32} {a2 : Int32} {h : JH} {q : Int32 × JH} (hf : f_X11_makes a0 a1 a2 h = some q) : q.2.2.1 = h.2.1 := by
  unfold f_X11_makes at hf
  obtain ⟨q1, e2, hf⟩ := j_bind hf
  refine Eq.trans ?_ ((q_X11_isWeight e2))
  rcases j_ite hf with hf | hf
  ·
    obtain rfl := j_inj hf
    rfl
  ·
    rcases j_ite hf with hf | hf
    ·
      obtain ⟨q3, e4, hf⟩ := j_bind hf
      refine Eq.trans ?_ ((q_X11_lengthOf e4))
      obtain rfl := j_inj hf
      rfl
    ·
      obtain ⟨q5, e6, hf⟩ := j_bind hf
      refine Eq.trans ?_ ((q_X11_cuspsOf e6))
      obtain rfl := j_inj hf
      rfl
theorem n_X11_whole {a0 : Nat} {a1 : Int32} {h : JH} {q : (Option Int32) × JH} (hf : f_X11_whole a0 a1 h = some q) : j_le h q.2 := by
  unfold f_X11_whole at hf
  rcases j_ite hf with hf | hf
  ·
    obtain ⟨q1, e2, hf⟩ := j_bind hf
    refine j_le_trans (j_le_of ((q_X1_inTwelfths e2))) ?_
    obtain rfl := j_inj hf
    exact j_le_refl _
  ·
    obtain rfl := j_inj hf
    exact jexc_le _
theorem q_X11_small {a0 : Nat} {a1 : Int32} {h : JH} {q : Int32 × JH} (hf : f_X11_small a0 a1 h = some q) : q.2.2.1 = h.2.1 := by
  unfold f_X11_small at hf
  obtain ⟨q1, e2, hf⟩ := j_bind hf
  refine Eq.trans ?_ ((q_X1_ofNothingInCommon e2))
  obtain rfl := j_inj hf
  rfl
theorem q_X11_trace {a0 : Nat} {a1 : Int32} {a2 : Int32} {h : JH} {q : Int64 × JH} (hf : f_X11_trace a0 a1 a2 h = some q) : q.2.2.1 = h.2.1 := by
  unfold f_X11_trace at hf
  obtain ⟨q1, e2, hf⟩ := j_bind hf
  refine Eq.trans ?_ ((q_X10_isAsked e2))
  rcases j_ite hf with hf | hf
  ·
    obtain rfl := j_inj hf
    rfl
  ·
    obtain ⟨q3, e4, hf⟩ := j_bind hf
    refine Eq.trans ?_ ((q_X10_exact e4))
    obtain rfl := j_inj hf
    rfl
theorem q_X11_traceLeft {a0 : Nat} {a1 : Int32} {a2 : Int32} {h : JH} {q : Int32 × JH} (hf : f_X11_traceLeft a0 a1 a2 h = some q) : q.2.2.1 = h.2.1 := by
  unfold f_X11_traceLeft at hf
  obtain ⟨q1, e2, hf⟩ := j_bind hf
  refine Eq.trans ?_ ((q_X10_isAsked e2))
  rcases j_ite hf with hf | hf
  ·
    obtain rfl := j_inj hf
    rfl
  ·
    obtain ⟨v3, e4, hf⟩ := j_bind hf
    obtain ⟨q5, e6, hf⟩ := j_bind hf
    refine Eq.trans ?_ ((q_X10_left e6))
    obtain rfl := j_inj hf
    rfl
theorem q_X11_share {a0 : Nat} {a1 : Int32} {a2 : Int32} {h : JH} {q : Int32 × JH} (hf : f_X11_share a0 a1 a2 h = some q) : q.2.2.1 = h.2.1 := by
  unfold f_X11_share at hf
  obtain ⟨q1, e2, hf⟩ := j_bind hf
  refine Eq.trans ?_ ((q_X10_isAsked e2))
  rcases j_ite hf with hf | hf
  ·
    obtain rfl := j_inj hf
    rfl
  ·
    obtain ⟨q3, e4, hf⟩ := j_bind hf
    refine Eq.trans ?_ ((q_X10_exact e4))
    rcases j_ite hf with hf | hf
    ·
      obtain rfl := j_inj hf
      rfl
    ·
      obtain ⟨q5, e6, hf⟩ := j_bind hf
      refine Eq.trans ?_ ((q_X10_shareOf e6))
      obtain ⟨q7, e8, hf⟩ := j_bind hf
      refine Eq.trans ?_ ((q_X10_bitsOf e8))
      obtain rfl := j_inj hf
      rfl
theorem q_X11_take {a0 : Nat} {a1 : Int32} {a2 : Int32} {h : JH} {q : Int32 × JH} (hf : f_X11_take a0 a1 a2 h = some q) : q.2.2.1 = h.2.1 := by
  unfold f_X11_take at hf
  obtain ⟨q1, e2, hf⟩ := j_bind hf
  refine Eq.trans ?_ ((q_X11_isRegister e2))
  rcases j_ite hf with hf | hf
  ·
    obtain rfl := j_inj hf
    rfl
  ·
    obtain ⟨u23, e24, hf⟩ := j_bind hf
    obtain ⟨q3, e4, hf⟩ := j_bind hf
    refine Eq.trans ?_ ((q_X11_isLet e4))
    rcases j_ite hf with hf | hf
    ·
      obtain rfl := j_inj hf
      rfl
    ·
      obtain ⟨v5, e6, hf⟩ := j_bind hf
      obtain ⟨v7, e8, hf⟩ := j_bind hf
      obtain ⟨v9, e10, hf⟩ := j_bind hf
      obtain ⟨v11, e12, hf⟩ := j_bind hf
      obtain ⟨u21, e22, hf⟩ := j_bind hf
      obtain ⟨q13, e14, hf⟩ := j_bind hf
      refine Eq.trans ?_ ((q_X2_copyFrom e14))
      obtain ⟨v15, e16, hf⟩ := j_bind hf
      obtain ⟨v17, e18, hf⟩ := j_bind hf
      obtain ⟨v19, e20, hf⟩ := j_bind hf
      obtain rfl := j_inj hf
      rfl
theorem q_X11_plus {a0 : Nat} {a1 : Int32} {a2 : Int32} {a3 : Int32} {h : JH} {q : Int32 × JH} (hf : f_X11_plus a0 a1 a2 a3 h = some q) : q.2.2.1 = h.2.1 := by
  unfold f_X11_plus at hf
  obtain ⟨q1, e2, hf⟩ := j_bind hf
  refine Eq.trans ?_ ((q_X11_isRegister e2))
  rcases j_ite hf with hf | hf
  ·
    obtain rfl := j_inj hf
    rfl
  ·
    obtain ⟨q3, e4, hf⟩ := j_bind hf
    refine Eq.trans ?_ ((q_X11_isRegister e4))
    rcases j_ite hf with hf | hf
    ·
      obtain rfl := j_inj hf
      rfl
    ·
      obtain ⟨v5, e6, hf⟩ := j_bind hf
      obtain ⟨v7, e8, hf⟩ := j_bind hf
      obtain ⟨v9, e10, hf⟩ := j_bind hf
      obtain ⟨v11, e12, hf⟩ := j_bind hf
      obtain ⟨v13, e14, hf⟩ := j_bind hf
      obtain ⟨v15, e16, hf⟩ := j_bind hf
      rcases j_ite hf with hf | hf
      ·
        obtain ⟨v17, e18, hf⟩ := j_bind hf
        obtain ⟨v19, e20, hf⟩ := j_bind hf
        obtain ⟨v21, e22, hf⟩ := j_bind hf
        obtain ⟨v23, e24, hf⟩ := j_bind hf
        obtain ⟨v25, e26, hf⟩ := j_bind hf
        obtain ⟨q27, e28, hf⟩ := j_bind hf
        refine Eq.trans ?_ ((q_X4_of e28))
        obtain ⟨v29, e30, hf⟩ := j_bind hf
        obtain ⟨u33, e34, hf⟩ := j_bind hf
        obtain ⟨q31, e32, hf⟩ := j_bind hf
        refine Eq.trans ?_ ((q_X2_add e32))
        obtain rfl := j_inj hf
        rfl
      ·
        obtain rfl := j_inj hf
        rfl
theorem q_X11_times {a0 : Nat} {a1 : Int32} {a2 : Int32} {h : JH} {q : Int32 × JH} (hf : f_X11_times a0 a1 a2 h = some q) : q.2.2.1 = h.2.1 := by
  unfold f_X11_times at hf
  obtain ⟨q1, e2, hf⟩ := j_bind hf
  refine Eq.trans ?_ ((q_X11_isRegister e2))
  rcases j_ite hf with hf | hf
  ·
    obtain rfl := j_inj hf
    rfl
  ·
    obtain ⟨q3, e4, hf⟩ := j_bind hf
    refine Eq.trans ?_ ((q_X11_isRegister e4))
    rcases j_ite hf with hf | hf
    ·
      obtain rfl := j_inj hf
      rfl
    ·
      obtain ⟨v5, e6, hf⟩ := j_bind hf
      obtain ⟨v7, e8, hf⟩ := j_bind hf
      obtain ⟨v9, e10, hf⟩ := j_bind hf
      obtain ⟨v11, e12, hf⟩ := j_bind hf
      obtain ⟨v13, e14, hf⟩ := j_bind hf
      obtain ⟨v15, e16, hf⟩ := j_bind hf
      rcases j_ite hf with hf | hf
      ·
        obtain ⟨v17, e18, hf⟩ := j_bind hf
        obtain ⟨v19, e20, hf⟩ := j_bind hf
        obtain ⟨v21, e22, hf⟩ := j_bind hf
        obtain ⟨v23, e24, hf⟩ := j_bind hf
        obtain ⟨v25, e26, hf⟩ := j_bind hf
        obtain ⟨u35, e36, hf⟩ := j_bind hf
        obtain ⟨q27, e28, hf⟩ := j_bind hf
        refine Eq.trans ?_ ((q_X2_multiplyBy e28))
        obtain ⟨v29, e30, hf⟩ := j_bind hf
        obtain ⟨v31, e32, hf⟩ := j_bind hf
        obtain ⟨v33, e34, hf⟩ := j_bind hf
        obtain rfl := j_inj hf
        rfl
      ·
        obtain rfl := j_inj hf
        rfl
theorem n_X11_readyForHecke {a0 : Nat} {a1 : Int32} {a2 : Int32} {h : JH} {q : Nat × JH} (hf : f_X11_readyForHecke a0 a1 a2 h = some q) : j_le h q.2 := by
  unfold f_X11_readyForHecke at hf
  obtain ⟨v1, e2, hf⟩ := j_bind hf
  obtain ⟨v3, e4, hf⟩ := j_bind hf
  obtain ⟨q5, e6, hf⟩ := j_bind hf
  refine j_le_trans (j_le_of ((q_X11_cuspsOf e6))) ?_
  obtain ⟨u9, e10, hf⟩ := j_bind hf
  obtain ⟨q7, e8, hf⟩ := j_bind hf
  refine j_le_trans (n_X8_ready e8) ?_
  obtain rfl := j_inj hf
  exact j_le_refl _
theorem q_X11_isHecke {a0 : Int32} {h : JH} {q : Int32 × JH} (hf : f_X11_isHecke a0 h = some q) : q.2.2.1 = h.2.1 := by
  unfold f_X11_isHecke at hf
  rcases j_ite hf with hf | hf
  ·
    obtain rfl := j_inj hf
    rfl
  ·
    rcases j_ite hf with hf | hf
    ·
      obtain rfl := j_inj hf
      rfl
    ·
      obtain rfl := j_inj hf
      rfl
theorem q_X11_hecke_L37 {a0 : Nat} {a2 : Int32} {a3 : Nat} {a4 : Nat} {z : Int32} {h : JH} {r : Int32 ⊕ Int32} {h1 : JH} (hf : f_X11_hecke_L37 a0 a2 a3 a4 z h = some (r, h1)) : h1.2.1 = h.2.1 := by
  unfold f_X11_hecke_L37 at hf
  obtain ⟨v13, e14, hf⟩ := j_bind hf
  rcases j_ite hf with hf | hf
  ·
    obtain ⟨rfl, rfl⟩ := j_inj2 hf
    rfl
  ·
    obtain ⟨v15, e16, hf⟩ := j_bind hf
    obtain ⟨v17, e18, hf⟩ := j_bind hf
    obtain ⟨v19, e20, hf⟩ := j_bind hf
    obtain ⟨u25, e26, hf⟩ := j_bind hf
    obtain ⟨q21, e22, hf⟩ := j_bind hf
    refine Eq.trans ?_ ((q_X7_heckeAt e22))
    obtain ⟨h23, e24, hf⟩ := j_bind hf
    refine Eq.trans ?_ (jsI_n e24)
    obtain ⟨rfl, rfl⟩ := j_inj2 hf
    rfl
theorem n_X11_hecke {a0 : Nat} {a1 : Int32} {a2 : Int32} {h : JH} {q : Int32 × JH} (hf : f_X11_hecke a0 a1 a2 h = some q) : j_le h q.2 := by
  unfold f_X11_hecke at hf
  obtain ⟨q1, e2, hf⟩ := j_bind hf
  refine j_le_trans (j_le_of ((q_X11_isRegister e2))) ?_
  rcases j_ite hf with hf | hf
  ·
    obtain rfl := j_inj hf
    exact j_le_refl _
  ·
    obtain ⟨q3, e4, hf⟩ := j_bind hf
    refine j_le_trans (j_le_of ((q_X11_isHecke e4))) ?_
    rcases j_ite hf with hf | hf
    ·
      obtain rfl := j_inj hf
      exact j_le_refl _
    ·
      obtain ⟨v5, e6, hf⟩ := j_bind hf
      obtain ⟨v7, e8, hf⟩ := j_bind hf
      obtain ⟨v9, e10, hf⟩ := j_bind hf
      obtain ⟨u42, e43, hf⟩ := j_bind hf
      obtain ⟨q11, e12, hf⟩ := j_bind hf
      refine j_le_trans (n_X11_readyForHecke e12) ?_
      obtain ⟨q28, e29, hf⟩ := j_bind hf
      refine j_le_trans (j_le_of ((jloop_eq (fun _ _ _ _ q => q_X11_hecke_L37 q) e29))) ?_
      obtain ⟨v30, e31, hf⟩ := j_bind hf
      obtain ⟨u40, e41, hf⟩ := j_bind hf
      obtain ⟨q32, e33, hf⟩ := j_bind hf
      refine j_le_trans (j_le_of ((q_X7_complete e33))) ?_
      obtain ⟨v34, e35, hf⟩ := j_bind hf
      obtain ⟨u38, e39, hf⟩ := j_bind hf
      obtain ⟨q36, e37, hf⟩ := j_bind hf
      refine j_le_trans (j_le_of ((q_X2_copyFrom e37))) ?_
      obtain rfl := j_inj hf
      exact j_le_refl _
theorem q_X11_multiplies_L86 {a0 : Nat} {a2 : Int32} {a3 : Nat} {a5 : Nat} {a6 : Int32} {z : Int32} {h : JH} {r : Int32 ⊕ (Int32 ⊕ Int32)} {h1 : JH} (hf : f_X11_multiplies_L86 a0 a2 a3 a5 a6 z h = some (r, h1)) : h1.2.1 = h.2.1 := by
  unfold f_X11_multiplies_L86 at hf
  obtain ⟨v33, e34, hf⟩ := j_bind hf
  rcases j_ite hf with hf | hf
  ·
    obtain ⟨rfl, rfl⟩ := j_inj2 hf
    rfl
  ·
    obtain ⟨u43, e44, hf⟩ := j_bind hf
    obtain ⟨q35, e36, hf⟩ := j_bind hf
    refine Eq.trans ?_ ((q_X7_heckeAt e36))
    obtain ⟨v37, e38, hf⟩ := j_bind hf
    obtain ⟨v39, e40, hf⟩ := j_bind hf
    obtain ⟨q41, e42, hf⟩ := j_bind hf
    refine Eq.trans ?_ ((q_X4_of e42))
    rcases j_ite hf with hf | hf
    ·
      obtain ⟨rfl, rfl⟩ := j_inj2 hf
      rfl
    ·
      obtain ⟨rfl, rfl⟩ := j_inj2 hf
      rfl
theorem n_X11_multiplies {a0 : Nat} {a1 : Int32} {a2 : Int32} {h : JH} {q : Int32 × JH} (hf : f_X11_multiplies a0 a1 a2 h = some q) : j_le h q.2 := by
  unfold f_X11_multiplies at hf
  obtain ⟨q1, e2, hf⟩ := j_bind hf
  refine j_le_trans (j_le_of ((q_X11_isRegister e2))) ?_
  rcases j_ite hf with hf | hf
  ·
    obtain rfl := j_inj hf
    exact j_le_refl _
  ·
    obtain ⟨q3, e4, hf⟩ := j_bind hf
    refine j_le_trans (j_le_of ((q_X11_isHecke e4))) ?_
    rcases j_ite hf with hf | hf
    ·
      obtain rfl := j_inj hf
      exact j_le_refl _
    ·
      obtain ⟨v5, e6, hf⟩ := j_bind hf
      obtain ⟨v7, e8, hf⟩ := j_bind hf
      obtain ⟨v9, e10, hf⟩ := j_bind hf
      obtain ⟨v11, e12, hf⟩ := j_bind hf
      obtain ⟨v13, e14, hf⟩ := j_bind hf
      obtain ⟨u55, e56, hf⟩ := j_bind hf
      obtain ⟨q15, e16, hf⟩ := j_bind hf
      refine j_le_trans (j_le_of ((q_X2_firstNotZero e16))) ?_
      rcases j_ite hf with hf | hf
      ·
        obtain ⟨v17, e18, hf⟩ := j_bind hf
        obtain ⟨v19, e20, hf⟩ := j_bind hf
        obtain ⟨v21, e22, hf⟩ := j_bind hf
        obtain ⟨u53, e54, hf⟩ := j_bind hf
        obtain ⟨q23, e24, hf⟩ := j_bind hf
        refine j_le_trans (n_X11_readyForHecke e24) ?_
        obtain ⟨u51, e52, hf⟩ := j_bind hf
        obtain ⟨q25, e26, hf⟩ := j_bind hf
        refine j_le_trans (j_le_of ((q_X7_heckeAt e26))) ?_
        obtain ⟨v27, e28, hf⟩ := j_bind hf
        obtain ⟨v29, e30, hf⟩ := j_bind hf
        obtain ⟨q31, e32, hf⟩ := j_bind hf
        refine j_le_trans (j_le_of ((q_X4_divide e32))) ?_
        obtain ⟨q47, e48, hf⟩ := j_bind hf
        refine j_le_trans (j_le_of ((jloop_eq (fun _ _ _ _ q => q_X11_multiplies_L86 q) e48))) ?_
        cases y57 : q47.1 with
        | inl r50 =>
          rw [y57] at hf
          have hf := j_eliml hf
          obtain rfl := j_inj hf
          exact j_le_refl _
        | inr t49 =>
          rw [y57] at hf
          have hf := j_elimr hf
          obtain rfl := j_inj hf
          exact j_le_refl _
      ·
        obtain rfl := j_inj hf
        exact j_le_refl _
theorem q_X11_partingPlace_L2 {a0 : Nat} {a1 : Nat} {z : Int32} {h : JH} {r : Int32 ⊕ (Int32 ⊕ Int32)} {h1 : JH} (hf : f_X11_partingPlace_L2 a0 a1 z h = some (r, h1)) : h1.2.1 = h.2.1 := by
  unfold f_X11_partingPlace_L2 at hf
  rcases j_ite hf with hf | hf
  ·
    obtain ⟨rfl, rfl⟩ := j_inj2 hf
    rfl
  ·
    obtain ⟨v1, e2, hf⟩ := j_bind hf
    obtain ⟨v3, e4, hf⟩ := j_bind hf
    obtain ⟨v5, e6, hf⟩ := j_bind hf
    obtain ⟨v7, e8, hf⟩ := j_bind hf
    rcases j_ite hf with hf | hf
    ·
      obtain ⟨rfl, rfl⟩ := j_inj2 hf
      rfl
    ·
      obtain ⟨rfl, rfl⟩ := j_inj2 hf
      rfl
theorem q_X11_partingPlace {a0 : Nat} {a1 : Nat} {h : JH} {q : Int32 × JH} (hf : f_X11_partingPlace a0 a1 h = some q) : q.2.2.1 = h.2.1 := by
  unfold f_X11_partingPlace at hf
  obtain ⟨q11, e12, hf⟩ := j_bind hf
  refine Eq.trans ?_ ((jloop_eq (fun _ _ _ _ q => q_X11_partingPlace_L2 q) e12))
  cases y15 : q11.1 with
  | inl r14 =>
    rw [y15] at hf
    have hf := j_eliml hf
    obtain rfl := j_inj hf
    rfl
  | inr t13 =>
    rw [y15] at hf
    have hf := j_elimr hf
    obtain rfl := j_inj hf
    rfl
theorem q_X11_alike {a0 : Nat} {a1 : Int32} {a2 : Int32} {a3 : Int32} {h : JH} {q : Int32 × JH} (hf : f_X11_alike a0 a1 a2 a3 h = some q) : q.2.2.1 = h.2.1 := by
  unfold f_X11_alike at hf
  obtain ⟨q1, e2, hf⟩ := j_bind hf
  refine Eq.trans ?_ ((q_X11_isRegister e2))
  rcases j_ite hf with hf | hf
  ·
    obtain rfl := j_inj hf
    rfl
  ·
    obtain ⟨q3, e4, hf⟩ := j_bind hf
    refine Eq.trans ?_ ((q_X11_isRegister e4))
    rcases j_ite hf with hf | hf
    ·
      obtain rfl := j_inj hf
      rfl
    ·
      rcases j_ite hf with hf | hf
      ·
        obtain rfl := j_inj hf
        rfl
      ·
        rcases j_ite hf with hf | hf
        ·
          obtain ⟨v5, e6, hf⟩ := j_bind hf
          obtain ⟨v7, e8, hf⟩ := j_bind hf
          obtain ⟨v9, e10, hf⟩ := j_bind hf
          obtain ⟨v11, e12, hf⟩ := j_bind hf
          obtain ⟨v13, e14, hf⟩ := j_bind hf
          obtain ⟨v15, e16, hf⟩ := j_bind hf
          rcases j_ite hf with hf | hf
          ·
            obtain ⟨v17, e18, hf⟩ := j_bind hf
            obtain ⟨v19, e20, hf⟩ := j_bind hf
            obtain ⟨v21, e22, hf⟩ := j_bind hf
            obtain ⟨v23, e24, hf⟩ := j_bind hf
            obtain ⟨q25, e26, hf⟩ := j_bind hf
            refine Eq.trans ?_ ((q_X11_partingPlace e26))
            rcases j_ite hf with hf | hf
            ·
              obtain rfl := j_inj hf
              rfl
            ·
              rcases j_ite hf with hf | hf
              ·
                obtain rfl := j_inj hf
                rfl
              ·
                obtain rfl := j_inj hf
                rfl
          ·
            obtain rfl := j_inj hf
            rfl
        ·
          obtain rfl := j_inj hf
          rfl
theorem q_X11_parts {a0 : Nat} {a1 : Int32} {a2 : Int32} {h : JH} {q : Int32 × JH} (hf : f_X11_parts a0 a1 a2 h = some q) : q.2.2.1 = h.2.1 := by
  unfold f_X11_parts at hf
  obtain ⟨q1, e2, hf⟩ := j_bind hf
  refine Eq.trans ?_ ((q_X11_isRegister e2))
  rcases j_ite hf with hf | hf
  ·
    obtain rfl := j_inj hf
    rfl
  ·
    obtain ⟨q3, e4, hf⟩ := j_bind hf
    refine Eq.trans ?_ ((q_X11_isRegister e4))
    rcases j_ite hf with hf | hf
    ·
      obtain rfl := j_inj hf
      rfl
    ·
      obtain ⟨v5, e6, hf⟩ := j_bind hf
      obtain ⟨v7, e8, hf⟩ := j_bind hf
      obtain ⟨v9, e10, hf⟩ := j_bind hf
      obtain ⟨v11, e12, hf⟩ := j_bind hf
      obtain ⟨v13, e14, hf⟩ := j_bind hf
      obtain ⟨v15, e16, hf⟩ := j_bind hf
      rcases j_ite hf with hf | hf
      ·
        obtain ⟨v17, e18, hf⟩ := j_bind hf
        obtain ⟨v19, e20, hf⟩ := j_bind hf
        obtain ⟨v21, e22, hf⟩ := j_bind hf
        obtain ⟨v23, e24, hf⟩ := j_bind hf
        obtain ⟨q25, e26, hf⟩ := j_bind hf
        refine Eq.trans ?_ ((q_X11_partingPlace e26))
        obtain rfl := j_inj hf
        rfl
      ·
        obtain rfl := j_inj hf
        rfl
theorem n_X11_table {a0 : Nat} {a1 : Int32} {a2 : Int32} {a3 : Int32} {a4 : Int32} {h : JH} {q : Int32 × JH} (hf : f_X11_table a0 a1 a2 a3 a4 h = some q) : j_le h q.2 := by
  unfold f_X11_table at hf
  obtain ⟨q1, e2, hf⟩ := j_bind hf
  refine j_le_trans (j_le_of ((q_X11_isWeight e2))) ?_
  rcases j_ite hf with hf | hf
  ·
    obtain rfl := j_inj hf
    exact j_le_refl _
  ·
    obtain ⟨q3, e4, hf⟩ := j_bind hf
    refine j_le_trans (j_le_of ((q_X11_isHecke e4))) ?_
    rcases j_ite hf with hf | hf
    ·
      obtain rfl := j_inj hf
      exact j_le_refl _
    ·
      obtain ⟨q5, e6, hf⟩ := j_bind hf
      refine j_le_trans (j_le_of ((q_X11_cuspsOf e6))) ?_
      rcases j_ite hf with hf | hf
      ·
        obtain rfl := j_inj hf
        exact j_le_refl _
      ·
        rcases j_ite hf with hf | hf
        ·
          obtain rfl := j_inj hf
          exact j_le_refl _
        ·
          rcases j_ite hf with hf | hf
          ·
            obtain rfl := j_inj hf
            exact j_le_refl _
          ·
            rcases j_ite hf with hf | hf
            ·
              obtain ⟨u17, e18, hf⟩ := j_bind hf
              obtain ⟨q7, e8, hf⟩ := j_bind hf
              refine j_le_trans (n_X11_readyForHecke e8) ?_
              obtain ⟨v9, e10, hf⟩ := j_bind hf
              obtain ⟨v11, e12, hf⟩ := j_bind hf
              obtain ⟨u15, e16, hf⟩ := j_bind hf
              obtain ⟨q13, e14, hf⟩ := j_bind hf
              refine j_le_trans (j_le_of ((q_X7_heckeAt e14))) ?_
              obtain rfl := j_inj hf
              exact j_le_refl _
            ·
              obtain rfl := j_inj hf
              exact j_le_refl _
theorem n_X11_polynomial {a0 : Nat} {a1 : Int32} {a2 : Int32} {a3 : Int32} {h : JH} {q : Int32 × JH} (hf : f_X11_polynomial a0 a1 a2 a3 h = some q) : j_le h q.2 := by
  unfold f_X11_polynomial at hf
  obtain ⟨q1, e2, hf⟩ := j_bind hf
  refine j_le_trans (j_le_of ((q_X11_isWeight e2))) ?_
  rcases j_ite hf with hf | hf
  ·
    obtain rfl := j_inj hf
    exact j_le_refl _
  ·
    obtain ⟨q3, e4, hf⟩ := j_bind hf
    refine j_le_trans (j_le_of ((q_X11_isHecke e4))) ?_
    rcases j_ite hf with hf | hf
    ·
      obtain rfl := j_inj hf
      exact j_le_refl _
    ·
      rcases j_ite hf with hf | hf
      ·
        obtain rfl := j_inj hf
        exact j_le_refl _
      ·
        obtain ⟨q5, e6, hf⟩ := j_bind hf
        refine j_le_trans (j_le_of ((q_X11_cuspsOf e6))) ?_
        rcases j_ite hf with hf | hf
        ·
          obtain ⟨v7, e8, hf⟩ := j_bind hf
          obtain ⟨u27, e28, hf⟩ := j_bind hf
          obtain ⟨q9, e10, hf⟩ := j_bind hf
          refine j_le_trans (n_X11_readyForHecke e10) ?_
          obtain ⟨u25, e26, hf⟩ := j_bind hf
          obtain ⟨q11, e12, hf⟩ := j_bind hf
          refine j_le_trans (j_le_of ((q_X5_load e12))) ?_
          obtain ⟨v13, e14, hf⟩ := j_bind hf
          obtain ⟨u23, e24, hf⟩ := j_bind hf
          obtain ⟨q15, e16, hf⟩ := j_bind hf
          refine j_le_trans (j_le_of ((q_X5_findPolynomial e16))) ?_
          obtain ⟨v17, e18, hf⟩ := j_bind hf
          obtain ⟨v19, e20, hf⟩ := j_bind hf
          obtain ⟨v21, e22, hf⟩ := j_bind hf
          obtain rfl := j_inj hf
          exact j_le_refl _
        ·
          obtain rfl := j_inj hf
          exact j_le_refl _
theorem n_X11_spaceWithRoots {a0 : Nat} {a1 : Int32} {h : JH} {q : Nat × JH} (hf : f_X11_spaceWithRoots a0 a1 h = some q) : j_le h q.2 := by
  unfold f_X11_spaceWithRoots at hf
  obtain ⟨v1, e2, hf⟩ := j_bind hf
  obtain ⟨v3, e4, hf⟩ := j_bind hf
  obtain ⟨q5, e6, hf⟩ := j_bind hf
  refine j_le_trans (j_le_of ((q_X11_cuspsOf e6))) ?_
  obtain ⟨u39, e40, hf⟩ := j_bind hf
  obtain ⟨q7, e8, hf⟩ := j_bind hf
  refine j_le_trans (n_X8_ready e8) ?_
  obtain ⟨v9, e10, hf⟩ := j_bind hf
  obtain ⟨v11, e12, hf⟩ := j_bind hf
  rcases j_ite hf with hf | hf
  ·
    obtain rfl := j_inj hf
    exact j_le_refl _
  ·
    obtain ⟨v13, e14, hf⟩ := j_bind hf
    obtain ⟨u37, e38, hf⟩ := j_bind hf
    obtain ⟨q15, e16, hf⟩ := j_bind hf
    refine j_le_trans (j_le_of ((q_X5_load e16))) ?_
    obtain ⟨v17, e18, hf⟩ := j_bind hf
    obtain ⟨u35, e36, hf⟩ := j_bind hf
    obtain ⟨q19, e20, hf⟩ := j_bind hf
    refine j_le_trans (j_le_of ((q_X5_findPolynomial e20))) ?_
    obtain ⟨v21, e22, hf⟩ := j_bind hf
    obtain ⟨v23, e24, hf⟩ := j_bind hf
    obtain ⟨u33, e34, hf⟩ := j_bind hf
    obtain ⟨q25, e26, hf⟩ := j_bind hf
    refine j_le_trans (j_le_of ((q_X5_findRoots e26))) ?_
    obtain ⟨h27, e28, hf⟩ := j_bind hf
    refine j_le_trans (j_le_of (jput_n e28)) ?_
    obtain ⟨v29, e30, hf⟩ := j_bind hf
    obtain ⟨h31, e32, hf⟩ := j_bind hf
    refine j_le_trans (j_le_of (jput_n e32)) ?_
    obtain rfl := j_inj hf
    exact j_le_refl _
theorem n_X11_root {a0 : Nat} {a1 : Int32} {a2 : Int32} {h : JH} {q : Int32 × JH} (hf : f_X11_root a0 a1 a2 h = some q) : j_le h q.2 := by
  unfold f_X11_root at hf
  obtain ⟨q1, e2, hf⟩ := j_bind hf
  refine j_le_trans (j_le_of ((q_X11_isWeight e2))) ?_
  rcases j_ite hf with hf | hf
  ·
    obtain rfl := j_inj hf
    exact j_le_refl _
  ·
    obtain ⟨u13, e14, hf⟩ := j_bind hf
    obtain ⟨q3, e4, hf⟩ := j_bind hf
    refine j_le_trans (n_X11_spaceWithRoots e4) ?_
    rcases j_ite hf with hf | hf
    ·
      obtain ⟨v11, e12, hf⟩ := j_bind hf
      obtain rfl := j_inj hf
      exact j_le_refl _
    ·
      rcases j_ite hf with hf | hf
      ·
        obtain rfl := j_inj hf
        exact j_le_refl _
      ·
        obtain ⟨v5, e6, hf⟩ := j_bind hf
        rcases j_ite hf with hf | hf
        ·
          obtain rfl := j_inj hf
          exact j_le_refl _
        ·
          obtain ⟨v7, e8, hf⟩ := j_bind hf
          obtain ⟨v9, e10, hf⟩ := j_bind hf
          obtain rfl := j_inj hf
          exact j_le_refl _
theorem n_X11_own {a0 : Nat} {a1 : Int32} {a2 : Int32} {a3 : Int32} {h : JH} {q : Int32 × JH} (hf : f_X11_own a0 a1 a2 a3 h = some q) : j_le h q.2 := by
  unfold f_X11_own at hf
  obtain ⟨q1, e2, hf⟩ := j_bind hf
  refine j_le_trans (j_le_of ((q_X11_isRegister e2))) ?_
  rcases j_ite hf with hf | hf
  ·
    obtain rfl := j_inj hf
    exact j_le_refl _
  ·
    obtain ⟨q3, e4, hf⟩ := j_bind hf
    refine j_le_trans (j_le_of ((q_X11_isWeight e4))) ?_
    rcases j_ite hf with hf | hf
    ·
      obtain rfl := j_inj hf
      exact j_le_refl _
    ·
      obtain ⟨u55, e56, hf⟩ := j_bind hf
      obtain ⟨q5, e6, hf⟩ := j_bind hf
      refine j_le_trans (n_X11_spaceWithRoots e6) ?_
      rcases j_ite hf with hf | hf
      ·
        obtain rfl := j_inj hf
        exact j_le_refl _
      ·
        obtain ⟨v7, e8, hf⟩ := j_bind hf
        rcases j_ite hf with hf | hf
        ·
          obtain ⟨v9, e10, hf⟩ := j_bind hf
          obtain ⟨u53, e54, hf⟩ := j_bind hf
          obtain ⟨q11, e12, hf⟩ := j_bind hf
          refine j_le_trans (j_le_of ((q_X5_load e12))) ?_
          obtain ⟨v13, e14, hf⟩ := j_bind hf
          obtain ⟨u51, e52, hf⟩ := j_bind hf
          obtain ⟨q15, e16, hf⟩ := j_bind hf
          refine j_le_trans (j_le_of ((q_X2_setNumber e16))) ?_
          obtain ⟨v17, e18, hf⟩ := j_bind hf
          obtain ⟨v19, e20, hf⟩ := j_bind hf
          obtain ⟨v21, e22, hf⟩ := j_bind hf
          obtain ⟨v23, e24, hf⟩ := j_bind hf
          obtain ⟨v25, e26, hf⟩ := j_bind hf
          obtain ⟨u49, e50, hf⟩ := j_bind hf
          obtain ⟨q27, e28, hf⟩ := j_bind hf
          refine j_le_trans (j_le_of ((q_X5_findOwn e28))) ?_
          rcases j_ite hf with hf | hf
          ·
            obtain rfl := j_inj hf
            exact j_le_refl _
          ·
            obtain ⟨v29, e30, hf⟩ := j_bind hf
            obtain ⟨u47, e48, hf⟩ := j_bind hf
            obtain ⟨q31, e32, hf⟩ := j_bind hf
            refine j_le_trans (j_le_of ((q_X7_complete e32))) ?_
            obtain ⟨v33, e34, hf⟩ := j_bind hf
            obtain ⟨v35, e36, hf⟩ := j_bind hf
            obtain ⟨v37, e38, hf⟩ := j_bind hf
            obtain ⟨u45, e46, hf⟩ := j_bind hf
            obtain ⟨q39, e40, hf⟩ := j_bind hf
            refine j_le_trans (j_le_of ((q_X2_copyFrom e40))) ?_
            obtain ⟨v41, e42, hf⟩ := j_bind hf
            obtain ⟨v43, e44, hf⟩ := j_bind hf
            obtain rfl := j_inj hf
            exact j_le_refl _
        ·
          obtain rfl := j_inj hf
          exact j_le_refl _
theorem q_X11_findFreshTraces_L2 {a0 : Nat} {a1 : Int32} {z : Int32} {h : JH} {r : Int32 ⊕ (Int32 ⊕ Int32)} {h1 : JH} (hf : f_X11_findFreshTraces_L2 a0 a1 z h = some (r, h1)) : h1.2.1 = h.2.1 := by
  unfold f_X11_findFreshTraces_L2 at hf
  rcases j_ite hf with hf | hf
  ·
    obtain ⟨rfl, rfl⟩ := j_inj2 hf
    rfl
  ·
    obtain ⟨v1, e2, hf⟩ := j_bind hf
    obtain ⟨q3, e4, hf⟩ := j_bind hf
    refine Eq.trans ?_ ((q_X10_exact e4))
    obtain ⟨h5, e6, hf⟩ := j_bind hf
    refine Eq.trans ?_ (jsJ_n e6)
    obtain ⟨v7, e8, hf⟩ := j_bind hf
    obtain ⟨v9, e10, hf⟩ := j_bind hf
    rcases j_ite hf with hf | hf
    ·
      obtain ⟨rfl, rfl⟩ := j_inj2 hf
      rfl
    ·
      obtain ⟨rfl, rfl⟩ := j_inj2 hf
      rfl
theorem q_X11_findFreshTraces {a0 : Nat} {a1 : Int32} {h : JH} {q : Int32 × JH} (hf : f_X11_findFreshTraces a0 a1 h = some q) : q.2.2.1 = h.2.1 := by
  unfold f_X11_findFreshTraces at hf
  obtain ⟨q13, e14, hf⟩ := j_bind hf
  refine Eq.trans ?_ ((jloop_eq (fun _ _ _ _ q => q_X11_findFreshTraces_L2 q) e14))
  cases y17 : q13.1 with
  | inl r16 =>
    rw [y17] at hf
    have hf := j_eliml hf
    obtain rfl := j_inj hf
    rfl
  | inr t15 =>
    rw [y17] at hf
    have hf := j_elimr hf
    obtain rfl := j_inj hf
    rfl
theorem q_X11_isRow {a0 : Int32} {a1 : Int32} {h : JH} {q : Int32 × JH} (hf : f_X11_isRow a0 a1 h = some q) : q.2.2.1 = h.2.1 := by
  unfold f_X11_isRow at hf
  rcases j_ite hf with hf | hf
  ·
    obtain rfl := j_inj hf
    rfl
  ·
    rcases j_ite hf with hf | hf
    ·
      obtain rfl := j_inj hf
      rfl
    ·
      rcases j_ite hf with hf | hf
      ·
        obtain rfl := j_inj hf
        rfl
      ·
        rcases j_ite hf with hf | hf
        ·
          obtain rfl := j_inj hf
          rfl
        ·
          obtain rfl := j_inj hf
          rfl
theorem n_X11_put_L83 {a0 : Nat} {a1 : Int32} {a2 : Int32} {a5 : Nat} {z : Int32} {h : JH} {r : Int32 ⊕ Int32} {h1 : JH} (hf : f_X11_put_L83 a0 a1 a2 a5 z h = some (r, h1)) : j_le h h1 := by
  unfold f_X11_put_L83 at hf
  rcases j_ite hf with hf | hf
  ·
    obtain ⟨rfl, rfl⟩ := j_inj2 hf
    exact j_le_refl _
  ·
    obtain ⟨v17, e18, hf⟩ := j_bind hf
    obtain ⟨v19, e20, hf⟩ := j_bind hf
    obtain ⟨u25, e26, hf⟩ := j_bind hf
    obtain ⟨q21, e22, hf⟩ := j_bind hf
    refine j_le_trans (n_X11_coefficientOf e22) ?_
    obtain ⟨h23, e24, hf⟩ := j_bind hf
    refine j_le_trans (j_le_of (jsJ_n e24)) ?_
    obtain ⟨rfl, rfl⟩ := j_inj2 hf
    exact j_le_refl _
theorem n_X11_put {a0 : Nat} {a1 : Int32} {a2 : Int32} {a3 : Int32} {a4 : Int32} {h : JH} {q : Int32 × JH} (hf : f_X11_put a0 a1 a2 a3 a4 h = some q) : j_le h q.2 := by
  unfold f_X11_put at hf
  obtain ⟨q1, e2, hf⟩ := j_bind hf
  refine j_le_trans (j_le_of ((q_X11_isRow e2))) ?_
  rcases j_ite hf with hf | hf
  ·
    obtain rfl := j_inj hf
    exact j_le_refl _
  ·
    rcases j_ite hf with hf | hf
    ·
      obtain ⟨v3, e4, hf⟩ := j_bind hf
      obtain ⟨v5, e6, hf⟩ := j_bind hf
      obtain ⟨v7, e8, hf⟩ := j_bind hf
      rcases j_ite hf with hf | hf
      ·
        obtain ⟨v9, e10, hf⟩ := j_bind hf
        obtain ⟨v11, e12, hf⟩ := j_bind hf
        obtain ⟨v13, e14, hf⟩ := j_bind hf
        obtain ⟨v15, e16, hf⟩ := j_bind hf
        rcases j_ite hf with hf | hf
        ·
          obtain ⟨q28, e29, hf⟩ := j_bind hf
          refine j_le_trans ((jloop_le (fun _ _ _ _ q => n_X11_put_L83 q) e29)) ?_
          obtain ⟨v30, e31, hf⟩ := j_bind hf
          obtain ⟨v32, e33, hf⟩ := j_bind hf
          obtain ⟨v34, e35, hf⟩ := j_bind hf
          obtain ⟨h36, e37, hf⟩ := j_bind hf
          refine j_le_trans (j_le_of (jsB_n e37)) ?_
          obtain rfl := j_inj hf
          exact j_le_refl _
        ·
          obtain ⟨u52, e53, hf⟩ := j_bind hf
          obtain ⟨q38, e39, hf⟩ := j_bind hf
          refine j_le_trans (j_le_of ((q_X11_findFreshTraces e39))) ?_
          rcases j_ite hf with hf | hf
          ·
            obtain rfl := j_inj hf
            exact j_le_refl _
          ·
            obtain ⟨v40, e41, hf⟩ := j_bind hf
            obtain ⟨h42, e43, hf⟩ := j_bind hf
            refine j_le_trans (j_le_of (jcJ_n e43)) ?_
            obtain ⟨v44, e45, hf⟩ := j_bind hf
            obtain ⟨v46, e47, hf⟩ := j_bind hf
            obtain ⟨v48, e49, hf⟩ := j_bind hf
            obtain ⟨h50, e51, hf⟩ := j_bind hf
            refine j_le_trans (j_le_of (jsB_n e51)) ?_
            obtain rfl := j_inj hf
            exact j_le_refl _
      ·
        obtain rfl := j_inj hf
        exact j_le_refl _
    ·
      obtain ⟨q54, e55, hf⟩ := j_bind hf
      refine j_le_trans (j_le_of ((q_X10_isAsked e55))) ?_
      rcases j_ite hf with hf | hf
      ·
        obtain rfl := j_inj hf
        exact j_le_refl _
      ·
        obtain ⟨v56, e57, hf⟩ := j_bind hf
        obtain ⟨v58, e59, hf⟩ := j_bind hf
        obtain ⟨v60, e61, hf⟩ := j_bind hf
        rcases j_ite hf with hf | hf
        ·
          obtain ⟨v62, e63, hf⟩ := j_bind hf
          obtain ⟨v64, e65, hf⟩ := j_bind hf
          obtain ⟨v66, e67, hf⟩ := j_bind hf
          obtain ⟨v68, e69, hf⟩ := j_bind hf
          rcases j_ite hf with hf | hf
          ·
            obtain ⟨q70, e71, hf⟩ := j_bind hf
            refine j_le_trans ((jloop_le (fun _ _ _ _ q => n_X11_put_L83 q) e71)) ?_
            obtain ⟨v72, e73, hf⟩ := j_bind hf
            obtain ⟨v74, e75, hf⟩ := j_bind hf
            obtain ⟨v76, e77, hf⟩ := j_bind hf
            obtain ⟨h78, e79, hf⟩ := j_bind hf
            refine j_le_trans (j_le_of (jsB_n e79)) ?_
            obtain rfl := j_inj hf
            exact j_le_refl _
          ·
            obtain ⟨u94, e95, hf⟩ := j_bind hf
            obtain ⟨q80, e81, hf⟩ := j_bind hf
            refine j_le_trans (j_le_of ((q_X11_findFreshTraces e81))) ?_
            rcases j_ite hf with hf | hf
            ·
              obtain rfl := j_inj hf
              exact j_le_refl _
            ·
              obtain ⟨v82, e83, hf⟩ := j_bind hf
              obtain ⟨h84, e85, hf⟩ := j_bind hf
              refine j_le_trans (j_le_of (jcJ_n e85)) ?_
              obtain ⟨v86, e87, hf⟩ := j_bind hf
              obtain ⟨v88, e89, hf⟩ := j_bind hf
              obtain ⟨v90, e91, hf⟩ := j_bind hf
              obtain ⟨h92, e93, hf⟩ := j_bind hf
              refine j_le_trans (j_le_of (jsB_n e93)) ?_
              obtain rfl := j_inj hf
              exact j_le_refl _
        ·
          obtain rfl := j_inj hf
          exact j_le_refl _
theorem n_X11_row {a0 : Nat} {a1 : Int32} {a2 : Int32} {a3 : Int32} {h : JH} {q : (Option Int64) × JH} (hf : f_X11_row a0 a1 a2 a3 h = some q) : j_le h q.2 := by
  unfold f_X11_row at hf
  obtain ⟨q1, e2, hf⟩ := j_bind hf
  refine j_le_trans (j_le_of ((q_X11_isRow e2))) ?_
  rcases j_ite hf with hf | hf
  ·
    obtain rfl := j_inj hf
    exact jexc_le _
  ·
    obtain ⟨v3, e4, hf⟩ := j_bind hf
    obtain ⟨v5, e6, hf⟩ := j_bind hf
    obtain ⟨v7, e8, hf⟩ := j_bind hf
    obtain ⟨v9, e10, hf⟩ := j_bind hf
    rcases j_ite hf with hf | hf
    ·
      obtain rfl := j_inj hf
      exact jexc_le _
    ·
      rcases j_ite hf with hf | hf
      ·
        obtain rfl := j_inj hf
        exact jexc_le _
      ·
        obtain ⟨v11, e12, hf⟩ := j_bind hf
        obtain ⟨v13, e14, hf⟩ := j_bind hf
        obtain ⟨u27, e28, hf⟩ := j_bind hf
        obtain ⟨q15, e16, hf⟩ := j_bind hf
        refine j_le_trans (j_le_of ((q_X6_numbersInRow e16))) ?_
        rcases j_ite hf with hf | hf
        ·
          obtain ⟨v17, e18, hf⟩ := j_bind hf
          obtain ⟨v19, e20, hf⟩ := j_bind hf
          obtain ⟨v21, e22, hf⟩ := j_bind hf
          obtain ⟨v23, e24, hf⟩ := j_bind hf
          obtain ⟨v25, e26, hf⟩ := j_bind hf
          obtain rfl := j_inj hf
          exact j_le_refl _
        ·
          obtain rfl := j_inj hf
          exact jexc_le _
theorem q_X11_swap_L2 {a0 : Nat} {z : Int32} {h : JH} {r : Int32 ⊕ Int32} {h1 : JH} (hf : f_X11_swap_L2 a0 z h = some (r, h1)) : h1.2.1 = h.2.1 := by
  unfold f_X11_swap_L2 at hf
  rcases j_ite hf with hf | hf
  ·
    obtain ⟨rfl, rfl⟩ := j_inj2 hf
    rfl
  ·
    obtain ⟨v1, e2, hf⟩ := j_bind hf
    obtain ⟨v3, e4, hf⟩ := j_bind hf
    obtain ⟨v5, e6, hf⟩ := j_bind hf
    obtain ⟨v7, e8, hf⟩ := j_bind hf
    obtain ⟨v9, e10, hf⟩ := j_bind hf
    rcases j_ite hf with hf | hf
    ·
      obtain ⟨h21, e22, hf⟩ := j_bind hf
      refine Eq.trans ?_ (jput_n e22)
      obtain ⟨v23, e24, hf⟩ := j_bind hf
      obtain ⟨v25, e26, hf⟩ := j_bind hf
      obtain ⟨u29, e30, hf⟩ := j_bind hf
      obtain ⟨q27, e28, hf⟩ := j_bind hf
      refine Eq.trans ?_ ((q_X6_empty e28))
      obtain ⟨rfl, rfl⟩ := j_inj2 hf
      rfl
    ·
      obtain ⟨h11, e12, hf⟩ := j_bind hf
      refine Eq.trans ?_ (jput_n e12)
      obtain ⟨v13, e14, hf⟩ := j_bind hf
      obtain ⟨v15, e16, hf⟩ := j_bind hf
      obtain ⟨u19, e20, hf⟩ := j_bind hf
      obtain ⟨q17, e18, hf⟩ := j_bind hf
      refine Eq.trans ?_ ((q_X6_empty e18))
      obtain ⟨rfl, rfl⟩ := j_inj2 hf
      rfl
theorem q_X11_swap {a0 : Nat} {h : JH} {q : Int32 × JH} (hf : f_X11_swap a0 h = some q) : q.2.2.1 = h.2.1 := by
  unfold f_X11_swap at hf
  obtain ⟨q33, e34, hf⟩ := j_bind hf
  refine Eq.trans ?_ ((jloop_eq (fun _ _ _ _ q => q_X11_swap_L2 q) e34))
  obtain ⟨v35, e36, hf⟩ := j_bind hf
  obtain ⟨v37, e38, hf⟩ := j_bind hf
  obtain ⟨v39, e40, hf⟩ := j_bind hf
  rcases j_ite hf with hf | hf
  ·
    obtain rfl := j_inj hf
    rfl
  ·
    obtain rfl := j_inj hf
    rfl
theorem q_X11_image {a0 : Nat} {a1 : Int32} {a2 : Int32} {h : JH} {q : Int32 × JH} (hf : f_X11_image a0 a1 a2 h = some q) : q.2.2.1 = h.2.1 := by
  unfold f_X11_image at hf
  rcases j_ite hf with hf | hf
  ·
    obtain rfl := j_inj hf
    rfl
  ·
    rcases j_ite hf with hf | hf
    ·
      rcases j_ite hf with hf | hf
      ·
        obtain ⟨v15, e16, hf⟩ := j_bind hf
        obtain ⟨v17, e18, hf⟩ := j_bind hf
        obtain ⟨v19, e20, hf⟩ := j_bind hf
        obtain ⟨v21, e22, hf⟩ := j_bind hf
        obtain ⟨u25, e26, hf⟩ := j_bind hf
        obtain ⟨q23, e24, hf⟩ := j_bind hf
        refine Eq.trans ?_ ((q_X3_lay e24))
        obtain rfl := j_inj hf
        rfl
      ·
        obtain ⟨v1, e2, hf⟩ := j_bind hf
        obtain ⟨v3, e4, hf⟩ := j_bind hf
        obtain ⟨v5, e6, hf⟩ := j_bind hf
        obtain ⟨v7, e8, hf⟩ := j_bind hf
        obtain ⟨u13, e14, hf⟩ := j_bind hf
        obtain ⟨q9, e10, hf⟩ := j_bind hf
        refine Eq.trans ?_ ((q_X3_bringBack e10))
        obtain ⟨u11, e12, hf⟩ := j_bind hf
        obtain rfl := j_inj hf
        rfl
    ·
      obtain rfl := j_inj hf
      rfl
theorem q_X12_thrown {a0 : Nat} {h : JH} {q : Int32 × JH} (hf : f_X12_thrown a0 h = some q) : q.2.2.1 = h.2.1 := by
  unfold f_X12_thrown at hf
  obtain ⟨v1, e2, hf⟩ := j_bind hf
  obtain rfl := j_inj hf
  rfl
theorem q_X12_within {a0 : Int32} {a1 : Int32} {a2 : Int32} {h : JH} {q : Int32 × JH} (hf : f_X12_within a0 a1 a2 h = some q) : q.2.2.1 = h.2.1 := by
  unfold f_X12_within at hf
  rcases j_ite hf with hf | hf
  ·
    obtain rfl := j_inj hf
    rfl
  ·
    rcases j_ite hf with hf | hf
    ·
      obtain rfl := j_inj hf
      rfl
    ·
      obtain rfl := j_inj hf
      rfl
theorem q_X12_left {a0 : Nat} {a1 : Int64} {h : JH} {q : Int32 × JH} (hf : f_X12_left a0 a1 h = some q) : q.2.2.1 = h.2.1 := by
  unfold f_X12_left at hf
  obtain ⟨v1, e2, hf⟩ := j_bind hf
  obtain ⟨u3, e4, hf⟩ := j_bind hf
  rcases j_ite hf with hf | hf
  ·
    obtain rfl := j_inj hf
    rfl
  ·
    obtain ⟨v5, e6, hf⟩ := j_bind hf
    obtain rfl := j_inj hf
    rfl
theorem q_X12_power_L5 {a0 : Nat} {a1 : Int32} {a2 : Int32} {z : (Int64 × Int32)} {h : JH} {r : (Int64 × Int32) ⊕ (Int64 × Int32)} {h1 : JH} (hf : f_X12_power_L5 a0 a1 a2 z h = some (r, h1)) : h1.2.1 = h.2.1 := by
  unfold f_X12_power_L5 at hf
  rcases j_ite hf with hf | hf
  ·
    obtain ⟨rfl, rfl⟩ := j_inj2 hf
    rfl
  ·
    obtain ⟨v1, e2, hf⟩ := j_bind hf
    obtain ⟨u3, e4, hf⟩ := j_bind hf
    obtain ⟨rfl, rfl⟩ := j_inj2 hf
    rfl
theorem q_X12_power {a0 : Nat} {a1 : Int32} {a2 : Int32} {h : JH} {q : Int32 × JH} (hf : f_X12_power a0 a1 a2 h = some q) : q.2.2.1 = h.2.1 := by
  unfold f_X12_power at hf
  obtain ⟨q6, e7, hf⟩ := j_bind hf
  refine Eq.trans ?_ ((jloop_eq (fun _ _ _ _ q => q_X12_power_L5 q) e7))
  obtain rfl := j_inj hf
  rfl
theorem q_X12_inverse_L14 {a0 : Nat} {z : (Int64 × Int64 × Int32)} {h : JH} {r : (Int64 × Int64 × Int32) ⊕ (Int64 × Int64 × Int32)} {h1 : JH} (hf : f_X12_inverse_L14 a0 z h = some (r, h1)) : h1.2.1 = h.2.1 := by
  unfold f_X12_inverse_L14 at hf
  rcases j_ite hf with hf | hf
  ·
    obtain ⟨rfl, rfl⟩ := j_inj2 hf
    rfl
  ·
    rcases j_ite hf with hf | hf
    ·
      obtain ⟨v7, e8, hf⟩ := j_bind hf
      obtain ⟨u9, e10, hf⟩ := j_bind hf
      obtain ⟨v11, e12, hf⟩ := j_bind hf
      obtain ⟨u13, e14, hf⟩ := j_bind hf
      obtain ⟨rfl, rfl⟩ := j_inj2 hf
      rfl
    ·
      obtain ⟨v3, e4, hf⟩ := j_bind hf
      obtain ⟨u5, e6, hf⟩ := j_bind hf
      obtain ⟨rfl, rfl⟩ := j_inj2 hf
      rfl
theorem q_X12_inverse {a0 : Nat} {a1 : Int32} {h : JH} {q : Int32 × JH} (hf : f_X12_inverse a0 a1 h = some q) : q.2.2.1 = h.2.1 := by
  unfold f_X12_inverse at hf
  obtain ⟨v1, e2, hf⟩ := j_bind hf
  obtain ⟨q17, e18, hf⟩ := j_bind hf
  refine Eq.trans ?_ ((jloop_eq (fun _ _ _ _ q => q_X12_inverse_L14 q) e18))
  obtain rfl := j_inj hf
  rfl
theorem q_X12_isPrime_L4 {a0 : Int32} {z : (Int32 × Int32)} {h : JH} {r : (Int32 × Int32) ⊕ (Int32 × Int32)} {h1 : JH} (hf : f_X12_isPrime_L4 a0 z h = some (r, h1)) : h1.2.1 = h.2.1 := by
  unfold f_X12_isPrime_L4 at hf
  rcases j_ite hf with hf | hf
  ·
    obtain ⟨rfl, rfl⟩ := j_inj2 hf
    rfl
  ·
    rcases j_ite hf with hf | hf
    ·
      obtain ⟨rfl, rfl⟩ := j_inj2 hf
      rfl
    ·
      obtain ⟨u1, e2, hf⟩ := j_bind hf
      rcases j_ite hf with hf | hf
      ·
        obtain ⟨rfl, rfl⟩ := j_inj2 hf
        rfl
      ·
        obtain ⟨rfl, rfl⟩ := j_inj2 hf
        rfl
theorem q_X12_isPrime {a0 : Int32} {h : JH} {q : Int32 × JH} (hf : f_X12_isPrime a0 h = some q) : q.2.2.1 = h.2.1 := by
  unfold f_X12_isPrime at hf
  obtain ⟨q6, e7, hf⟩ := j_bind hf
  refine Eq.trans ?_ ((jloop_eq (fun _ _ _ _ q => q_X12_isPrime_L4 q) e7))
  obtain ⟨u8, e9, hf⟩ := j_bind hf
  obtain rfl := j_inj hf
  rfl
theorem q_X12_copies_L3 {a0 : Nat} {a1 : Int32} {a2 : Nat} {a3 : Int32} {z : Int32} {h : JH} {r : Int32 ⊕ Int32} {h1 : JH} (hf : f_X12_copies_L3 a0 a1 a2 a3 z h = some (r, h1)) : h1.2.1 = h.2.1 := by
  unfold f_X12_copies_L3 at hf
  rcases j_ite hf with hf | hf
  ·
    obtain ⟨rfl, rfl⟩ := j_inj2 hf
    rfl
  ·
    obtain ⟨v1, e2, hf⟩ := j_bind hf
    obtain ⟨h3, e4, hf⟩ := j_bind hf
    refine Eq.trans ?_ (jsI_n e4)
    obtain ⟨rfl, rfl⟩ := j_inj2 hf
    rfl
theorem q_X12_copies {a0 : Nat} {a1 : Int32} {a2 : Nat} {a3 : Int32} {h : JH} {q : Unit × JH} (hf : f_X12_copies a0 a1 a2 a3 h = some q) : q.2.2.1 = h.2.1 := by
  unfold f_X12_copies at hf
  obtain ⟨q6, e7, hf⟩ := j_bind hf
  refine Eq.trans ?_ ((jloop_eq (fun _ _ _ _ q => q_X12_copies_L3 q) e7))
  obtain rfl := j_inj hf
  rfl
theorem q_X12_multiplies_L17 {a0 : Nat} {a1 : Nat} {a2 : Int32} {a3 : Nat} {a4 : Int32} {a5 : Nat} {a6 : Int32} {z : (Int64 × Int32)} {h : JH} {r : (Int64 × Int32) ⊕ (Int64 × Int32)} {h1 : JH} (hf : f_X12_multiplies_L17 a0 a1 a2 a3 a4 a5 a6 z h = some (r, h1)) : h1.2.1 = h.2.1 := by
  unfold f_X12_multiplies_L17 at hf
  rcases j_ite hf with hf | hf
  ·
    obtain ⟨rfl, rfl⟩ := j_inj2 hf
    rfl
  ·
    obtain ⟨v1, e2, hf⟩ := j_bind hf
    obtain ⟨v3, e4, hf⟩ := j_bind hf
    obtain ⟨rfl, rfl⟩ := j_inj2 hf
    rfl
theorem q_X12_multiplies_L3 {a0 : Nat} {a1 : Nat} {a2 : Int32} {a3 : Nat} {a4 : Int32} {a5 : Nat} {z : Int32} {h : JH} {r : Int32 ⊕ Int32} {h1 : JH} (hf : f_X12_multiplies_L3 a0 a1 a2 a3 a4 a5 z h = some (r, h1)) : h1.2.1 = h.2.1 := by
  unfold f_X12_multiplies_L3 at hf
  rcases j_ite hf with hf | hf
  ·
    obtain ⟨rfl, rfl⟩ := j_inj2 hf
    rfl
  ·
    obtain ⟨q1, e2, hf⟩ := j_bind hf
    refine Eq.trans ?_ ((jloop_eq (fun _ _ _ _ q => q_X12_multiplies_L17 q) e2))
    obtain ⟨u7, e8, hf⟩ := j_bind hf
    obtain ⟨q3, e4, hf⟩ := j_bind hf
    refine Eq.trans ?_ ((q_X12_left e4))
    obtain ⟨h5, e6, hf⟩ := j_bind hf
    refine Eq.trans ?_ (jsI_n e6)
    obtain ⟨rfl, rfl⟩ := j_inj2 hf
    rfl
theorem q_X12_multiplies {a0 : Nat} {a1 : Nat} {a2 : Int32} {a3 : Nat} {a4 : Int32} {a5 : Nat} {h : JH} {q : Unit × JH} (hf : f_X12_multiplies a0 a1 a2 a3 a4 a5 h = some q) : q.2.2.1 = h.2.1 := by
  unfold f_X12_multiplies at hf
  obtain ⟨q10, e11, hf⟩ := j_bind hf
  refine Eq.trans ?_ ((jloop_eq (fun _ _ _ _ q => q_X12_multiplies_L3 q) e11))
  obtain rfl := j_inj hf
  rfl
theorem q_X12_laysBasic_L17 {a0 : Nat} {a1 : Int32} {z : (Int64 × Int64 × Int32)} {h : JH} {r : (Int64 × Int64 × Int32) ⊕ (Int64 × Int64 × Int32)} {h1 : JH} (hf : f_X12_laysBasic_L17 a0 a1 z h = some (r, h1)) : h1.2.1 = h.2.1 := by
  unfold f_X12_laysBasic_L17 at hf
  rcases j_ite hf with hf | hf
  ·
    obtain ⟨rfl, rfl⟩ := j_inj2 hf
    rfl
  ·
    obtain ⟨u1, e2, hf⟩ := j_bind hf
    rcases j_ite hf with hf | hf
    ·
      obtain ⟨v3, e4, hf⟩ := j_bind hf
      obtain ⟨u5, e6, hf⟩ := j_bind hf
      obtain ⟨u17, e18, hf⟩ := j_bind hf
      obtain ⟨q7, e8, hf⟩ := j_bind hf
      refine Eq.trans ?_ ((q_X12_power e8))
      obtain ⟨v9, e10, hf⟩ := j_bind hf
      obtain ⟨u11, e12, hf⟩ := j_bind hf
      obtain ⟨u15, e16, hf⟩ := j_bind hf
      obtain ⟨q13, e14, hf⟩ := j_bind hf
      refine Eq.trans ?_ ((q_X12_power e14))
      obtain ⟨rfl, rfl⟩ := j_inj2 hf
      rfl
    ·
      obtain ⟨rfl, rfl⟩ := j_inj2 hf
      rfl
theorem q_X12_laysBasic_L2 {a0 : Nat} {z : Int32} {h : JH} {r : Int32 ⊕ Int32} {h1 : JH} (hf : f_X12_laysBasic_L2 a0 z h = some (r, h1)) : h1.2.1 = h.2.1 := by
  unfold f_X12_laysBasic_L2 at hf
  rcases j_ite hf with hf | hf
  ·
    obtain ⟨rfl, rfl⟩ := j_inj2 hf
    rfl
  ·
    obtain ⟨q1, e2, hf⟩ := j_bind hf
    refine Eq.trans ?_ ((jloop_eq (fun _ _ _ _ q => q_X12_laysBasic_L17 q) e2))
    obtain ⟨v3, e4, hf⟩ := j_bind hf
    rcases j_ite hf with hf | hf
    ·
      obtain ⟨h21, e22, hf⟩ := j_bind hf
      refine Eq.trans ?_ (jsI_n e22)
      obtain ⟨v23, e24, hf⟩ := j_bind hf
      rcases j_ite hf with hf | hf
      ·
        obtain ⟨h31, e32, hf⟩ := j_bind hf
        refine Eq.trans ?_ (jsI_n e32)
        obtain ⟨rfl, rfl⟩ := j_inj2 hf
        rfl
      ·
        obtain ⟨u29, e30, hf⟩ := j_bind hf
        obtain ⟨q25, e26, hf⟩ := j_bind hf
        refine Eq.trans ?_ ((q_X12_left e26))
        obtain ⟨h27, e28, hf⟩ := j_bind hf
        refine Eq.trans ?_ (jsI_n e28)
        obtain ⟨rfl, rfl⟩ := j_inj2 hf
        rfl
    ·
      obtain ⟨u19, e20, hf⟩ := j_bind hf
      obtain ⟨q5, e6, hf⟩ := j_bind hf
      refine Eq.trans ?_ ((q_X12_left e6))
      obtain ⟨h7, e8, hf⟩ := j_bind hf
      refine Eq.trans ?_ (jsI_n e8)
      obtain ⟨v9, e10, hf⟩ := j_bind hf
      rcases j_ite hf with hf | hf
      ·
        obtain ⟨h17, e18, hf⟩ := j_bind hf
        refine Eq.trans ?_ (jsI_n e18)
        obtain ⟨rfl, rfl⟩ := j_inj2 hf
        rfl
      ·
        obtain ⟨u15, e16, hf⟩ := j_bind hf
        obtain ⟨q11, e12, hf⟩ := j_bind hf
        refine Eq.trans ?_ ((q_X12_left e12))
        obtain ⟨h13, e14, hf⟩ := j_bind hf
        refine Eq.trans ?_ (jsI_n e14)
        obtain ⟨rfl, rfl⟩ := j_inj2 hf
        rfl
theorem q_X12_laysBasic_L191 {a0 : Nat} {a1 : Int32} {z : Int32} {h : JH} {r : Int32 ⊕ Int32} {h1 : JH} (hf : f_X12_laysBasic_L191 a0 a1 z h = some (r, h1)) : h1.2.1 = h.2.1 := by
  unfold f_X12_laysBasic_L191 at hf
  rcases j_ite hf with hf | hf
  ·
    obtain ⟨rfl, rfl⟩ := j_inj2 hf
    rfl
  ·
    obtain ⟨v67, e68, hf⟩ := j_bind hf
    obtain ⟨v69, e70, hf⟩ := j_bind hf
    obtain ⟨v71, e72, hf⟩ := j_bind hf
    obtain ⟨v73, e74, hf⟩ := j_bind hf
    obtain ⟨v75, e76, hf⟩ := j_bind hf
    obtain ⟨u81, e82, hf⟩ := j_bind hf
    obtain ⟨q77, e78, hf⟩ := j_bind hf
    refine Eq.trans ?_ ((q_X12_left e78))
    obtain ⟨h79, e80, hf⟩ := j_bind hf
    refine Eq.trans ?_ (jsI_n e80)
    obtain ⟨rfl, rfl⟩ := j_inj2 hf
    rfl
theorem q_X12_laysBasic {a0 : Nat} {h : JH} {q : Unit × JH} (hf : f_X12_laysBasic a0 h = some q) : q.2.2.1 = h.2.1 := by
  unfold f_X12_laysBasic at hf
  obtain ⟨q37, e38, hf⟩ := j_bind hf
  refine Eq.trans ?_ ((jloop_eq (fun _ _ _ _ q => q_X12_laysBasic_L2 q) e38))
  obtain ⟨v39, e40, hf⟩ := j_bind hf
  obtain ⟨v41, e42, hf⟩ := j_bind hf
  obtain ⟨v43, e44, hf⟩ := j_bind hf
  obtain ⟨u94, e95, hf⟩ := j_bind hf
  obtain ⟨q45, e46, hf⟩ := j_bind hf
  refine Eq.trans ?_ ((q_X12_multiplies e46))
  obtain ⟨v47, e48, hf⟩ := j_bind hf
  obtain ⟨v49, e50, hf⟩ := j_bind hf
  obtain ⟨v51, e52, hf⟩ := j_bind hf
  obtain ⟨u92, e93, hf⟩ := j_bind hf
  obtain ⟨q53, e54, hf⟩ := j_bind hf
  refine Eq.trans ?_ ((q_X12_multiplies e54))
  obtain ⟨v55, e56, hf⟩ := j_bind hf
  obtain ⟨v57, e58, hf⟩ := j_bind hf
  obtain ⟨v59, e60, hf⟩ := j_bind hf
  obtain ⟨u90, e91, hf⟩ := j_bind hf
  obtain ⟨q61, e62, hf⟩ := j_bind hf
  refine Eq.trans ?_ ((q_X12_multiplies e62))
  obtain ⟨u88, e89, hf⟩ := j_bind hf
  obtain ⟨q63, e64, hf⟩ := j_bind hf
  refine Eq.trans ?_ ((q_X12_left e64))
  obtain ⟨u86, e87, hf⟩ := j_bind hf
  obtain ⟨q65, e66, hf⟩ := j_bind hf
  refine Eq.trans ?_ ((q_X12_inverse e66))
  obtain ⟨q84, e85, hf⟩ := j_bind hf
  refine Eq.trans ?_ ((jloop_eq (fun _ _ _ _ q => q_X12_laysBasic_L191 q) e85))
  obtain rfl := j_inj hf
  rfl
theorem q_X12_longOf {a0 : Int32} {h : JH} {q : Int32 × JH} (hf : f_X12_longOf a0 h = some q) : q.2.2.1 = h.2.1 := by
  unfold f_X12_longOf at hf
  rcases j_ite hf with hf | hf
  ·
    obtain rfl := j_inj hf
    rfl
  ·
    obtain rfl := j_inj hf
    rfl
theorem q_X12_isWeight {a0 : Int32} {h : JH} {q : Int32 × JH} (hf : f_X12_isWeight a0 h = some q) : q.2.2.1 = h.2.1 := by
  unfold f_X12_isWeight at hf
  obtain ⟨q1, e2, hf⟩ := j_bind hf
  refine Eq.trans ?_ ((q_X12_within e2))
  rcases j_ite hf with hf | hf
  ·
    obtain rfl := j_inj hf
    rfl
  ·
    rcases j_ite hf with hf | hf
    ·
      obtain rfl := j_inj hf
      rfl
    ·
      obtain rfl := j_inj hf
      rfl
theorem q_X12_laysRows_L52 {a0 : Nat} {a1 : Int32} {a2 : Int32} {a4 : Int32} {a5 : Int32} {z : Int32} {h : JH} {r : Int32 ⊕ Int32} {h1 : JH} (hf : f_X12_laysRows_L52 a0 a1 a2 a4 a5 z h = some (r, h1)) : h1.2.1 = h.2.1 := by
  unfold f_X12_laysRows_L52 at hf
  rcases j_ite hf with hf | hf
  ·
    obtain ⟨rfl, rfl⟩ := j_inj2 hf
    rfl
  ·
    obtain ⟨v7, e8, hf⟩ := j_bind hf
    rcases j_ite hf with hf | hf
    ·
      obtain ⟨h11, e12, hf⟩ := j_bind hf
      refine Eq.trans ?_ (jsI_n e12)
      obtain ⟨rfl, rfl⟩ := j_inj2 hf
      rfl
    ·
      obtain ⟨h9, e10, hf⟩ := j_bind hf
      refine Eq.trans ?_ (jsI_n e10)
      obtain ⟨rfl, rfl⟩ := j_inj2 hf
      rfl
theorem q_X12_laysRows_L86 {a0 : Nat} {a1 : Int32} {a2 : Int32} {a4 : Int32} {a5 : Int32} {z : Int32} {h : JH} {r : Int32 ⊕ Int32} {h1 : JH} (hf : f_X12_laysRows_L86 a0 a1 a2 a4 a5 z h = some (r, h1)) : h1.2.1 = h.2.1 := by
  unfold f_X12_laysRows_L86 at hf
  rcases j_ite hf with hf | hf
  ·
    obtain ⟨rfl, rfl⟩ := j_inj2 hf
    rfl
  ·
    obtain ⟨v17, e18, hf⟩ := j_bind hf
    rcases j_ite hf with hf | hf
    ·
      rcases j_ite hf with hf | hf
      ·
        obtain ⟨v19, e20, hf⟩ := j_bind hf
        obtain ⟨v21, e22, hf⟩ := j_bind hf
        obtain ⟨u31, e32, hf⟩ := j_bind hf
        obtain ⟨q23, e24, hf⟩ := j_bind hf
        refine Eq.trans ?_ ((q_X12_multiplies e24))
        obtain ⟨v25, e26, hf⟩ := j_bind hf
        obtain ⟨v27, e28, hf⟩ := j_bind hf
        obtain ⟨q29, e30, hf⟩ := j_bind hf
        refine Eq.trans ?_ ((q_X12_copies e30))
        obtain ⟨rfl, rfl⟩ := j_inj2 hf
        rfl
      ·
        obtain ⟨v33, e34, hf⟩ := j_bind hf
        obtain ⟨v35, e36, hf⟩ := j_bind hf
        obtain ⟨u45, e46, hf⟩ := j_bind hf
        obtain ⟨q37, e38, hf⟩ := j_bind hf
        refine Eq.trans ?_ ((q_X12_multiplies e38))
        obtain ⟨v39, e40, hf⟩ := j_bind hf
        obtain ⟨v41, e42, hf⟩ := j_bind hf
        obtain ⟨q43, e44, hf⟩ := j_bind hf
        refine Eq.trans ?_ ((q_X12_copies e44))
        obtain ⟨rfl, rfl⟩ := j_inj2 hf
        rfl
    ·
      obtain ⟨v47, e48, hf⟩ := j_bind hf
      obtain ⟨v49, e50, hf⟩ := j_bind hf
      obtain ⟨u59, e60, hf⟩ := j_bind hf
      obtain ⟨q51, e52, hf⟩ := j_bind hf
      refine Eq.trans ?_ ((q_X12_multiplies e52))
      obtain ⟨v53, e54, hf⟩ := j_bind hf
      obtain ⟨v55, e56, hf⟩ := j_bind hf
      obtain ⟨q57, e58, hf⟩ := j_bind hf
      refine Eq.trans ?_ ((q_X12_copies e58))
      obtain ⟨rfl, rfl⟩ := j_inj2 hf
      rfl
theorem q_X12_laysRows_L16 {a0 : Nat} {a1 : Int32} {z : Int32} {h : JH} {r : Int32 ⊕ Int32} {h1 : JH} (hf : f_X12_laysRows_L16 a0 a1 z h = some (r, h1)) : h1.2.1 = h.2.1 := by
  unfold f_X12_laysRows_L16 at hf
  obtain ⟨q5, e6, hf⟩ := j_bind hf
  refine Eq.trans ?_ ((q_X12_longOf e6))
  rcases j_ite hf with hf | hf
  ·
    obtain ⟨rfl, rfl⟩ := j_inj2 hf
    rfl
  ·
    obtain ⟨q7, e8, hf⟩ := j_bind hf
    refine Eq.trans ?_ ((jloop_eq (fun _ _ _ _ q => q_X12_laysRows_L52 q) e8))
    obtain ⟨q9, e10, hf⟩ := j_bind hf
    refine Eq.trans ?_ ((jloop_eq (fun _ _ _ _ q => q_X12_laysRows_L86 q) e10))
    obtain ⟨v11, e12, hf⟩ := j_bind hf
    obtain ⟨v13, e14, hf⟩ := j_bind hf
    obtain ⟨q15, e16, hf⟩ := j_bind hf
    refine Eq.trans ?_ ((q_X12_copies e16))
    obtain ⟨rfl, rfl⟩ := j_inj2 hf
    rfl
theorem q_X12_laysRows {a0 : Nat} {a1 : Int32} {h : JH} {q : Unit × JH} (hf : f_X12_laysRows a0 a1 h = some q) : q.2.2.1 = h.2.1 := by
  unfold f_X12_laysRows at hf
  obtain ⟨v1, e2, hf⟩ := j_bind hf
  rcases j_ite hf with hf | hf
  ·
    obtain rfl := j_inj hf
    rfl
  ·
    obtain ⟨h3, e4, hf⟩ := j_bind hf
    refine Eq.trans ?_ (jput_n e4)
    obtain ⟨q18, e19, hf⟩ := j_bind hf
    refine Eq.trans ?_ ((jloop_eq (fun _ _ _ _ q => q_X12_laysRows_L16 q) e19))
    obtain rfl := j_inj hf
    rfl
theorem q_X12_builds_L7 {a0 : Nat} {a1 : Int32} {z : Int32} {h : JH} {r : Int32 ⊕ Int32} {h1 : JH} (hf : f_X12_builds_L7 a0 a1 z h = some (r, h1)) : h1.2.1 = h.2.1 := by
  unfold f_X12_builds_L7 at hf
  rcases j_ite hf with hf | hf
  ·
    obtain ⟨rfl, rfl⟩ := j_inj2 hf
    rfl
  ·
    obtain ⟨v3, e4, hf⟩ := j_bind hf
    obtain ⟨h5, e6, hf⟩ := j_bind hf
    refine Eq.trans ?_ (jsI_n e6)
    obtain ⟨rfl, rfl⟩ := j_inj2 hf
    rfl
theorem q_X12_builds_L59 {a0 : Nat} {a1 : Int32} {a2 : Int32} {a3 : Int32} {z : Int32} {h : JH} {r : Int32 ⊕ Int32} {h1 : JH} (hf : f_X12_builds_L59 a0 a1 a2 a3 z h = some (r, h1)) : h1.2.1 = h.2.1 := by
  unfold f_X12_builds_L59 at hf
  rcases j_ite hf with hf | hf
  ·
    obtain ⟨rfl, rfl⟩ := j_inj2 hf
    rfl
  ·
    obtain ⟨v22, e23, hf⟩ := j_bind hf
    obtain ⟨v24, e25, hf⟩ := j_bind hf
    obtain ⟨v26, e27, hf⟩ := j_bind hf
    obtain ⟨v28, e29, hf⟩ := j_bind hf
    obtain ⟨v30, e31, hf⟩ := j_bind hf
    obtain ⟨u36, e37, hf⟩ := j_bind hf
    obtain ⟨q32, e33, hf⟩ := j_bind hf
    refine Eq.trans ?_ ((q_X12_left e33))
    obtain ⟨h34, e35, hf⟩ := j_bind hf
    refine Eq.trans ?_ (jsI_n e35)
    obtain ⟨rfl, rfl⟩ := j_inj2 hf
    rfl
theorem q_X12_builds_L29 {a0 : Nat} {a1 : Int32} {z : Int32} {h : JH} {r : Int32 ⊕ Int32} {h1 : JH} (hf : f_X12_builds_L29 a0 a1 z h = some (r, h1)) : h1.2.1 = h.2.1 := by
  unfold f_X12_builds_L29 at hf
  obtain ⟨q10, e11, hf⟩ := j_bind hf
  refine Eq.trans ?_ ((q_X12_longOf e11))
  rcases j_ite hf with hf | hf
  ·
    obtain ⟨rfl, rfl⟩ := j_inj2 hf
    rfl
  ·
    obtain ⟨v12, e13, hf⟩ := j_bind hf
    obtain ⟨v14, e15, hf⟩ := j_bind hf
    obtain ⟨v16, e17, hf⟩ := j_bind hf
    obtain ⟨v18, e19, hf⟩ := j_bind hf
    obtain ⟨u24, e25, hf⟩ := j_bind hf
    obtain ⟨q20, e21, hf⟩ := j_bind hf
    refine Eq.trans ?_ ((q_X12_left e21))
    obtain ⟨q22, e23, hf⟩ := j_bind hf
    refine Eq.trans ?_ ((jloop_eq (fun _ _ _ _ q => q_X12_builds_L59 q) e23))
    obtain ⟨rfl, rfl⟩ := j_inj2 hf
    rfl
theorem q_X12_builds {a0 : Nat} {a1 : Int32} {h : JH} {q : Unit × JH} (hf : f_X12_builds a0 a1 h = some q) : q.2.2.1 = h.2.1 := by
  unfold f_X12_builds at hf
  obtain ⟨u29, e30, hf⟩ := j_bind hf
  obtain ⟨q1, e2, hf⟩ := j_bind hf
  refine Eq.trans ?_ ((q_X12_laysRows e2))
  obtain ⟨q8, e9, hf⟩ := j_bind hf
  refine Eq.trans ?_ ((jloop_eq (fun _ _ _ _ q => q_X12_builds_L7 q) e9))
  obtain ⟨q27, e28, hf⟩ := j_bind hf
  refine Eq.trans ?_ ((jloop_eq (fun _ _ _ _ q => q_X12_builds_L29 q) e28))
  obtain rfl := j_inj hf
  rfl
theorem q_X12_heckeAt_L13 {a0 : Nat} {a1 : Nat} {a2 : Int32} {a3 : Int32} {a4 : Int32} {a5 : Int32} {z : (Int64 × Int32)} {h : JH} {r : (Int64 × Int32) ⊕ (Int64 × Int32)} {h1 : JH} (hf : f_X12_heckeAt_L13 a0 a1 a2 a3 a4 a5 z h = some (r, h1)) : h1.2.1 = h.2.1 := by
  unfold f_X12_heckeAt_L13 at hf
  rcases j_ite hf with hf | hf
  ·
    obtain ⟨rfl, rfl⟩ := j_inj2 hf
    rfl
  ·
    obtain ⟨u1, e2, hf⟩ := j_bind hf
    rcases j_ite hf with hf | hf
    ·
      obtain ⟨u3, e4, hf⟩ := j_bind hf
      rcases j_ite hf with hf | hf
      ·
        obtain ⟨u11, e12, hf⟩ := j_bind hf
        obtain ⟨q5, e6, hf⟩ := j_bind hf
        refine Eq.trans ?_ ((q_X12_power e6))
        obtain ⟨u7, e8, hf⟩ := j_bind hf
        obtain ⟨v9, e10, hf⟩ := j_bind hf
        obtain ⟨rfl, rfl⟩ := j_inj2 hf
        rfl
      ·
        obtain ⟨rfl, rfl⟩ := j_inj2 hf
        rfl
    ·
      obtain ⟨rfl, rfl⟩ := j_inj2 hf
      rfl
theorem q_X12_heckeAt {a0 : Nat} {a1 : Nat} {a2 : Int32} {a3 : Int32} {a4 : Int32} {a5 : Int32} {h : JH} {q : Int32 × JH} (hf : f_X12_heckeAt a0 a1 a2 a3 a4 a5 h = some q) : q.2.2.1 = h.2.1 := by
  unfold f_X12_heckeAt at hf
  rcases j_ite hf with hf | hf
  ·
    obtain ⟨q16, e17, hf⟩ := j_bind hf
    refine Eq.trans ?_ ((jloop_eq (fun _ _ _ _ q => q_X12_heckeAt_L13 q) e17))
    obtain ⟨u20, e21, hf⟩ := j_bind hf
    obtain ⟨q18, e19, hf⟩ := j_bind hf
    refine Eq.trans ?_ ((q_X12_left e19))
    obtain rfl := j_inj hf
    rfl
  ·
    obtain rfl := j_inj hf
    rfl
theorem q_X12_puts_L3 {a0 : Nat} {a1 : Int32} {z : Int32} {h : JH} {r : Int32 ⊕ Int32} {h1 : JH} (hf : f_X12_puts_L3 a0 a1 z h = some (r, h1)) : h1.2.1 = h.2.1 := by
  unfold f_X12_puts_L3 at hf
  rcases j_ite hf with hf | hf
  ·
    obtain ⟨rfl, rfl⟩ := j_inj2 hf
    rfl
  ·
    obtain ⟨v1, e2, hf⟩ := j_bind hf
    obtain ⟨v3, e4, hf⟩ := j_bind hf
    obtain ⟨h5, e6, hf⟩ := j_bind hf
    refine Eq.trans ?_ (jsB_n e6)
    obtain ⟨v7, e8, hf⟩ := j_bind hf
    obtain ⟨h9, e10, hf⟩ := j_bind hf
    refine Eq.trans ?_ (jput_n e10)
    obtain ⟨rfl, rfl⟩ := j_inj2 hf
    rfl
theorem q_X12_puts {a0 : Nat} {a1 : Int32} {h : JH} {q : Unit × JH} (hf : f_X12_puts a0 a1 h = some q) : q.2.2.1 = h.2.1 := by
  unfold f_X12_puts at hf
  obtain ⟨q12, e13, hf⟩ := j_bind hf
  refine Eq.trans ?_ ((jloop_eq (fun _ _ _ _ q => q_X12_puts_L3 q) e13))
  obtain rfl := j_inj hf
  rfl
theorem q_X12_feed {a0 : Nat} {a1 : Int32} {a2 : Int32} {a3 : Int32} {a4 : Int32} {a5 : Int32} {h : JH} {q : Int32 × JH} (hf : f_X12_feed a0 a1 a2 a3 a4 a5 h = some q) : q.2.2.1 = h.2.1 := by
  unfold f_X12_feed at hf
  obtain ⟨h1, e2, hf⟩ := j_bind hf
  refine Eq.trans ?_ (jput_n e2)
  obtain ⟨v3, e4, hf⟩ := j_bind hf
  rcases j_ite hf with hf | hf
  ·
    obtain ⟨u25, e26, hf⟩ := j_bind hf
    obtain ⟨q5, e6, hf⟩ := j_bind hf
    refine Eq.trans ?_ ((q_X12_puts e6))
    obtain ⟨u23, e24, hf⟩ := j_bind hf
    obtain ⟨q7, e8, hf⟩ := j_bind hf
    refine Eq.trans ?_ ((q_X12_puts e8))
    obtain ⟨u21, e22, hf⟩ := j_bind hf
    obtain ⟨q9, e10, hf⟩ := j_bind hf
    refine Eq.trans ?_ ((q_X12_puts e10))
    obtain ⟨u19, e20, hf⟩ := j_bind hf
    obtain ⟨q11, e12, hf⟩ := j_bind hf
    refine Eq.trans ?_ ((q_X12_puts e12))
    obtain ⟨u17, e18, hf⟩ := j_bind hf
    obtain ⟨q13, e14, hf⟩ := j_bind hf
    refine Eq.trans ?_ ((q_X12_puts e14))
    obtain ⟨v15, e16, hf⟩ := j_bind hf
    obtain rfl := j_inj hf
    rfl
  ·
    obtain rfl := j_inj hf
    rfl
theorem q_X12_byteAt {a0 : Nat} {a1 : Int32} {h : JH} {q : Int32 × JH} (hf : f_X12_byteAt a0 a1 h = some q) : q.2.2.1 = h.2.1 := by
  unfold f_X12_byteAt at hf
  obtain ⟨v1, e2, hf⟩ := j_bind hf
  rcases j_ite hf with hf | hf
  ·
    obtain rfl := j_inj hf
    rfl
  ·
    obtain ⟨v3, e4, hf⟩ := j_bind hf
    obtain ⟨v5, e6, hf⟩ := j_bind hf
    obtain rfl := j_inj hf
    rfl
theorem q_X12_isSign {a0 : Int32} {h : JH} {q : Int32 × JH} (hf : f_X12_isSign a0 h = some q) : q.2.2.1 = h.2.1 := by
  unfold f_X12_isSign at hf
  rcases j_ite hf with hf | hf
  ·
    obtain rfl := j_inj hf
    rfl
  ·
    rcases j_ite hf with hf | hf
    ·
      obtain rfl := j_inj hf
      rfl
    ·
      rcases j_ite hf with hf | hf
      ·
        obtain rfl := j_inj hf
        rfl
      ·
        rcases j_ite hf with hf | hf
        ·
          obtain rfl := j_inj hf
          rfl
        ·
          rcases j_ite hf with hf | hf
          ·
            obtain rfl := j_inj hf
            rfl
          ·
            rcases j_ite hf with hf | hf
            ·
              obtain rfl := j_inj hf
              rfl
            ·
              rcases j_ite hf with hf | hf
              ·
                obtain rfl := j_inj hf
                rfl
              ·
                obtain rfl := j_inj hf
                rfl
theorem q_X12_go_L0 {a0 : Nat} {z : Unit} {h : JH} {r : Unit ⊕ Unit} {h1 : JH} (hf : f_X12_go_L0 a0 z h = some (r, h1)) : h1.2.1 = h.2.1 := by
  unfold f_X12_go_L0 at hf
  obtain ⟨v1, e2, hf⟩ := j_bind hf
  obtain ⟨u19, e20, hf⟩ := j_bind hf
  obtain ⟨q3, e4, hf⟩ := j_bind hf
  refine Eq.trans ?_ ((q_X12_byteAt e4))
  rcases j_ite hf with hf | hf
  ·
    obtain ⟨v5, e6, hf⟩ := j_bind hf
    obtain ⟨h7, e8, hf⟩ := j_bind hf
    refine Eq.trans ?_ (jput_n e8)
    obtain ⟨rfl, rfl⟩ := j_inj2 hf
    rfl
  ·
    obtain ⟨v9, e10, hf⟩ := j_bind hf
    obtain ⟨u17, e18, hf⟩ := j_bind hf
    obtain ⟨q11, e12, hf⟩ := j_bind hf
    refine Eq.trans ?_ ((q_X12_byteAt e12))
    rcases j_ite hf with hf | hf
    ·
      obtain ⟨v13, e14, hf⟩ := j_bind hf
      obtain ⟨h15, e16, hf⟩ := j_bind hf
      refine Eq.trans ?_ (jput_n e16)
      obtain ⟨rfl, rfl⟩ := j_inj2 hf
      rfl
    ·
      obtain ⟨rfl, rfl⟩ := j_inj2 hf
      rfl
theorem q_X12_go_L134 {a0 : Nat} {z : Unit} {h : JH} {r : Unit ⊕ Unit} {h1 : JH} (hf : f_X12_go_L134 a0 z h = some (r, h1)) : h1.2.1 = h.2.1 := by
  unfold f_X12_go_L134 at hf
  obtain ⟨v51, e52, hf⟩ := j_bind hf
  obtain ⟨u81, e82, hf⟩ := j_bind hf
  obtain ⟨q53, e54, hf⟩ := j_bind hf
  refine Eq.trans ?_ ((q_X12_byteAt e54))
  obtain ⟨q55, e56, hf⟩ := j_bind hf
  refine Eq.trans ?_ ((q_X12_within e56))
  rcases j_ite hf with hf | hf
  ·
    obtain ⟨rfl, rfl⟩ := j_inj2 hf
    rfl
  ·
    obtain ⟨v57, e58, hf⟩ := j_bind hf
    obtain ⟨v59, e60, hf⟩ := j_bind hf
    rcases j_ite hf with hf | hf
    ·
      obtain ⟨h61, e62, hf⟩ := j_bind hf
      refine Eq.trans ?_ (jput_n e62)
      obtain ⟨v63, e64, hf⟩ := j_bind hf
      obtain ⟨h65, e66, hf⟩ := j_bind hf
      refine Eq.trans ?_ (jput_n e66)
      obtain ⟨rfl, rfl⟩ := j_inj2 hf
      rfl
    ·
      obtain ⟨v67, e68, hf⟩ := j_bind hf
      obtain ⟨v69, e70, hf⟩ := j_bind hf
      obtain ⟨u79, e80, hf⟩ := j_bind hf
      obtain ⟨q71, e72, hf⟩ := j_bind hf
      refine Eq.trans ?_ ((q_X12_byteAt e72))
      obtain ⟨h73, e74, hf⟩ := j_bind hf
      refine Eq.trans ?_ (jput_n e74)
      obtain ⟨v75, e76, hf⟩ := j_bind hf
      obtain ⟨h77, e78, hf⟩ := j_bind hf
      refine Eq.trans ?_ (jput_n e78)
      obtain ⟨rfl, rfl⟩ := j_inj2 hf
      rfl
theorem q_X12_go_L79 {a0 : Nat} {z : Unit} {h : JH} {r : Unit ⊕ Unit} {h1 : JH} (hf : f_X12_go_L79 a0 z h = some (r, h1)) : h1.2.1 = h.2.1 := by
  unfold f_X12_go_L79 at hf
  obtain ⟨v89, e90, hf⟩ := j_bind hf
  obtain ⟨u99, e100, hf⟩ := j_bind hf
  obtain ⟨q91, e92, hf⟩ := j_bind hf
  refine Eq.trans ?_ ((q_X12_byteAt e92))
  obtain ⟨q93, e94, hf⟩ := j_bind hf
  refine Eq.trans ?_ ((q_X12_within e94))
  rcases j_ite hf with hf | hf
  ·
    obtain ⟨rfl, rfl⟩ := j_inj2 hf
    rfl
  ·
    obtain ⟨v95, e96, hf⟩ := j_bind hf
    obtain ⟨h97, e98, hf⟩ := j_bind hf
    refine Eq.trans ?_ (jput_n e98)
    obtain ⟨rfl, rfl⟩ := j_inj2 hf
    rfl
theorem q_X12_go {a0 : Nat} {h : JH} {q : Unit × JH} (hf : f_X12_go a0 h = some q) : q.2.2.1 = h.2.1 := by
  unfold f_X12_go at hf
  obtain ⟨q23, e24, hf⟩ := j_bind hf
  refine Eq.trans ?_ ((jloop_eq (fun _ _ _ _ q => q_X12_go_L0 q) e24))
  obtain ⟨v25, e26, hf⟩ := j_bind hf
  obtain ⟨h27, e28, hf⟩ := j_bind hf
  refine Eq.trans ?_ (jput_n e28)
  obtain ⟨v29, e30, hf⟩ := j_bind hf
  obtain ⟨u108, e109, hf⟩ := j_bind hf
  obtain ⟨q31, e32, hf⟩ := j_bind hf
  refine Eq.trans ?_ ((q_X12_byteAt e32))
  rcases j_ite hf with hf | hf
  ·
    obtain ⟨q33, e34, hf⟩ := j_bind hf
    refine Eq.trans ?_ ((q_X12_within e34))
    rcases j_ite hf with hf | hf
    ·
      obtain ⟨q35, e36, hf⟩ := j_bind hf
      refine Eq.trans ?_ ((q_X12_within e36))
      rcases j_ite hf with hf | hf
      ·
        obtain ⟨v37, e38, hf⟩ := j_bind hf
        obtain ⟨h39, e40, hf⟩ := j_bind hf
        refine Eq.trans ?_ (jput_n e40)
        obtain ⟨h41, e42, hf⟩ := j_bind hf
        refine Eq.trans ?_ (jput_n e42)
        obtain ⟨q43, e44, hf⟩ := j_bind hf
        refine Eq.trans ?_ ((q_X12_isSign e44))
        rcases j_ite hf with hf | hf
        ·
          obtain ⟨h45, e46, hf⟩ := j_bind hf
          refine Eq.trans ?_ (jput_n e46)
          obtain rfl := j_inj hf
          rfl
        ·
          obtain ⟨h47, e48, hf⟩ := j_bind hf
          refine Eq.trans ?_ (jput_n e48)
          obtain rfl := j_inj hf
          rfl
      ·
        obtain ⟨h49, e50, hf⟩ := j_bind hf
        refine Eq.trans ?_ (jput_n e50)
        obtain ⟨q85, e86, hf⟩ := j_bind hf
        refine Eq.trans ?_ ((jloop_eq (fun _ _ _ _ q => q_X12_go_L134 q) e86))
        obtain ⟨h87, e88, hf⟩ := j_bind hf
        refine Eq.trans ?_ (jput_n e88)
        obtain rfl := j_inj hf
        rfl
    ·
      obtain ⟨q102, e103, hf⟩ := j_bind hf
      refine Eq.trans ?_ ((jloop_eq (fun _ _ _ _ q => q_X12_go_L79 q) e103))
      obtain ⟨h104, e105, hf⟩ := j_bind hf
      refine Eq.trans ?_ (jput_n e105)
      obtain rfl := j_inj hf
      rfl
  ·
    obtain ⟨h106, e107, hf⟩ := j_bind hf
    refine Eq.trans ?_ (jput_n e107)
    obtain rfl := j_inj hf
    rfl
theorem q_X12_badAt {a0 : Nat} {a1 : Int32} {a2 : Int32} {h : JH} {q : Int32 × JH} (hf : f_X12_badAt a0 a1 a2 h = some q) : q.2.2.1 = h.2.1 := by
  unfold f_X12_badAt at hf
  obtain ⟨v1, e2, hf⟩ := j_bind hf
  rcases j_ite hf with hf | hf
  ·
    obtain ⟨h7, e8, hf⟩ := j_bind hf
    refine Eq.trans ?_ (jput_n e8)
    obtain rfl := j_inj hf
    rfl
  ·
    obtain ⟨v3, e4, hf⟩ := j_bind hf
    obtain ⟨h5, e6, hf⟩ := j_bind hf
    refine Eq.trans ?_ (jput_n e6)
    obtain rfl := j_inj hf
    rfl
theorem q_X12_bad {a0 : Nat} {a1 : Int32} {h : JH} {q : Int32 × JH} (hf : f_X12_bad a0 a1 h = some q) : q.2.2.1 = h.2.1 := by
  unfold f_X12_bad at hf
  obtain ⟨v1, e2, hf⟩ := j_bind hf
  obtain ⟨u7, e8, hf⟩ := j_bind hf
  obtain ⟨q3, e4, hf⟩ := j_bind hf
  refine Eq.trans ?_ ((q_X12_badAt e4))
  obtain ⟨u5, e6, hf⟩ := j_bind hf
  obtain rfl := j_inj hf
  rfl
theorem q_X12_is {a0 : Nat} {a1 : Int32} {h : JH} {q : Int32 × JH} (hf : f_X12_is a0 a1 h = some q) : q.2.2.1 = h.2.1 := by
  unfold f_X12_is at hf
  obtain ⟨v1, e2, hf⟩ := j_bind hf
  rcases j_ite hf with hf | hf
  ·
    obtain ⟨v3, e4, hf⟩ := j_bind hf
    rcases j_ite hf with hf | hf
    ·
      obtain rfl := j_inj hf
      rfl
    ·
      obtain rfl := j_inj hf
      rfl
  ·
    obtain rfl := j_inj hf
    rfl
theorem q_X12_sign {a0 : Nat} {a1 : Int32} {h : JH} {q : Int32 × JH} (hf : f_X12_sign a0 a1 h = some q) : q.2.2.1 = h.2.1 := by
  unfold f_X12_sign at hf
  obtain ⟨u13, e14, hf⟩ := j_bind hf
  obtain ⟨q1, e2, hf⟩ := j_bind hf
  refine Eq.trans ?_ ((q_X12_is e2))
  rcases j_ite hf with hf | hf
  ·
    obtain ⟨u11, e12, hf⟩ := j_bind hf
    obtain ⟨q7, e8, hf⟩ := j_bind hf
    refine Eq.trans ?_ ((q_X12_bad e8))
    obtain ⟨u9, e10, hf⟩ := j_bind hf
    obtain rfl := j_inj hf
    rfl
  ·
    obtain ⟨u5, e6, hf⟩ := j_bind hf
    obtain ⟨q3, e4, hf⟩ := j_bind hf
    refine Eq.trans ?_ ((q_X12_go e4))
    obtain rfl := j_inj hf
    rfl
theorem q_X12_isWord_J162 {b0 : Int32} {h : JH} {q : Int32 × JH} (hf : f_X12_isWord_J162 b0 h = some q) : q.2.2.1 = h.2.1 := by
  unfold f_X12_isWord_J162 at hf
  obtain ⟨u7, e8, hf⟩ := j_bind hf
  obtain rfl := j_inj hf
  rfl
theorem q_X12_isWord_J161  {h : JH} {q : Int32 × JH} (hf : f_X12_isWord_J161  h = some q) : q.2.2.1 = h.2.1 := by
  unfold f_X12_isWord_J161 at hf
  exact q_X12_isWord_J162 hf
theorem q_X12_isWord_J145 {a5 : Int32} {a6 : Int32} {b0 : Int32} {h : JH} {q : Int32 × JH} (hf : f_X12_isWord_J145 a5 a6 b0 h = some q) : q.2.2.1 = h.2.1 := by
  unfold f_X12_isWord_J145 at hf
  rcases j_ite hf with hf | hf
  ·
    rcases j_ite hf with hf | hf
    ·
      exact q_X12_isWord_J161 hf
    ·
      exact q_X12_isWord_J162 hf
  ·
    exact q_X12_isWord_J161 hf
theorem q_X12_isWord_J120 {a0 : Nat} {a4 : Int32} {a5 : Int32} {a6 : Int32} {b0 : Int32} {h : JH} {q : Int32 × JH} (hf : f_X12_isWord_J120 a0 a4 a5 a6 b0 h = some q) : q.2.2.1 = h.2.1 := by
  unfold f_X12_isWord_J120 at hf
  rcases j_ite hf with hf | hf
  ·
    rcases j_ite hf with hf | hf
    ·
      exact q_X12_isWord_J145 hf
    ·
      obtain ⟨v11, e12, hf⟩ := j_bind hf
      obtain ⟨u15, e16, hf⟩ := j_bind hf
      obtain ⟨q13, e14, hf⟩ := j_bind hf
      refine Eq.trans ?_ ((q_X12_byteAt e14))
      exact q_X12_isWord_J145 hf
  ·
    exact q_X12_isWord_J161 hf
theorem q_X12_isWord_J93 {a0 : Nat} {a4 : Int32} {a5 : Int32} {a6 : Int32} {b0 : Int32} {h : JH} {q : Int32 × JH} (hf : f_X12_isWord_J93 a0 a4 a5 a6 b0 h = some q) : q.2.2.1 = h.2.1 := by
  unfold f_X12_isWord_J93 at hf
  rcases j_ite hf with hf | hf
  ·
    exact q_X12_isWord_J161 hf
  ·
    rcases j_ite hf with hf | hf
    ·
      exact q_X12_isWord_J120 hf
    ·
      obtain ⟨v19, e20, hf⟩ := j_bind hf
      obtain ⟨u23, e24, hf⟩ := j_bind hf
      obtain ⟨q21, e22, hf⟩ := j_bind hf
      refine Eq.trans ?_ ((q_X12_byteAt e22))
      exact q_X12_isWord_J120 hf
theorem q_X12_isWord_J92 {a0 : Nat} {a4 : Int32} {a5 : Int32} {a6 : Int32} {h : JH} {q : Int32 × JH} (hf : f_X12_isWord_J92 a0 a4 a5 a6 h = some q) : q.2.2.1 = h.2.1 := by
  unfold f_X12_isWord_J92 at hf
  exact q_X12_isWord_J93 hf
theorem q_X12_isWord_J84 {a0 : Nat} {a3 : Int32} {a4 : Int32} {a5 : Int32} {a6 : Int32} {b0 : Int32} {h : JH} {q : Int32 × JH} (hf : f_X12_isWord_J84 a0 a3 a4 a5 a6 b0 h = some q) : q.2.2.1 = h.2.1 := by
  unfold f_X12_isWord_J84 at hf
  rcases j_ite hf with hf | hf
  ·
    exact q_X12_isWord_J93 hf
  ·
    exact q_X12_isWord_J92 hf
theorem q_X12_isWord_J60 {a0 : Nat} {a2 : Int32} {a3 : Int32} {a4 : Int32} {a5 : Int32} {a6 : Int32} {b0 : Int32} {h : JH} {q : Int32 × JH} (hf : f_X12_isWord_J60 a0 a2 a3 a4 a5 a6 b0 h = some q) : q.2.2.1 = h.2.1 := by
  unfold f_X12_isWord_J60 at hf
  rcases j_ite hf with hf | hf
  ·
    rcases j_ite hf with hf | hf
    ·
      exact q_X12_isWord_J84 hf
    ·
      obtain ⟨v28, e29, hf⟩ := j_bind hf
      obtain ⟨u32, e33, hf⟩ := j_bind hf
      obtain ⟨q30, e31, hf⟩ := j_bind hf
      refine Eq.trans ?_ ((q_X12_byteAt e31))
      exact q_X12_isWord_J84 hf
  ·
    exact q_X12_isWord_J92 hf
theorem q_X12_isWord_J36 {a0 : Nat} {a1 : Int32} {a2 : Int32} {a3 : Int32} {a4 : Int32} {a5 : Int32} {a6 : Int32} {b0 : Int32} {h : JH} {q : Int32 × JH} (hf : f_X12_isWord_J36 a0 a1 a2 a3 a4 a5 a6 b0 h = some q) : q.2.2.1 = h.2.1 := by
  unfold f_X12_isWord_J36 at hf
  rcases j_ite hf with hf | hf
  ·
    rcases j_ite hf with hf | hf
    ·
      exact q_X12_isWord_J60 hf
    ·
      obtain ⟨v36, e37, hf⟩ := j_bind hf
      obtain ⟨u40, e41, hf⟩ := j_bind hf
      obtain ⟨q38, e39, hf⟩ := j_bind hf
      refine Eq.trans ?_ ((q_X12_byteAt e39))
      exact q_X12_isWord_J60 hf
  ·
    exact q_X12_isWord_J92 hf
theorem q_X12_isWord {a0 : Nat} {a1 : Int32} {a2 : Int32} {a3 : Int32} {a4 : Int32} {a5 : Int32} {h : JH} {q : Int32 × JH} (hf : f_X12_isWord a0 a1 a2 a3 a4 a5 h = some q) : q.2.2.1 = h.2.1 := by
  unfold f_X12_isWord at hf
  obtain ⟨v1, e2, hf⟩ := j_bind hf
  obtain ⟨v3, e4, hf⟩ := j_bind hf
  obtain ⟨v5, e6, hf⟩ := j_bind hf
  rcases j_ite hf with hf | hf
  ·
    rcases j_ite hf with hf | hf
    ·
      exact q_X12_isWord_J36 hf
    ·
      obtain ⟨v44, e45, hf⟩ := j_bind hf
      obtain ⟨u48, e49, hf⟩ := j_bind hf
      obtain ⟨q46, e47, hf⟩ := j_bind hf
      refine Eq.trans ?_ ((q_X12_byteAt e47))
      exact q_X12_isWord_J36 hf
  ·
    exact q_X12_isWord_J92 hf
theorem q_X12_isOwn {a0 : Nat} {h : JH} {q : Int32 × JH} (hf : f_X12_isOwn a0 h = some q) : q.2.2.1 = h.2.1 := by
  unfold f_X12_isOwn at hf
  obtain ⟨u23, e24, hf⟩ := j_bind hf
  obtain ⟨q1, e2, hf⟩ := j_bind hf
  refine Eq.trans ?_ ((q_X12_isWord e2))
  rcases j_ite hf with hf | hf
  ·
    obtain ⟨u21, e22, hf⟩ := j_bind hf
    obtain ⟨q3, e4, hf⟩ := j_bind hf
    refine Eq.trans ?_ ((q_X12_isWord e4))
    rcases j_ite hf with hf | hf
    ·
      obtain ⟨u19, e20, hf⟩ := j_bind hf
      obtain ⟨q5, e6, hf⟩ := j_bind hf
      refine Eq.trans ?_ ((q_X12_isWord e6))
      rcases j_ite hf with hf | hf
      ·
        obtain ⟨u17, e18, hf⟩ := j_bind hf
        obtain ⟨q7, e8, hf⟩ := j_bind hf
        refine Eq.trans ?_ ((q_X12_isWord e8))
        rcases j_ite hf with hf | hf
        ·
          obtain ⟨u15, e16, hf⟩ := j_bind hf
          obtain ⟨q9, e10, hf⟩ := j_bind hf
          refine Eq.trans ?_ ((q_X12_isWord e10))
          rcases j_ite hf with hf | hf
          ·
            obtain ⟨u13, e14, hf⟩ := j_bind hf
            obtain ⟨q11, e12, hf⟩ := j_bind hf
            refine Eq.trans ?_ ((q_X12_isWord e12))
            rcases j_ite hf with hf | hf
            ·
              obtain rfl := j_inj hf
              rfl
            ·
              obtain rfl := j_inj hf
              rfl
          ·
            obtain rfl := j_inj hf
            rfl
        ·
          obtain rfl := j_inj hf
          rfl
      ·
        obtain rfl := j_inj hf
        rfl
    ·
      obtain rfl := j_inj hf
      rfl
  ·
    obtain rfl := j_inj hf
    rfl
theorem q_X12_named_L36 {a0 : Nat} {a1 : Int32} {z : (Int32 × Int32)} {h : JH} {r : (Int32 × Int32) ⊕ (Int32 × Int32)} {h1 : JH} (hf : f_X12_named_L36 a0 a1 z h = some (r, h1)) : h1.2.1 = h.2.1 := by
  unfold f_X12_named_L36 at hf
  obtain ⟨v11, e12, hf⟩ := j_bind hf
  obtain ⟨v13, e14, hf⟩ := j_bind hf
  rcases j_ite hf with hf | hf
  ·
    obtain ⟨rfl, rfl⟩ := j_inj2 hf
    rfl
  ·
    rcases j_ite hf with hf | hf
    ·
      obtain ⟨rfl, rfl⟩ := j_inj2 hf
      rfl
    ·
      obtain ⟨v15, e16, hf⟩ := j_bind hf
      obtain ⟨v17, e18, hf⟩ := j_bind hf
      obtain ⟨v19, e20, hf⟩ := j_bind hf
      obtain ⟨u23, e24, hf⟩ := j_bind hf
      obtain ⟨q21, e22, hf⟩ := j_bind hf
      refine Eq.trans ?_ ((q_X12_byteAt e22))
      rcases j_ite hf with hf | hf
      ·
        obtain ⟨rfl, rfl⟩ := j_inj2 hf
        rfl
      ·
        obtain ⟨rfl, rfl⟩ := j_inj2 hf
        rfl
theorem q_X12_named_L2 {a0 : Nat} {z : Int32} {h : JH} {r : Int32 ⊕ (Int32 ⊕ Int32)} {h1 : JH} (hf : f_X12_named_L2 a0 z h = some (r, h1)) : h1.2.1 = h.2.1 := by
  unfold f_X12_named_L2 at hf
  obtain ⟨v1, e2, hf⟩ := j_bind hf
  rcases j_ite hf with hf | hf
  ·
    obtain ⟨rfl, rfl⟩ := j_inj2 hf
    rfl
  ·
    obtain ⟨v3, e4, hf⟩ := j_bind hf
    obtain ⟨v5, e6, hf⟩ := j_bind hf
    obtain ⟨v7, e8, hf⟩ := j_bind hf
    obtain ⟨v9, e10, hf⟩ := j_bind hf
    rcases j_ite hf with hf | hf
    ·
      obtain ⟨q30, e31, hf⟩ := j_bind hf
      refine Eq.trans ?_ ((jloop_eq (fun _ _ _ _ q => q_X12_named_L36 q) e31))
      rcases j_ite hf with hf | hf
      ·
        obtain ⟨rfl, rfl⟩ := j_inj2 hf
        rfl
      ·
        obtain ⟨rfl, rfl⟩ := j_inj2 hf
        rfl
    ·
      obtain ⟨q28, e29, hf⟩ := j_bind hf
      refine Eq.trans ?_ ((jloop_eq (fun _ _ _ _ q => q_X12_named_L36 q) e29))
      rcases j_ite hf with hf | hf
      ·
        obtain ⟨rfl, rfl⟩ := j_inj2 hf
        rfl
      ·
        obtain ⟨rfl, rfl⟩ := j_inj2 hf
        rfl
theorem q_X12_named {a0 : Nat} {h : JH} {q : Int32 × JH} (hf : f_X12_named a0 h = some q) : q.2.2.1 = h.2.1 := by
  unfold f_X12_named at hf
  obtain ⟨q36, e37, hf⟩ := j_bind hf
  refine Eq.trans ?_ ((jloop_eq (fun _ _ _ _ q => q_X12_named_L2 q) e37))
  cases y40 : q36.1 with
  | inl r39 =>
    rw [y40] at hf
    have hf := j_eliml hf
    obtain rfl := j_inj hf
    rfl
  | inr t38 =>
    rw [y40] at hf
    have hf := j_elimr hf
    obtain rfl := j_inj hf
    rfl
theorem q_X12_isName {a0 : Nat} {h : JH} {q : Int32 × JH} (hf : f_X12_isName a0 h = some q) : q.2.2.1 = h.2.1 := by
  unfold f_X12_isName at hf
  obtain ⟨v1, e2, hf⟩ := j_bind hf
  rcases j_ite hf with hf | hf
  ·
    obtain ⟨v3, e4, hf⟩ := j_bind hf
    obtain ⟨v5, e6, hf⟩ := j_bind hf
    rcases j_ite hf with hf | hf
    ·
      obtain rfl := j_inj hf
      rfl
    ·
      obtain ⟨u9, e10, hf⟩ := j_bind hf
      obtain ⟨q7, e8, hf⟩ := j_bind hf
      refine Eq.trans ?_ ((q_X12_isOwn e8))
      rcases j_ite hf with hf | hf
      ·
        obtain rfl := j_inj hf
        rfl
      ·
        obtain rfl := j_inj hf
        rfl
  ·
    obtain rfl := j_inj hf
    rfl
theorem q_X12_pushes {a0 : Nat} {a1 : Int32} {a2 : Nat} {a3 : Int32} {h : JH} {q : Unit × JH} (hf : f_X12_pushes a0 a1 a2 a3 h = some q) : q.2.2.1 = h.2.1 := by
  unfold f_X12_pushes at hf
  obtain ⟨v1, e2, hf⟩ := j_bind hf
  obtain ⟨v3, e4, hf⟩ := j_bind hf
  obtain ⟨h5, e6, hf⟩ := j_bind hf
  refine Eq.trans ?_ (jsI_n e6)
  obtain ⟨v7, e8, hf⟩ := j_bind hf
  obtain ⟨v9, e10, hf⟩ := j_bind hf
  obtain ⟨q11, e12, hf⟩ := j_bind hf
  refine Eq.trans ?_ ((q_X12_copies e12))
  obtain ⟨v13, e14, hf⟩ := j_bind hf
  obtain ⟨h15, e16, hf⟩ := j_bind hf
  refine Eq.trans ?_ (jput_n e16)
  obtain rfl := j_inj hf
  rfl
theorem q_X12_pushesNumber_L2 {a0 : Nat} {a1 : Int32} {z : Int32} {h : JH} {r : Int32 ⊕ Int32} {h1 : JH} (hf : f_X12_pushesNumber_L2 a0 a1 z h = some (r, h1)) : h1.2.1 = h.2.1 := by
  unfold f_X12_pushesNumber_L2 at hf
  rcases j_ite hf with hf | hf
  ·
    obtain ⟨rfl, rfl⟩ := j_inj2 hf
    rfl
  ·
    obtain ⟨v1, e2, hf⟩ := j_bind hf
    rcases j_ite hf with hf | hf
    ·
      obtain ⟨u9, e10, hf⟩ := j_bind hf
      obtain ⟨q5, e6, hf⟩ := j_bind hf
      refine Eq.trans ?_ ((q_X12_left e6))
      obtain ⟨h7, e8, hf⟩ := j_bind hf
      refine Eq.trans ?_ (jsI_n e8)
      obtain ⟨rfl, rfl⟩ := j_inj2 hf
      rfl
    ·
      obtain ⟨h3, e4, hf⟩ := j_bind hf
      refine Eq.trans ?_ (jsI_n e4)
      obtain ⟨rfl, rfl⟩ := j_inj2 hf
      rfl
theorem q_X12_pushesNumber {a0 : Nat} {a1 : Int32} {h : JH} {q : Unit × JH} (hf : f_X12_pushesNumber a0 a1 h = some q) : q.2.2.1 = h.2.1 := by
  unfold f_X12_pushesNumber at hf
  obtain ⟨q13, e14, hf⟩ := j_bind hf
  refine Eq.trans ?_ ((jloop_eq (fun _ _ _ _ q => q_X12_pushesNumber_L2 q) e14))
  obtain ⟨v15, e16, hf⟩ := j_bind hf
  obtain ⟨u19, e20, hf⟩ := j_bind hf
  obtain ⟨q17, e18, hf⟩ := j_bind hf
  refine Eq.trans ?_ ((q_X12_pushes e18))
  obtain rfl := j_inj hf
  rfl
theorem q_X12_atom {rec : Nat → JH → Option (Int32 × JH)} (hrecq : ∀ {x0 : Nat} {hh : JH} {qq : Int32 × JH}, rec x0 hh = some qq → qq.2.2.1 = hh.2.1) {a0 : Nat} {h : JH} {q : Int32 × JH} (hf : f_X12_atom rec a0 h = some q) : q.2.2.1 = h.2.1 := by
  unfold f_X12_atom at hf
  obtain ⟨v1, e2, hf⟩ := j_bind hf
  rcases j_ite hf with hf | hf
  ·
    obtain ⟨v127, e128, hf⟩ := j_bind hf
    obtain ⟨v129, e130, hf⟩ := j_bind hf
    rcases j_ite hf with hf | hf
    ·
      obtain ⟨v131, e132, hf⟩ := j_bind hf
      obtain ⟨u139, e140, hf⟩ := j_bind hf
      obtain ⟨q133, e134, hf⟩ := j_bind hf
      refine Eq.trans ?_ ((q_X12_pushesNumber e134))
      obtain ⟨u137, e138, hf⟩ := j_bind hf
      obtain ⟨q135, e136, hf⟩ := j_bind hf
      refine Eq.trans ?_ ((q_X12_go e136))
      obtain rfl := j_inj hf
      rfl
    ·
      obtain ⟨u145, e146, hf⟩ := j_bind hf
      obtain ⟨q141, e142, hf⟩ := j_bind hf
      refine Eq.trans ?_ ((q_X12_bad e142))
      obtain ⟨u143, e144, hf⟩ := j_bind hf
      obtain rfl := j_inj hf
      rfl
  ·
    obtain ⟨u125, e126, hf⟩ := j_bind hf
    obtain ⟨q3, e4, hf⟩ := j_bind hf
    refine Eq.trans ?_ ((q_X12_is e4))
    rcases j_ite hf with hf | hf
    ·
      obtain ⟨u87, e88, hf⟩ := j_bind hf
      obtain ⟨q5, e6, hf⟩ := j_bind hf
      refine Eq.trans ?_ ((q_X12_isWord e6))
      rcases j_ite hf with hf | hf
      ·
        obtain ⟨u75, e76, hf⟩ := j_bind hf
        obtain ⟨q7, e8, hf⟩ := j_bind hf
        refine Eq.trans ?_ ((q_X12_isWord e8))
        rcases j_ite hf with hf | hf
        ·
          obtain ⟨u63, e64, hf⟩ := j_bind hf
          obtain ⟨q9, e10, hf⟩ := j_bind hf
          refine Eq.trans ?_ ((q_X12_isWord e10))
          rcases j_ite hf with hf | hf
          ·
            obtain ⟨u51, e52, hf⟩ := j_bind hf
            obtain ⟨q11, e12, hf⟩ := j_bind hf
            refine Eq.trans ?_ ((q_X12_isName e12))
            rcases j_ite hf with hf | hf
            ·
              obtain ⟨u49, e50, hf⟩ := j_bind hf
              obtain ⟨q45, e46, hf⟩ := j_bind hf
              refine Eq.trans ?_ ((q_X12_bad e46))
              obtain ⟨u47, e48, hf⟩ := j_bind hf
              obtain rfl := j_inj hf
              rfl
            ·
              obtain ⟨u43, e44, hf⟩ := j_bind hf
              obtain ⟨q13, e14, hf⟩ := j_bind hf
              refine Eq.trans ?_ ((q_X12_named e14))
              rcases j_ite hf with hf | hf
              ·
                obtain ⟨u41, e42, hf⟩ := j_bind hf
                obtain ⟨q37, e38, hf⟩ := j_bind hf
                refine Eq.trans ?_ ((q_X12_bad e38))
                obtain ⟨u39, e40, hf⟩ := j_bind hf
                obtain rfl := j_inj hf
                rfl
              ·
                obtain ⟨v15, e16, hf⟩ := j_bind hf
                obtain ⟨u35, e36, hf⟩ := j_bind hf
                obtain ⟨q17, e18, hf⟩ := j_bind hf
                refine Eq.trans ?_ ((q_X12_named e18))
                obtain ⟨v19, e20, hf⟩ := j_bind hf
                obtain ⟨v21, e22, hf⟩ := j_bind hf
                obtain ⟨u33, e34, hf⟩ := j_bind hf
                obtain ⟨q23, e24, hf⟩ := j_bind hf
                refine Eq.trans ?_ ((q_X12_named e24))
                obtain ⟨u31, e32, hf⟩ := j_bind hf
                obtain ⟨q25, e26, hf⟩ := j_bind hf
                refine Eq.trans ?_ ((q_X12_pushes e26))
                obtain ⟨u29, e30, hf⟩ := j_bind hf
                obtain ⟨q27, e28, hf⟩ := j_bind hf
                refine Eq.trans ?_ ((q_X12_go e28))
                obtain rfl := j_inj hf
                rfl
          ·
            obtain ⟨v53, e54, hf⟩ := j_bind hf
            obtain ⟨u61, e62, hf⟩ := j_bind hf
            obtain ⟨q55, e56, hf⟩ := j_bind hf
            refine Eq.trans ?_ ((q_X12_pushes e56))
            obtain ⟨u59, e60, hf⟩ := j_bind hf
            obtain ⟨q57, e58, hf⟩ := j_bind hf
            refine Eq.trans ?_ ((q_X12_go e58))
            obtain rfl := j_inj hf
            rfl
        ·
          obtain ⟨v65, e66, hf⟩ := j_bind hf
          obtain ⟨u73, e74, hf⟩ := j_bind hf
          obtain ⟨q67, e68, hf⟩ := j_bind hf
          refine Eq.trans ?_ ((q_X12_pushes e68))
          obtain ⟨u71, e72, hf⟩ := j_bind hf
          obtain ⟨q69, e70, hf⟩ := j_bind hf
          refine Eq.trans ?_ ((q_X12_go e70))
          obtain rfl := j_inj hf
          rfl
      ·
        obtain ⟨v77, e78, hf⟩ := j_bind hf
        obtain ⟨u85, e86, hf⟩ := j_bind hf
        obtain ⟨q79, e80, hf⟩ := j_bind hf
        refine Eq.trans ?_ ((q_X12_pushes e80))
        obtain ⟨u83, e84, hf⟩ := j_bind hf
        obtain ⟨q81, e82, hf⟩ := j_bind hf
        refine Eq.trans ?_ ((q_X12_go e82))
        obtain rfl := j_inj hf
        rfl
    ·
      obtain ⟨v89, e90, hf⟩ := j_bind hf
      rcases j_ite hf with hf | hf
      ·
        obtain ⟨u123, e124, hf⟩ := j_bind hf
        obtain ⟨q119, e120, hf⟩ := j_bind hf
        refine Eq.trans ?_ ((q_X12_bad e120))
        obtain ⟨u121, e122, hf⟩ := j_bind hf
        obtain rfl := j_inj hf
        rfl
      ·
        obtain ⟨v91, e92, hf⟩ := j_bind hf
        obtain ⟨h93, e94, hf⟩ := j_bind hf
        refine Eq.trans ?_ (jput_n e94)
        obtain ⟨u117, e118, hf⟩ := j_bind hf
        obtain ⟨q95, e96, hf⟩ := j_bind hf
        refine Eq.trans ?_ ((q_X12_go e96))
        obtain ⟨u115, e116, hf⟩ := j_bind hf
        obtain ⟨q97, e98, hf⟩ := j_bind hf
        refine Eq.trans ?_ ((hrecq e98))
        rcases j_ite hf with hf | hf
        ·
          obtain ⟨v99, e100, hf⟩ := j_bind hf
          obtain ⟨h101, e102, hf⟩ := j_bind hf
          refine Eq.trans ?_ (jput_n e102)
          obtain rfl := j_inj hf
          rfl
        ·
          obtain ⟨u113, e114, hf⟩ := j_bind hf
          obtain ⟨q103, e104, hf⟩ := j_bind hf
          refine Eq.trans ?_ ((q_X12_sign e104))
          rcases j_ite hf with hf | hf
          ·
            obtain ⟨v105, e106, hf⟩ := j_bind hf
            obtain ⟨h107, e108, hf⟩ := j_bind hf
            refine Eq.trans ?_ (jput_n e108)
            obtain rfl := j_inj hf
            rfl
          ·
            obtain ⟨v109, e110, hf⟩ := j_bind hf
            obtain ⟨h111, e112, hf⟩ := j_bind hf
            refine Eq.trans ?_ (jput_n e112)
            obtain rfl := j_inj hf
            rfl
theorem q_X12_joins {a0 : Nat} {h : JH} {q : Unit × JH} (hf : f_X12_joins a0 h = some q) : q.2.2.1 = h.2.1 := by
  unfold f_X12_joins at hf
  obtain ⟨v1, e2, hf⟩ := j_bind hf
  obtain ⟨v3, e4, hf⟩ := j_bind hf
  obtain ⟨v5, e6, hf⟩ := j_bind hf
  obtain ⟨v7, e8, hf⟩ := j_bind hf
  obtain ⟨v9, e10, hf⟩ := j_bind hf
  obtain ⟨u39, e40, hf⟩ := j_bind hf
  obtain ⟨q11, e12, hf⟩ := j_bind hf
  refine Eq.trans ?_ ((q_X12_multiplies e12))
  obtain ⟨v13, e14, hf⟩ := j_bind hf
  obtain ⟨v15, e16, hf⟩ := j_bind hf
  obtain ⟨v17, e18, hf⟩ := j_bind hf
  obtain ⟨q19, e20, hf⟩ := j_bind hf
  refine Eq.trans ?_ ((q_X12_copies e20))
  obtain ⟨v21, e22, hf⟩ := j_bind hf
  obtain ⟨v23, e24, hf⟩ := j_bind hf
  obtain ⟨v25, e26, hf⟩ := j_bind hf
  obtain ⟨v27, e28, hf⟩ := j_bind hf
  obtain ⟨v29, e30, hf⟩ := j_bind hf
  obtain ⟨v31, e32, hf⟩ := j_bind hf
  obtain ⟨h33, e34, hf⟩ := j_bind hf
  refine Eq.trans ?_ (jsI_n e34)
  obtain ⟨v35, e36, hf⟩ := j_bind hf
  obtain ⟨h37, e38, hf⟩ := j_bind hf
  refine Eq.trans ?_ (jput_n e38)
  obtain rfl := j_inj hf
  rfl
theorem q_X12_power__L108 {rec : Nat → JH → Option (Int32 × JH)} (hrecq : ∀ {x0 : Nat} {hh : JH} {qq : Int32 × JH}, rec x0 hh = some qq → qq.2.2.1 = hh.2.1) {a0 : Nat} {a2 : Int32} {a3 : Int32} {z : Int32} {h : JH} {r : Int32 ⊕ Int32} {h1 : JH} (hf : f_X12_power__L108 rec a0 a2 a3 z h = some (r, h1)) : h1.2.1 = h.2.1 := by
  unfold f_X12_power__L108 at hf
  rcases j_ite hf with hf | hf
  ·
    obtain ⟨rfl, rfl⟩ := j_inj2 hf
    rfl
  ·
    obtain ⟨v27, e28, hf⟩ := j_bind hf
    obtain ⟨v29, e30, hf⟩ := j_bind hf
    obtain ⟨v31, e32, hf⟩ := j_bind hf
    obtain ⟨v33, e34, hf⟩ := j_bind hf
    obtain ⟨u45, e46, hf⟩ := j_bind hf
    obtain ⟨q35, e36, hf⟩ := j_bind hf
    refine Eq.trans ?_ ((q_X12_multiplies e36))
    obtain ⟨v37, e38, hf⟩ := j_bind hf
    obtain ⟨v39, e40, hf⟩ := j_bind hf
    obtain ⟨v41, e42, hf⟩ := j_bind hf
    obtain ⟨q43, e44, hf⟩ := j_bind hf
    refine Eq.trans ?_ ((q_X12_copies e44))
    obtain ⟨rfl, rfl⟩ := j_inj2 hf
    rfl
theorem q_X12_power_ {rec : Nat → JH → Option (Int32 × JH)} (hrecq : ∀ {x0 : Nat} {hh : JH} {qq : Int32 × JH}, rec x0 hh = some qq → qq.2.2.1 = hh.2.1) {a0 : Nat} {h : JH} {q : Int32 × JH} (hf : f_X12_power_ rec a0 h = some q) : q.2.2.1 = h.2.1 := by
  unfold f_X12_power_ at hf
  obtain ⟨v1, e2, hf⟩ := j_bind hf
  obtain ⟨u94, e95, hf⟩ := j_bind hf
  obtain ⟨q3, e4, hf⟩ := j_bind hf
  refine Eq.trans ?_ ((q_X12_atom hrecq e4))
  rcases j_ite hf with hf | hf
  ·
    obtain rfl := j_inj hf
    rfl
  ·
    obtain ⟨u92, e93, hf⟩ := j_bind hf
    obtain ⟨q5, e6, hf⟩ := j_bind hf
    refine Eq.trans ?_ ((q_X12_is e6))
    rcases j_ite hf with hf | hf
    ·
      obtain rfl := j_inj hf
      rfl
    ·
      obtain ⟨u90, e91, hf⟩ := j_bind hf
      obtain ⟨q7, e8, hf⟩ := j_bind hf
      refine Eq.trans ?_ ((q_X12_go e8))
      obtain ⟨v9, e10, hf⟩ := j_bind hf
      rcases j_ite hf with hf | hf
      ·
        obtain ⟨v11, e12, hf⟩ := j_bind hf
        rcases j_ite hf with hf | hf
        ·
          obtain ⟨v13, e14, hf⟩ := j_bind hf
          obtain ⟨u76, e77, hf⟩ := j_bind hf
          obtain ⟨q15, e16, hf⟩ := j_bind hf
          refine Eq.trans ?_ ((q_X12_go e16))
          obtain ⟨v17, e18, hf⟩ := j_bind hf
          obtain ⟨v19, e20, hf⟩ := j_bind hf
          obtain ⟨v21, e22, hf⟩ := j_bind hf
          rcases j_ite hf with hf | hf
          ·
            obtain ⟨v23, e24, hf⟩ := j_bind hf
            obtain ⟨u68, e69, hf⟩ := j_bind hf
            obtain ⟨q25, e26, hf⟩ := j_bind hf
            refine Eq.trans ?_ ((q_X12_pushesNumber e26))
            obtain ⟨q48, e49, hf⟩ := j_bind hf
            refine Eq.trans ?_ ((jloop_eq (fun _ _ _ _ q => q_X12_power__L108 hrecq q) e49))
            obtain ⟨v50, e51, hf⟩ := j_bind hf
            obtain ⟨v52, e53, hf⟩ := j_bind hf
            obtain ⟨v54, e55, hf⟩ := j_bind hf
            obtain ⟨q56, e57, hf⟩ := j_bind hf
            refine Eq.trans ?_ ((q_X12_copies e57))
            obtain ⟨v58, e59, hf⟩ := j_bind hf
            obtain ⟨v60, e61, hf⟩ := j_bind hf
            obtain ⟨h62, e63, hf⟩ := j_bind hf
            refine Eq.trans ?_ (jsI_n e63)
            obtain ⟨v64, e65, hf⟩ := j_bind hf
            obtain ⟨h66, e67, hf⟩ := j_bind hf
            refine Eq.trans ?_ (jput_n e67)
            obtain rfl := j_inj hf
            rfl
          ·
            obtain ⟨u74, e75, hf⟩ := j_bind hf
            obtain ⟨q70, e71, hf⟩ := j_bind hf
            refine Eq.trans ?_ ((q_X12_badAt e71))
            obtain ⟨u72, e73, hf⟩ := j_bind hf
            obtain rfl := j_inj hf
            rfl
        ·
          obtain ⟨u82, e83, hf⟩ := j_bind hf
          obtain ⟨q78, e79, hf⟩ := j_bind hf
          refine Eq.trans ?_ ((q_X12_bad e79))
          obtain ⟨u80, e81, hf⟩ := j_bind hf
          obtain rfl := j_inj hf
          rfl
      ·
        obtain ⟨u88, e89, hf⟩ := j_bind hf
        obtain ⟨q84, e85, hf⟩ := j_bind hf
        refine Eq.trans ?_ ((q_X12_bad e85))
        obtain ⟨u86, e87, hf⟩ := j_bind hf
        obtain rfl := j_inj hf
        rfl
theorem q_X12_product_L5 {rec : Nat → JH → Option (Int32 × JH)} (hrecq : ∀ {x0 : Nat} {hh : JH} {qq : Int32 × JH}, rec x0 hh = some qq → qq.2.2.1 = hh.2.1) {a0 : Nat} {z : Int32} {h : JH} {r : Int32 ⊕ Int32} {h1 : JH} (hf : f_X12_product_L5 rec a0 z h = some (r, h1)) : h1.2.1 = h.2.1 := by
  unfold f_X12_product_L5 at hf
  rcases j_ite hf with hf | hf
  ·
    obtain ⟨rfl, rfl⟩ := j_inj2 hf
    rfl
  ·
    obtain ⟨u43, e44, hf⟩ := j_bind hf
    obtain ⟨q3, e4, hf⟩ := j_bind hf
    refine Eq.trans ?_ ((q_X12_is e4))
    rcases j_ite hf with hf | hf
    ·
      obtain ⟨rfl, rfl⟩ := j_inj2 hf
      rfl
    ·
      obtain ⟨u41, e42, hf⟩ := j_bind hf
      obtain ⟨q5, e6, hf⟩ := j_bind hf
      refine Eq.trans ?_ ((q_X12_go e6))
      obtain ⟨v7, e8, hf⟩ := j_bind hf
      obtain ⟨u39, e40, hf⟩ := j_bind hf
      obtain ⟨q9, e10, hf⟩ := j_bind hf
      refine Eq.trans ?_ ((q_X12_power_ hrecq e10))
      rcases j_ite hf with hf | hf
      ·
        rcases j_ite hf with hf | hf
        ·
          obtain ⟨rfl, rfl⟩ := j_inj2 hf
          rfl
        ·
          obtain ⟨u13, e14, hf⟩ := j_bind hf
          obtain ⟨q11, e12, hf⟩ := j_bind hf
          refine Eq.trans ?_ ((q_X12_joins e12))
          obtain ⟨rfl, rfl⟩ := j_inj2 hf
          rfl
      ·
        obtain ⟨v15, e16, hf⟩ := j_bind hf
        obtain ⟨v17, e18, hf⟩ := j_bind hf
        obtain ⟨v19, e20, hf⟩ := j_bind hf
        obtain ⟨v21, e22, hf⟩ := j_bind hf
        obtain ⟨v23, e24, hf⟩ := j_bind hf
        obtain ⟨v25, e26, hf⟩ := j_bind hf
        rcases j_ite hf with hf | hf
        ·
          rcases j_ite hf with hf | hf
          ·
            obtain ⟨rfl, rfl⟩ := j_inj2 hf
            rfl
          ·
            obtain ⟨u29, e30, hf⟩ := j_bind hf
            obtain ⟨q27, e28, hf⟩ := j_bind hf
            refine Eq.trans ?_ ((q_X12_joins e28))
            obtain ⟨rfl, rfl⟩ := j_inj2 hf
            rfl
        ·
          obtain ⟨u37, e38, hf⟩ := j_bind hf
          obtain ⟨q31, e32, hf⟩ := j_bind hf
          refine Eq.trans ?_ ((q_X12_badAt e32))
          rcases j_ite hf with hf | hf
          ·
            obtain ⟨rfl, rfl⟩ := j_inj2 hf
            rfl
          ·
            obtain ⟨u35, e36, hf⟩ := j_bind hf
            obtain ⟨q33, e34, hf⟩ := j_bind hf
            refine Eq.trans ?_ ((q_X12_joins e34))
            obtain ⟨rfl, rfl⟩ := j_inj2 hf
            rfl
theorem q_X12_product {rec : Nat → JH → Option (Int32 × JH)} (hrecq : ∀ {x0 : Nat} {hh : JH} {qq : Int32 × JH}, rec x0 hh = some qq → qq.2.2.1 = hh.2.1) {a0 : Nat} {h : JH} {q : Int32 × JH} (hf : f_X12_product rec a0 h = some q) : q.2.2.1 = h.2.1 := by
  unfold f_X12_product at hf
  obtain ⟨u56, e57, hf⟩ := j_bind hf
  obtain ⟨q1, e2, hf⟩ := j_bind hf
  refine Eq.trans ?_ ((q_X12_power_ hrecq e2))
  obtain ⟨q52, e53, hf⟩ := j_bind hf
  refine Eq.trans ?_ ((jloop_eq (fun _ _ _ _ q => q_X12_product_L5 hrecq q) e53))
  obtain ⟨u54, e55, hf⟩ := j_bind hf
  obtain rfl := j_inj hf
  rfl
theorem q_X12_sum_L100 {rec : Nat → JH → Option (Int32 × JH)} (hrecq : ∀ {x0 : Nat} {hh : JH} {qq : Int32 × JH}, rec x0 hh = some qq → qq.2.2.1 = hh.2.1) {a0 : Nat} {a1 : Int32} {a2 : Int32} {z : Int32} {h : JH} {r : Int32 ⊕ Int32} {h1 : JH} (hf : f_X12_sum_L100 rec a0 a1 a2 z h = some (r, h1)) : h1.2.1 = h.2.1 := by
  unfold f_X12_sum_L100 at hf
  rcases j_ite hf with hf | hf
  ·
    obtain ⟨rfl, rfl⟩ := j_inj2 hf
    rfl
  ·
    obtain ⟨v13, e14, hf⟩ := j_bind hf
    obtain ⟨v15, e16, hf⟩ := j_bind hf
    obtain ⟨v17, e18, hf⟩ := j_bind hf
    obtain ⟨v19, e20, hf⟩ := j_bind hf
    obtain ⟨v21, e22, hf⟩ := j_bind hf
    obtain ⟨v23, e24, hf⟩ := j_bind hf
    obtain ⟨v25, e26, hf⟩ := j_bind hf
    obtain ⟨v27, e28, hf⟩ := j_bind hf
    obtain ⟨u33, e34, hf⟩ := j_bind hf
    obtain ⟨q29, e30, hf⟩ := j_bind hf
    refine Eq.trans ?_ ((q_X12_left e30))
    obtain ⟨h31, e32, hf⟩ := j_bind hf
    refine Eq.trans ?_ (jsI_n e32)
    obtain ⟨rfl, rfl⟩ := j_inj2 hf
    rfl
theorem q_X12_sum_L5 {rec : Nat → JH → Option (Int32 × JH)} (hrecq : ∀ {x0 : Nat} {hh : JH} {qq : Int32 × JH}, rec x0 hh = some qq → qq.2.2.1 = hh.2.1) {a0 : Nat} {z : Int32} {h : JH} {r : Int32 ⊕ Int32} {h1 : JH} (hf : f_X12_sum_L5 rec a0 z h = some (r, h1)) : h1.2.1 = h.2.1 := by
  unfold f_X12_sum_L5 at hf
  rcases j_ite hf with hf | hf
  ·
    obtain ⟨rfl, rfl⟩ := j_inj2 hf
    rfl
  ·
    obtain ⟨u193, e194, hf⟩ := j_bind hf
    obtain ⟨q3, e4, hf⟩ := j_bind hf
    refine Eq.trans ?_ ((q_X12_is e4))
    rcases j_ite hf with hf | hf
    ·
      obtain ⟨u191, e192, hf⟩ := j_bind hf
      obtain ⟨q97, e98, hf⟩ := j_bind hf
      refine Eq.trans ?_ ((q_X12_is e98))
      rcases j_ite hf with hf | hf
      ·
        obtain ⟨rfl, rfl⟩ := j_inj2 hf
        rfl
      ·
        obtain ⟨u189, e190, hf⟩ := j_bind hf
        obtain ⟨q99, e100, hf⟩ := j_bind hf
        refine Eq.trans ?_ ((q_X12_is e100))
        rcases j_ite hf with hf | hf
        ·
          obtain ⟨u143, e144, hf⟩ := j_bind hf
          obtain ⟨q101, e102, hf⟩ := j_bind hf
          refine Eq.trans ?_ ((q_X12_go e102))
          obtain ⟨v103, e104, hf⟩ := j_bind hf
          obtain ⟨u141, e142, hf⟩ := j_bind hf
          obtain ⟨q105, e106, hf⟩ := j_bind hf
          refine Eq.trans ?_ ((q_X12_product hrecq e106))
          rcases j_ite hf with hf | hf
          ·
            rcases j_ite hf with hf | hf
            ·
              obtain ⟨rfl, rfl⟩ := j_inj2 hf
              rfl
            ·
              obtain ⟨q107, e108, hf⟩ := j_bind hf
              refine Eq.trans ?_ ((jloop_eq (fun _ _ _ _ q => q_X12_sum_L100 hrecq q) e108))
              obtain ⟨v109, e110, hf⟩ := j_bind hf
              obtain ⟨h111, e112, hf⟩ := j_bind hf
              refine Eq.trans ?_ (jput_n e112)
              obtain ⟨rfl, rfl⟩ := j_inj2 hf
              rfl
          ·
            obtain ⟨v113, e114, hf⟩ := j_bind hf
            obtain ⟨v115, e116, hf⟩ := j_bind hf
            obtain ⟨v117, e118, hf⟩ := j_bind hf
            obtain ⟨v119, e120, hf⟩ := j_bind hf
            obtain ⟨v121, e122, hf⟩ := j_bind hf
            obtain ⟨v123, e124, hf⟩ := j_bind hf
            rcases j_ite hf with hf | hf
            ·
              rcases j_ite hf with hf | hf
              ·
                obtain ⟨rfl, rfl⟩ := j_inj2 hf
                rfl
              ·
                obtain ⟨q125, e126, hf⟩ := j_bind hf
                refine Eq.trans ?_ ((jloop_eq (fun _ _ _ _ q => q_X12_sum_L100 hrecq q) e126))
                obtain ⟨v127, e128, hf⟩ := j_bind hf
                obtain ⟨h129, e130, hf⟩ := j_bind hf
                refine Eq.trans ?_ (jput_n e130)
                obtain ⟨rfl, rfl⟩ := j_inj2 hf
                rfl
            ·
              obtain ⟨u139, e140, hf⟩ := j_bind hf
              obtain ⟨q131, e132, hf⟩ := j_bind hf
              refine Eq.trans ?_ ((q_X12_badAt e132))
              rcases j_ite hf with hf | hf
              ·
                obtain ⟨rfl, rfl⟩ := j_inj2 hf
                rfl
              ·
                obtain ⟨q133, e134, hf⟩ := j_bind hf
                refine Eq.trans ?_ ((jloop_eq (fun _ _ _ _ q => q_X12_sum_L100 hrecq q) e134))
                obtain ⟨v135, e136, hf⟩ := j_bind hf
                obtain ⟨h137, e138, hf⟩ := j_bind hf
                refine Eq.trans ?_ (jput_n e138)
                obtain ⟨rfl, rfl⟩ := j_inj2 hf
                rfl
        ·
          obtain ⟨u187, e188, hf⟩ := j_bind hf
          obtain ⟨q145, e146, hf⟩ := j_bind hf
          refine Eq.trans ?_ ((q_X12_go e146))
          obtain ⟨v147, e148, hf⟩ := j_bind hf
          obtain ⟨u185, e186, hf⟩ := j_bind hf
          obtain ⟨q149, e150, hf⟩ := j_bind hf
          refine Eq.trans ?_ ((q_X12_product hrecq e150))
          rcases j_ite hf with hf | hf
          ·
            rcases j_ite hf with hf | hf
            ·
              obtain ⟨rfl, rfl⟩ := j_inj2 hf
              rfl
            ·
              obtain ⟨q151, e152, hf⟩ := j_bind hf
              refine Eq.trans ?_ ((jloop_eq (fun _ _ _ _ q => q_X12_sum_L100 hrecq q) e152))
              obtain ⟨v153, e154, hf⟩ := j_bind hf
              obtain ⟨h155, e156, hf⟩ := j_bind hf
              refine Eq.trans ?_ (jput_n e156)
              obtain ⟨rfl, rfl⟩ := j_inj2 hf
              rfl
          ·
            obtain ⟨v157, e158, hf⟩ := j_bind hf
            obtain ⟨v159, e160, hf⟩ := j_bind hf
            obtain ⟨v161, e162, hf⟩ := j_bind hf
            obtain ⟨v163, e164, hf⟩ := j_bind hf
            obtain ⟨v165, e166, hf⟩ := j_bind hf
            obtain ⟨v167, e168, hf⟩ := j_bind hf
            rcases j_ite hf with hf | hf
            ·
              rcases j_ite hf with hf | hf
              ·
                obtain ⟨rfl, rfl⟩ := j_inj2 hf
                rfl
              ·
                obtain ⟨q169, e170, hf⟩ := j_bind hf
                refine Eq.trans ?_ ((jloop_eq (fun _ _ _ _ q => q_X12_sum_L100 hrecq q) e170))
                obtain ⟨v171, e172, hf⟩ := j_bind hf
                obtain ⟨h173, e174, hf⟩ := j_bind hf
                refine Eq.trans ?_ (jput_n e174)
                obtain ⟨rfl, rfl⟩ := j_inj2 hf
                rfl
            ·
              obtain ⟨u183, e184, hf⟩ := j_bind hf
              obtain ⟨q175, e176, hf⟩ := j_bind hf
              refine Eq.trans ?_ ((q_X12_badAt e176))
              rcases j_ite hf with hf | hf
              ·
                obtain ⟨rfl, rfl⟩ := j_inj2 hf
                rfl
              ·
                obtain ⟨q177, e178, hf⟩ := j_bind hf
                refine Eq.trans ?_ ((jloop_eq (fun _ _ _ _ q => q_X12_sum_L100 hrecq q) e178))
                obtain ⟨v179, e180, hf⟩ := j_bind hf
                obtain ⟨h181, e182, hf⟩ := j_bind hf
                refine Eq.trans ?_ (jput_n e182)
                obtain ⟨rfl, rfl⟩ := j_inj2 hf
                rfl
    ·
      obtain ⟨u95, e96, hf⟩ := j_bind hf
      obtain ⟨q5, e6, hf⟩ := j_bind hf
      refine Eq.trans ?_ ((q_X12_is e6))
      rcases j_ite hf with hf | hf
      ·
        obtain ⟨u49, e50, hf⟩ := j_bind hf
        obtain ⟨q7, e8, hf⟩ := j_bind hf
        refine Eq.trans ?_ ((q_X12_go e8))
        obtain ⟨v9, e10, hf⟩ := j_bind hf
        obtain ⟨u47, e48, hf⟩ := j_bind hf
        obtain ⟨q11, e12, hf⟩ := j_bind hf
        refine Eq.trans ?_ ((q_X12_product hrecq e12))
        rcases j_ite hf with hf | hf
        ·
          rcases j_ite hf with hf | hf
          ·
            obtain ⟨rfl, rfl⟩ := j_inj2 hf
            rfl
          ·
            obtain ⟨q13, e14, hf⟩ := j_bind hf
            refine Eq.trans ?_ ((jloop_eq (fun _ _ _ _ q => q_X12_sum_L100 hrecq q) e14))
            obtain ⟨v15, e16, hf⟩ := j_bind hf
            obtain ⟨h17, e18, hf⟩ := j_bind hf
            refine Eq.trans ?_ (jput_n e18)
            obtain ⟨rfl, rfl⟩ := j_inj2 hf
            rfl
        ·
          obtain ⟨v19, e20, hf⟩ := j_bind hf
          obtain ⟨v21, e22, hf⟩ := j_bind hf
          obtain ⟨v23, e24, hf⟩ := j_bind hf
          obtain ⟨v25, e26, hf⟩ := j_bind hf
          obtain ⟨v27, e28, hf⟩ := j_bind hf
          obtain ⟨v29, e30, hf⟩ := j_bind hf
          rcases j_ite hf with hf | hf
          ·
            rcases j_ite hf with hf | hf
            ·
              obtain ⟨rfl, rfl⟩ := j_inj2 hf
              rfl
            ·
              obtain ⟨q31, e32, hf⟩ := j_bind hf
              refine Eq.trans ?_ ((jloop_eq (fun _ _ _ _ q => q_X12_sum_L100 hrecq q) e32))
              obtain ⟨v33, e34, hf⟩ := j_bind hf
              obtain ⟨h35, e36, hf⟩ := j_bind hf
              refine Eq.trans ?_ (jput_n e36)
              obtain ⟨rfl, rfl⟩ := j_inj2 hf
              rfl
          ·
            obtain ⟨u45, e46, hf⟩ := j_bind hf
            obtain ⟨q37, e38, hf⟩ := j_bind hf
            refine Eq.trans ?_ ((q_X12_badAt e38))
            rcases j_ite hf with hf | hf
            ·
              obtain ⟨rfl, rfl⟩ := j_inj2 hf
              rfl
            ·
              obtain ⟨q39, e40, hf⟩ := j_bind hf
              refine Eq.trans ?_ ((jloop_eq (fun _ _ _ _ q => q_X12_sum_L100 hrecq q) e40))
              obtain ⟨v41, e42, hf⟩ := j_bind hf
              obtain ⟨h43, e44, hf⟩ := j_bind hf
              refine Eq.trans ?_ (jput_n e44)
              obtain ⟨rfl, rfl⟩ := j_inj2 hf
              rfl
      ·
        obtain ⟨u93, e94, hf⟩ := j_bind hf
        obtain ⟨q51, e52, hf⟩ := j_bind hf
        refine Eq.trans ?_ ((q_X12_go e52))
        obtain ⟨v53, e54, hf⟩ := j_bind hf
        obtain ⟨u91, e92, hf⟩ := j_bind hf
        obtain ⟨q55, e56, hf⟩ := j_bind hf
        refine Eq.trans ?_ ((q_X12_product hrecq e56))
        rcases j_ite hf with hf | hf
        ·
          rcases j_ite hf with hf | hf
          ·
            obtain ⟨rfl, rfl⟩ := j_inj2 hf
            rfl
          ·
            obtain ⟨q57, e58, hf⟩ := j_bind hf
            refine Eq.trans ?_ ((jloop_eq (fun _ _ _ _ q => q_X12_sum_L100 hrecq q) e58))
            obtain ⟨v59, e60, hf⟩ := j_bind hf
            obtain ⟨h61, e62, hf⟩ := j_bind hf
            refine Eq.trans ?_ (jput_n e62)
            obtain ⟨rfl, rfl⟩ := j_inj2 hf
            rfl
        ·
          obtain ⟨v63, e64, hf⟩ := j_bind hf
          obtain ⟨v65, e66, hf⟩ := j_bind hf
          obtain ⟨v67, e68, hf⟩ := j_bind hf
          obtain ⟨v69, e70, hf⟩ := j_bind hf
          obtain ⟨v71, e72, hf⟩ := j_bind hf
          obtain ⟨v73, e74, hf⟩ := j_bind hf
          rcases j_ite hf with hf | hf
          ·
            rcases j_ite hf with hf | hf
            ·
              obtain ⟨rfl, rfl⟩ := j_inj2 hf
              rfl
            ·
              obtain ⟨q75, e76, hf⟩ := j_bind hf
              refine Eq.trans ?_ ((jloop_eq (fun _ _ _ _ q => q_X12_sum_L100 hrecq q) e76))
              obtain ⟨v77, e78, hf⟩ := j_bind hf
              obtain ⟨h79, e80, hf⟩ := j_bind hf
              refine Eq.trans ?_ (jput_n e80)
              obtain ⟨rfl, rfl⟩ := j_inj2 hf
              rfl
          ·
            obtain ⟨u89, e90, hf⟩ := j_bind hf
            obtain ⟨q81, e82, hf⟩ := j_bind hf
            refine Eq.trans ?_ ((q_X12_badAt e82))
            rcases j_ite hf with hf | hf
            ·
              obtain ⟨rfl, rfl⟩ := j_inj2 hf
              rfl
            ·
              obtain ⟨q83, e84, hf⟩ := j_bind hf
              refine Eq.trans ?_ ((jloop_eq (fun _ _ _ _ q => q_X12_sum_L100 hrecq q) e84))
              obtain ⟨v85, e86, hf⟩ := j_bind hf
              obtain ⟨h87, e88, hf⟩ := j_bind hf
              refine Eq.trans ?_ (jput_n e88)
              obtain ⟨rfl, rfl⟩ := j_inj2 hf
              rfl
theorem q_X12_sum {rec : Nat → JH → Option (Int32 × JH)} (hrecq : ∀ {x0 : Nat} {hh : JH} {qq : Int32 × JH}, rec x0 hh = some qq → qq.2.2.1 = hh.2.1) {a0 : Nat} {h : JH} {q : Int32 × JH} (hf : f_X12_sum rec a0 h = some q) : q.2.2.1 = h.2.1 := by
  unfold f_X12_sum at hf
  obtain ⟨u224, e225, hf⟩ := j_bind hf
  obtain ⟨q1, e2, hf⟩ := j_bind hf
  refine Eq.trans ?_ ((q_X12_product hrecq e2))
  obtain ⟨q220, e221, hf⟩ := j_bind hf
  refine Eq.trans ?_ ((jloop_eq (fun _ _ _ _ q => q_X12_sum_L5 hrecq q) e221))
  obtain ⟨u222, e223, hf⟩ := j_bind hf
  obtain rfl := j_inj hf
  rfl
theorem qn_X12_sum {n : Nat} {x0 : Nat} {h : JH} {q : Int32 × JH} (hf : n_X12_sum n x0 h = some q) : q.2.2.1 = h.2.1 := by
  induction n generalizing x0 h q with
  | zero => cases hf
  | succ n ih => exact q_X12_sum (rec := n_X12_sum n) (fun q => ih q) hf
theorem q_X12_letLine_L87 {a0 : Nat} {z : Int32} {h : JH} {r : Int32 ⊕ Int32} {h1 : JH} (hf : f_X12_letLine_L87 a0 z h = some (r, h1)) : h1.2.1 = h.2.1 := by
  unfold f_X12_letLine_L87 at hf
  obtain ⟨v21, e22, hf⟩ := j_bind hf
  obtain ⟨v23, e24, hf⟩ := j_bind hf
  obtain ⟨v25, e26, hf⟩ := j_bind hf
  rcases j_ite hf with hf | hf
  ·
    obtain ⟨rfl, rfl⟩ := j_inj2 hf
    rfl
  ·
    obtain ⟨v27, e28, hf⟩ := j_bind hf
    obtain ⟨v29, e30, hf⟩ := j_bind hf
    obtain ⟨v31, e32, hf⟩ := j_bind hf
    obtain ⟨u37, e38, hf⟩ := j_bind hf
    obtain ⟨q33, e34, hf⟩ := j_bind hf
    refine Eq.trans ?_ ((q_X12_byteAt e34))
    obtain ⟨h35, e36, hf⟩ := j_bind hf
    refine Eq.trans ?_ (jsI_n e36)
    obtain ⟨rfl, rfl⟩ := j_inj2 hf
    rfl
theorem q_X12_letLine {a0 : Nat} {h : JH} {q : Int32 × JH} (hf : f_X12_letLine a0 h = some q) : q.2.2.1 = h.2.1 := by
  unfold f_X12_letLine at hf
  obtain ⟨u124, e125, hf⟩ := j_bind hf
  obtain ⟨q1, e2, hf⟩ := j_bind hf
  refine Eq.trans ?_ ((q_X12_isWord e2))
  rcases j_ite hf with hf | hf
  ·
    obtain ⟨u122, e123, hf⟩ := j_bind hf
    obtain ⟨q118, e119, hf⟩ := j_bind hf
    refine Eq.trans ?_ ((q_X12_bad e119))
    obtain ⟨u120, e121, hf⟩ := j_bind hf
    obtain rfl := j_inj hf
    rfl
  ·
    obtain ⟨v3, e4, hf⟩ := j_bind hf
    rcases j_ite hf with hf | hf
    ·
      obtain ⟨u116, e117, hf⟩ := j_bind hf
      obtain ⟨q112, e113, hf⟩ := j_bind hf
      refine Eq.trans ?_ ((q_X12_bad e113))
      obtain ⟨u114, e115, hf⟩ := j_bind hf
      obtain rfl := j_inj hf
      rfl
    ·
      obtain ⟨u110, e111, hf⟩ := j_bind hf
      obtain ⟨q5, e6, hf⟩ := j_bind hf
      refine Eq.trans ?_ ((q_X12_go e6))
      obtain ⟨u108, e109, hf⟩ := j_bind hf
      obtain ⟨q7, e8, hf⟩ := j_bind hf
      refine Eq.trans ?_ ((q_X12_isName e8))
      rcases j_ite hf with hf | hf
      ·
        obtain ⟨u106, e107, hf⟩ := j_bind hf
        obtain ⟨q102, e103, hf⟩ := j_bind hf
        refine Eq.trans ?_ ((q_X12_bad e103))
        obtain ⟨u104, e105, hf⟩ := j_bind hf
        obtain rfl := j_inj hf
        rfl
      ·
        obtain ⟨u100, e101, hf⟩ := j_bind hf
        obtain ⟨q9, e10, hf⟩ := j_bind hf
        refine Eq.trans ?_ ((q_X12_named e10))
        rcases j_ite hf with hf | hf
        ·
          obtain ⟨v11, e12, hf⟩ := j_bind hf
          obtain ⟨v13, e14, hf⟩ := j_bind hf
          obtain ⟨v15, e16, hf⟩ := j_bind hf
          obtain ⟨v17, e18, hf⟩ := j_bind hf
          obtain ⟨h19, e20, hf⟩ := j_bind hf
          refine Eq.trans ?_ (jsI_n e20)
          obtain ⟨q40, e41, hf⟩ := j_bind hf
          refine Eq.trans ?_ ((jloop_eq (fun _ _ _ _ q => q_X12_letLine_L87 q) e41))
          obtain ⟨u92, e93, hf⟩ := j_bind hf
          obtain ⟨q42, e43, hf⟩ := j_bind hf
          refine Eq.trans ?_ ((q_X12_go e43))
          obtain ⟨u90, e91, hf⟩ := j_bind hf
          obtain ⟨q44, e45, hf⟩ := j_bind hf
          refine Eq.trans ?_ ((q_X12_isWord e45))
          rcases j_ite hf with hf | hf
          ·
            obtain ⟨u88, e89, hf⟩ := j_bind hf
            obtain ⟨q84, e85, hf⟩ := j_bind hf
            refine Eq.trans ?_ ((q_X12_bad e85))
            obtain ⟨u86, e87, hf⟩ := j_bind hf
            obtain rfl := j_inj hf
            rfl
          ·
            obtain ⟨u82, e83, hf⟩ := j_bind hf
            obtain ⟨q46, e47, hf⟩ := j_bind hf
            refine Eq.trans ?_ ((q_X12_go e47))
            obtain ⟨h48, e49, hf⟩ := j_bind hf
            refine Eq.trans ?_ (jput_n e49)
            obtain ⟨u80, e81, hf⟩ := j_bind hf
            obtain ⟨q50, e51, hf⟩ := j_bind hf
            refine Eq.trans ?_ ((qn_X12_sum e51))
            rcases j_ite hf with hf | hf
            ·
              obtain rfl := j_inj hf
              rfl
            ·
              obtain ⟨v52, e53, hf⟩ := j_bind hf
              obtain ⟨v54, e55, hf⟩ := j_bind hf
              obtain ⟨v56, e57, hf⟩ := j_bind hf
              obtain ⟨v58, e59, hf⟩ := j_bind hf
              obtain ⟨h60, e61, hf⟩ := j_bind hf
              refine Eq.trans ?_ (jsI_n e61)
              obtain ⟨v62, e63, hf⟩ := j_bind hf
              obtain ⟨v64, e65, hf⟩ := j_bind hf
              obtain ⟨v66, e67, hf⟩ := j_bind hf
              obtain ⟨q68, e69, hf⟩ := j_bind hf
              refine Eq.trans ?_ ((q_X12_copies e69))
              obtain ⟨v70, e71, hf⟩ := j_bind hf
              obtain ⟨h72, e73, hf⟩ := j_bind hf
              refine Eq.trans ?_ (jput_n e73)
              obtain ⟨u78, e79, hf⟩ := j_bind hf
              obtain ⟨q74, e75, hf⟩ := j_bind hf
              refine Eq.trans ?_ ((q_X12_sign e75))
              obtain ⟨u76, e77, hf⟩ := j_bind hf
              obtain rfl := j_inj hf
              rfl
        ·
          obtain ⟨u98, e99, hf⟩ := j_bind hf
          obtain ⟨q94, e95, hf⟩ := j_bind hf
          refine Eq.trans ?_ ((q_X12_bad e95))
          obtain ⟨u96, e97, hf⟩ := j_bind hf
          obtain rfl := j_inj hf
          rfl
theorem q_X12_primeLine {a0 : Nat} {h : JH} {q : Int32 × JH} (hf : f_X12_primeLine a0 h = some q) : q.2.2.1 = h.2.1 := by
  unfold f_X12_primeLine at hf
  obtain ⟨u49, e50, hf⟩ := j_bind hf
  obtain ⟨q1, e2, hf⟩ := j_bind hf
  refine Eq.trans ?_ ((q_X12_go e2))
  obtain ⟨v3, e4, hf⟩ := j_bind hf
  rcases j_ite hf with hf | hf
  ·
    obtain ⟨v5, e6, hf⟩ := j_bind hf
    obtain ⟨q7, e8, hf⟩ := j_bind hf
    refine Eq.trans ?_ ((q_X12_within e8))
    rcases j_ite hf with hf | hf
    ·
      obtain ⟨u13, e14, hf⟩ := j_bind hf
      obtain ⟨q9, e10, hf⟩ := j_bind hf
      refine Eq.trans ?_ ((q_X12_bad e10))
      obtain ⟨u11, e12, hf⟩ := j_bind hf
      obtain rfl := j_inj hf
      rfl
    ·
      obtain ⟨v15, e16, hf⟩ := j_bind hf
      obtain ⟨q17, e18, hf⟩ := j_bind hf
      refine Eq.trans ?_ ((q_X12_isPrime e18))
      rcases j_ite hf with hf | hf
      ·
        obtain ⟨u41, e42, hf⟩ := j_bind hf
        obtain ⟨q37, e38, hf⟩ := j_bind hf
        refine Eq.trans ?_ ((q_X12_bad e38))
        obtain ⟨u39, e40, hf⟩ := j_bind hf
        obtain rfl := j_inj hf
        rfl
      ·
        obtain ⟨v19, e20, hf⟩ := j_bind hf
        obtain ⟨h21, e22, hf⟩ := j_bind hf
        refine Eq.trans ?_ (jput_n e22)
        obtain ⟨u35, e36, hf⟩ := j_bind hf
        obtain ⟨q23, e24, hf⟩ := j_bind hf
        refine Eq.trans ?_ ((q_X12_laysBasic e24))
        obtain ⟨u33, e34, hf⟩ := j_bind hf
        obtain ⟨q25, e26, hf⟩ := j_bind hf
        refine Eq.trans ?_ ((q_X12_go e26))
        obtain ⟨u31, e32, hf⟩ := j_bind hf
        obtain ⟨q27, e28, hf⟩ := j_bind hf
        refine Eq.trans ?_ ((q_X12_sign e28))
        obtain ⟨u29, e30, hf⟩ := j_bind hf
        obtain rfl := j_inj hf
        rfl
  ·
    obtain ⟨u47, e48, hf⟩ := j_bind hf
    obtain ⟨q43, e44, hf⟩ := j_bind hf
    refine Eq.trans ?_ ((q_X12_bad e44))
    obtain ⟨u45, e46, hf⟩ := j_bind hf
    obtain rfl := j_inj hf
    rfl
theorem q_X12_takes_L15 {a0 : Nat} {z : Int32} {h : JH} {r : Int32 ⊕ Int32} {h1 : JH} (hf : f_X12_takes_L15 a0 z h = some (r, h1)) : h1.2.1 = h.2.1 := by
  unfold f_X12_takes_L15 at hf
  rcases j_ite hf with hf | hf
  ·
    obtain ⟨rfl, rfl⟩ := j_inj2 hf
    rfl
  ·
    obtain ⟨v7, e8, hf⟩ := j_bind hf
    obtain ⟨v9, e10, hf⟩ := j_bind hf
    obtain ⟨v11, e12, hf⟩ := j_bind hf
    obtain ⟨h13, e14, hf⟩ := j_bind hf
    refine Eq.trans ?_ (jsI_n e14)
    obtain ⟨rfl, rfl⟩ := j_inj2 hf
    rfl
theorem q_X12_takes_L41 {a0 : Nat} {z : Int32} {h : JH} {r : Int32 ⊕ Int32} {h1 : JH} (hf : f_X12_takes_L41 a0 z h = some (r, h1)) : h1.2.1 = h.2.1 := by
  unfold f_X12_takes_L41 at hf
  rcases j_ite hf with hf | hf
  ·
    obtain ⟨rfl, rfl⟩ := j_inj2 hf
    rfl
  ·
    obtain ⟨v18, e19, hf⟩ := j_bind hf
    obtain ⟨v20, e21, hf⟩ := j_bind hf
    obtain ⟨v22, e23, hf⟩ := j_bind hf
    obtain ⟨h24, e25, hf⟩ := j_bind hf
    refine Eq.trans ?_ (jsI_n e25)
    obtain ⟨rfl, rfl⟩ := j_inj2 hf
    rfl
theorem q_X12_takes_L82 {a0 : Nat} {a1 : Int32} {z : Int32} {h : JH} {r : Int32 ⊕ Int32} {h1 : JH} (hf : f_X12_takes_L82 a0 a1 z h = some (r, h1)) : h1.2.1 = h.2.1 := by
  unfold f_X12_takes_L82 at hf
  rcases j_ite hf with hf | hf
  ·
    obtain ⟨rfl, rfl⟩ := j_inj2 hf
    rfl
  ·
    obtain ⟨v33, e34, hf⟩ := j_bind hf
    rcases j_ite hf with hf | hf
    ·
      obtain ⟨h37, e38, hf⟩ := j_bind hf
      refine Eq.trans ?_ (jsI_n e38)
      obtain ⟨rfl, rfl⟩ := j_inj2 hf
      rfl
    ·
      obtain ⟨h35, e36, hf⟩ := j_bind hf
      refine Eq.trans ?_ (jsI_n e36)
      obtain ⟨rfl, rfl⟩ := j_inj2 hf
      rfl
theorem q_X12_takes_L68 {a0 : Nat} {z : Int32} {h : JH} {r : Int32 ⊕ Int32} {h1 : JH} (hf : f_X12_takes_L68 a0 z h = some (r, h1)) : h1.2.1 = h.2.1 := by
  unfold f_X12_takes_L68 at hf
  rcases j_ite hf with hf | hf
  ·
    obtain ⟨rfl, rfl⟩ := j_inj2 hf
    rfl
  ·
    obtain ⟨v29, e30, hf⟩ := j_bind hf
    obtain ⟨h31, e32, hf⟩ := j_bind hf
    refine Eq.trans ?_ (jsI_n e32)
    obtain ⟨q33, e34, hf⟩ := j_bind hf
    refine Eq.trans ?_ ((jloop_eq (fun _ _ _ _ q => q_X12_takes_L82 q) e34))
    obtain ⟨rfl, rfl⟩ := j_inj2 hf
    rfl
theorem q_X12_takes_L124 {a0 : Nat} {z : Int32} {h : JH} {r : Int32 ⊕ Int32} {h1 : JH} (hf : f_X12_takes_L124 a0 z h = some (r, h1)) : h1.2.1 = h.2.1 := by
  unfold f_X12_takes_L124 at hf
  rcases j_ite hf with hf | hf
  ·
    obtain ⟨rfl, rfl⟩ := j_inj2 hf
    rfl
  ·
    obtain ⟨v38, e39, hf⟩ := j_bind hf
    obtain ⟨h40, e41, hf⟩ := j_bind hf
    refine Eq.trans ?_ (jsB_n e41)
    obtain ⟨rfl, rfl⟩ := j_inj2 hf
    rfl
theorem q_X12_takes_L145 {a0 : Nat} {z : Int32} {h : JH} {r : Int32 ⊕ Int32} {h1 : JH} (hf : f_X12_takes_L145 a0 z h = some (r, h1)) : h1.2.1 = h.2.1 := by
  unfold f_X12_takes_L145 at hf
  rcases j_ite hf with hf | hf
  ·
    obtain ⟨rfl, rfl⟩ := j_inj2 hf
    rfl
  ·
    obtain ⟨v45, e46, hf⟩ := j_bind hf
    obtain ⟨h47, e48, hf⟩ := j_bind hf
    refine Eq.trans ?_ (jsB_n e48)
    obtain ⟨rfl, rfl⟩ := j_inj2 hf
    rfl
theorem q_X12_takes {a0 : Nat} {h : JH} {q : Unit × JH} (hf : f_X12_takes a0 h = some q) : q.2.2.1 = h.2.1 := by
  unfold f_X12_takes at hf
  obtain ⟨h1, e2, hf⟩ := j_bind hf
  refine Eq.trans ?_ (jput_n e2)
  obtain ⟨v3, e4, hf⟩ := j_bind hf
  obtain ⟨h5, e6, hf⟩ := j_bind hf
  refine Eq.trans ?_ (jput_n e6)
  obtain ⟨q16, e17, hf⟩ := j_bind hf
  refine Eq.trans ?_ ((jloop_eq (fun _ _ _ _ q => q_X12_takes_L15 q) e17))
  obtain ⟨q27, e28, hf⟩ := j_bind hf
  refine Eq.trans ?_ ((jloop_eq (fun _ _ _ _ q => q_X12_takes_L41 q) e28))
  obtain ⟨q36, e37, hf⟩ := j_bind hf
  refine Eq.trans ?_ ((jloop_eq (fun _ _ _ _ q => q_X12_takes_L68 q) e37))
  obtain ⟨q43, e44, hf⟩ := j_bind hf
  refine Eq.trans ?_ ((jloop_eq (fun _ _ _ _ q => q_X12_takes_L124 q) e44))
  obtain ⟨q50, e51, hf⟩ := j_bind hf
  refine Eq.trans ?_ ((jloop_eq (fun _ _ _ _ q => q_X12_takes_L145 q) e51))
  obtain rfl := j_inj hf
  rfl
theorem q_X12_book_L99 {a0 : Nat} {a2 : Int32} {z : Int32} {h : JH} {r : Int32 ⊕ Int32} {h1 : JH} (hf : f_X12_book_L99 a0 a2 z h = some (r, h1)) : h1.2.1 = h.2.1 := by
  unfold f_X12_book_L99 at hf
  rcases j_ite hf with hf | hf
  ·
    obtain ⟨rfl, rfl⟩ := j_inj2 hf
    rfl
  ·
    obtain ⟨v29, e30, hf⟩ := j_bind hf
    rcases j_ite hf with hf | hf
    ·
      obtain ⟨rfl, rfl⟩ := j_inj2 hf
      rfl
    ·
      obtain ⟨u33, e34, hf⟩ := j_bind hf
      obtain ⟨q31, e32, hf⟩ := j_bind hf
      refine Eq.trans ?_ ((q_X12_letLine e32))
      obtain ⟨rfl, rfl⟩ := j_inj2 hf
      rfl
theorem q_X12_book {a0 : Nat} {a1 : Int32} {h : JH} {q : Int32 × JH} (hf : f_X12_book a0 a1 h = some q) : q.2.2.1 = h.2.1 := by
  unfold f_X12_book at hf
  obtain ⟨h1, e2, hf⟩ := j_bind hf
  refine Eq.trans ?_ (jput_n e2)
  obtain ⟨v3, e4, hf⟩ := j_bind hf
  obtain ⟨q5, e6, hf⟩ := j_bind hf
  refine Eq.trans ?_ ((q_X12_within e6))
  rcases j_ite hf with hf | hf
  ·
    obtain rfl := j_inj hf
    rfl
  ·
    obtain ⟨h7, e8, hf⟩ := j_bind hf
    refine Eq.trans ?_ (jput_n e8)
    obtain ⟨h9, e10, hf⟩ := j_bind hf
    refine Eq.trans ?_ (jput_n e10)
    obtain ⟨h11, e12, hf⟩ := j_bind hf
    refine Eq.trans ?_ (jput_n e12)
    obtain ⟨h13, e14, hf⟩ := j_bind hf
    refine Eq.trans ?_ (jput_n e14)
    obtain ⟨h15, e16, hf⟩ := j_bind hf
    refine Eq.trans ?_ (jput_n e16)
    obtain ⟨h17, e18, hf⟩ := j_bind hf
    refine Eq.trans ?_ (jput_n e18)
    obtain ⟨v19, e20, hf⟩ := j_bind hf
    obtain ⟨h21, e22, hf⟩ := j_bind hf
    refine Eq.trans ?_ (jput_n e22)
    obtain ⟨u93, e94, hf⟩ := j_bind hf
    obtain ⟨q23, e24, hf⟩ := j_bind hf
    refine Eq.trans ?_ ((q_X12_laysBasic e24))
    obtain ⟨u91, e92, hf⟩ := j_bind hf
    obtain ⟨q25, e26, hf⟩ := j_bind hf
    refine Eq.trans ?_ ((q_X12_go e26))
    obtain ⟨u89, e90, hf⟩ := j_bind hf
    obtain ⟨q27, e28, hf⟩ := j_bind hf
    refine Eq.trans ?_ ((q_X12_isWord e28))
    rcases j_ite hf with hf | hf
    ·
      obtain ⟨q37, e38, hf⟩ := j_bind hf
      refine Eq.trans ?_ ((jloop_eq (fun _ _ _ _ q => q_X12_book_L99 q) e38))
      rcases j_ite hf with hf | hf
      ·
        obtain ⟨h45, e46, hf⟩ := j_bind hf
        refine Eq.trans ?_ (jput_n e46)
        obtain ⟨u51, e52, hf⟩ := j_bind hf
        obtain ⟨q47, e48, hf⟩ := j_bind hf
        refine Eq.trans ?_ ((q_X12_laysBasic e48))
        obtain ⟨v49, e50, hf⟩ := j_bind hf
        obtain rfl := j_inj hf
        rfl
      ·
        obtain ⟨u43, e44, hf⟩ := j_bind hf
        obtain ⟨q39, e40, hf⟩ := j_bind hf
        refine Eq.trans ?_ ((q_X12_takes e40))
        obtain ⟨v41, e42, hf⟩ := j_bind hf
        obtain rfl := j_inj hf
        rfl
    ·
      obtain ⟨u87, e88, hf⟩ := j_bind hf
      obtain ⟨q53, e54, hf⟩ := j_bind hf
      refine Eq.trans ?_ ((q_X12_primeLine e54))
      rcases j_ite hf with hf | hf
      ·
        obtain ⟨q55, e56, hf⟩ := j_bind hf
        refine Eq.trans ?_ ((jloop_eq (fun _ _ _ _ q => q_X12_book_L99 q) e56))
        rcases j_ite hf with hf | hf
        ·
          obtain ⟨h63, e64, hf⟩ := j_bind hf
          refine Eq.trans ?_ (jput_n e64)
          obtain ⟨u69, e70, hf⟩ := j_bind hf
          obtain ⟨q65, e66, hf⟩ := j_bind hf
          refine Eq.trans ?_ ((q_X12_laysBasic e66))
          obtain ⟨v67, e68, hf⟩ := j_bind hf
          obtain rfl := j_inj hf
          rfl
        ·
          obtain ⟨u61, e62, hf⟩ := j_bind hf
          obtain ⟨q57, e58, hf⟩ := j_bind hf
          refine Eq.trans ?_ ((q_X12_takes e58))
          obtain ⟨v59, e60, hf⟩ := j_bind hf
          obtain rfl := j_inj hf
          rfl
      ·
        obtain ⟨q71, e72, hf⟩ := j_bind hf
        refine Eq.trans ?_ ((jloop_eq (fun _ _ _ _ q => q_X12_book_L99 q) e72))
        rcases j_ite hf with hf | hf
        ·
          obtain ⟨h79, e80, hf⟩ := j_bind hf
          refine Eq.trans ?_ (jput_n e80)
          obtain ⟨u85, e86, hf⟩ := j_bind hf
          obtain ⟨q81, e82, hf⟩ := j_bind hf
          refine Eq.trans ?_ ((q_X12_laysBasic e82))
          obtain ⟨v83, e84, hf⟩ := j_bind hf
          obtain rfl := j_inj hf
          rfl
        ·
          obtain ⟨u77, e78, hf⟩ := j_bind hf
          obtain ⟨q73, e74, hf⟩ := j_bind hf
          refine Eq.trans ?_ ((q_X12_takes e74))
          obtain ⟨v75, e76, hf⟩ := j_bind hf
          obtain rfl := j_inj hf
          rfl
theorem n_X12_init {a0 : Nat} {h : JH} {q : Unit × JH} (hf : f_X12_init a0 h = some q) : j_le h q.2 := by
  unfold f_X12_init at hf
  obtain ⟨h1, e2, hf⟩ := j_bind hf
  refine j_le_trans (j_le_of (jput_n e2)) ?_
  obtain ⟨q3, e4, hf⟩ := j_bind hf
  refine j_le_trans (jnA_le e4) ?_
  obtain ⟨h5, e6, hf⟩ := j_bind hf
  refine j_le_trans (j_le_of (jput_n e6)) ?_
  obtain ⟨q7, e8, hf⟩ := j_bind hf
  refine j_le_trans (jnA_le e8) ?_
  obtain ⟨h9, e10, hf⟩ := j_bind hf
  refine j_le_trans (j_le_of (jput_n e10)) ?_
  obtain ⟨q11, e12, hf⟩ := j_bind hf
  refine j_le_trans (jnA_le e12) ?_
  obtain ⟨h13, e14, hf⟩ := j_bind hf
  refine j_le_trans (j_le_of (jput_n e14)) ?_
  obtain ⟨q15, e16, hf⟩ := j_bind hf
  refine j_le_trans (jnA_le e16) ?_
  obtain ⟨h17, e18, hf⟩ := j_bind hf
  refine j_le_trans (j_le_of (jput_n e18)) ?_
  obtain ⟨q19, e20, hf⟩ := j_bind hf
  refine j_le_trans (jnA_le e20) ?_
  obtain ⟨h21, e22, hf⟩ := j_bind hf
  refine j_le_trans (j_le_of (jput_n e22)) ?_
  obtain ⟨h23, e24, hf⟩ := j_bind hf
  refine j_le_trans (j_le_of (jput_n e24)) ?_
  obtain ⟨q25, e26, hf⟩ := j_bind hf
  refine j_le_trans (jnA_le e26) ?_
  obtain ⟨h27, e28, hf⟩ := j_bind hf
  refine j_le_trans (j_le_of (jput_n e28)) ?_
  obtain ⟨q29, e30, hf⟩ := j_bind hf
  refine j_le_trans (jnA_le e30) ?_
  obtain ⟨h31, e32, hf⟩ := j_bind hf
  refine j_le_trans (j_le_of (jput_n e32)) ?_
  obtain ⟨q33, e34, hf⟩ := j_bind hf
  refine j_le_trans (jnA_le e34) ?_
  obtain ⟨h35, e36, hf⟩ := j_bind hf
  refine j_le_trans (j_le_of (jput_n e36)) ?_
  obtain ⟨q37, e38, hf⟩ := j_bind hf
  refine j_le_trans (jnA_le e38) ?_
  obtain ⟨h39, e40, hf⟩ := j_bind hf
  refine j_le_trans (j_le_of (jput_n e40)) ?_
  obtain ⟨q41, e42, hf⟩ := j_bind hf
  refine j_le_trans (jnA_le e42) ?_
  obtain ⟨h43, e44, hf⟩ := j_bind hf
  refine j_le_trans (j_le_of (jput_n e44)) ?_
  obtain ⟨q45, e46, hf⟩ := j_bind hf
  refine j_le_trans (jnA_le e46) ?_
  obtain ⟨h47, e48, hf⟩ := j_bind hf
  refine j_le_trans (j_le_of (jput_n e48)) ?_
  obtain ⟨q49, e50, hf⟩ := j_bind hf
  refine j_le_trans (jnA_le e50) ?_
  obtain ⟨h51, e52, hf⟩ := j_bind hf
  refine j_le_trans (j_le_of (jput_n e52)) ?_
  obtain ⟨q53, e54, hf⟩ := j_bind hf
  refine j_le_trans (jnA_le e54) ?_
  obtain ⟨h55, e56, hf⟩ := j_bind hf
  refine j_le_trans (j_le_of (jput_n e56)) ?_
  obtain ⟨q57, e58, hf⟩ := j_bind hf
  refine j_le_trans (jnA_le e58) ?_
  obtain ⟨h59, e60, hf⟩ := j_bind hf
  refine j_le_trans (j_le_of (jput_n e60)) ?_
  obtain ⟨q61, e62, hf⟩ := j_bind hf
  refine j_le_trans (jnA_le e62) ?_
  obtain ⟨h63, e64, hf⟩ := j_bind hf
  refine j_le_trans (j_le_of (jput_n e64)) ?_
  obtain ⟨q65, e66, hf⟩ := j_bind hf
  refine j_le_trans (jnA_le e66) ?_
  obtain ⟨h67, e68, hf⟩ := j_bind hf
  refine j_le_trans (j_le_of (jput_n e68)) ?_
  obtain ⟨q69, e70, hf⟩ := j_bind hf
  refine j_le_trans (jnA_le e70) ?_
  obtain ⟨h71, e72, hf⟩ := j_bind hf
  refine j_le_trans (j_le_of (jput_n e72)) ?_
  obtain ⟨q73, e74, hf⟩ := j_bind hf
  refine j_le_trans (jnA_le e74) ?_
  obtain ⟨h75, e76, hf⟩ := j_bind hf
  refine j_le_trans (j_le_of (jput_n e76)) ?_
  obtain ⟨q77, e78, hf⟩ := j_bind hf
  refine j_le_trans (jnA_le e78) ?_
  obtain ⟨h79, e80, hf⟩ := j_bind hf
  refine j_le_trans (j_le_of (jput_n e80)) ?_
  obtain ⟨q81, e82, hf⟩ := j_bind hf
  refine j_le_trans (jnA_le e82) ?_
  obtain ⟨h83, e84, hf⟩ := j_bind hf
  refine j_le_trans (j_le_of (jput_n e84)) ?_
  obtain ⟨q85, e86, hf⟩ := j_bind hf
  refine j_le_trans (jnA_le e86) ?_
  obtain ⟨h87, e88, hf⟩ := j_bind hf
  refine j_le_trans (j_le_of (jput_n e88)) ?_
  obtain ⟨q89, e90, hf⟩ := j_bind hf
  refine j_le_trans (jnA_le e90) ?_
  obtain ⟨h91, e92, hf⟩ := j_bind hf
  refine j_le_trans (j_le_of (jput_n e92)) ?_
  obtain ⟨q93, e94, hf⟩ := j_bind hf
  refine j_le_trans (jnA_le e94) ?_
  obtain ⟨h95, e96, hf⟩ := j_bind hf
  refine j_le_trans (j_le_of (jput_n e96)) ?_
  obtain ⟨q97, e98, hf⟩ := j_bind hf
  refine j_le_trans (jnA_le e98) ?_
  obtain ⟨h99, e100, hf⟩ := j_bind hf
  refine j_le_trans (j_le_of (jput_n e100)) ?_
  obtain ⟨q101, e102, hf⟩ := j_bind hf
  refine j_le_trans (jnA_le e102) ?_
  obtain ⟨h103, e104, hf⟩ := j_bind hf
  refine j_le_trans (j_le_of (jput_n e104)) ?_
  obtain ⟨q105, e106, hf⟩ := j_bind hf
  refine j_le_trans (jnA_le e106) ?_
  obtain ⟨h107, e108, hf⟩ := j_bind hf
  refine j_le_trans (j_le_of (jput_n e108)) ?_
  obtain ⟨q109, e110, hf⟩ := j_bind hf
  refine j_le_trans (jnA_le e110) ?_
  obtain ⟨h111, e112, hf⟩ := j_bind hf
  refine j_le_trans (j_le_of (jput_n e112)) ?_
  obtain ⟨q113, e114, hf⟩ := j_bind hf
  refine j_le_trans (jnA_le e114) ?_
  obtain ⟨h115, e116, hf⟩ := j_bind hf
  refine j_le_trans (j_le_of (jput_n e116)) ?_
  obtain ⟨q117, e118, hf⟩ := j_bind hf
  refine j_le_trans (jnA_le e118) ?_
  obtain ⟨h119, e120, hf⟩ := j_bind hf
  refine j_le_trans (j_le_of (jput_n e120)) ?_
  obtain ⟨q121, e122, hf⟩ := j_bind hf
  refine j_le_trans (jnA_le e122) ?_
  obtain ⟨h123, e124, hf⟩ := j_bind hf
  refine j_le_trans (j_le_of (jput_n e124)) ?_
  obtain ⟨q125, e126, hf⟩ := j_bind hf
  refine j_le_trans (jnA_le e126) ?_
  obtain ⟨h127, e128, hf⟩ := j_bind hf
  refine j_le_trans (j_le_of (jput_n e128)) ?_
  obtain ⟨q129, e130, hf⟩ := j_bind hf
  refine j_le_trans (jnA_le e130) ?_
  obtain ⟨h131, e132, hf⟩ := j_bind hf
  refine j_le_trans (j_le_of (jput_n e132)) ?_
  obtain ⟨q133, e134, hf⟩ := j_bind hf
  refine j_le_trans (jnA_le e134) ?_
  obtain ⟨h135, e136, hf⟩ := j_bind hf
  refine j_le_trans (j_le_of (jput_n e136)) ?_
  obtain ⟨u143, e144, hf⟩ := j_bind hf
  obtain ⟨q137, e138, hf⟩ := j_bind hf
  refine j_le_trans (j_le_of ((q_X12_laysBasic e138))) ?_
  obtain ⟨u141, e142, hf⟩ := j_bind hf
  obtain ⟨q139, e140, hf⟩ := j_bind hf
  refine j_le_trans (j_le_of ((q_X12_takes e140))) ?_
  obtain rfl := j_inj hf
  exact j_le_refl _
theorem q_X12_count {a0 : Nat} {a1 : Int32} {h : JH} {q : Int32 × JH} (hf : f_X12_count a0 a1 h = some q) : q.2.2.1 = h.2.1 := by
  unfold f_X12_count at hf
  obtain ⟨h1, e2, hf⟩ := j_bind hf
  refine Eq.trans ?_ (jput_n e2)
  rcases j_ite hf with hf | hf
  ·
    obtain ⟨v3, e4, hf⟩ := j_bind hf
    obtain rfl := j_inj hf
    rfl
  rcases j_ite hf with hf | hf
  ·
    obtain ⟨v5, e6, hf⟩ := j_bind hf
    obtain rfl := j_inj hf
    rfl
  rcases j_ite hf with hf | hf
  ·
    obtain ⟨v7, e8, hf⟩ := j_bind hf
    obtain rfl := j_inj hf
    rfl
  rcases j_ite hf with hf | hf
  ·
    obtain ⟨v9, e10, hf⟩ := j_bind hf
    obtain ⟨v11, e12, hf⟩ := j_bind hf
    rcases j_ite hf with hf | hf
    ·
      obtain ⟨v13, e14, hf⟩ := j_bind hf
      obtain ⟨v15, e16, hf⟩ := j_bind hf
      rcases j_ite hf with hf | hf
      ·
        obtain rfl := j_inj hf
        rfl
      ·
        obtain rfl := j_inj hf
        rfl
    ·
      obtain ⟨v17, e18, hf⟩ := j_bind hf
      obtain ⟨v19, e20, hf⟩ := j_bind hf
      rcases j_ite hf with hf | hf
      ·
        obtain rfl := j_inj hf
        rfl
      ·
        obtain rfl := j_inj hf
        rfl
  obtain rfl := j_inj hf
  rfl
theorem q_X12_let {a0 : Nat} {a1 : Int32} {a2 : Int32} {h : JH} {q : Int32 × JH} (hf : f_X12_let a0 a1 a2 h = some q) : q.2.2.1 = h.2.1 := by
  unfold f_X12_let at hf
  obtain ⟨h1, e2, hf⟩ := j_bind hf
  refine Eq.trans ?_ (jput_n e2)
  obtain ⟨v3, e4, hf⟩ := j_bind hf
  obtain ⟨q5, e6, hf⟩ := j_bind hf
  refine Eq.trans ?_ ((q_X12_within e6))
  rcases j_ite hf with hf | hf
  ·
    obtain rfl := j_inj hf
    rfl
  ·
    rcases j_ite hf with hf | hf
    ·
      obtain ⟨v7, e8, hf⟩ := j_bind hf
      obtain ⟨v9, e10, hf⟩ := j_bind hf
      obtain rfl := j_inj hf
      rfl
    rcases j_ite hf with hf | hf
    ·
      obtain ⟨v11, e12, hf⟩ := j_bind hf
      obtain ⟨v13, e14, hf⟩ := j_bind hf
      obtain ⟨q15, e16, hf⟩ := j_bind hf
      refine Eq.trans ?_ ((q_X12_longOf e16))
      obtain rfl := j_inj hf
      rfl
    rcases j_ite hf with hf | hf
    ·
      obtain ⟨v17, e18, hf⟩ := j_bind hf
      obtain ⟨v19, e20, hf⟩ := j_bind hf
      rcases j_ite hf with hf | hf
      ·
        obtain rfl := j_inj hf
        rfl
      ·
        obtain rfl := j_inj hf
        rfl
    obtain rfl := j_inj hf
    rfl
theorem q_X12_isRegister {a0 : Nat} {a1 : Int32} {h : JH} {q : Int32 × JH} (hf : f_X12_isRegister a0 a1 h = some q) : q.2.2.1 = h.2.1 := by
  unfold f_X12_isRegister at hf
  obtain ⟨q1, e2, hf⟩ := j_bind hf
  refine Eq.trans ?_ ((q_X12_within e2))
  obtain ⟨u3, e4, hf⟩ := j_bind hf
  obtain rfl := j_inj hf
  rfl
theorem q_X12_coefficient {a0 : Nat} {a1 : Int32} {a2 : Int32} {h : JH} {q : Int32 × JH} (hf : f_X12_coefficient a0 a1 a2 h = some q) : q.2.2.1 = h.2.1 := by
  unfold f_X12_coefficient at hf
  obtain ⟨h1, e2, hf⟩ := j_bind hf
  refine Eq.trans ?_ (jput_n e2)
  obtain ⟨u11, e12, hf⟩ := j_bind hf
  obtain ⟨q3, e4, hf⟩ := j_bind hf
  refine Eq.trans ?_ ((q_X12_isRegister e4))
  rcases j_ite hf with hf | hf
  ·
    obtain rfl := j_inj hf
    rfl
  ·
    obtain ⟨q5, e6, hf⟩ := j_bind hf
    refine Eq.trans ?_ ((q_X12_within e6))
    rcases j_ite hf with hf | hf
    ·
      obtain rfl := j_inj hf
      rfl
    ·
      obtain ⟨v7, e8, hf⟩ := j_bind hf
      obtain ⟨v9, e10, hf⟩ := j_bind hf
      obtain rfl := j_inj hf
      rfl
theorem q_X12_weight {a0 : Nat} {a1 : Int32} {h : JH} {q : Int32 × JH} (hf : f_X12_weight a0 a1 h = some q) : q.2.2.1 = h.2.1 := by
  unfold f_X12_weight at hf
  obtain ⟨h1, e2, hf⟩ := j_bind hf
  refine Eq.trans ?_ (jput_n e2)
  obtain ⟨u9, e10, hf⟩ := j_bind hf
  obtain ⟨q3, e4, hf⟩ := j_bind hf
  refine Eq.trans ?_ ((q_X12_isRegister e4))
  rcases j_ite hf with hf | hf
  ·
    obtain rfl := j_inj hf
    rfl
  ·
    obtain ⟨v5, e6, hf⟩ := j_bind hf
    obtain ⟨v7, e8, hf⟩ := j_bind hf
    obtain rfl := j_inj hf
    rfl
theorem q_X12_cuspsOf {a0 : Int32} {h : JH} {q : Int32 × JH} (hf : f_X12_cuspsOf a0 h = some q) : q.2.2.1 = h.2.1 := by
  unfold f_X12_cuspsOf at hf
  obtain ⟨q1, e2, hf⟩ := j_bind hf
  refine Eq.trans ?_ ((q_X12_longOf e2))
  rcases j_ite hf with hf | hf
  ·
    obtain rfl := j_inj hf
    rfl
  ·
    obtain ⟨q3, e4, hf⟩ := j_bind hf
    refine Eq.trans ?_ ((q_X12_longOf e4))
    obtain rfl := j_inj hf
    rfl
theorem q_X12_makes {a0 : Nat} {a1 : Int32} {a2 : Int32} {h : JH} {q : Int32 × JH} (hf : f_X12_makes a0 a1 a2 h = some q) : q.2.2.1 = h.2.1 := by
  unfold f_X12_makes at hf
  obtain ⟨h1, e2, hf⟩ := j_bind hf
  refine Eq.trans ?_ (jput_n e2)
  obtain ⟨q3, e4, hf⟩ := j_bind hf
  refine Eq.trans ?_ ((q_X12_isWeight e4))
  rcases j_ite hf with hf | hf
  ·
    obtain rfl := j_inj hf
    rfl
  ·
    rcases j_ite hf with hf | hf
    ·
      obtain ⟨q5, e6, hf⟩ := j_bind hf
      refine Eq.trans ?_ ((q_X12_longOf e6))
      obtain rfl := j_inj hf
      rfl
    ·
      obtain ⟨q7, e8, hf⟩ := j_bind hf
      refine Eq.trans ?_ ((q_X12_cuspsOf e8))
      obtain rfl := j_inj hf
      rfl
theorem q_X12_divisor_L22  {z : (Int32 × Int32)} {h : JH} {r : (Int32 × Int32) ⊕ (Int32 × Int32)} {h1 : JH} (hf : f_X12_divisor_L22  z h = some (r, h1)) : h1.2.1 = h.2.1 := by
  unfold f_X12_divisor_L22 at hf
  rcases j_ite hf with hf | hf
  ·
    obtain ⟨rfl, rfl⟩ := j_inj2 hf
    rfl
  ·
    obtain ⟨u1, e2, hf⟩ := j_bind hf
    obtain ⟨rfl, rfl⟩ := j_inj2 hf
    rfl
theorem q_X12_divisor {a0 : Int32} {a1 : Int32} {h : JH} {q : Int32 × JH} (hf : f_X12_divisor a0 a1 h = some q) : q.2.2.1 = h.2.1 := by
  unfold f_X12_divisor at hf
  rcases j_ite hf with hf | hf
  ·
    rcases j_ite hf with hf | hf
    ·
      obtain ⟨q4, e5, hf⟩ := j_bind hf
      refine Eq.trans ?_ ((jloop_eq (fun _ _ _ _ q => q_X12_divisor_L22 q) e5))
      obtain rfl := j_inj hf
      rfl
    ·
      obtain ⟨q6, e7, hf⟩ := j_bind hf
      refine Eq.trans ?_ ((jloop_eq (fun _ _ _ _ q => q_X12_divisor_L22 q) e7))
      obtain rfl := j_inj hf
      rfl
  ·
    rcases j_ite hf with hf | hf
    ·
      obtain ⟨q8, e9, hf⟩ := j_bind hf
      refine Eq.trans ?_ ((jloop_eq (fun _ _ _ _ q => q_X12_divisor_L22 q) e9))
      obtain rfl := j_inj hf
      rfl
    ·
      obtain ⟨q10, e11, hf⟩ := j_bind hf
      refine Eq.trans ?_ ((jloop_eq (fun _ _ _ _ q => q_X12_divisor_L22 q) e11))
      obtain rfl := j_inj hf
      rfl
theorem q_X12_isDisc {a0 : Int32} {h : JH} {q : Int32 × JH} (hf : f_X12_isDisc a0 h = some q) : q.2.2.1 = h.2.1 := by
  unfold f_X12_isDisc at hf
  obtain ⟨q1, e2, hf⟩ := j_bind hf
  refine Eq.trans ?_ ((q_X12_within e2))
  rcases j_ite hf with hf | hf
  ·
    obtain rfl := j_inj hf
    rfl
  ·
    rcases j_ite hf with hf | hf
    ·
      obtain rfl := j_inj hf
      rfl
    ·
      rcases j_ite hf with hf | hf
      ·
        obtain rfl := j_inj hf
        rfl
      ·
        obtain rfl := j_inj hf
        rfl
theorem q_X12_counts_L18 {a0 : Int32} {a1 : Int32} {a3 : Int32} {z : (Int32 × Int32)} {h : JH} {r : (Int32 × Int32) ⊕ (Int32 × Int32)} {h1 : JH} (hf : f_X12_counts_L18 a0 a1 a3 z h = some (r, h1)) : h1.2.1 = h.2.1 := by
  unfold f_X12_counts_L18 at hf
  rcases j_ite hf with hf | hf
  ·
    obtain ⟨rfl, rfl⟩ := j_inj2 hf
    rfl
  ·
    obtain ⟨u1, e2, hf⟩ := j_bind hf
    obtain ⟨u3, e4, hf⟩ := j_bind hf
    rcases j_ite hf with hf | hf
    ·
      rcases j_ite hf with hf | hf
      ·
        rcases j_ite hf with hf | hf
        ·
          rcases j_ite hf with hf | hf
          ·
            obtain ⟨rfl, rfl⟩ := j_inj2 hf
            rfl
          ·
            obtain ⟨q13, e14, hf⟩ := j_bind hf
            refine Eq.trans ?_ ((q_X12_divisor e14))
            obtain ⟨q15, e16, hf⟩ := j_bind hf
            refine Eq.trans ?_ ((q_X12_divisor e16))
            rcases j_ite hf with hf | hf
            ·
              obtain ⟨rfl, rfl⟩ := j_inj2 hf
              rfl
            ·
              obtain ⟨rfl, rfl⟩ := j_inj2 hf
              rfl
        ·
          rcases j_ite hf with hf | hf
          ·
            rcases j_ite hf with hf | hf
            ·
              obtain ⟨rfl, rfl⟩ := j_inj2 hf
              rfl
            ·
              obtain ⟨q17, e18, hf⟩ := j_bind hf
              refine Eq.trans ?_ ((q_X12_divisor e18))
              obtain ⟨q19, e20, hf⟩ := j_bind hf
              refine Eq.trans ?_ ((q_X12_divisor e20))
              rcases j_ite hf with hf | hf
              ·
                obtain ⟨rfl, rfl⟩ := j_inj2 hf
                rfl
              ·
                obtain ⟨rfl, rfl⟩ := j_inj2 hf
                rfl
          ·
            rcases j_ite hf with hf | hf
            ·
              rcases j_ite hf with hf | hf
              ·
                obtain ⟨rfl, rfl⟩ := j_inj2 hf
                rfl
              ·
                rcases j_ite hf with hf | hf
                ·
                  rcases j_ite hf with hf | hf
                  ·
                    obtain ⟨rfl, rfl⟩ := j_inj2 hf
                    rfl
                  ·
                    obtain ⟨rfl, rfl⟩ := j_inj2 hf
                    rfl
                ·
                  obtain ⟨rfl, rfl⟩ := j_inj2 hf
                  rfl
            ·
              rcases j_ite hf with hf | hf
              ·
                rcases j_ite hf with hf | hf
                ·
                  obtain ⟨rfl, rfl⟩ := j_inj2 hf
                  rfl
                ·
                  obtain ⟨rfl, rfl⟩ := j_inj2 hf
                  rfl
              ·
                obtain ⟨rfl, rfl⟩ := j_inj2 hf
                rfl
      ·
        rcases j_ite hf with hf | hf
        ·
          rcases j_ite hf with hf | hf
          ·
            rcases j_ite hf with hf | hf
            ·
              obtain ⟨rfl, rfl⟩ := j_inj2 hf
              rfl
            ·
              obtain ⟨q21, e22, hf⟩ := j_bind hf
              refine Eq.trans ?_ ((q_X12_divisor e22))
              obtain ⟨q23, e24, hf⟩ := j_bind hf
              refine Eq.trans ?_ ((q_X12_divisor e24))
              rcases j_ite hf with hf | hf
              ·
                obtain ⟨rfl, rfl⟩ := j_inj2 hf
                rfl
              ·
                obtain ⟨rfl, rfl⟩ := j_inj2 hf
                rfl
          ·
            rcases j_ite hf with hf | hf
            ·
              rcases j_ite hf with hf | hf
              ·
                obtain ⟨rfl, rfl⟩ := j_inj2 hf
                rfl
              ·
                obtain ⟨q25, e26, hf⟩ := j_bind hf
                refine Eq.trans ?_ ((q_X12_divisor e26))
                obtain ⟨q27, e28, hf⟩ := j_bind hf
                refine Eq.trans ?_ ((q_X12_divisor e28))
                rcases j_ite hf with hf | hf
                ·
                  obtain ⟨rfl, rfl⟩ := j_inj2 hf
                  rfl
                ·
                  obtain ⟨rfl, rfl⟩ := j_inj2 hf
                  rfl
            ·
              rcases j_ite hf with hf | hf
              ·
                rcases j_ite hf with hf | hf
                ·
                  obtain ⟨rfl, rfl⟩ := j_inj2 hf
                  rfl
                ·
                  rcases j_ite hf with hf | hf
                  ·
                    rcases j_ite hf with hf | hf
                    ·
                      obtain ⟨rfl, rfl⟩ := j_inj2 hf
                      rfl
                    ·
                      obtain ⟨rfl, rfl⟩ := j_inj2 hf
                      rfl
                  ·
                    obtain ⟨rfl, rfl⟩ := j_inj2 hf
                    rfl
              ·
                rcases j_ite hf with hf | hf
                ·
                  rcases j_ite hf with hf | hf
                  ·
                    obtain ⟨rfl, rfl⟩ := j_inj2 hf
                    rfl
                  ·
                    obtain ⟨rfl, rfl⟩ := j_inj2 hf
                    rfl
                ·
                  obtain ⟨rfl, rfl⟩ := j_inj2 hf
                  rfl
        ·
          rcases j_ite hf with hf | hf
          ·
            rcases j_ite hf with hf | hf
            ·
              rcases j_ite hf with hf | hf
              ·
                obtain ⟨rfl, rfl⟩ := j_inj2 hf
                rfl
              ·
                obtain ⟨q29, e30, hf⟩ := j_bind hf
                refine Eq.trans ?_ ((q_X12_divisor e30))
                obtain ⟨q31, e32, hf⟩ := j_bind hf
                refine Eq.trans ?_ ((q_X12_divisor e32))
                rcases j_ite hf with hf | hf
                ·
                  obtain ⟨rfl, rfl⟩ := j_inj2 hf
                  rfl
                ·
                  obtain ⟨rfl, rfl⟩ := j_inj2 hf
                  rfl
            ·
              rcases j_ite hf with hf | hf
              ·
                rcases j_ite hf with hf | hf
                ·
                  obtain ⟨rfl, rfl⟩ := j_inj2 hf
                  rfl
                ·
                  obtain ⟨q33, e34, hf⟩ := j_bind hf
                  refine Eq.trans ?_ ((q_X12_divisor e34))
                  obtain ⟨q35, e36, hf⟩ := j_bind hf
                  refine Eq.trans ?_ ((q_X12_divisor e36))
                  rcases j_ite hf with hf | hf
                  ·
                    obtain ⟨rfl, rfl⟩ := j_inj2 hf
                    rfl
                  ·
                    obtain ⟨rfl, rfl⟩ := j_inj2 hf
                    rfl
              ·
                rcases j_ite hf with hf | hf
                ·
                  rcases j_ite hf with hf | hf
                  ·
                    obtain ⟨rfl, rfl⟩ := j_inj2 hf
                    rfl
                  ·
                    rcases j_ite hf with hf | hf
                    ·
                      rcases j_ite hf with hf | hf
                      ·
                        obtain ⟨rfl, rfl⟩ := j_inj2 hf
                        rfl
                      ·
                        obtain ⟨rfl, rfl⟩ := j_inj2 hf
                        rfl
                    ·
                      obtain ⟨rfl, rfl⟩ := j_inj2 hf
                      rfl
                ·
                  rcases j_ite hf with hf | hf
                  ·
                    rcases j_ite hf with hf | hf
                    ·
                      obtain ⟨rfl, rfl⟩ := j_inj2 hf
                      rfl
                    ·
                      obtain ⟨rfl, rfl⟩ := j_inj2 hf
                      rfl
                  ·
                    obtain ⟨rfl, rfl⟩ := j_inj2 hf
                    rfl
          ·
            rcases j_ite hf with hf | hf
            ·
              rcases j_ite hf with hf | hf
              ·
                obtain ⟨rfl, rfl⟩ := j_inj2 hf
                rfl
              ·
                obtain ⟨q37, e38, hf⟩ := j_bind hf
                refine Eq.trans ?_ ((q_X12_divisor e38))
                obtain ⟨q39, e40, hf⟩ := j_bind hf
                refine Eq.trans ?_ ((q_X12_divisor e40))
                rcases j_ite hf with hf | hf
                ·
                  obtain ⟨rfl, rfl⟩ := j_inj2 hf
                  rfl
                ·
                  obtain ⟨rfl, rfl⟩ := j_inj2 hf
                  rfl
            ·
              rcases j_ite hf with hf | hf
              ·
                rcases j_ite hf with hf | hf
                ·
                  obtain ⟨rfl, rfl⟩ := j_inj2 hf
                  rfl
                ·
                  obtain ⟨q41, e42, hf⟩ := j_bind hf
                  refine Eq.trans ?_ ((q_X12_divisor e42))
                  obtain ⟨q43, e44, hf⟩ := j_bind hf
                  refine Eq.trans ?_ ((q_X12_divisor e44))
                  rcases j_ite hf with hf | hf
                  ·
                    obtain ⟨rfl, rfl⟩ := j_inj2 hf
                    rfl
                  ·
                    obtain ⟨rfl, rfl⟩ := j_inj2 hf
                    rfl
              ·
                rcases j_ite hf with hf | hf
                ·
                  rcases j_ite hf with hf | hf
                  ·
                    obtain ⟨rfl, rfl⟩ := j_inj2 hf
                    rfl
                  ·
                    rcases j_ite hf with hf | hf
                    ·
                      rcases j_ite hf with hf | hf
                      ·
                        obtain ⟨rfl, rfl⟩ := j_inj2 hf
                        rfl
                      ·
                        obtain ⟨rfl, rfl⟩ := j_inj2 hf
                        rfl
                    ·
                      obtain ⟨rfl, rfl⟩ := j_inj2 hf
                      rfl
                ·
                  rcases j_ite hf with hf | hf
                  ·
                    rcases j_ite hf with hf | hf
                    ·
                      obtain ⟨rfl, rfl⟩ := j_inj2 hf
                      rfl
                    ·
                      obtain ⟨rfl, rfl⟩ := j_inj2 hf
                      rfl
                  ·
                    obtain ⟨rfl, rfl⟩ := j_inj2 hf
                    rfl
    ·
      rcases j_ite hf with hf | hf
      ·
        rcases j_ite hf with hf | hf
        ·
          obtain ⟨rfl, rfl⟩ := j_inj2 hf
          rfl
        ·
          obtain ⟨q5, e6, hf⟩ := j_bind hf
          refine Eq.trans ?_ ((q_X12_divisor e6))
          obtain ⟨q7, e8, hf⟩ := j_bind hf
          refine Eq.trans ?_ ((q_X12_divisor e8))
          rcases j_ite hf with hf | hf
          ·
            obtain ⟨rfl, rfl⟩ := j_inj2 hf
            rfl
          ·
            obtain ⟨rfl, rfl⟩ := j_inj2 hf
            rfl
      ·
        rcases j_ite hf with hf | hf
        ·
          rcases j_ite hf with hf | hf
          ·
            obtain ⟨rfl, rfl⟩ := j_inj2 hf
            rfl
          ·
            obtain ⟨q9, e10, hf⟩ := j_bind hf
            refine Eq.trans ?_ ((q_X12_divisor e10))
            obtain ⟨q11, e12, hf⟩ := j_bind hf
            refine Eq.trans ?_ ((q_X12_divisor e12))
            rcases j_ite hf with hf | hf
            ·
              obtain ⟨rfl, rfl⟩ := j_inj2 hf
              rfl
            ·
              obtain ⟨rfl, rfl⟩ := j_inj2 hf
              rfl
        ·
          rcases j_ite hf with hf | hf
          ·
            rcases j_ite hf with hf | hf
            ·
              obtain ⟨rfl, rfl⟩ := j_inj2 hf
              rfl
            ·
              rcases j_ite hf with hf | hf
              ·
                rcases j_ite hf with hf | hf
                ·
                  obtain ⟨rfl, rfl⟩ := j_inj2 hf
                  rfl
                ·
                  obtain ⟨rfl, rfl⟩ := j_inj2 hf
                  rfl
              ·
                obtain ⟨rfl, rfl⟩ := j_inj2 hf
                rfl
          ·
            rcases j_ite hf with hf | hf
            ·
              rcases j_ite hf with hf | hf
              ·
                obtain ⟨rfl, rfl⟩ := j_inj2 hf
                rfl
              ·
                obtain ⟨rfl, rfl⟩ := j_inj2 hf
                rfl
            ·
              obtain ⟨rfl, rfl⟩ := j_inj2 hf
              rfl
theorem q_X12_counts_L4 {a0 : Int32} {a1 : Int32} {z : (Int32 × Int32)} {h : JH} {r : (Int32 × Int32) ⊕ (Int32 × Int32)} {h1 : JH} (hf : f_X12_counts_L4 a0 a1 z h = some (r, h1)) : h1.2.1 = h.2.1 := by
  unfold f_X12_counts_L4 at hf
  rcases j_ite hf with hf | hf
  ·
    obtain ⟨rfl, rfl⟩ := j_inj2 hf
    rfl
  ·
    obtain ⟨q1, e2, hf⟩ := j_bind hf
    refine Eq.trans ?_ ((jloop_eq (fun _ _ _ _ q => q_X12_counts_L18 q) e2))
    obtain ⟨rfl, rfl⟩ := j_inj2 hf
    rfl
theorem q_X12_counts {a0 : Int32} {a1 : Int32} {h : JH} {q : Int32 × JH} (hf : f_X12_counts a0 a1 h = some q) : q.2.2.1 = h.2.1 := by
  unfold f_X12_counts at hf
  obtain ⟨q4, e5, hf⟩ := j_bind hf
  refine Eq.trans ?_ ((jloop_eq (fun _ _ _ _ q => q_X12_counts_L4 q) e5))
  obtain rfl := j_inj hf
  rfl
theorem q_X12_wholeOf {a0 : Int32} {h : JH} {q : Int32 × JH} (hf : f_X12_wholeOf a0 h = some q) : q.2.2.1 = h.2.1 := by
  unfold f_X12_wholeOf at hf
  rcases j_ite hf with hf | hf
  ·
    obtain rfl := j_inj hf
    rfl
  ·
    obtain ⟨q1, e2, hf⟩ := j_bind hf
    refine Eq.trans ?_ ((q_X12_isDisc e2))
    rcases j_ite hf with hf | hf
    ·
      obtain rfl := j_inj hf
      rfl
    ·
      obtain ⟨q3, e4, hf⟩ := j_bind hf
      refine Eq.trans ?_ ((q_X12_counts e4))
      obtain rfl := j_inj hf
      rfl
theorem q_X12_whole {a0 : Nat} {a1 : Int32} {h : JH} {q : Int32 × JH} (hf : f_X12_whole a0 a1 h = some q) : q.2.2.1 = h.2.1 := by
  unfold f_X12_whole at hf
  rcases j_ite hf with hf | hf
  ·
    obtain ⟨h1, e2, hf⟩ := j_bind hf
    refine Eq.trans ?_ (jput_n e2)
    obtain ⟨v3, e4, hf⟩ := j_bind hf
    rcases j_ite hf with hf | hf
    ·
      obtain ⟨q5, e6, hf⟩ := j_bind hf
      refine Eq.trans ?_ ((q_X12_wholeOf e6))
      obtain rfl := j_inj hf
      rfl
    ·
      obtain rfl := j_inj hf
      rfl
  ·
    obtain ⟨h7, e8, hf⟩ := j_bind hf
    refine Eq.trans ?_ (jput_n e8)
    obtain ⟨v9, e10, hf⟩ := j_bind hf
    rcases j_ite hf with hf | hf
    ·
      obtain ⟨q11, e12, hf⟩ := j_bind hf
      refine Eq.trans ?_ ((q_X12_wholeOf e12))
      obtain rfl := j_inj hf
      rfl
    ·
      obtain rfl := j_inj hf
      rfl
theorem q_X12_small {a0 : Nat} {a1 : Int32} {h : JH} {q : Int32 × JH} (hf : f_X12_small a0 a1 h = some q) : q.2.2.1 = h.2.1 := by
  unfold f_X12_small at hf
  obtain ⟨h1, e2, hf⟩ := j_bind hf
  refine Eq.trans ?_ (jput_n e2)
  obtain ⟨q3, e4, hf⟩ := j_bind hf
  refine Eq.trans ?_ ((q_X12_isDisc e4))
  rcases j_ite hf with hf | hf
  ·
    obtain rfl := j_inj hf
    rfl
  ·
    obtain ⟨q5, e6, hf⟩ := j_bind hf
    refine Eq.trans ?_ ((q_X12_counts e6))
    obtain rfl := j_inj hf
    rfl
theorem q_X12_times {a0 : Nat} {a1 : Int64} {a3 : Int64} {h : JH} {q : Int64 × JH} (hf : f_X12_times a0 a1 a3 h = some q) : q.2.2.1 = h.2.1 := by
  unfold f_X12_times at hf
  rcases j_ite hf with hf | hf
  ·
    obtain ⟨v29, e30, hf⟩ := j_bind hf
    rcases j_ite hf with hf | hf
    ·
      rcases j_ite hf with hf | hf
      ·
        obtain ⟨h33, e34, hf⟩ := j_bind hf
        refine Eq.trans ?_ (jput_n e34)
        obtain rfl := j_inj hf
        rfl
      ·
        rcases j_ite hf with hf | hf
        ·
          obtain ⟨h35, e36, hf⟩ := j_bind hf
          refine Eq.trans ?_ (jput_n e36)
          obtain rfl := j_inj hf
          rfl
        ·
          rcases j_ite hf with hf | hf
          ·
            obtain ⟨h37, e38, hf⟩ := j_bind hf
            refine Eq.trans ?_ (jput_n e38)
            obtain rfl := j_inj hf
            rfl
          ·
            obtain ⟨h39, e40, hf⟩ := j_bind hf
            refine Eq.trans ?_ (jput_n e40)
            obtain rfl := j_inj hf
            rfl
    ·
      obtain ⟨h31, e32, hf⟩ := j_bind hf
      refine Eq.trans ?_ (jput_n e32)
      obtain rfl := j_inj hf
      rfl
  ·
    rcases j_ite hf with hf | hf
    ·
      obtain ⟨u1, e2, hf⟩ := j_bind hf
      obtain ⟨v3, e4, hf⟩ := j_bind hf
      rcases j_ite hf with hf | hf
      ·
        rcases j_ite hf with hf | hf
        ·
          obtain ⟨h7, e8, hf⟩ := j_bind hf
          refine Eq.trans ?_ (jput_n e8)
          obtain rfl := j_inj hf
          rfl
        ·
          rcases j_ite hf with hf | hf
          ·
            obtain ⟨h9, e10, hf⟩ := j_bind hf
            refine Eq.trans ?_ (jput_n e10)
            obtain rfl := j_inj hf
            rfl
          ·
            rcases j_ite hf with hf | hf
            ·
              obtain ⟨h11, e12, hf⟩ := j_bind hf
              refine Eq.trans ?_ (jput_n e12)
              obtain rfl := j_inj hf
              rfl
            ·
              obtain ⟨h13, e14, hf⟩ := j_bind hf
              refine Eq.trans ?_ (jput_n e14)
              obtain rfl := j_inj hf
              rfl
      ·
        obtain ⟨h5, e6, hf⟩ := j_bind hf
        refine Eq.trans ?_ (jput_n e6)
        obtain rfl := j_inj hf
        rfl
    ·
      obtain ⟨u15, e16, hf⟩ := j_bind hf
      obtain ⟨v17, e18, hf⟩ := j_bind hf
      rcases j_ite hf with hf | hf
      ·
        rcases j_ite hf with hf | hf
        ·
          obtain ⟨h21, e22, hf⟩ := j_bind hf
          refine Eq.trans ?_ (jput_n e22)
          obtain rfl := j_inj hf
          rfl
        ·
          rcases j_ite hf with hf | hf
          ·
            obtain ⟨h23, e24, hf⟩ := j_bind hf
            refine Eq.trans ?_ (jput_n e24)
            obtain rfl := j_inj hf
            rfl
          ·
            rcases j_ite hf with hf | hf
            ·
              obtain ⟨h25, e26, hf⟩ := j_bind hf
              refine Eq.trans ?_ (jput_n e26)
              obtain rfl := j_inj hf
              rfl
            ·
              obtain ⟨h27, e28, hf⟩ := j_bind hf
              refine Eq.trans ?_ (jput_n e28)
              obtain rfl := j_inj hf
              rfl
      ·
        obtain ⟨h19, e20, hf⟩ := j_bind hf
        refine Eq.trans ?_ (jput_n e20)
        obtain rfl := j_inj hf
        rfl
theorem q_X12_plus {a0 : Nat} {a1 : Int64} {a3 : Int64} {h : JH} {q : Int64 × JH} (hf : f_X12_plus a0 a1 a3 h = some q) : q.2.2.1 = h.2.1 := by
  unfold f_X12_plus at hf
  obtain ⟨v1, e2, hf⟩ := j_bind hf
  rcases j_ite hf with hf | hf
  ·
    rcases j_ite hf with hf | hf
    ·
      obtain ⟨h5, e6, hf⟩ := j_bind hf
      refine Eq.trans ?_ (jput_n e6)
      obtain rfl := j_inj hf
      rfl
    ·
      rcases j_ite hf with hf | hf
      ·
        obtain ⟨h7, e8, hf⟩ := j_bind hf
        refine Eq.trans ?_ (jput_n e8)
        obtain rfl := j_inj hf
        rfl
      ·
        obtain ⟨h9, e10, hf⟩ := j_bind hf
        refine Eq.trans ?_ (jput_n e10)
        obtain rfl := j_inj hf
        rfl
  ·
    obtain ⟨h3, e4, hf⟩ := j_bind hf
    refine Eq.trans ?_ (jput_n e4)
    obtain rfl := j_inj hf
    rfl
theorem q_X12_traceOf_L10 {a0 : Nat} {a1 : Int32} {a2 : Int32} {a3 : Int64} {z : Int32} {h : JH} {r : Int32 ⊕ Int32} {h1 : JH} (hf : f_X12_traceOf_L10 a0 a1 a2 a3 z h = some (r, h1)) : h1.2.1 = h.2.1 := by
  unfold f_X12_traceOf_L10 at hf
  rcases j_ite hf with hf | hf
  ·
    obtain ⟨rfl, rfl⟩ := j_inj2 hf
    rfl
  ·
    obtain ⟨rfl, rfl⟩ := j_inj2 hf
    rfl
theorem q_X12_traceOf_L61 {a0 : Nat} {a1 : Int32} {a2 : Int32} {a3 : Int64} {a5 : Int32} {a6 : Int32} {z : (Int64 × Int64 × Int32)} {h : JH} {r : (Int64 × Int64 × Int32) ⊕ (Int64 × Int64 × Int32)} {h1 : JH} (hf : f_X12_traceOf_L61 a0 a1 a2 a3 a5 a6 z h = some (r, h1)) : h1.2.1 = h.2.1 := by
  unfold f_X12_traceOf_L61 at hf
  rcases j_ite hf with hf | hf
  ·
    obtain ⟨rfl, rfl⟩ := j_inj2 hf
    rfl
  ·
    obtain ⟨v8, e9, hf⟩ := j_bind hf
    rcases j_ite hf with hf | hf
    ·
      obtain ⟨u20, e21, hf⟩ := j_bind hf
      obtain ⟨q10, e11, hf⟩ := j_bind hf
      refine Eq.trans ?_ ((q_X12_times e11))
      obtain ⟨u18, e19, hf⟩ := j_bind hf
      obtain ⟨q12, e13, hf⟩ := j_bind hf
      refine Eq.trans ?_ ((q_X12_times e13))
      obtain ⟨u16, e17, hf⟩ := j_bind hf
      obtain ⟨q14, e15, hf⟩ := j_bind hf
      refine Eq.trans ?_ ((q_X12_plus e15))
      obtain ⟨rfl, rfl⟩ := j_inj2 hf
      rfl
    ·
      obtain ⟨rfl, rfl⟩ := j_inj2 hf
      rfl
theorem q_X12_traceOf_L36 {a0 : Nat} {a1 : Int32} {a2 : Int32} {a5 : Int32} {z : (Int64 × Int32)} {h : JH} {r : (Int64 × Int32) ⊕ (Int64 × Int32)} {h1 : JH} (hf : f_X12_traceOf_L36 a0 a1 a2 a5 z h = some (r, h1)) : h1.2.1 = h.2.1 := by
  unfold f_X12_traceOf_L36 at hf
  rcases j_ite hf with hf | hf
  ·
    obtain ⟨rfl, rfl⟩ := j_inj2 hf
    rfl
  ·
    obtain ⟨v6, e7, hf⟩ := j_bind hf
    rcases j_ite hf with hf | hf
    ·
      obtain ⟨q8, e9, hf⟩ := j_bind hf
      refine Eq.trans ?_ ((jloop_eq (fun _ _ _ _ q => q_X12_traceOf_L61 q) e9))
      obtain ⟨v10, e11, hf⟩ := j_bind hf
      rcases j_ite hf with hf | hf
      ·
        obtain ⟨q12, e13, hf⟩ := j_bind hf
        refine Eq.trans ?_ ((q_X12_wholeOf e13))
        obtain ⟨u20, e21, hf⟩ := j_bind hf
        obtain ⟨q14, e15, hf⟩ := j_bind hf
        refine Eq.trans ?_ ((q_X12_times e15))
        obtain ⟨u18, e19, hf⟩ := j_bind hf
        obtain ⟨q16, e17, hf⟩ := j_bind hf
        refine Eq.trans ?_ ((q_X12_plus e17))
        obtain ⟨rfl, rfl⟩ := j_inj2 hf
        rfl
      ·
        obtain ⟨rfl, rfl⟩ := j_inj2 hf
        rfl
    ·
      obtain ⟨rfl, rfl⟩ := j_inj2 hf
      rfl
theorem q_X12_traceOf_L203 {a0 : Nat} {a1 : Int32} {a2 : Int32} {a3 : Int64} {a6 : Int32} {a7 : Int32} {z : (Int64 × Int32)} {h : JH} {r : (Int64 × Int32) ⊕ (Int64 × Int32)} {h1 : JH} (hf : f_X12_traceOf_L203 a0 a1 a2 a3 a6 a7 z h = some (r, h1)) : h1.2.1 = h.2.1 := by
  unfold f_X12_traceOf_L203 at hf
  rcases j_ite hf with hf | hf
  ·
    obtain ⟨rfl, rfl⟩ := j_inj2 hf
    rfl
  ·
    obtain ⟨v35, e36, hf⟩ := j_bind hf
    rcases j_ite hf with hf | hf
    ·
      obtain ⟨u39, e40, hf⟩ := j_bind hf
      obtain ⟨q37, e38, hf⟩ := j_bind hf
      refine Eq.trans ?_ ((q_X12_times e38))
      obtain ⟨rfl, rfl⟩ := j_inj2 hf
      rfl
    ·
      obtain ⟨rfl, rfl⟩ := j_inj2 hf
      rfl
theorem q_X12_traceOf_L157 {a0 : Nat} {a1 : Int32} {a2 : Int32} {z : (Int64 × Int32)} {h : JH} {r : (Int64 × Int32) ⊕ (Int64 × Int32)} {h1 : JH} (hf : f_X12_traceOf_L157 a0 a1 a2 z h = some (r, h1)) : h1.2.1 = h.2.1 := by
  unfold f_X12_traceOf_L157 at hf
  rcases j_ite hf with hf | hf
  ·
    obtain ⟨rfl, rfl⟩ := j_inj2 hf
    rfl
  ·
    obtain ⟨v27, e28, hf⟩ := j_bind hf
    rcases j_ite hf with hf | hf
    ·
      obtain ⟨u29, e30, hf⟩ := j_bind hf
      rcases j_ite hf with hf | hf
      ·
        obtain ⟨u31, e32, hf⟩ := j_bind hf
        rcases j_ite hf with hf | hf
        ·
          obtain ⟨u33, e34, hf⟩ := j_bind hf
          obtain ⟨q35, e36, hf⟩ := j_bind hf
          refine Eq.trans ?_ ((jloop_eq (fun _ _ _ _ q => q_X12_traceOf_L203 q) e36))
          obtain ⟨v37, e38, hf⟩ := j_bind hf
          rcases j_ite hf with hf | hf
          ·
            obtain ⟨u47, e48, hf⟩ := j_bind hf
            obtain ⟨q39, e40, hf⟩ := j_bind hf
            refine Eq.trans ?_ ((q_X12_times e40))
            obtain ⟨v41, e42, hf⟩ := j_bind hf
            rcases j_ite hf with hf | hf
            ·
              obtain ⟨u45, e46, hf⟩ := j_bind hf
              obtain ⟨q43, e44, hf⟩ := j_bind hf
              refine Eq.trans ?_ ((q_X12_plus e44))
              obtain ⟨rfl, rfl⟩ := j_inj2 hf
              rfl
            ·
              obtain ⟨rfl, rfl⟩ := j_inj2 hf
              rfl
          ·
            obtain ⟨v49, e50, hf⟩ := j_bind hf
            rcases j_ite hf with hf | hf
            ·
              obtain ⟨u53, e54, hf⟩ := j_bind hf
              obtain ⟨q51, e52, hf⟩ := j_bind hf
              refine Eq.trans ?_ ((q_X12_plus e52))
              obtain ⟨rfl, rfl⟩ := j_inj2 hf
              rfl
            ·
              obtain ⟨rfl, rfl⟩ := j_inj2 hf
              rfl
        ·
          obtain ⟨q55, e56, hf⟩ := j_bind hf
          refine Eq.trans ?_ ((jloop_eq (fun _ _ _ _ q => q_X12_traceOf_L203 q) e56))
          obtain ⟨v57, e58, hf⟩ := j_bind hf
          rcases j_ite hf with hf | hf
          ·
            obtain ⟨u67, e68, hf⟩ := j_bind hf
            obtain ⟨q59, e60, hf⟩ := j_bind hf
            refine Eq.trans ?_ ((q_X12_times e60))
            obtain ⟨v61, e62, hf⟩ := j_bind hf
            rcases j_ite hf with hf | hf
            ·
              obtain ⟨u65, e66, hf⟩ := j_bind hf
              obtain ⟨q63, e64, hf⟩ := j_bind hf
              refine Eq.trans ?_ ((q_X12_plus e64))
              obtain ⟨rfl, rfl⟩ := j_inj2 hf
              rfl
            ·
              obtain ⟨rfl, rfl⟩ := j_inj2 hf
              rfl
          ·
            obtain ⟨v69, e70, hf⟩ := j_bind hf
            rcases j_ite hf with hf | hf
            ·
              obtain ⟨u73, e74, hf⟩ := j_bind hf
              obtain ⟨q71, e72, hf⟩ := j_bind hf
              refine Eq.trans ?_ ((q_X12_plus e72))
              obtain ⟨rfl, rfl⟩ := j_inj2 hf
              rfl
            ·
              obtain ⟨rfl, rfl⟩ := j_inj2 hf
              rfl
      ·
        obtain ⟨rfl, rfl⟩ := j_inj2 hf
        rfl
    ·
      obtain ⟨rfl, rfl⟩ := j_inj2 hf
      rfl
theorem q_X12_traceOf {a0 : Nat} {a1 : Int32} {a2 : Int32} {h : JH} {q : Int64 × JH} (hf : f_X12_traceOf a0 a1 a2 h = some q) : q.2.2.1 = h.2.1 := by
  unfold f_X12_traceOf at hf
  obtain ⟨h1, e2, hf⟩ := j_bind hf
  refine Eq.trans ?_ (jput_n e2)
  obtain ⟨q4, e5, hf⟩ := j_bind hf
  refine Eq.trans ?_ ((jloop_eq (fun _ _ _ _ q => q_X12_traceOf_L10 q) e5))
  obtain ⟨q25, e26, hf⟩ := j_bind hf
  refine Eq.trans ?_ ((jloop_eq (fun _ _ _ _ q => q_X12_traceOf_L36 q) e26))
  obtain ⟨q85, e86, hf⟩ := j_bind hf
  refine Eq.trans ?_ ((jloop_eq (fun _ _ _ _ q => q_X12_traceOf_L157 q) e86))
  obtain rfl := j_inj hf
  rfl
theorem q_X12_isTraced {a0 : Int32} {a1 : Int32} {h : JH} {q : Int32 × JH} (hf : f_X12_isTraced a0 a1 h = some q) : q.2.2.1 = h.2.1 := by
  unfold f_X12_isTraced at hf
  obtain ⟨q1, e2, hf⟩ := j_bind hf
  refine Eq.trans ?_ ((q_X12_within e2))
  rcases j_ite hf with hf | hf
  ·
    obtain rfl := j_inj hf
    rfl
  ·
    rcases j_ite hf with hf | hf
    ·
      obtain ⟨q3, e4, hf⟩ := j_bind hf
      refine Eq.trans ?_ ((q_X12_within e4))
      rcases j_ite hf with hf | hf
      ·
        obtain rfl := j_inj hf
        rfl
      ·
        obtain rfl := j_inj hf
        rfl
    ·
      obtain rfl := j_inj hf
      rfl
theorem q_X12_trace {a0 : Nat} {a1 : Int32} {a2 : Int32} {h : JH} {q : Int64 × JH} (hf : f_X12_trace a0 a1 a2 h = some q) : q.2.2.1 = h.2.1 := by
  unfold f_X12_trace at hf
  obtain ⟨h1, e2, hf⟩ := j_bind hf
  refine Eq.trans ?_ (jput_n e2)
  obtain ⟨q3, e4, hf⟩ := j_bind hf
  refine Eq.trans ?_ ((q_X12_isTraced e4))
  rcases j_ite hf with hf | hf
  ·
    obtain rfl := j_inj hf
    rfl
  ·
    obtain ⟨u9, e10, hf⟩ := j_bind hf
    obtain ⟨q5, e6, hf⟩ := j_bind hf
    refine Eq.trans ?_ ((q_X12_traceOf e6))
    obtain ⟨v7, e8, hf⟩ := j_bind hf
    rcases j_ite hf with hf | hf
    ·
      obtain rfl := j_inj hf
      rfl
    ·
      obtain rfl := j_inj hf
      rfl
theorem q_X12_traceLeft_L58 {a0 : Nat} {a1 : Int32} {a2 : Int32} {a3 : Int64} {a5 : Int32} {z : (Int64 × Int64 × Int32)} {h : JH} {r : (Int64 × Int64 × Int32) ⊕ (Int64 × Int64 × Int32)} {h1 : JH} (hf : f_X12_traceLeft_L58 a0 a1 a2 a3 a5 z h = some (r, h1)) : h1.2.1 = h.2.1 := by
  unfold f_X12_traceLeft_L58 at hf
  rcases j_ite hf with hf | hf
  ·
    obtain ⟨rfl, rfl⟩ := j_inj2 hf
    rfl
  ·
    obtain ⟨u13, e14, hf⟩ := j_bind hf
    obtain ⟨q7, e8, hf⟩ := j_bind hf
    refine Eq.trans ?_ ((q_X12_left e8))
    obtain ⟨u11, e12, hf⟩ := j_bind hf
    obtain ⟨q9, e10, hf⟩ := j_bind hf
    refine Eq.trans ?_ ((q_X12_left e10))
    obtain ⟨rfl, rfl⟩ := j_inj2 hf
    rfl
theorem q_X12_traceLeft_L23 {a0 : Nat} {a1 : Int32} {a2 : Int32} {z : (Int64 × Int32)} {h : JH} {r : (Int64 × Int32) ⊕ (Int64 × Int32)} {h1 : JH} (hf : f_X12_traceLeft_L23 a0 a1 a2 z h = some (r, h1)) : h1.2.1 = h.2.1 := by
  unfold f_X12_traceLeft_L23 at hf
  rcases j_ite hf with hf | hf
  ·
    obtain ⟨rfl, rfl⟩ := j_inj2 hf
    rfl
  ·
    rcases j_ite hf with hf | hf
    ·
      obtain ⟨rfl, rfl⟩ := j_inj2 hf
      rfl
    ·
      obtain ⟨u15, e16, hf⟩ := j_bind hf
      obtain ⟨q5, e6, hf⟩ := j_bind hf
      refine Eq.trans ?_ ((q_X12_left e6))
      obtain ⟨q7, e8, hf⟩ := j_bind hf
      refine Eq.trans ?_ ((jloop_eq (fun _ _ _ _ q => q_X12_traceLeft_L58 q) e8))
      obtain ⟨q9, e10, hf⟩ := j_bind hf
      refine Eq.trans ?_ ((q_X12_wholeOf e10))
      obtain ⟨u13, e14, hf⟩ := j_bind hf
      obtain ⟨q11, e12, hf⟩ := j_bind hf
      refine Eq.trans ?_ ((q_X12_left e12))
      obtain ⟨rfl, rfl⟩ := j_inj2 hf
      rfl
theorem q_X12_traceLeft_L135 {a0 : Nat} {a1 : Int32} {a2 : Int32} {z : (Int64 × Int32)} {h : JH} {r : (Int64 × Int32) ⊕ (Int64 × Int32)} {h1 : JH} (hf : f_X12_traceLeft_L135 a0 a1 a2 z h = some (r, h1)) : h1.2.1 = h.2.1 := by
  unfold f_X12_traceLeft_L135 at hf
  rcases j_ite hf with hf | hf
  ·
    obtain ⟨rfl, rfl⟩ := j_inj2 hf
    rfl
  ·
    obtain ⟨u21, e22, hf⟩ := j_bind hf
    rcases j_ite hf with hf | hf
    ·
      obtain ⟨u23, e24, hf⟩ := j_bind hf
      rcases j_ite hf with hf | hf
      ·
        obtain ⟨u25, e26, hf⟩ := j_bind hf
        obtain ⟨u33, e34, hf⟩ := j_bind hf
        obtain ⟨q27, e28, hf⟩ := j_bind hf
        refine Eq.trans ?_ ((q_X12_power e28))
        obtain ⟨u31, e32, hf⟩ := j_bind hf
        obtain ⟨q29, e30, hf⟩ := j_bind hf
        refine Eq.trans ?_ ((q_X12_left e30))
        obtain ⟨rfl, rfl⟩ := j_inj2 hf
        rfl
      ·
        obtain ⟨u41, e42, hf⟩ := j_bind hf
        obtain ⟨q35, e36, hf⟩ := j_bind hf
        refine Eq.trans ?_ ((q_X12_power e36))
        obtain ⟨u39, e40, hf⟩ := j_bind hf
        obtain ⟨q37, e38, hf⟩ := j_bind hf
        refine Eq.trans ?_ ((q_X12_left e38))
        obtain ⟨rfl, rfl⟩ := j_inj2 hf
        rfl
    ·
      obtain ⟨rfl, rfl⟩ := j_inj2 hf
      rfl
theorem q_X12_traceLeft {a0 : Nat} {a1 : Int32} {a2 : Int32} {h : JH} {q : Int32 × JH} (hf : f_X12_traceLeft a0 a1 a2 h = some q) : q.2.2.1 = h.2.1 := by
  unfold f_X12_traceLeft at hf
  obtain ⟨h1, e2, hf⟩ := j_bind hf
  refine Eq.trans ?_ (jput_n e2)
  obtain ⟨q3, e4, hf⟩ := j_bind hf
  refine Eq.trans ?_ ((q_X12_isTraced e4))
  rcases j_ite hf with hf | hf
  ·
    obtain rfl := j_inj hf
    rfl
  ·
    obtain ⟨q19, e20, hf⟩ := j_bind hf
    refine Eq.trans ?_ ((jloop_eq (fun _ _ _ _ q => q_X12_traceLeft_L23 q) e20))
    obtain ⟨q46, e47, hf⟩ := j_bind hf
    refine Eq.trans ?_ ((jloop_eq (fun _ _ _ _ q => q_X12_traceLeft_L135 q) e47))
    obtain ⟨u54, e55, hf⟩ := j_bind hf
    obtain ⟨q48, e49, hf⟩ := j_bind hf
    refine Eq.trans ?_ ((q_X12_inverse e49))
    obtain ⟨u52, e53, hf⟩ := j_bind hf
    obtain ⟨q50, e51, hf⟩ := j_bind hf
    refine Eq.trans ?_ ((q_X12_left e51))
    obtain rfl := j_inj hf
    rfl
theorem q_Jxf58ca_isNaN_12338 {a0 : UInt32} {h : JH} {q : Int32 × JH} (hf : f_Jxf58ca_isNaN_12338 a0 h = some q) : q.2.2.1 = h.2.1 := by
  unfold f_Jxf58ca_isNaN_12338 at hf
  rcases j_ite hf with hf | hf
  ·
    obtain rfl := j_inj hf
    rfl
  ·
    obtain rfl := j_inj hf
    rfl
theorem q_Jxf58ca_floatToIntBits_5c35a {a0 : UInt32} {h : JH} {q : Int32 × JH} (hf : f_Jxf58ca_floatToIntBits_5c35a a0 h = some q) : q.2.2.1 = h.2.1 := by
  unfold f_Jxf58ca_floatToIntBits_5c35a at hf
  obtain ⟨q1, e2, hf⟩ := j_bind hf
  refine Eq.trans ?_ ((q_Jxf58ca_isNaN_12338 e2))
  rcases j_ite hf with hf | hf
  ·
    obtain rfl := j_inj hf
    rfl
  ·
    obtain rfl := j_inj hf
    rfl
theorem q_X12_share_L51 {a1 : Int32} {a2 : Int32} {a3 : Int64} {z : (UInt32 × Int32)} {h : JH} {r : (UInt32 × Int32) ⊕ (UInt32 × Int32)} {h1 : JH} (hf : f_X12_share_L51 a1 a2 a3 z h = some (r, h1)) : h1.2.1 = h.2.1 := by
  unfold f_X12_share_L51 at hf
  rcases j_ite hf with hf | hf
  ·
    obtain ⟨rfl, rfl⟩ := j_inj2 hf
    rfl
  ·
    obtain ⟨u11, e12, hf⟩ := j_bind hf
    obtain ⟨u13, e14, hf⟩ := j_bind hf
    obtain ⟨u15, e16, hf⟩ := j_bind hf
    obtain ⟨rfl, rfl⟩ := j_inj2 hf
    rfl
theorem q_X12_share_L82 {a1 : Int32} {a2 : Int32} {a3 : Int64} {a5 : UInt32} {z : (UInt32 × Int32)} {h : JH} {r : (UInt32 × Int32) ⊕ (UInt32 × Int32)} {h1 : JH} (hf : f_X12_share_L82 a1 a2 a3 a5 z h = some (r, h1)) : h1.2.1 = h.2.1 := by
  unfold f_X12_share_L82 at hf
  rcases j_ite hf with hf | hf
  ·
    obtain ⟨rfl, rfl⟩ := j_inj2 hf
    rfl
  ·
    obtain ⟨u20, e21, hf⟩ := j_bind hf
    obtain ⟨rfl, rfl⟩ := j_inj2 hf
    rfl
theorem q_X12_share {a0 : Nat} {a1 : Int32} {a2 : Int32} {h : JH} {q : Int32 × JH} (hf : f_X12_share a0 a1 a2 h = some q) : q.2.2.1 = h.2.1 := by
  unfold f_X12_share at hf
  obtain ⟨h1, e2, hf⟩ := j_bind hf
  refine Eq.trans ?_ (jput_n e2)
  obtain ⟨q3, e4, hf⟩ := j_bind hf
  refine Eq.trans ?_ ((q_X12_isTraced e4))
  rcases j_ite hf with hf | hf
  ·
    obtain rfl := j_inj hf
    rfl
  ·
    obtain ⟨u37, e38, hf⟩ := j_bind hf
    obtain ⟨q5, e6, hf⟩ := j_bind hf
    refine Eq.trans ?_ ((q_X12_traceOf e6))
    obtain ⟨v7, e8, hf⟩ := j_bind hf
    rcases j_ite hf with hf | hf
    ·
      obtain ⟨q9, e10, hf⟩ := j_bind hf
      refine Eq.trans ?_ ((q_X12_cuspsOf e10))
      rcases j_ite hf with hf | hf
      ·
        obtain rfl := j_inj hf
        rfl
      ·
        obtain ⟨q18, e19, hf⟩ := j_bind hf
        refine Eq.trans ?_ ((jloop_eq (fun _ _ _ _ q => q_X12_share_L51 q) e19))
        obtain ⟨q23, e24, hf⟩ := j_bind hf
        refine Eq.trans ?_ ((jloop_eq (fun _ _ _ _ q => q_X12_share_L82 q) e24))
        obtain ⟨u25, e26, hf⟩ := j_bind hf
        obtain ⟨u27, e28, hf⟩ := j_bind hf
        obtain ⟨q29, e30, hf⟩ := j_bind hf
        refine Eq.trans ?_ ((q_X12_cuspsOf e30))
        obtain ⟨u31, e32, hf⟩ := j_bind hf
        obtain ⟨u33, e34, hf⟩ := j_bind hf
        obtain ⟨q35, e36, hf⟩ := j_bind hf
        refine Eq.trans ?_ ((q_Jxf58ca_floatToIntBits_5c35a e36))
        obtain rfl := j_inj hf
        rfl
    ·
      obtain rfl := j_inj hf
      rfl
theorem q_X12_take {a0 : Nat} {a1 : Int32} {a2 : Int32} {h : JH} {q : Int32 × JH} (hf : f_X12_take a0 a1 a2 h = some q) : q.2.2.1 = h.2.1 := by
  unfold f_X12_take at hf
  obtain ⟨h1, e2, hf⟩ := j_bind hf
  refine Eq.trans ?_ (jput_n e2)
  obtain ⟨u27, e28, hf⟩ := j_bind hf
  obtain ⟨q3, e4, hf⟩ := j_bind hf
  refine Eq.trans ?_ ((q_X12_isRegister e4))
  rcases j_ite hf with hf | hf
  ·
    obtain rfl := j_inj hf
    rfl
  ·
    obtain ⟨v5, e6, hf⟩ := j_bind hf
    obtain ⟨q7, e8, hf⟩ := j_bind hf
    refine Eq.trans ?_ ((q_X12_within e8))
    rcases j_ite hf with hf | hf
    ·
      obtain rfl := j_inj hf
      rfl
    ·
      obtain ⟨v9, e10, hf⟩ := j_bind hf
      obtain ⟨v11, e12, hf⟩ := j_bind hf
      obtain ⟨v13, e14, hf⟩ := j_bind hf
      obtain ⟨h15, e16, hf⟩ := j_bind hf
      refine Eq.trans ?_ (jsI_n e16)
      obtain ⟨v17, e18, hf⟩ := j_bind hf
      obtain ⟨v19, e20, hf⟩ := j_bind hf
      obtain ⟨q21, e22, hf⟩ := j_bind hf
      refine Eq.trans ?_ ((q_X12_copies e22))
      obtain ⟨v23, e24, hf⟩ := j_bind hf
      obtain ⟨v25, e26, hf⟩ := j_bind hf
      obtain rfl := j_inj hf
      rfl
theorem q_X12_plus__L50 {a0 : Nat} {a1 : Int32} {a2 : Int32} {a4 : Int64} {z : Int32} {h : JH} {r : Int32 ⊕ Int32} {h1 : JH} (hf : f_X12_plus__L50 a0 a1 a2 a4 z h = some (r, h1)) : h1.2.1 = h.2.1 := by
  unfold f_X12_plus__L50 at hf
  rcases j_ite hf with hf | hf
  ·
    obtain ⟨rfl, rfl⟩ := j_inj2 hf
    rfl
  ·
    obtain ⟨v17, e18, hf⟩ := j_bind hf
    obtain ⟨v19, e20, hf⟩ := j_bind hf
    obtain ⟨v21, e22, hf⟩ := j_bind hf
    obtain ⟨v23, e24, hf⟩ := j_bind hf
    obtain ⟨v25, e26, hf⟩ := j_bind hf
    obtain ⟨u31, e32, hf⟩ := j_bind hf
    obtain ⟨q27, e28, hf⟩ := j_bind hf
    refine Eq.trans ?_ ((q_X12_left e28))
    obtain ⟨h29, e30, hf⟩ := j_bind hf
    refine Eq.trans ?_ (jsI_n e30)
    obtain ⟨rfl, rfl⟩ := j_inj2 hf
    rfl
theorem q_X12_plus_ {a0 : Nat} {a1 : Int32} {a2 : Int32} {a3 : Int32} {h : JH} {q : Int32 × JH} (hf : f_X12_plus_ a0 a1 a2 a3 h = some q) : q.2.2.1 = h.2.1 := by
  unfold f_X12_plus_ at hf
  obtain ⟨h1, e2, hf⟩ := j_bind hf
  refine Eq.trans ?_ (jput_n e2)
  obtain ⟨u46, e47, hf⟩ := j_bind hf
  obtain ⟨q3, e4, hf⟩ := j_bind hf
  refine Eq.trans ?_ ((q_X12_isRegister e4))
  rcases j_ite hf with hf | hf
  ·
    obtain rfl := j_inj hf
    rfl
  ·
    obtain ⟨u44, e45, hf⟩ := j_bind hf
    obtain ⟨q5, e6, hf⟩ := j_bind hf
    refine Eq.trans ?_ ((q_X12_isRegister e6))
    rcases j_ite hf with hf | hf
    ·
      obtain rfl := j_inj hf
      rfl
    ·
      obtain ⟨v7, e8, hf⟩ := j_bind hf
      obtain ⟨v9, e10, hf⟩ := j_bind hf
      obtain ⟨v11, e12, hf⟩ := j_bind hf
      obtain ⟨v13, e14, hf⟩ := j_bind hf
      rcases j_ite hf with hf | hf
      ·
        obtain ⟨u42, e43, hf⟩ := j_bind hf
        obtain ⟨q15, e16, hf⟩ := j_bind hf
        refine Eq.trans ?_ ((q_X12_left e16))
        obtain ⟨q34, e35, hf⟩ := j_bind hf
        refine Eq.trans ?_ ((jloop_eq (fun _ _ _ _ q => q_X12_plus__L50 q) e35))
        obtain ⟨v36, e37, hf⟩ := j_bind hf
        obtain ⟨v38, e39, hf⟩ := j_bind hf
        obtain ⟨q40, e41, hf⟩ := j_bind hf
        refine Eq.trans ?_ ((q_X12_copies e41))
        obtain rfl := j_inj hf
        rfl
      ·
        obtain rfl := j_inj hf
        rfl
theorem q_X12_times_ {a0 : Nat} {a1 : Int32} {a2 : Int32} {h : JH} {q : Int32 × JH} (hf : f_X12_times_ a0 a1 a2 h = some q) : q.2.2.1 = h.2.1 := by
  unfold f_X12_times_ at hf
  obtain ⟨h1, e2, hf⟩ := j_bind hf
  refine Eq.trans ?_ (jput_n e2)
  obtain ⟨u47, e48, hf⟩ := j_bind hf
  obtain ⟨q3, e4, hf⟩ := j_bind hf
  refine Eq.trans ?_ ((q_X12_isRegister e4))
  rcases j_ite hf with hf | hf
  ·
    obtain rfl := j_inj hf
    rfl
  ·
    obtain ⟨u45, e46, hf⟩ := j_bind hf
    obtain ⟨q5, e6, hf⟩ := j_bind hf
    refine Eq.trans ?_ ((q_X12_isRegister e6))
    rcases j_ite hf with hf | hf
    ·
      obtain rfl := j_inj hf
      rfl
    ·
      obtain ⟨v7, e8, hf⟩ := j_bind hf
      obtain ⟨v9, e10, hf⟩ := j_bind hf
      obtain ⟨v11, e12, hf⟩ := j_bind hf
      obtain ⟨v13, e14, hf⟩ := j_bind hf
      rcases j_ite hf with hf | hf
      ·
        obtain ⟨v15, e16, hf⟩ := j_bind hf
        obtain ⟨v17, e18, hf⟩ := j_bind hf
        obtain ⟨v19, e20, hf⟩ := j_bind hf
        obtain ⟨u43, e44, hf⟩ := j_bind hf
        obtain ⟨q21, e22, hf⟩ := j_bind hf
        refine Eq.trans ?_ ((q_X12_multiplies e22))
        obtain ⟨v23, e24, hf⟩ := j_bind hf
        obtain ⟨v25, e26, hf⟩ := j_bind hf
        obtain ⟨q27, e28, hf⟩ := j_bind hf
        refine Eq.trans ?_ ((q_X12_copies e28))
        obtain ⟨v29, e30, hf⟩ := j_bind hf
        obtain ⟨v31, e32, hf⟩ := j_bind hf
        obtain ⟨v33, e34, hf⟩ := j_bind hf
        obtain ⟨v35, e36, hf⟩ := j_bind hf
        obtain ⟨h37, e38, hf⟩ := j_bind hf
        refine Eq.trans ?_ (jsI_n e38)
        obtain ⟨v39, e40, hf⟩ := j_bind hf
        obtain ⟨v41, e42, hf⟩ := j_bind hf
        obtain rfl := j_inj hf
        rfl
      ·
        obtain rfl := j_inj hf
        rfl
theorem q_X12_isOperator {a0 : Int32} {h : JH} {q : Int32 × JH} (hf : f_X12_isOperator a0 h = some q) : q.2.2.1 = h.2.1 := by
  unfold f_X12_isOperator at hf
  obtain ⟨q1, e2, hf⟩ := j_bind hf
  refine Eq.trans ?_ ((q_X12_within e2))
  obtain ⟨u3, e4, hf⟩ := j_bind hf
  obtain rfl := j_inj hf
  rfl
theorem q_X12_hecke_L32 {a0 : Nat} {a1 : Int32} {a2 : Int32} {a3 : Int32} {z : Int32} {h : JH} {r : Int32 ⊕ Int32} {h1 : JH} (hf : f_X12_hecke_L32 a0 a1 a2 a3 z h = some (r, h1)) : h1.2.1 = h.2.1 := by
  unfold f_X12_hecke_L32 at hf
  obtain ⟨q11, e12, hf⟩ := j_bind hf
  refine Eq.trans ?_ ((q_X12_longOf e12))
  rcases j_ite hf with hf | hf
  ·
    obtain ⟨rfl, rfl⟩ := j_inj2 hf
    rfl
  ·
    obtain ⟨v13, e14, hf⟩ := j_bind hf
    obtain ⟨v15, e16, hf⟩ := j_bind hf
    obtain ⟨u21, e22, hf⟩ := j_bind hf
    obtain ⟨q17, e18, hf⟩ := j_bind hf
    refine Eq.trans ?_ ((q_X12_heckeAt e18))
    obtain ⟨h19, e20, hf⟩ := j_bind hf
    refine Eq.trans ?_ (jsI_n e20)
    obtain ⟨rfl, rfl⟩ := j_inj2 hf
    rfl
theorem q_X12_hecke {a0 : Nat} {a1 : Int32} {a2 : Int32} {h : JH} {q : Int32 × JH} (hf : f_X12_hecke a0 a1 a2 h = some q) : q.2.2.1 = h.2.1 := by
  unfold f_X12_hecke at hf
  obtain ⟨h1, e2, hf⟩ := j_bind hf
  refine Eq.trans ?_ (jput_n e2)
  obtain ⟨u36, e37, hf⟩ := j_bind hf
  obtain ⟨q3, e4, hf⟩ := j_bind hf
  refine Eq.trans ?_ ((q_X12_isRegister e4))
  rcases j_ite hf with hf | hf
  ·
    obtain rfl := j_inj hf
    rfl
  ·
    obtain ⟨q5, e6, hf⟩ := j_bind hf
    refine Eq.trans ?_ ((q_X12_isOperator e6))
    rcases j_ite hf with hf | hf
    ·
      obtain rfl := j_inj hf
      rfl
    ·
      obtain ⟨v7, e8, hf⟩ := j_bind hf
      obtain ⟨v9, e10, hf⟩ := j_bind hf
      obtain ⟨q24, e25, hf⟩ := j_bind hf
      refine Eq.trans ?_ ((jloop_eq (fun _ _ _ _ q => q_X12_hecke_L32 q) e25))
      obtain ⟨u34, e35, hf⟩ := j_bind hf
      obtain ⟨q26, e27, hf⟩ := j_bind hf
      refine Eq.trans ?_ ((q_X12_builds e27))
      obtain ⟨v28, e29, hf⟩ := j_bind hf
      obtain ⟨v30, e31, hf⟩ := j_bind hf
      obtain ⟨q32, e33, hf⟩ := j_bind hf
      refine Eq.trans ?_ ((q_X12_copies e33))
      obtain rfl := j_inj hf
      rfl
theorem q_X12_multiplies__L43 {a0 : Nat} {a2 : Int32} {a3 : Int32} {a4 : Int32} {z : (Int32 × Int32)} {h : JH} {r : (Int32 × Int32) ⊕ (Int32 × Int32)} {h1 : JH} (hf : f_X12_multiplies__L43 a0 a2 a3 a4 z h = some (r, h1)) : h1.2.1 = h.2.1 := by
  unfold f_X12_multiplies__L43 at hf
  obtain ⟨q11, e12, hf⟩ := j_bind hf
  refine Eq.trans ?_ ((q_X12_longOf e12))
  rcases j_ite hf with hf | hf
  ·
    obtain ⟨rfl, rfl⟩ := j_inj2 hf
    rfl
  ·
    rcases j_ite hf with hf | hf
    ·
      obtain ⟨v13, e14, hf⟩ := j_bind hf
      obtain ⟨v15, e16, hf⟩ := j_bind hf
      rcases j_ite hf with hf | hf
      ·
        obtain ⟨rfl, rfl⟩ := j_inj2 hf
        rfl
      ·
        obtain ⟨v17, e18, hf⟩ := j_bind hf
        obtain ⟨u33, e34, hf⟩ := j_bind hf
        obtain ⟨q19, e20, hf⟩ := j_bind hf
        refine Eq.trans ?_ ((q_X12_heckeAt e20))
        obtain ⟨v21, e22, hf⟩ := j_bind hf
        obtain ⟨v23, e24, hf⟩ := j_bind hf
        obtain ⟨u31, e32, hf⟩ := j_bind hf
        obtain ⟨q25, e26, hf⟩ := j_bind hf
        refine Eq.trans ?_ ((q_X12_inverse e26))
        obtain ⟨u29, e30, hf⟩ := j_bind hf
        obtain ⟨q27, e28, hf⟩ := j_bind hf
        refine Eq.trans ?_ ((q_X12_left e28))
        obtain ⟨rfl, rfl⟩ := j_inj2 hf
        rfl
    ·
      obtain ⟨rfl, rfl⟩ := j_inj2 hf
      rfl
theorem q_X12_multiplies__L137 {a0 : Nat} {a2 : Int32} {a3 : Int32} {a4 : Int32} {a5 : Int32} {z : (Int32 × Int32)} {h : JH} {r : (Int32 × Int32) ⊕ (Int32 × Int32)} {h1 : JH} (hf : f_X12_multiplies__L137 a0 a2 a3 a4 a5 z h = some (r, h1)) : h1.2.1 = h.2.1 := by
  unfold f_X12_multiplies__L137 at hf
  obtain ⟨q40, e41, hf⟩ := j_bind hf
  refine Eq.trans ?_ ((q_X12_longOf e41))
  rcases j_ite hf with hf | hf
  ·
    obtain ⟨rfl, rfl⟩ := j_inj2 hf
    rfl
  ·
    rcases j_ite hf with hf | hf
    ·
      obtain ⟨rfl, rfl⟩ := j_inj2 hf
      rfl
    ·
      obtain ⟨v42, e43, hf⟩ := j_bind hf
      obtain ⟨u54, e55, hf⟩ := j_bind hf
      obtain ⟨q44, e45, hf⟩ := j_bind hf
      refine Eq.trans ?_ ((q_X12_heckeAt e45))
      obtain ⟨v46, e47, hf⟩ := j_bind hf
      obtain ⟨v48, e49, hf⟩ := j_bind hf
      obtain ⟨u52, e53, hf⟩ := j_bind hf
      obtain ⟨q50, e51, hf⟩ := j_bind hf
      refine Eq.trans ?_ ((q_X12_left e51))
      rcases j_ite hf with hf | hf
      ·
        obtain ⟨rfl, rfl⟩ := j_inj2 hf
        rfl
      ·
        obtain ⟨rfl, rfl⟩ := j_inj2 hf
        rfl
theorem q_X12_multiplies_ {a0 : Nat} {a1 : Int32} {a2 : Int32} {h : JH} {q : Int32 × JH} (hf : f_X12_multiplies_ a0 a1 a2 h = some q) : q.2.2.1 = h.2.1 := by
  unfold f_X12_multiplies_ at hf
  obtain ⟨h1, e2, hf⟩ := j_bind hf
  refine Eq.trans ?_ (jput_n e2)
  obtain ⟨u63, e64, hf⟩ := j_bind hf
  obtain ⟨q3, e4, hf⟩ := j_bind hf
  refine Eq.trans ?_ ((q_X12_isRegister e4))
  rcases j_ite hf with hf | hf
  ·
    obtain rfl := j_inj hf
    rfl
  ·
    obtain ⟨q5, e6, hf⟩ := j_bind hf
    refine Eq.trans ?_ ((q_X12_isOperator e6))
    rcases j_ite hf with hf | hf
    ·
      obtain rfl := j_inj hf
      rfl
    ·
      obtain ⟨v7, e8, hf⟩ := j_bind hf
      obtain ⟨v9, e10, hf⟩ := j_bind hf
      obtain ⟨q38, e39, hf⟩ := j_bind hf
      refine Eq.trans ?_ ((jloop_eq (fun _ _ _ _ q => q_X12_multiplies__L43 q) e39))
      rcases j_ite hf with hf | hf
      ·
        obtain ⟨q59, e60, hf⟩ := j_bind hf
        refine Eq.trans ?_ ((jloop_eq (fun _ _ _ _ q => q_X12_multiplies__L137 q) e60))
        rcases j_ite hf with hf | hf
        ·
          obtain rfl := j_inj hf
          rfl
        ·
          obtain rfl := j_inj hf
          rfl
      ·
        obtain ⟨q61, e62, hf⟩ := j_bind hf
        refine Eq.trans ?_ ((jloop_eq (fun _ _ _ _ q => q_X12_multiplies__L137 q) e62))
        rcases j_ite hf with hf | hf
        ·
          obtain rfl := j_inj hf
          rfl
        ·
          obtain rfl := j_inj hf
          rfl
theorem q_X12_alike_L59 {a0 : Nat} {a1 : Int32} {a2 : Int32} {a3 : Int32} {z : (Int32 × Int32)} {h : JH} {r : (Int32 × Int32) ⊕ (Int32 × Int32)} {h1 : JH} (hf : f_X12_alike_L59 a0 a1 a2 a3 z h = some (r, h1)) : h1.2.1 = h.2.1 := by
  unfold f_X12_alike_L59 at hf
  rcases j_ite hf with hf | hf
  ·
    obtain ⟨rfl, rfl⟩ := j_inj2 hf
    rfl
  ·
    rcases j_ite hf with hf | hf
    ·
      obtain ⟨rfl, rfl⟩ := j_inj2 hf
      rfl
    ·
      obtain ⟨v17, e18, hf⟩ := j_bind hf
      obtain ⟨v19, e20, hf⟩ := j_bind hf
      obtain ⟨v21, e22, hf⟩ := j_bind hf
      obtain ⟨v23, e24, hf⟩ := j_bind hf
      rcases j_ite hf with hf | hf
      ·
        obtain ⟨rfl, rfl⟩ := j_inj2 hf
        rfl
      ·
        obtain ⟨rfl, rfl⟩ := j_inj2 hf
        rfl
theorem q_X12_alike {a0 : Nat} {a1 : Int32} {a2 : Int32} {a3 : Int32} {h : JH} {q : Int32 × JH} (hf : f_X12_alike a0 a1 a2 a3 h = some q) : q.2.2.1 = h.2.1 := by
  unfold f_X12_alike at hf
  obtain ⟨h1, e2, hf⟩ := j_bind hf
  refine Eq.trans ?_ (jput_n e2)
  obtain ⟨u34, e35, hf⟩ := j_bind hf
  obtain ⟨q3, e4, hf⟩ := j_bind hf
  refine Eq.trans ?_ ((q_X12_isRegister e4))
  rcases j_ite hf with hf | hf
  ·
    obtain rfl := j_inj hf
    rfl
  ·
    obtain ⟨u32, e33, hf⟩ := j_bind hf
    obtain ⟨q5, e6, hf⟩ := j_bind hf
    refine Eq.trans ?_ ((q_X12_isRegister e6))
    rcases j_ite hf with hf | hf
    ·
      obtain rfl := j_inj hf
      rfl
    ·
      obtain ⟨q7, e8, hf⟩ := j_bind hf
      refine Eq.trans ?_ ((q_X12_within e8))
      rcases j_ite hf with hf | hf
      ·
        obtain rfl := j_inj hf
        rfl
      ·
        obtain ⟨v9, e10, hf⟩ := j_bind hf
        obtain ⟨v11, e12, hf⟩ := j_bind hf
        obtain ⟨v13, e14, hf⟩ := j_bind hf
        obtain ⟨v15, e16, hf⟩ := j_bind hf
        rcases j_ite hf with hf | hf
        ·
          obtain ⟨q30, e31, hf⟩ := j_bind hf
          refine Eq.trans ?_ ((jloop_eq (fun _ _ _ _ q => q_X12_alike_L59 q) e31))
          rcases j_ite hf with hf | hf
          ·
            obtain rfl := j_inj hf
            rfl
          ·
            obtain rfl := j_inj hf
            rfl
        ·
          obtain ⟨q28, e29, hf⟩ := j_bind hf
          refine Eq.trans ?_ ((jloop_eq (fun _ _ _ _ q => q_X12_alike_L59 q) e29))
          rcases j_ite hf with hf | hf
          ·
            obtain rfl := j_inj hf
            rfl
          ·
            obtain rfl := j_inj hf
            rfl
theorem q_X12_parts_L40 {a0 : Nat} {a1 : Int32} {a2 : Int32} {z : Int32} {h : JH} {r : Int32 ⊕ (Int32 ⊕ Int32)} {h1 : JH} (hf : f_X12_parts_L40 a0 a1 a2 z h = some (r, h1)) : h1.2.1 = h.2.1 := by
  unfold f_X12_parts_L40 at hf
  obtain ⟨v15, e16, hf⟩ := j_bind hf
  obtain ⟨v17, e18, hf⟩ := j_bind hf
  rcases j_ite hf with hf | hf
  ·
    obtain ⟨rfl, rfl⟩ := j_inj2 hf
    rfl
  ·
    obtain ⟨v19, e20, hf⟩ := j_bind hf
    obtain ⟨v21, e22, hf⟩ := j_bind hf
    obtain ⟨v23, e24, hf⟩ := j_bind hf
    obtain ⟨v25, e26, hf⟩ := j_bind hf
    rcases j_ite hf with hf | hf
    ·
      obtain ⟨rfl, rfl⟩ := j_inj2 hf
      rfl
    ·
      obtain ⟨rfl, rfl⟩ := j_inj2 hf
      rfl
theorem q_X12_parts {a0 : Nat} {a1 : Int32} {a2 : Int32} {h : JH} {q : Int32 × JH} (hf : f_X12_parts a0 a1 a2 h = some q) : q.2.2.1 = h.2.1 := by
  unfold f_X12_parts at hf
  obtain ⟨h1, e2, hf⟩ := j_bind hf
  refine Eq.trans ?_ (jput_n e2)
  obtain ⟨u35, e36, hf⟩ := j_bind hf
  obtain ⟨q3, e4, hf⟩ := j_bind hf
  refine Eq.trans ?_ ((q_X12_isRegister e4))
  rcases j_ite hf with hf | hf
  ·
    obtain rfl := j_inj hf
    rfl
  ·
    obtain ⟨u33, e34, hf⟩ := j_bind hf
    obtain ⟨q5, e6, hf⟩ := j_bind hf
    refine Eq.trans ?_ ((q_X12_isRegister e6))
    rcases j_ite hf with hf | hf
    ·
      obtain rfl := j_inj hf
      rfl
    ·
      obtain ⟨v7, e8, hf⟩ := j_bind hf
      obtain ⟨v9, e10, hf⟩ := j_bind hf
      obtain ⟨v11, e12, hf⟩ := j_bind hf
      obtain ⟨v13, e14, hf⟩ := j_bind hf
      rcases j_ite hf with hf | hf
      ·
        obtain ⟨q29, e30, hf⟩ := j_bind hf
        refine Eq.trans ?_ ((jloop_eq (fun _ _ _ _ q => q_X12_parts_L40 q) e30))
        cases y37 : q29.1 with
        | inl r32 =>
          rw [y37] at hf
          have hf := j_eliml hf
          obtain rfl := j_inj hf
          rfl
        | inr t31 =>
          rw [y37] at hf
          have hf := j_elimr hf
          obtain rfl := j_inj hf
          rfl
      ·
        obtain rfl := j_inj hf
        rfl
theorem q_X12_laysTable_L21 {a0 : Nat} {a1 : Int32} {a2 : Int32} {a3 : Int32} {z : Int32} {h : JH} {r : Int32 ⊕ Int32} {h1 : JH} (hf : f_X12_laysTable_L21 a0 a1 a2 a3 z h = some (r, h1)) : h1.2.1 = h.2.1 := by
  unfold f_X12_laysTable_L21 at hf
  rcases j_ite hf with hf | hf
  ·
    obtain ⟨rfl, rfl⟩ := j_inj2 hf
    rfl
  ·
    obtain ⟨v7, e8, hf⟩ := j_bind hf
    rcases j_ite hf with hf | hf
    ·
      obtain ⟨h11, e12, hf⟩ := j_bind hf
      refine Eq.trans ?_ (jsI_n e12)
      obtain ⟨rfl, rfl⟩ := j_inj2 hf
      rfl
    ·
      obtain ⟨h9, e10, hf⟩ := j_bind hf
      refine Eq.trans ?_ (jsI_n e10)
      obtain ⟨rfl, rfl⟩ := j_inj2 hf
      rfl
theorem q_X12_laysTable_L62 {a0 : Nat} {a1 : Int32} {a2 : Int32} {a3 : Int32} {z : Int32} {h : JH} {r : Int32 ⊕ Int32} {h1 : JH} (hf : f_X12_laysTable_L62 a0 a1 a2 a3 z h = some (r, h1)) : h1.2.1 = h.2.1 := by
  unfold f_X12_laysTable_L62 at hf
  obtain ⟨v19, e20, hf⟩ := j_bind hf
  rcases j_ite hf with hf | hf
  ·
    obtain ⟨rfl, rfl⟩ := j_inj2 hf
    rfl
  ·
    obtain ⟨v21, e22, hf⟩ := j_bind hf
    obtain ⟨v23, e24, hf⟩ := j_bind hf
    obtain ⟨u29, e30, hf⟩ := j_bind hf
    obtain ⟨q25, e26, hf⟩ := j_bind hf
    refine Eq.trans ?_ ((q_X12_heckeAt e26))
    obtain ⟨h27, e28, hf⟩ := j_bind hf
    refine Eq.trans ?_ (jsI_n e28)
    obtain ⟨rfl, rfl⟩ := j_inj2 hf
    rfl
theorem q_X12_laysTable_L10 {a0 : Nat} {a1 : Int32} {a2 : Int32} {z : Int32} {h : JH} {r : Int32 ⊕ Int32} {h1 : JH} (hf : f_X12_laysTable_L10 a0 a1 a2 z h = some (r, h1)) : h1.2.1 = h.2.1 := by
  unfold f_X12_laysTable_L10 at hf
  obtain ⟨v5, e6, hf⟩ := j_bind hf
  rcases j_ite hf with hf | hf
  ·
    obtain ⟨rfl, rfl⟩ := j_inj2 hf
    rfl
  ·
    obtain ⟨q7, e8, hf⟩ := j_bind hf
    refine Eq.trans ?_ ((jloop_eq (fun _ _ _ _ q => q_X12_laysTable_L21 q) e8))
    obtain ⟨u13, e14, hf⟩ := j_bind hf
    obtain ⟨q9, e10, hf⟩ := j_bind hf
    refine Eq.trans ?_ ((q_X12_builds e10))
    obtain ⟨q11, e12, hf⟩ := j_bind hf
    refine Eq.trans ?_ ((jloop_eq (fun _ _ _ _ q => q_X12_laysTable_L62 q) e12))
    obtain ⟨rfl, rfl⟩ := j_inj2 hf
    rfl
theorem q_X12_laysTable {a0 : Nat} {a1 : Int32} {a2 : Int32} {h : JH} {q : Unit × JH} (hf : f_X12_laysTable a0 a1 a2 h = some q) : q.2.2.1 = h.2.1 := by
  unfold f_X12_laysTable at hf
  obtain ⟨q1, e2, hf⟩ := j_bind hf
  refine Eq.trans ?_ ((q_X12_cuspsOf e2))
  obtain ⟨h3, e4, hf⟩ := j_bind hf
  refine Eq.trans ?_ (jput_n e4)
  obtain ⟨q16, e17, hf⟩ := j_bind hf
  refine Eq.trans ?_ ((jloop_eq (fun _ _ _ _ q => q_X12_laysTable_L10 q) e17))
  obtain rfl := j_inj hf
  rfl
theorem q_X12_table {a0 : Nat} {a1 : Int32} {a2 : Int32} {a3 : Int32} {a4 : Int32} {h : JH} {q : Int32 × JH} (hf : f_X12_table a0 a1 a2 a3 a4 h = some q) : q.2.2.1 = h.2.1 := by
  unfold f_X12_table at hf
  obtain ⟨h1, e2, hf⟩ := j_bind hf
  refine Eq.trans ?_ (jput_n e2)
  obtain ⟨q3, e4, hf⟩ := j_bind hf
  refine Eq.trans ?_ ((q_X12_isWeight e4))
  rcases j_ite hf with hf | hf
  ·
    obtain rfl := j_inj hf
    rfl
  ·
    obtain ⟨q5, e6, hf⟩ := j_bind hf
    refine Eq.trans ?_ ((q_X12_isOperator e6))
    rcases j_ite hf with hf | hf
    ·
      obtain rfl := j_inj hf
      rfl
    ·
      obtain ⟨q7, e8, hf⟩ := j_bind hf
      refine Eq.trans ?_ ((q_X12_cuspsOf e8))
      obtain ⟨q9, e10, hf⟩ := j_bind hf
      refine Eq.trans ?_ ((q_X12_within e10))
      rcases j_ite hf with hf | hf
      ·
        obtain rfl := j_inj hf
        rfl
      ·
        obtain ⟨q11, e12, hf⟩ := j_bind hf
        refine Eq.trans ?_ ((q_X12_cuspsOf e12))
        obtain ⟨q13, e14, hf⟩ := j_bind hf
        refine Eq.trans ?_ ((q_X12_within e14))
        rcases j_ite hf with hf | hf
        ·
          obtain rfl := j_inj hf
          rfl
        ·
          obtain ⟨u21, e22, hf⟩ := j_bind hf
          obtain ⟨q15, e16, hf⟩ := j_bind hf
          refine Eq.trans ?_ ((q_X12_laysTable e16))
          obtain ⟨v17, e18, hf⟩ := j_bind hf
          obtain ⟨v19, e20, hf⟩ := j_bind hf
          obtain rfl := j_inj hf
          rfl
theorem q_X12_laysPolynomial_L12 {a0 : Nat} {z : Int32} {h : JH} {r : Int32 ⊕ Int32} {h1 : JH} (hf : f_X12_laysPolynomial_L12 a0 z h = some (r, h1)) : h1.2.1 = h.2.1 := by
  unfold f_X12_laysPolynomial_L12 at hf
  rcases j_ite hf with hf | hf
  ·
    obtain ⟨rfl, rfl⟩ := j_inj2 hf
    rfl
  ·
    obtain ⟨v7, e8, hf⟩ := j_bind hf
    obtain ⟨h9, e10, hf⟩ := j_bind hf
    refine Eq.trans ?_ (jsI_n e10)
    obtain ⟨rfl, rfl⟩ := j_inj2 hf
    rfl
theorem q_X12_laysPolynomial_L43 {a0 : Nat} {a1 : Int32} {z : Int32} {h : JH} {r : Int32 ⊕ Int32} {h1 : JH} (hf : f_X12_laysPolynomial_L43 a0 a1 z h = some (r, h1)) : h1.2.1 = h.2.1 := by
  unfold f_X12_laysPolynomial_L43 at hf
  obtain ⟨v16, e17, hf⟩ := j_bind hf
  rcases j_ite hf with hf | hf
  ·
    obtain ⟨rfl, rfl⟩ := j_inj2 hf
    rfl
  ·
    obtain ⟨v18, e19, hf⟩ := j_bind hf
    obtain ⟨v20, e21, hf⟩ := j_bind hf
    obtain ⟨v22, e23, hf⟩ := j_bind hf
    obtain ⟨v24, e25, hf⟩ := j_bind hf
    obtain ⟨v26, e27, hf⟩ := j_bind hf
    obtain ⟨v28, e29, hf⟩ := j_bind hf
    obtain ⟨u34, e35, hf⟩ := j_bind hf
    obtain ⟨q30, e31, hf⟩ := j_bind hf
    refine Eq.trans ?_ ((q_X12_left e31))
    obtain ⟨h32, e33, hf⟩ := j_bind hf
    refine Eq.trans ?_ (jsI_n e33)
    obtain ⟨rfl, rfl⟩ := j_inj2 hf
    rfl
theorem q_X12_laysPolynomial_L120 {a0 : Nat} {a1 : Int32} {a2 : Int32} {a3 : Int32} {z : (Int64 × Int32)} {h : JH} {r : (Int64 × Int32) ⊕ (Int64 × Int32)} {h1 : JH} (hf : f_X12_laysPolynomial_L120 a0 a1 a2 a3 z h = some (r, h1)) : h1.2.1 = h.2.1 := by
  unfold f_X12_laysPolynomial_L120 at hf
  obtain ⟨v43, e44, hf⟩ := j_bind hf
  rcases j_ite hf with hf | hf
  ·
    obtain ⟨rfl, rfl⟩ := j_inj2 hf
    rfl
  ·
    obtain ⟨v45, e46, hf⟩ := j_bind hf
    obtain ⟨v47, e48, hf⟩ := j_bind hf
    obtain ⟨v49, e50, hf⟩ := j_bind hf
    obtain ⟨v51, e52, hf⟩ := j_bind hf
    obtain ⟨rfl, rfl⟩ := j_inj2 hf
    rfl
theorem q_X12_laysPolynomial_L106 {a0 : Nat} {a1 : Int32} {a2 : Int32} {z : Int32} {h : JH} {r : Int32 ⊕ Int32} {h1 : JH} (hf : f_X12_laysPolynomial_L106 a0 a1 a2 z h = some (r, h1)) : h1.2.1 = h.2.1 := by
  unfold f_X12_laysPolynomial_L106 at hf
  obtain ⟨v41, e42, hf⟩ := j_bind hf
  rcases j_ite hf with hf | hf
  ·
    obtain ⟨rfl, rfl⟩ := j_inj2 hf
    rfl
  ·
    obtain ⟨q43, e44, hf⟩ := j_bind hf
    refine Eq.trans ?_ ((jloop_eq (fun _ _ _ _ q => q_X12_laysPolynomial_L120 q) e44))
    obtain ⟨v45, e46, hf⟩ := j_bind hf
    obtain ⟨u51, e52, hf⟩ := j_bind hf
    obtain ⟨q47, e48, hf⟩ := j_bind hf
    refine Eq.trans ?_ ((q_X12_left e48))
    obtain ⟨h49, e50, hf⟩ := j_bind hf
    refine Eq.trans ?_ (jsI_n e50)
    obtain ⟨rfl, rfl⟩ := j_inj2 hf
    rfl
theorem q_X12_laysPolynomial_L96 {a0 : Nat} {a1 : Int32} {z : Int32} {h : JH} {r : Int32 ⊕ Int32} {h1 : JH} (hf : f_X12_laysPolynomial_L96 a0 a1 z h = some (r, h1)) : h1.2.1 = h.2.1 := by
  unfold f_X12_laysPolynomial_L96 at hf
  obtain ⟨v39, e40, hf⟩ := j_bind hf
  rcases j_ite hf with hf | hf
  ·
    obtain ⟨rfl, rfl⟩ := j_inj2 hf
    rfl
  ·
    obtain ⟨q41, e42, hf⟩ := j_bind hf
    refine Eq.trans ?_ ((jloop_eq (fun _ _ _ _ q => q_X12_laysPolynomial_L106 q) e42))
    obtain ⟨rfl, rfl⟩ := j_inj2 hf
    rfl
theorem q_X12_laysPolynomial_L201 {a0 : Nat} {a1 : Int32} {a2 : Int64} {z : Int32} {h : JH} {r : Int32 ⊕ Int32} {h1 : JH} (hf : f_X12_laysPolynomial_L201 a0 a1 a2 z h = some (r, h1)) : h1.2.1 = h.2.1 := by
  unfold f_X12_laysPolynomial_L201 at hf
  rcases j_ite hf with hf | hf
  ·
    obtain ⟨rfl, rfl⟩ := j_inj2 hf
    rfl
  ·
    obtain ⟨v46, e47, hf⟩ := j_bind hf
    obtain ⟨v48, e49, hf⟩ := j_bind hf
    obtain ⟨v50, e51, hf⟩ := j_bind hf
    obtain ⟨h52, e53, hf⟩ := j_bind hf
    refine Eq.trans ?_ (jsI_n e53)
    obtain ⟨rfl, rfl⟩ := j_inj2 hf
    rfl
theorem q_X12_laysPolynomial_L231 {a0 : Nat} {a1 : Int32} {z : (Int64 × Int32)} {h : JH} {r : (Int64 × Int32) ⊕ (Int64 × Int32)} {h1 : JH} (hf : f_X12_laysPolynomial_L231 a0 a1 z h = some (r, h1)) : h1.2.1 = h.2.1 := by
  unfold f_X12_laysPolynomial_L231 at hf
  obtain ⟨v57, e58, hf⟩ := j_bind hf
  rcases j_ite hf with hf | hf
  ·
    obtain ⟨rfl, rfl⟩ := j_inj2 hf
    rfl
  ·
    obtain ⟨v59, e60, hf⟩ := j_bind hf
    obtain ⟨v61, e62, hf⟩ := j_bind hf
    obtain ⟨rfl, rfl⟩ := j_inj2 hf
    rfl
theorem q_X12_laysPolynomial_L33 {a0 : Nat} {z : Int32} {h : JH} {r : Int32 ⊕ Int32} {h1 : JH} (hf : f_X12_laysPolynomial_L33 a0 z h = some (r, h1)) : h1.2.1 = h.2.1 := by
  unfold f_X12_laysPolynomial_L33 at hf
  obtain ⟨v14, e15, hf⟩ := j_bind hf
  rcases j_ite hf with hf | hf
  ·
    obtain ⟨rfl, rfl⟩ := j_inj2 hf
    rfl
  ·
    obtain ⟨q16, e17, hf⟩ := j_bind hf
    refine Eq.trans ?_ ((jloop_eq (fun _ _ _ _ q => q_X12_laysPolynomial_L43 q) e17))
    obtain ⟨q18, e19, hf⟩ := j_bind hf
    refine Eq.trans ?_ ((jloop_eq (fun _ _ _ _ q => q_X12_laysPolynomial_L96 q) e19))
    obtain ⟨q20, e21, hf⟩ := j_bind hf
    refine Eq.trans ?_ ((jloop_eq (fun _ _ _ _ q => q_X12_laysPolynomial_L201 q) e21))
    obtain ⟨q22, e23, hf⟩ := j_bind hf
    refine Eq.trans ?_ ((jloop_eq (fun _ _ _ _ q => q_X12_laysPolynomial_L231 q) e23))
    obtain ⟨v24, e25, hf⟩ := j_bind hf
    obtain ⟨v26, e27, hf⟩ := j_bind hf
    obtain ⟨v28, e29, hf⟩ := j_bind hf
    obtain ⟨u30, e31, hf⟩ := j_bind hf
    obtain ⟨u40, e41, hf⟩ := j_bind hf
    obtain ⟨q32, e33, hf⟩ := j_bind hf
    refine Eq.trans ?_ ((q_X12_inverse e33))
    obtain ⟨u38, e39, hf⟩ := j_bind hf
    obtain ⟨q34, e35, hf⟩ := j_bind hf
    refine Eq.trans ?_ ((q_X12_left e35))
    obtain ⟨h36, e37, hf⟩ := j_bind hf
    refine Eq.trans ?_ (jsI_n e37)
    obtain ⟨rfl, rfl⟩ := j_inj2 hf
    rfl
theorem q_X12_laysPolynomial {a0 : Nat} {h : JH} {q : Unit × JH} (hf : f_X12_laysPolynomial a0 h = some q) : q.2.2.1 = h.2.1 := by
  unfold f_X12_laysPolynomial at hf
  obtain ⟨v1, e2, hf⟩ := j_bind hf
  obtain ⟨v3, e4, hf⟩ := j_bind hf
  obtain ⟨h5, e6, hf⟩ := j_bind hf
  refine Eq.trans ?_ (jsI_n e6)
  obtain ⟨q12, e13, hf⟩ := j_bind hf
  refine Eq.trans ?_ ((jloop_eq (fun _ _ _ _ q => q_X12_laysPolynomial_L12 q) e13))
  obtain ⟨q43, e44, hf⟩ := j_bind hf
  refine Eq.trans ?_ ((jloop_eq (fun _ _ _ _ q => q_X12_laysPolynomial_L33 q) e44))
  obtain rfl := j_inj hf
  rfl
theorem q_X12_polynomial {a0 : Nat} {a1 : Int32} {a2 : Int32} {a3 : Int32} {h : JH} {q : Int32 × JH} (hf : f_X12_polynomial a0 a1 a2 a3 h = some q) : q.2.2.1 = h.2.1 := by
  unfold f_X12_polynomial at hf
  obtain ⟨h1, e2, hf⟩ := j_bind hf
  refine Eq.trans ?_ (jput_n e2)
  obtain ⟨q3, e4, hf⟩ := j_bind hf
  refine Eq.trans ?_ ((q_X12_isWeight e4))
  rcases j_ite hf with hf | hf
  ·
    obtain rfl := j_inj hf
    rfl
  ·
    obtain ⟨q5, e6, hf⟩ := j_bind hf
    refine Eq.trans ?_ ((q_X12_isOperator e6))
    rcases j_ite hf with hf | hf
    ·
      obtain rfl := j_inj hf
      rfl
    ·
      obtain ⟨q7, e8, hf⟩ := j_bind hf
      refine Eq.trans ?_ ((q_X12_cuspsOf e8))
      obtain ⟨q9, e10, hf⟩ := j_bind hf
      refine Eq.trans ?_ ((q_X12_within e10))
      rcases j_ite hf with hf | hf
      ·
        obtain rfl := j_inj hf
        rfl
      ·
        obtain ⟨u21, e22, hf⟩ := j_bind hf
        obtain ⟨q11, e12, hf⟩ := j_bind hf
        refine Eq.trans ?_ ((q_X12_laysTable e12))
        obtain ⟨u19, e20, hf⟩ := j_bind hf
        obtain ⟨q13, e14, hf⟩ := j_bind hf
        refine Eq.trans ?_ ((q_X12_laysPolynomial e14))
        obtain ⟨v15, e16, hf⟩ := j_bind hf
        obtain ⟨v17, e18, hf⟩ := j_bind hf
        obtain rfl := j_inj hf
        rfl
theorem q_X12_laysRoots_L40 {a0 : Nat} {a2 : Int32} {z : (Int64 × Int32)} {h : JH} {r : (Int64 × Int32) ⊕ (Int64 × Int32)} {h1 : JH} (hf : f_X12_laysRoots_L40 a0 a2 z h = some (r, h1)) : h1.2.1 = h.2.1 := by
  unfold f_X12_laysRoots_L40 at hf
  rcases j_ite hf with hf | hf
  ·
    obtain ⟨rfl, rfl⟩ := j_inj2 hf
    rfl
  ·
    obtain ⟨v13, e14, hf⟩ := j_bind hf
    obtain ⟨v15, e16, hf⟩ := j_bind hf
    obtain ⟨v17, e18, hf⟩ := j_bind hf
    obtain ⟨u19, e20, hf⟩ := j_bind hf
    obtain ⟨rfl, rfl⟩ := j_inj2 hf
    rfl
theorem q_X12_laysRoots_L17 {a0 : Nat} {z : Int32} {h : JH} {r : Int32 ⊕ Int32} {h1 : JH} (hf : f_X12_laysRoots_L17 a0 z h = some (r, h1)) : h1.2.1 = h.2.1 := by
  unfold f_X12_laysRoots_L17 at hf
  obtain ⟨v7, e8, hf⟩ := j_bind hf
  rcases j_ite hf with hf | hf
  ·
    obtain ⟨rfl, rfl⟩ := j_inj2 hf
    rfl
  ·
    obtain ⟨v9, e10, hf⟩ := j_bind hf
    rcases j_ite hf with hf | hf
    ·
      obtain ⟨rfl, rfl⟩ := j_inj2 hf
      rfl
    ·
      obtain ⟨v11, e12, hf⟩ := j_bind hf
      obtain ⟨q13, e14, hf⟩ := j_bind hf
      refine Eq.trans ?_ ((jloop_eq (fun _ _ _ _ q => q_X12_laysRoots_L40 q) e14))
      rcases j_ite hf with hf | hf
      ·
        obtain ⟨v15, e16, hf⟩ := j_bind hf
        obtain ⟨v17, e18, hf⟩ := j_bind hf
        obtain ⟨h19, e20, hf⟩ := j_bind hf
        refine Eq.trans ?_ (jsI_n e20)
        obtain ⟨v21, e22, hf⟩ := j_bind hf
        obtain ⟨h23, e24, hf⟩ := j_bind hf
        refine Eq.trans ?_ (jput_n e24)
        obtain ⟨rfl, rfl⟩ := j_inj2 hf
        rfl
      ·
        obtain ⟨rfl, rfl⟩ := j_inj2 hf
        rfl
theorem q_X12_laysRoots {a0 : Nat} {a1 : Int32} {h : JH} {q : Unit × JH} (hf : f_X12_laysRoots a0 a1 h = some q) : q.2.2.1 = h.2.1 := by
  unfold f_X12_laysRoots at hf
  obtain ⟨u32, e33, hf⟩ := j_bind hf
  obtain ⟨q1, e2, hf⟩ := j_bind hf
  refine Eq.trans ?_ ((q_X12_laysTable e2))
  obtain ⟨u30, e31, hf⟩ := j_bind hf
  obtain ⟨q3, e4, hf⟩ := j_bind hf
  refine Eq.trans ?_ ((q_X12_laysPolynomial e4))
  obtain ⟨h5, e6, hf⟩ := j_bind hf
  refine Eq.trans ?_ (jput_n e6)
  obtain ⟨q28, e29, hf⟩ := j_bind hf
  refine Eq.trans ?_ ((jloop_eq (fun _ _ _ _ q => q_X12_laysRoots_L17 q) e29))
  obtain rfl := j_inj hf
  rfl
theorem q_X12_root {a0 : Nat} {a1 : Int32} {a2 : Int32} {h : JH} {q : Int32 × JH} (hf : f_X12_root a0 a1 a2 h = some q) : q.2.2.1 = h.2.1 := by
  unfold f_X12_root at hf
  obtain ⟨h1, e2, hf⟩ := j_bind hf
  refine Eq.trans ?_ (jput_n e2)
  obtain ⟨q3, e4, hf⟩ := j_bind hf
  refine Eq.trans ?_ ((q_X12_isWeight e4))
  rcases j_ite hf with hf | hf
  ·
    obtain rfl := j_inj hf
    rfl
  ·
    obtain ⟨u17, e18, hf⟩ := j_bind hf
    obtain ⟨q5, e6, hf⟩ := j_bind hf
    refine Eq.trans ?_ ((q_X12_laysRoots e6))
    rcases j_ite hf with hf | hf
    ·
      obtain ⟨v15, e16, hf⟩ := j_bind hf
      obtain rfl := j_inj hf
      rfl
    ·
      obtain ⟨v7, e8, hf⟩ := j_bind hf
      obtain ⟨q9, e10, hf⟩ := j_bind hf
      refine Eq.trans ?_ ((q_X12_within e10))
      rcases j_ite hf with hf | hf
      ·
        obtain rfl := j_inj hf
        rfl
      ·
        obtain ⟨v11, e12, hf⟩ := j_bind hf
        obtain ⟨v13, e14, hf⟩ := j_bind hf
        obtain rfl := j_inj hf
        rfl
theorem q_X12_takesStep_L20 {a0 : Nat} {a1 : Int32} {a2 : Int32} {a3 : Int32} {a4 : Int32} {z : Int32} {h : JH} {r : Int32 ⊕ Int32} {h1 : JH} (hf : f_X12_takesStep_L20 a0 a1 a2 a3 a4 z h = some (r, h1)) : h1.2.1 = h.2.1 := by
  unfold f_X12_takesStep_L20 at hf
  obtain ⟨v7, e8, hf⟩ := j_bind hf
  rcases j_ite hf with hf | hf
  ·
    obtain ⟨rfl, rfl⟩ := j_inj2 hf
    rfl
  ·
    obtain ⟨v9, e10, hf⟩ := j_bind hf
    obtain ⟨v11, e12, hf⟩ := j_bind hf
    obtain ⟨v13, e14, hf⟩ := j_bind hf
    obtain ⟨v15, e16, hf⟩ := j_bind hf
    obtain ⟨v17, e18, hf⟩ := j_bind hf
    obtain ⟨h19, e20, hf⟩ := j_bind hf
    refine Eq.trans ?_ (jsI_n e20)
    obtain ⟨v21, e22, hf⟩ := j_bind hf
    obtain ⟨u27, e28, hf⟩ := j_bind hf
    obtain ⟨q23, e24, hf⟩ := j_bind hf
    refine Eq.trans ?_ ((q_X12_left e24))
    obtain ⟨h25, e26, hf⟩ := j_bind hf
    refine Eq.trans ?_ (jsI_n e26)
    obtain ⟨rfl, rfl⟩ := j_inj2 hf
    rfl
theorem q_X12_takesStep_L126 {a0 : Nat} {a1 : Int32} {a3 : Int32} {a5 : Int32} {a6 : Int64} {z : Int32} {h : JH} {r : Int32 ⊕ Int32} {h1 : JH} (hf : f_X12_takesStep_L126 a0 a1 a3 a5 a6 z h = some (r, h1)) : h1.2.1 = h.2.1 := by
  unfold f_X12_takesStep_L126 at hf
  obtain ⟨v38, e39, hf⟩ := j_bind hf
  rcases j_ite hf with hf | hf
  ·
    obtain ⟨rfl, rfl⟩ := j_inj2 hf
    rfl
  ·
    rcases j_ite hf with hf | hf
    ·
      obtain ⟨rfl, rfl⟩ := j_inj2 hf
      rfl
    ·
      obtain ⟨v40, e41, hf⟩ := j_bind hf
      obtain ⟨v42, e43, hf⟩ := j_bind hf
      obtain ⟨v44, e45, hf⟩ := j_bind hf
      obtain ⟨v46, e47, hf⟩ := j_bind hf
      obtain ⟨v48, e49, hf⟩ := j_bind hf
      obtain ⟨u54, e55, hf⟩ := j_bind hf
      obtain ⟨q50, e51, hf⟩ := j_bind hf
      refine Eq.trans ?_ ((q_X12_left e51))
      obtain ⟨h52, e53, hf⟩ := j_bind hf
      refine Eq.trans ?_ (jsI_n e53)
      obtain ⟨rfl, rfl⟩ := j_inj2 hf
      rfl
theorem q_X12_takesStep_L99 {a0 : Nat} {a1 : Int32} {a3 : Int32} {z : Int32} {h : JH} {r : Int32 ⊕ Int32} {h1 : JH} (hf : f_X12_takesStep_L99 a0 a1 a3 z h = some (r, h1)) : h1.2.1 = h.2.1 := by
  unfold f_X12_takesStep_L99 at hf
  obtain ⟨v32, e33, hf⟩ := j_bind hf
  rcases j_ite hf with hf | hf
  ·
    obtain ⟨rfl, rfl⟩ := j_inj2 hf
    rfl
  ·
    obtain ⟨v34, e35, hf⟩ := j_bind hf
    obtain ⟨v36, e37, hf⟩ := j_bind hf
    obtain ⟨q38, e39, hf⟩ := j_bind hf
    refine Eq.trans ?_ ((jloop_eq (fun _ _ _ _ q => q_X12_takesStep_L126 q) e39))
    obtain ⟨rfl, rfl⟩ := j_inj2 hf
    rfl
theorem q_X12_takesStep {a0 : Nat} {a1 : Int32} {a2 : Int32} {a3 : Int32} {h : JH} {q : Unit × JH} (hf : f_X12_takesStep a0 a1 a2 a3 h = some q) : q.2.2.1 = h.2.1 := by
  unfold f_X12_takesStep at hf
  obtain ⟨v1, e2, hf⟩ := j_bind hf
  obtain ⟨v3, e4, hf⟩ := j_bind hf
  obtain ⟨u43, e44, hf⟩ := j_bind hf
  obtain ⟨q5, e6, hf⟩ := j_bind hf
  refine Eq.trans ?_ ((q_X12_inverse e6))
  obtain ⟨q30, e31, hf⟩ := j_bind hf
  refine Eq.trans ?_ ((jloop_eq (fun _ _ _ _ q => q_X12_takesStep_L20 q) e31))
  obtain ⟨q41, e42, hf⟩ := j_bind hf
  refine Eq.trans ?_ ((jloop_eq (fun _ _ _ _ q => q_X12_takesStep_L99 q) e42))
  obtain rfl := j_inj hf
  rfl
theorem q_X12_solves_L12 {a0 : Nat} {a1 : Int32} {a2 : Int32} {z : Int32} {h : JH} {r : Int32 ⊕ Int32} {h1 : JH} (hf : f_X12_solves_L12 a0 a1 a2 z h = some (r, h1)) : h1.2.1 = h.2.1 := by
  unfold f_X12_solves_L12 at hf
  obtain ⟨v3, e4, hf⟩ := j_bind hf
  rcases j_ite hf with hf | hf
  ·
    obtain ⟨rfl, rfl⟩ := j_inj2 hf
    rfl
  ·
    obtain ⟨v5, e6, hf⟩ := j_bind hf
    obtain ⟨v7, e8, hf⟩ := j_bind hf
    obtain ⟨v9, e10, hf⟩ := j_bind hf
    rcases j_ite hf with hf | hf
    ·
      obtain ⟨u21, e22, hf⟩ := j_bind hf
      obtain ⟨q17, e18, hf⟩ := j_bind hf
      refine Eq.trans ?_ ((q_X12_left e18))
      obtain ⟨h19, e20, hf⟩ := j_bind hf
      refine Eq.trans ?_ (jsI_n e20)
      obtain ⟨rfl, rfl⟩ := j_inj2 hf
      rfl
    ·
      obtain ⟨u15, e16, hf⟩ := j_bind hf
      obtain ⟨q11, e12, hf⟩ := j_bind hf
      refine Eq.trans ?_ ((q_X12_left e12))
      obtain ⟨h13, e14, hf⟩ := j_bind hf
      refine Eq.trans ?_ (jsI_n e14)
      obtain ⟨rfl, rfl⟩ := j_inj2 hf
      rfl
theorem q_X12_solves_L2 {a0 : Nat} {a1 : Int32} {z : Int32} {h : JH} {r : Int32 ⊕ Int32} {h1 : JH} (hf : f_X12_solves_L2 a0 a1 z h = some (r, h1)) : h1.2.1 = h.2.1 := by
  unfold f_X12_solves_L2 at hf
  obtain ⟨v1, e2, hf⟩ := j_bind hf
  rcases j_ite hf with hf | hf
  ·
    obtain ⟨rfl, rfl⟩ := j_inj2 hf
    rfl
  ·
    obtain ⟨q3, e4, hf⟩ := j_bind hf
    refine Eq.trans ?_ ((jloop_eq (fun _ _ _ _ q => q_X12_solves_L12 q) e4))
    obtain ⟨rfl, rfl⟩ := j_inj2 hf
    rfl
theorem q_X12_solves_L85 {a0 : Nat} {a2 : Int32} {a3 : Int32} {z : Int32} {h : JH} {r : Int32 ⊕ Int32} {h1 : JH} (hf : f_X12_solves_L85 a0 a2 a3 z h = some (r, h1)) : h1.2.1 = h.2.1 := by
  unfold f_X12_solves_L85 at hf
  obtain ⟨v10, e11, hf⟩ := j_bind hf
  rcases j_ite hf with hf | hf
  ·
    obtain ⟨rfl, rfl⟩ := j_inj2 hf
    rfl
  ·
    obtain ⟨v12, e13, hf⟩ := j_bind hf
    obtain ⟨v14, e15, hf⟩ := j_bind hf
    rcases j_ite hf with hf | hf
    ·
      obtain ⟨rfl, rfl⟩ := j_inj2 hf
      rfl
    ·
      obtain ⟨rfl, rfl⟩ := j_inj2 hf
      rfl
theorem q_X12_solves_L74 {a0 : Nat} {z : (Int32 × Int32)} {h : JH} {r : (Int32 × Int32) ⊕ (Int32 ⊕ (Int32 × Int32))} {h1 : JH} (hf : f_X12_solves_L74 a0 z h = some (r, h1)) : h1.2.1 = h.2.1 := by
  unfold f_X12_solves_L74 at hf
  obtain ⟨v8, e9, hf⟩ := j_bind hf
  rcases j_ite hf with hf | hf
  ·
    obtain ⟨rfl, rfl⟩ := j_inj2 hf
    rfl
  ·
    obtain ⟨q18, e19, hf⟩ := j_bind hf
    refine Eq.trans ?_ ((jloop_eq (fun _ _ _ _ q => q_X12_solves_L85 q) e19))
    obtain ⟨v20, e21, hf⟩ := j_bind hf
    rcases j_ite hf with hf | hf
    ·
      obtain ⟨rfl, rfl⟩ := j_inj2 hf
      rfl
    ·
      obtain ⟨u24, e25, hf⟩ := j_bind hf
      obtain ⟨q22, e23, hf⟩ := j_bind hf
      refine Eq.trans ?_ ((q_X12_takesStep e23))
      obtain ⟨rfl, rfl⟩ := j_inj2 hf
      rfl
theorem q_X12_solves_L145 {a0 : Nat} {z : Int32} {h : JH} {r : Int32 ⊕ (Int32 ⊕ Int32)} {h1 : JH} (hf : f_X12_solves_L145 a0 z h = some (r, h1)) : h1.2.1 = h.2.1 := by
  unfold f_X12_solves_L145 at hf
  obtain ⟨v32, e33, hf⟩ := j_bind hf
  rcases j_ite hf with hf | hf
  ·
    obtain ⟨rfl, rfl⟩ := j_inj2 hf
    rfl
  ·
    obtain ⟨v34, e35, hf⟩ := j_bind hf
    obtain ⟨v36, e37, hf⟩ := j_bind hf
    rcases j_ite hf with hf | hf
    ·
      obtain ⟨rfl, rfl⟩ := j_inj2 hf
      rfl
    ·
      obtain ⟨rfl, rfl⟩ := j_inj2 hf
      rfl
theorem q_X12_solves_L189 {a0 : Nat} {z : Int32} {h : JH} {r : Int32 ⊕ Int32} {h1 : JH} (hf : f_X12_solves_L189 a0 z h = some (r, h1)) : h1.2.1 = h.2.1 := by
  unfold f_X12_solves_L189 at hf
  obtain ⟨v52, e53, hf⟩ := j_bind hf
  rcases j_ite hf with hf | hf
  ·
    obtain ⟨rfl, rfl⟩ := j_inj2 hf
    rfl
  ·
    obtain ⟨v54, e55, hf⟩ := j_bind hf
    obtain ⟨v56, e57, hf⟩ := j_bind hf
    obtain ⟨v58, e59, hf⟩ := j_bind hf
    obtain ⟨u64, e65, hf⟩ := j_bind hf
    obtain ⟨q60, e61, hf⟩ := j_bind hf
    refine Eq.trans ?_ ((q_X12_left e61))
    obtain ⟨h62, e63, hf⟩ := j_bind hf
    refine Eq.trans ?_ (jsI_n e63)
    obtain ⟨rfl, rfl⟩ := j_inj2 hf
    rfl
theorem q_X12_solves {a0 : Nat} {a1 : Int32} {h : JH} {q : Int32 × JH} (hf : f_X12_solves a0 a1 h = some q) : q.2.2.1 = h.2.1 := by
  unfold f_X12_solves at hf
  obtain ⟨q6, e7, hf⟩ := j_bind hf
  refine Eq.trans ?_ ((jloop_eq (fun _ _ _ _ q => q_X12_solves_L2 q) e7))
  obtain ⟨q28, e29, hf⟩ := j_bind hf
  refine Eq.trans ?_ ((jloop_eq (fun _ _ _ _ q => q_X12_solves_L74 q) e29))
  cases y69 : q28.1 with
  | inl r31 =>
    rw [y69] at hf
    have hf := j_eliml hf
    obtain rfl := j_inj hf
    rfl
  | inr t30 =>
    rw [y69] at hf
    have hf := j_elimr hf
    obtain ⟨q40, e41, hf⟩ := j_bind hf
    refine Eq.trans ?_ ((jloop_eq (fun _ _ _ _ q => q_X12_solves_L145 q) e41))
    cases y70 : q40.1 with
    | inl r43 =>
      rw [y70] at hf
      have hf := j_eliml hf
      obtain rfl := j_inj hf
      rfl
    | inr t42 =>
      rw [y70] at hf
      have hf := j_elimr hf
      obtain ⟨v44, e45, hf⟩ := j_bind hf
      obtain ⟨h46, e47, hf⟩ := j_bind hf
      refine Eq.trans ?_ (jsI_n e47)
      obtain ⟨v48, e49, hf⟩ := j_bind hf
      obtain ⟨h50, e51, hf⟩ := j_bind hf
      refine Eq.trans ?_ (jsI_n e51)
      obtain ⟨q67, e68, hf⟩ := j_bind hf
      refine Eq.trans ?_ ((jloop_eq (fun _ _ _ _ q => q_X12_solves_L189 q) e68))
      obtain rfl := j_inj hf
      rfl
theorem q_X12_own {a0 : Nat} {a1 : Int32} {a2 : Int32} {a3 : Int32} {h : JH} {q : Int32 × JH} (hf : f_X12_own a0 a1 a2 a3 h = some q) : q.2.2.1 = h.2.1 := by
  unfold f_X12_own at hf
  obtain ⟨h1, e2, hf⟩ := j_bind hf
  refine Eq.trans ?_ (jput_n e2)
  obtain ⟨u41, e42, hf⟩ := j_bind hf
  obtain ⟨q3, e4, hf⟩ := j_bind hf
  refine Eq.trans ?_ ((q_X12_isRegister e4))
  rcases j_ite hf with hf | hf
  ·
    obtain rfl := j_inj hf
    rfl
  ·
    obtain ⟨q5, e6, hf⟩ := j_bind hf
    refine Eq.trans ?_ ((q_X12_isWeight e6))
    rcases j_ite hf with hf | hf
    ·
      obtain rfl := j_inj hf
      rfl
    ·
      obtain ⟨u39, e40, hf⟩ := j_bind hf
      obtain ⟨q7, e8, hf⟩ := j_bind hf
      refine Eq.trans ?_ ((q_X12_laysRoots e8))
      obtain ⟨v9, e10, hf⟩ := j_bind hf
      obtain ⟨q11, e12, hf⟩ := j_bind hf
      refine Eq.trans ?_ ((q_X12_within e12))
      rcases j_ite hf with hf | hf
      ·
        obtain rfl := j_inj hf
        rfl
      ·
        obtain ⟨v13, e14, hf⟩ := j_bind hf
        obtain ⟨v15, e16, hf⟩ := j_bind hf
        obtain ⟨u37, e38, hf⟩ := j_bind hf
        obtain ⟨q17, e18, hf⟩ := j_bind hf
        refine Eq.trans ?_ ((q_X12_solves e18))
        rcases j_ite hf with hf | hf
        ·
          obtain rfl := j_inj hf
          rfl
        ·
          obtain ⟨u35, e36, hf⟩ := j_bind hf
          obtain ⟨q19, e20, hf⟩ := j_bind hf
          refine Eq.trans ?_ ((q_X12_builds e20))
          obtain ⟨v21, e22, hf⟩ := j_bind hf
          obtain ⟨v23, e24, hf⟩ := j_bind hf
          obtain ⟨q25, e26, hf⟩ := j_bind hf
          refine Eq.trans ?_ ((q_X12_copies e26))
          obtain ⟨v27, e28, hf⟩ := j_bind hf
          obtain ⟨h29, e30, hf⟩ := j_bind hf
          refine Eq.trans ?_ (jsI_n e30)
          obtain ⟨v31, e32, hf⟩ := j_bind hf
          obtain ⟨v33, e34, hf⟩ := j_bind hf
          obtain rfl := j_inj hf
          rfl
theorem q_X12_sortOf {a0 : Nat} {a1 : Int32} {h : JH} {q : Int32 × JH} (hf : f_X12_sortOf a0 a1 h = some q) : q.2.2.1 = h.2.1 := by
  unfold f_X12_sortOf at hf
  rcases j_ite hf with hf | hf
  ·
    obtain ⟨v3, e4, hf⟩ := j_bind hf
    obtain rfl := j_inj hf
    rfl
  ·
    obtain ⟨v1, e2, hf⟩ := j_bind hf
    obtain rfl := j_inj hf
    rfl
theorem q_X12_put_L129 {a0 : Nat} {a3 : Int32} {a4 : Int32} {a5 : Int32} {a6 : Int32} {z : Int32} {h : JH} {r : Int32 ⊕ Int32} {h1 : JH} (hf : f_X12_put_L129 a0 a3 a4 a5 a6 z h = some (r, h1)) : h1.2.1 = h.2.1 := by
  unfold f_X12_put_L129 at hf
  rcases j_ite hf with hf | hf
  ·
    obtain ⟨rfl, rfl⟩ := j_inj2 hf
    rfl
  ·
    rcases j_ite hf with hf | hf
    ·
      obtain ⟨rfl, rfl⟩ := j_inj2 hf
      rfl
    ·
      obtain ⟨v9, e10, hf⟩ := j_bind hf
      rcases j_ite hf with hf | hf
      ·
        obtain ⟨v19, e20, hf⟩ := j_bind hf
        obtain ⟨v21, e22, hf⟩ := j_bind hf
        obtain ⟨h23, e24, hf⟩ := j_bind hf
        refine Eq.trans ?_ (jsJ_n e24)
        obtain ⟨rfl, rfl⟩ := j_inj2 hf
        rfl
      ·
        rcases j_ite hf with hf | hf
        ·
          obtain ⟨h11, e12, hf⟩ := j_bind hf
          refine Eq.trans ?_ (jsJ_n e12)
          obtain ⟨rfl, rfl⟩ := j_inj2 hf
          rfl
        ·
          obtain ⟨u17, e18, hf⟩ := j_bind hf
          obtain ⟨q13, e14, hf⟩ := j_bind hf
          refine Eq.trans ?_ ((q_X12_traceOf e14))
          obtain ⟨h15, e16, hf⟩ := j_bind hf
          refine Eq.trans ?_ (jsJ_n e16)
          obtain ⟨rfl, rfl⟩ := j_inj2 hf
          rfl
theorem q_X12_put_L77 {a0 : Nat} {a1 : Int32} {a2 : Int32} {a3 : Int32} {a4 : Int32} {z : (Int32 × Int32)} {h : JH} {r : (Int32 × Int32) ⊕ (Int32 × Int32)} {h1 : JH} (hf : f_X12_put_L77 a0 a1 a2 a3 a4 z h = some (r, h1)) : h1.2.1 = h.2.1 := by
  unfold f_X12_put_L77 at hf
  rcases j_ite hf with hf | hf
  ·
    obtain ⟨rfl, rfl⟩ := j_inj2 hf
    rfl
  ·
    rcases j_ite hf with hf | hf
    ·
      obtain ⟨rfl, rfl⟩ := j_inj2 hf
      rfl
    ·
      obtain ⟨u53, e54, hf⟩ := j_bind hf
      obtain ⟨q49, e50, hf⟩ := j_bind hf
      refine Eq.trans ?_ ((q_X12_traceOf e50))
      obtain ⟨v51, e52, hf⟩ := j_bind hf
      rcases j_ite hf with hf | hf
      ·
        obtain ⟨rfl, rfl⟩ := j_inj2 hf
        rfl
      ·
        obtain ⟨rfl, rfl⟩ := j_inj2 hf
        rfl
theorem q_X12_put {a0 : Nat} {a1 : Int32} {a2 : Int32} {a3 : Int32} {a4 : Int32} {h : JH} {q : Int32 × JH} (hf : f_X12_put a0 a1 a2 a3 a4 h = some q) : q.2.2.1 = h.2.1 := by
  unfold f_X12_put at hf
  obtain ⟨h1, e2, hf⟩ := j_bind hf
  refine Eq.trans ?_ (jput_n e2)
  obtain ⟨q3, e4, hf⟩ := j_bind hf
  refine Eq.trans ?_ ((q_X12_within e4))
  rcases j_ite hf with hf | hf
  ·
    obtain rfl := j_inj hf
    rfl
  ·
    obtain ⟨q5, e6, hf⟩ := j_bind hf
    refine Eq.trans ?_ ((q_X12_within e6))
    rcases j_ite hf with hf | hf
    ·
      obtain rfl := j_inj hf
      rfl
    ·
      obtain ⟨u390, e391, hf⟩ := j_bind hf
      obtain ⟨q7, e8, hf⟩ := j_bind hf
      refine Eq.trans ?_ ((q_X12_sortOf e8))
      rcases j_ite hf with hf | hf
      ·
        rcases j_ite hf with hf | hf
        ·
          rcases j_ite hf with hf | hf
          ·
            obtain ⟨q126, e127, hf⟩ := j_bind hf
            refine Eq.trans ?_ ((jloop_eq (fun _ _ _ _ q => q_X12_put_L129 q) e127))
            obtain ⟨v128, e129, hf⟩ := j_bind hf
            obtain ⟨v130, e131, hf⟩ := j_bind hf
            obtain ⟨v132, e133, hf⟩ := j_bind hf
            rcases j_ite hf with hf | hf
            ·
              rcases j_ite hf with hf | hf
              ·
                obtain ⟨h138, e139, hf⟩ := j_bind hf
                refine Eq.trans ?_ (jsB_n e139)
                obtain ⟨u140, e141, hf⟩ := j_bind hf
                obtain rfl := j_inj hf
                rfl
              ·
                obtain ⟨h142, e143, hf⟩ := j_bind hf
                refine Eq.trans ?_ (jsB_n e143)
                obtain ⟨u144, e145, hf⟩ := j_bind hf
                obtain rfl := j_inj hf
                rfl
            ·
              obtain ⟨h134, e135, hf⟩ := j_bind hf
              refine Eq.trans ?_ (jsB_n e135)
              obtain ⟨u136, e137, hf⟩ := j_bind hf
              obtain rfl := j_inj hf
              rfl
          ·
            rcases j_ite hf with hf | hf
            ·
              obtain ⟨q146, e147, hf⟩ := j_bind hf
              refine Eq.trans ?_ ((jloop_eq (fun _ _ _ _ q => q_X12_put_L77 q) e147))
              obtain ⟨q148, e149, hf⟩ := j_bind hf
              refine Eq.trans ?_ ((jloop_eq (fun _ _ _ _ q => q_X12_put_L129 q) e149))
              obtain ⟨v150, e151, hf⟩ := j_bind hf
              obtain ⟨v152, e153, hf⟩ := j_bind hf
              obtain ⟨v154, e155, hf⟩ := j_bind hf
              rcases j_ite hf with hf | hf
              ·
                rcases j_ite hf with hf | hf
                ·
                  obtain ⟨h160, e161, hf⟩ := j_bind hf
                  refine Eq.trans ?_ (jsB_n e161)
                  obtain ⟨u162, e163, hf⟩ := j_bind hf
                  obtain rfl := j_inj hf
                  rfl
                ·
                  obtain ⟨h164, e165, hf⟩ := j_bind hf
                  refine Eq.trans ?_ (jsB_n e165)
                  obtain ⟨u166, e167, hf⟩ := j_bind hf
                  obtain rfl := j_inj hf
                  rfl
              ·
                obtain ⟨h156, e157, hf⟩ := j_bind hf
                refine Eq.trans ?_ (jsB_n e157)
                obtain ⟨u158, e159, hf⟩ := j_bind hf
                obtain rfl := j_inj hf
                rfl
            ·
              obtain ⟨q168, e169, hf⟩ := j_bind hf
              refine Eq.trans ?_ ((q_X12_isTraced e169))
              rcases j_ite hf with hf | hf
              ·
                obtain ⟨q170, e171, hf⟩ := j_bind hf
                refine Eq.trans ?_ ((jloop_eq (fun _ _ _ _ q => q_X12_put_L77 q) e171))
                obtain ⟨q172, e173, hf⟩ := j_bind hf
                refine Eq.trans ?_ ((jloop_eq (fun _ _ _ _ q => q_X12_put_L129 q) e173))
                obtain ⟨v174, e175, hf⟩ := j_bind hf
                obtain ⟨v176, e177, hf⟩ := j_bind hf
                obtain ⟨v178, e179, hf⟩ := j_bind hf
                rcases j_ite hf with hf | hf
                ·
                  rcases j_ite hf with hf | hf
                  ·
                    obtain ⟨h184, e185, hf⟩ := j_bind hf
                    refine Eq.trans ?_ (jsB_n e185)
                    obtain ⟨u186, e187, hf⟩ := j_bind hf
                    obtain rfl := j_inj hf
                    rfl
                  ·
                    obtain ⟨h188, e189, hf⟩ := j_bind hf
                    refine Eq.trans ?_ (jsB_n e189)
                    obtain ⟨u190, e191, hf⟩ := j_bind hf
                    obtain rfl := j_inj hf
                    rfl
                ·
                  obtain ⟨h180, e181, hf⟩ := j_bind hf
                  refine Eq.trans ?_ (jsB_n e181)
                  obtain ⟨u182, e183, hf⟩ := j_bind hf
                  obtain rfl := j_inj hf
                  rfl
              ·
                obtain ⟨q192, e193, hf⟩ := j_bind hf
                refine Eq.trans ?_ ((jloop_eq (fun _ _ _ _ q => q_X12_put_L77 q) e193))
                obtain ⟨q194, e195, hf⟩ := j_bind hf
                refine Eq.trans ?_ ((jloop_eq (fun _ _ _ _ q => q_X12_put_L129 q) e195))
                obtain ⟨v196, e197, hf⟩ := j_bind hf
                obtain ⟨v198, e199, hf⟩ := j_bind hf
                obtain ⟨v200, e201, hf⟩ := j_bind hf
                rcases j_ite hf with hf | hf
                ·
                  rcases j_ite hf with hf | hf
                  ·
                    obtain ⟨h206, e207, hf⟩ := j_bind hf
                    refine Eq.trans ?_ (jsB_n e207)
                    obtain ⟨u208, e209, hf⟩ := j_bind hf
                    obtain rfl := j_inj hf
                    rfl
                  ·
                    obtain ⟨h210, e211, hf⟩ := j_bind hf
                    refine Eq.trans ?_ (jsB_n e211)
                    obtain ⟨u212, e213, hf⟩ := j_bind hf
                    obtain rfl := j_inj hf
                    rfl
                ·
                  obtain ⟨h202, e203, hf⟩ := j_bind hf
                  refine Eq.trans ?_ (jsB_n e203)
                  obtain ⟨u204, e205, hf⟩ := j_bind hf
                  obtain rfl := j_inj hf
                  rfl
        ·
          rcases j_ite hf with hf | hf
          ·
            obtain ⟨q29, e30, hf⟩ := j_bind hf
            refine Eq.trans ?_ ((jloop_eq (fun _ _ _ _ q => q_X12_put_L129 q) e30))
            obtain ⟨v31, e32, hf⟩ := j_bind hf
            obtain ⟨v33, e34, hf⟩ := j_bind hf
            obtain ⟨v35, e36, hf⟩ := j_bind hf
            rcases j_ite hf with hf | hf
            ·
              rcases j_ite hf with hf | hf
              ·
                obtain ⟨h41, e42, hf⟩ := j_bind hf
                refine Eq.trans ?_ (jsB_n e42)
                obtain ⟨u43, e44, hf⟩ := j_bind hf
                obtain rfl := j_inj hf
                rfl
              ·
                obtain ⟨h45, e46, hf⟩ := j_bind hf
                refine Eq.trans ?_ (jsB_n e46)
                obtain ⟨u47, e48, hf⟩ := j_bind hf
                obtain rfl := j_inj hf
                rfl
            ·
              obtain ⟨h37, e38, hf⟩ := j_bind hf
              refine Eq.trans ?_ (jsB_n e38)
              obtain ⟨u39, e40, hf⟩ := j_bind hf
              obtain rfl := j_inj hf
              rfl
          ·
            rcases j_ite hf with hf | hf
            ·
              obtain ⟨q58, e59, hf⟩ := j_bind hf
              refine Eq.trans ?_ ((jloop_eq (fun _ _ _ _ q => q_X12_put_L77 q) e59))
              obtain ⟨q60, e61, hf⟩ := j_bind hf
              refine Eq.trans ?_ ((jloop_eq (fun _ _ _ _ q => q_X12_put_L129 q) e61))
              obtain ⟨v62, e63, hf⟩ := j_bind hf
              obtain ⟨v64, e65, hf⟩ := j_bind hf
              obtain ⟨v66, e67, hf⟩ := j_bind hf
              rcases j_ite hf with hf | hf
              ·
                rcases j_ite hf with hf | hf
                ·
                  obtain ⟨h72, e73, hf⟩ := j_bind hf
                  refine Eq.trans ?_ (jsB_n e73)
                  obtain ⟨u74, e75, hf⟩ := j_bind hf
                  obtain rfl := j_inj hf
                  rfl
                ·
                  obtain ⟨h76, e77, hf⟩ := j_bind hf
                  refine Eq.trans ?_ (jsB_n e77)
                  obtain ⟨u78, e79, hf⟩ := j_bind hf
                  obtain rfl := j_inj hf
                  rfl
              ·
                obtain ⟨h68, e69, hf⟩ := j_bind hf
                refine Eq.trans ?_ (jsB_n e69)
                obtain ⟨u70, e71, hf⟩ := j_bind hf
                obtain rfl := j_inj hf
                rfl
            ·
              obtain ⟨q80, e81, hf⟩ := j_bind hf
              refine Eq.trans ?_ ((q_X12_isTraced e81))
              rcases j_ite hf with hf | hf
              ·
                obtain ⟨q82, e83, hf⟩ := j_bind hf
                refine Eq.trans ?_ ((jloop_eq (fun _ _ _ _ q => q_X12_put_L77 q) e83))
                obtain ⟨q84, e85, hf⟩ := j_bind hf
                refine Eq.trans ?_ ((jloop_eq (fun _ _ _ _ q => q_X12_put_L129 q) e85))
                obtain ⟨v86, e87, hf⟩ := j_bind hf
                obtain ⟨v88, e89, hf⟩ := j_bind hf
                obtain ⟨v90, e91, hf⟩ := j_bind hf
                rcases j_ite hf with hf | hf
                ·
                  rcases j_ite hf with hf | hf
                  ·
                    obtain ⟨h96, e97, hf⟩ := j_bind hf
                    refine Eq.trans ?_ (jsB_n e97)
                    obtain ⟨u98, e99, hf⟩ := j_bind hf
                    obtain rfl := j_inj hf
                    rfl
                  ·
                    obtain ⟨h100, e101, hf⟩ := j_bind hf
                    refine Eq.trans ?_ (jsB_n e101)
                    obtain ⟨u102, e103, hf⟩ := j_bind hf
                    obtain rfl := j_inj hf
                    rfl
                ·
                  obtain ⟨h92, e93, hf⟩ := j_bind hf
                  refine Eq.trans ?_ (jsB_n e93)
                  obtain ⟨u94, e95, hf⟩ := j_bind hf
                  obtain rfl := j_inj hf
                  rfl
              ·
                obtain ⟨q104, e105, hf⟩ := j_bind hf
                refine Eq.trans ?_ ((jloop_eq (fun _ _ _ _ q => q_X12_put_L77 q) e105))
                obtain ⟨q106, e107, hf⟩ := j_bind hf
                refine Eq.trans ?_ ((jloop_eq (fun _ _ _ _ q => q_X12_put_L129 q) e107))
                obtain ⟨v108, e109, hf⟩ := j_bind hf
                obtain ⟨v110, e111, hf⟩ := j_bind hf
                obtain ⟨v112, e113, hf⟩ := j_bind hf
                rcases j_ite hf with hf | hf
                ·
                  rcases j_ite hf with hf | hf
                  ·
                    obtain ⟨h118, e119, hf⟩ := j_bind hf
                    refine Eq.trans ?_ (jsB_n e119)
                    obtain ⟨u120, e121, hf⟩ := j_bind hf
                    obtain rfl := j_inj hf
                    rfl
                  ·
                    obtain ⟨h122, e123, hf⟩ := j_bind hf
                    refine Eq.trans ?_ (jsB_n e123)
                    obtain ⟨u124, e125, hf⟩ := j_bind hf
                    obtain rfl := j_inj hf
                    rfl
                ·
                  obtain ⟨h114, e115, hf⟩ := j_bind hf
                  refine Eq.trans ?_ (jsB_n e115)
                  obtain ⟨u116, e117, hf⟩ := j_bind hf
                  obtain rfl := j_inj hf
                  rfl
      ·
        rcases j_ite hf with hf | hf
        ·
          rcases j_ite hf with hf | hf
          ·
            obtain ⟨q302, e303, hf⟩ := j_bind hf
            refine Eq.trans ?_ ((jloop_eq (fun _ _ _ _ q => q_X12_put_L129 q) e303))
            obtain ⟨v304, e305, hf⟩ := j_bind hf
            obtain ⟨v306, e307, hf⟩ := j_bind hf
            obtain ⟨v308, e309, hf⟩ := j_bind hf
            rcases j_ite hf with hf | hf
            ·
              rcases j_ite hf with hf | hf
              ·
                obtain ⟨h314, e315, hf⟩ := j_bind hf
                refine Eq.trans ?_ (jsB_n e315)
                obtain ⟨u316, e317, hf⟩ := j_bind hf
                obtain rfl := j_inj hf
                rfl
              ·
                obtain ⟨h318, e319, hf⟩ := j_bind hf
                refine Eq.trans ?_ (jsB_n e319)
                obtain ⟨u320, e321, hf⟩ := j_bind hf
                obtain rfl := j_inj hf
                rfl
            ·
              obtain ⟨h310, e311, hf⟩ := j_bind hf
              refine Eq.trans ?_ (jsB_n e311)
              obtain ⟨u312, e313, hf⟩ := j_bind hf
              obtain rfl := j_inj hf
              rfl
          ·
            rcases j_ite hf with hf | hf
            ·
              obtain ⟨q322, e323, hf⟩ := j_bind hf
              refine Eq.trans ?_ ((jloop_eq (fun _ _ _ _ q => q_X12_put_L77 q) e323))
              obtain ⟨q324, e325, hf⟩ := j_bind hf
              refine Eq.trans ?_ ((jloop_eq (fun _ _ _ _ q => q_X12_put_L129 q) e325))
              obtain ⟨v326, e327, hf⟩ := j_bind hf
              obtain ⟨v328, e329, hf⟩ := j_bind hf
              obtain ⟨v330, e331, hf⟩ := j_bind hf
              rcases j_ite hf with hf | hf
              ·
                rcases j_ite hf with hf | hf
                ·
                  obtain ⟨h336, e337, hf⟩ := j_bind hf
                  refine Eq.trans ?_ (jsB_n e337)
                  obtain ⟨u338, e339, hf⟩ := j_bind hf
                  obtain rfl := j_inj hf
                  rfl
                ·
                  obtain ⟨h340, e341, hf⟩ := j_bind hf
                  refine Eq.trans ?_ (jsB_n e341)
                  obtain ⟨u342, e343, hf⟩ := j_bind hf
                  obtain rfl := j_inj hf
                  rfl
              ·
                obtain ⟨h332, e333, hf⟩ := j_bind hf
                refine Eq.trans ?_ (jsB_n e333)
                obtain ⟨u334, e335, hf⟩ := j_bind hf
                obtain rfl := j_inj hf
                rfl
            ·
              obtain ⟨q344, e345, hf⟩ := j_bind hf
              refine Eq.trans ?_ ((q_X12_isTraced e345))
              rcases j_ite hf with hf | hf
              ·
                obtain ⟨q346, e347, hf⟩ := j_bind hf
                refine Eq.trans ?_ ((jloop_eq (fun _ _ _ _ q => q_X12_put_L77 q) e347))
                obtain ⟨q348, e349, hf⟩ := j_bind hf
                refine Eq.trans ?_ ((jloop_eq (fun _ _ _ _ q => q_X12_put_L129 q) e349))
                obtain ⟨v350, e351, hf⟩ := j_bind hf
                obtain ⟨v352, e353, hf⟩ := j_bind hf
                obtain ⟨v354, e355, hf⟩ := j_bind hf
                rcases j_ite hf with hf | hf
                ·
                  rcases j_ite hf with hf | hf
                  ·
                    obtain ⟨h360, e361, hf⟩ := j_bind hf
                    refine Eq.trans ?_ (jsB_n e361)
                    obtain ⟨u362, e363, hf⟩ := j_bind hf
                    obtain rfl := j_inj hf
                    rfl
                  ·
                    obtain ⟨h364, e365, hf⟩ := j_bind hf
                    refine Eq.trans ?_ (jsB_n e365)
                    obtain ⟨u366, e367, hf⟩ := j_bind hf
                    obtain rfl := j_inj hf
                    rfl
                ·
                  obtain ⟨h356, e357, hf⟩ := j_bind hf
                  refine Eq.trans ?_ (jsB_n e357)
                  obtain ⟨u358, e359, hf⟩ := j_bind hf
                  obtain rfl := j_inj hf
                  rfl
              ·
                obtain ⟨q368, e369, hf⟩ := j_bind hf
                refine Eq.trans ?_ ((jloop_eq (fun _ _ _ _ q => q_X12_put_L77 q) e369))
                obtain ⟨q370, e371, hf⟩ := j_bind hf
                refine Eq.trans ?_ ((jloop_eq (fun _ _ _ _ q => q_X12_put_L129 q) e371))
                obtain ⟨v372, e373, hf⟩ := j_bind hf
                obtain ⟨v374, e375, hf⟩ := j_bind hf
                obtain ⟨v376, e377, hf⟩ := j_bind hf
                rcases j_ite hf with hf | hf
                ·
                  rcases j_ite hf with hf | hf
                  ·
                    obtain ⟨h382, e383, hf⟩ := j_bind hf
                    refine Eq.trans ?_ (jsB_n e383)
                    obtain ⟨u384, e385, hf⟩ := j_bind hf
                    obtain rfl := j_inj hf
                    rfl
                  ·
                    obtain ⟨h386, e387, hf⟩ := j_bind hf
                    refine Eq.trans ?_ (jsB_n e387)
                    obtain ⟨u388, e389, hf⟩ := j_bind hf
                    obtain rfl := j_inj hf
                    rfl
                ·
                  obtain ⟨h378, e379, hf⟩ := j_bind hf
                  refine Eq.trans ?_ (jsB_n e379)
                  obtain ⟨u380, e381, hf⟩ := j_bind hf
                  obtain rfl := j_inj hf
                  rfl
        ·
          rcases j_ite hf with hf | hf
          ·
            obtain ⟨q214, e215, hf⟩ := j_bind hf
            refine Eq.trans ?_ ((jloop_eq (fun _ _ _ _ q => q_X12_put_L129 q) e215))
            obtain ⟨v216, e217, hf⟩ := j_bind hf
            obtain ⟨v218, e219, hf⟩ := j_bind hf
            obtain ⟨v220, e221, hf⟩ := j_bind hf
            rcases j_ite hf with hf | hf
            ·
              rcases j_ite hf with hf | hf
              ·
                obtain ⟨h226, e227, hf⟩ := j_bind hf
                refine Eq.trans ?_ (jsB_n e227)
                obtain ⟨u228, e229, hf⟩ := j_bind hf
                obtain rfl := j_inj hf
                rfl
              ·
                obtain ⟨h230, e231, hf⟩ := j_bind hf
                refine Eq.trans ?_ (jsB_n e231)
                obtain ⟨u232, e233, hf⟩ := j_bind hf
                obtain rfl := j_inj hf
                rfl
            ·
              obtain ⟨h222, e223, hf⟩ := j_bind hf
              refine Eq.trans ?_ (jsB_n e223)
              obtain ⟨u224, e225, hf⟩ := j_bind hf
              obtain rfl := j_inj hf
              rfl
          ·
            rcases j_ite hf with hf | hf
            ·
              obtain ⟨q234, e235, hf⟩ := j_bind hf
              refine Eq.trans ?_ ((jloop_eq (fun _ _ _ _ q => q_X12_put_L77 q) e235))
              obtain ⟨q236, e237, hf⟩ := j_bind hf
              refine Eq.trans ?_ ((jloop_eq (fun _ _ _ _ q => q_X12_put_L129 q) e237))
              obtain ⟨v238, e239, hf⟩ := j_bind hf
              obtain ⟨v240, e241, hf⟩ := j_bind hf
              obtain ⟨v242, e243, hf⟩ := j_bind hf
              rcases j_ite hf with hf | hf
              ·
                rcases j_ite hf with hf | hf
                ·
                  obtain ⟨h248, e249, hf⟩ := j_bind hf
                  refine Eq.trans ?_ (jsB_n e249)
                  obtain ⟨u250, e251, hf⟩ := j_bind hf
                  obtain rfl := j_inj hf
                  rfl
                ·
                  obtain ⟨h252, e253, hf⟩ := j_bind hf
                  refine Eq.trans ?_ (jsB_n e253)
                  obtain ⟨u254, e255, hf⟩ := j_bind hf
                  obtain rfl := j_inj hf
                  rfl
              ·
                obtain ⟨h244, e245, hf⟩ := j_bind hf
                refine Eq.trans ?_ (jsB_n e245)
                obtain ⟨u246, e247, hf⟩ := j_bind hf
                obtain rfl := j_inj hf
                rfl
            ·
              obtain ⟨q256, e257, hf⟩ := j_bind hf
              refine Eq.trans ?_ ((q_X12_isTraced e257))
              rcases j_ite hf with hf | hf
              ·
                obtain ⟨q258, e259, hf⟩ := j_bind hf
                refine Eq.trans ?_ ((jloop_eq (fun _ _ _ _ q => q_X12_put_L77 q) e259))
                obtain ⟨q260, e261, hf⟩ := j_bind hf
                refine Eq.trans ?_ ((jloop_eq (fun _ _ _ _ q => q_X12_put_L129 q) e261))
                obtain ⟨v262, e263, hf⟩ := j_bind hf
                obtain ⟨v264, e265, hf⟩ := j_bind hf
                obtain ⟨v266, e267, hf⟩ := j_bind hf
                rcases j_ite hf with hf | hf
                ·
                  rcases j_ite hf with hf | hf
                  ·
                    obtain ⟨h272, e273, hf⟩ := j_bind hf
                    refine Eq.trans ?_ (jsB_n e273)
                    obtain ⟨u274, e275, hf⟩ := j_bind hf
                    obtain rfl := j_inj hf
                    rfl
                  ·
                    obtain ⟨h276, e277, hf⟩ := j_bind hf
                    refine Eq.trans ?_ (jsB_n e277)
                    obtain ⟨u278, e279, hf⟩ := j_bind hf
                    obtain rfl := j_inj hf
                    rfl
                ·
                  obtain ⟨h268, e269, hf⟩ := j_bind hf
                  refine Eq.trans ?_ (jsB_n e269)
                  obtain ⟨u270, e271, hf⟩ := j_bind hf
                  obtain rfl := j_inj hf
                  rfl
              ·
                obtain ⟨q280, e281, hf⟩ := j_bind hf
                refine Eq.trans ?_ ((jloop_eq (fun _ _ _ _ q => q_X12_put_L77 q) e281))
                obtain ⟨q282, e283, hf⟩ := j_bind hf
                refine Eq.trans ?_ ((jloop_eq (fun _ _ _ _ q => q_X12_put_L129 q) e283))
                obtain ⟨v284, e285, hf⟩ := j_bind hf
                obtain ⟨v286, e287, hf⟩ := j_bind hf
                obtain ⟨v288, e289, hf⟩ := j_bind hf
                rcases j_ite hf with hf | hf
                ·
                  rcases j_ite hf with hf | hf
                  ·
                    obtain ⟨h294, e295, hf⟩ := j_bind hf
                    refine Eq.trans ?_ (jsB_n e295)
                    obtain ⟨u296, e297, hf⟩ := j_bind hf
                    obtain rfl := j_inj hf
                    rfl
                  ·
                    obtain ⟨h298, e299, hf⟩ := j_bind hf
                    refine Eq.trans ?_ (jsB_n e299)
                    obtain ⟨u300, e301, hf⟩ := j_bind hf
                    obtain rfl := j_inj hf
                    rfl
                ·
                  obtain ⟨h290, e291, hf⟩ := j_bind hf
                  refine Eq.trans ?_ (jsB_n e291)
                  obtain ⟨u292, e293, hf⟩ := j_bind hf
                  obtain rfl := j_inj hf
                  rfl
theorem q_X12_row {a0 : Nat} {a1 : Int32} {a2 : Int32} {a3 : Int32} {h : JH} {q : Int64 × JH} (hf : f_X12_row a0 a1 a2 a3 h = some q) : q.2.2.1 = h.2.1 := by
  unfold f_X12_row at hf
  obtain ⟨h1, e2, hf⟩ := j_bind hf
  refine Eq.trans ?_ (jput_n e2)
  obtain ⟨q3, e4, hf⟩ := j_bind hf
  refine Eq.trans ?_ ((q_X12_within e4))
  rcases j_ite hf with hf | hf
  ·
    obtain rfl := j_inj hf
    rfl
  ·
    obtain ⟨q5, e6, hf⟩ := j_bind hf
    refine Eq.trans ?_ ((q_X12_within e6))
    rcases j_ite hf with hf | hf
    ·
      obtain rfl := j_inj hf
      rfl
    ·
      obtain ⟨v7, e8, hf⟩ := j_bind hf
      obtain ⟨v9, e10, hf⟩ := j_bind hf
      rcases j_ite hf with hf | hf
      ·
        obtain rfl := j_inj hf
        rfl
      ·
        obtain ⟨u29, e30, hf⟩ := j_bind hf
        obtain ⟨q11, e12, hf⟩ := j_bind hf
        refine Eq.trans ?_ ((q_X12_sortOf e12))
        rcases j_ite hf with hf | hf
        ·
          obtain ⟨q21, e22, hf⟩ := j_bind hf
          refine Eq.trans ?_ ((q_X12_within e22))
          rcases j_ite hf with hf | hf
          ·
            obtain rfl := j_inj hf
            rfl
          ·
            obtain ⟨h23, e24, hf⟩ := j_bind hf
            refine Eq.trans ?_ (jput_n e24)
            obtain ⟨v25, e26, hf⟩ := j_bind hf
            obtain ⟨v27, e28, hf⟩ := j_bind hf
            obtain rfl := j_inj hf
            rfl
        ·
          obtain ⟨q13, e14, hf⟩ := j_bind hf
          refine Eq.trans ?_ ((q_X12_within e14))
          rcases j_ite hf with hf | hf
          ·
            obtain rfl := j_inj hf
            rfl
          ·
            obtain ⟨h15, e16, hf⟩ := j_bind hf
            refine Eq.trans ?_ (jput_n e16)
            obtain ⟨v17, e18, hf⟩ := j_bind hf
            obtain ⟨v19, e20, hf⟩ := j_bind hf
            obtain rfl := j_inj hf
            rfl
theorem q_X12_swap_L17 {a0 : Nat} {z : Int32} {h : JH} {r : Int32 ⊕ Int32} {h1 : JH} (hf : f_X12_swap_L17 a0 z h = some (r, h1)) : h1.2.1 = h.2.1 := by
  unfold f_X12_swap_L17 at hf
  rcases j_ite hf with hf | hf
  ·
    obtain ⟨rfl, rfl⟩ := j_inj2 hf
    rfl
  ·
    obtain ⟨v7, e8, hf⟩ := j_bind hf
    obtain ⟨h9, e10, hf⟩ := j_bind hf
    refine Eq.trans ?_ (jsB_n e10)
    obtain ⟨rfl, rfl⟩ := j_inj2 hf
    rfl
theorem q_X12_swap {a0 : Nat} {h : JH} {q : Int32 × JH} (hf : f_X12_swap a0 h = some q) : q.2.2.1 = h.2.1 := by
  unfold f_X12_swap at hf
  obtain ⟨h1, e2, hf⟩ := j_bind hf
  refine Eq.trans ?_ (jput_n e2)
  obtain ⟨v3, e4, hf⟩ := j_bind hf
  obtain ⟨h5, e6, hf⟩ := j_bind hf
  refine Eq.trans ?_ (jput_n e6)
  obtain ⟨q12, e13, hf⟩ := j_bind hf
  refine Eq.trans ?_ ((jloop_eq (fun _ _ _ _ q => q_X12_swap_L17 q) e13))
  obtain ⟨v14, e15, hf⟩ := j_bind hf
  obtain rfl := j_inj hf
  rfl
theorem q_X12_image_L44 {a0 : Nat} {a1 : Int32} {a2 : Int32} {z : Int32} {h : JH} {r : Int32 ⊕ Int32} {h1 : JH} (hf : f_X12_image_L44 a0 a1 a2 z h = some (r, h1)) : h1.2.1 = h.2.1 := by
  unfold f_X12_image_L44 at hf
  rcases j_ite hf with hf | hf
  ·
    obtain ⟨rfl, rfl⟩ := j_inj2 hf
    rfl
  ·
    rcases j_ite hf with hf | hf
    ·
      obtain ⟨v5, e6, hf⟩ := j_bind hf
      obtain ⟨v7, e8, hf⟩ := j_bind hf
      obtain ⟨v9, e10, hf⟩ := j_bind hf
      obtain ⟨h11, e12, hf⟩ := j_bind hf
      refine Eq.trans ?_ (jsI_n e12)
      obtain ⟨rfl, rfl⟩ := j_inj2 hf
      rfl
    ·
      obtain ⟨v13, e14, hf⟩ := j_bind hf
      obtain ⟨v15, e16, hf⟩ := j_bind hf
      obtain ⟨v17, e18, hf⟩ := j_bind hf
      obtain ⟨h19, e20, hf⟩ := j_bind hf
      refine Eq.trans ?_ (jsI_n e20)
      obtain ⟨rfl, rfl⟩ := j_inj2 hf
      rfl
theorem q_X12_image_L96 {a0 : Nat} {a1 : Int32} {a2 : Int32} {z : Int32} {h : JH} {r : Int32 ⊕ Int32} {h1 : JH} (hf : f_X12_image_L96 a0 a1 a2 z h = some (r, h1)) : h1.2.1 = h.2.1 := by
  unfold f_X12_image_L96 at hf
  rcases j_ite hf with hf | hf
  ·
    obtain ⟨rfl, rfl⟩ := j_inj2 hf
    rfl
  ·
    rcases j_ite hf with hf | hf
    ·
      obtain ⟨v25, e26, hf⟩ := j_bind hf
      obtain ⟨v27, e28, hf⟩ := j_bind hf
      obtain ⟨v29, e30, hf⟩ := j_bind hf
      obtain ⟨h31, e32, hf⟩ := j_bind hf
      refine Eq.trans ?_ (jsI_n e32)
      obtain ⟨rfl, rfl⟩ := j_inj2 hf
      rfl
    ·
      obtain ⟨v33, e34, hf⟩ := j_bind hf
      obtain ⟨v35, e36, hf⟩ := j_bind hf
      obtain ⟨v37, e38, hf⟩ := j_bind hf
      obtain ⟨h39, e40, hf⟩ := j_bind hf
      refine Eq.trans ?_ (jsI_n e40)
      obtain ⟨rfl, rfl⟩ := j_inj2 hf
      rfl
theorem q_X12_image_L154 {a0 : Nat} {a1 : Int32} {a2 : Int32} {z : Int32} {h : JH} {r : Int32 ⊕ Int32} {h1 : JH} (hf : f_X12_image_L154 a0 a1 a2 z h = some (r, h1)) : h1.2.1 = h.2.1 := by
  unfold f_X12_image_L154 at hf
  rcases j_ite hf with hf | hf
  ·
    obtain ⟨rfl, rfl⟩ := j_inj2 hf
    rfl
  ·
    rcases j_ite hf with hf | hf
    ·
      obtain ⟨v45, e46, hf⟩ := j_bind hf
      obtain ⟨v47, e48, hf⟩ := j_bind hf
      obtain ⟨v49, e50, hf⟩ := j_bind hf
      obtain ⟨h51, e52, hf⟩ := j_bind hf
      refine Eq.trans ?_ (jsB_n e52)
      obtain ⟨rfl, rfl⟩ := j_inj2 hf
      rfl
    ·
      obtain ⟨v53, e54, hf⟩ := j_bind hf
      obtain ⟨v55, e56, hf⟩ := j_bind hf
      obtain ⟨v57, e58, hf⟩ := j_bind hf
      obtain ⟨h59, e60, hf⟩ := j_bind hf
      refine Eq.trans ?_ (jsB_n e60)
      obtain ⟨rfl, rfl⟩ := j_inj2 hf
      rfl
theorem q_X12_image_L209 {a0 : Nat} {a1 : Int32} {a2 : Int32} {z : Int32} {h : JH} {r : Int32 ⊕ Int32} {h1 : JH} (hf : f_X12_image_L209 a0 a1 a2 z h = some (r, h1)) : h1.2.1 = h.2.1 := by
  unfold f_X12_image_L209 at hf
  rcases j_ite hf with hf | hf
  ·
    obtain ⟨rfl, rfl⟩ := j_inj2 hf
    rfl
  ·
    rcases j_ite hf with hf | hf
    ·
      obtain ⟨v65, e66, hf⟩ := j_bind hf
      obtain ⟨v67, e68, hf⟩ := j_bind hf
      obtain ⟨v69, e70, hf⟩ := j_bind hf
      obtain ⟨h71, e72, hf⟩ := j_bind hf
      refine Eq.trans ?_ (jsJ_n e72)
      obtain ⟨rfl, rfl⟩ := j_inj2 hf
      rfl
    ·
      obtain ⟨v73, e74, hf⟩ := j_bind hf
      obtain ⟨v75, e76, hf⟩ := j_bind hf
      obtain ⟨v77, e78, hf⟩ := j_bind hf
      obtain ⟨h79, e80, hf⟩ := j_bind hf
      refine Eq.trans ?_ (jsJ_n e80)
      obtain ⟨rfl, rfl⟩ := j_inj2 hf
      rfl
theorem q_X12_image {a0 : Nat} {a1 : Int32} {a2 : Int32} {h : JH} {q : Int32 × JH} (hf : f_X12_image a0 a1 a2 h = some q) : q.2.2.1 = h.2.1 := by
  unfold f_X12_image at hf
  obtain ⟨h1, e2, hf⟩ := j_bind hf
  refine Eq.trans ?_ (jput_n e2)
  obtain ⟨q3, e4, hf⟩ := j_bind hf
  refine Eq.trans ?_ ((q_X12_within e4))
  rcases j_ite hf with hf | hf
  ·
    obtain rfl := j_inj hf
    rfl
  ·
    rcases j_ite hf with hf | hf
    ·
      obtain ⟨q23, e24, hf⟩ := j_bind hf
      refine Eq.trans ?_ ((jloop_eq (fun _ _ _ _ q => q_X12_image_L44 q) e24))
      obtain ⟨q43, e44, hf⟩ := j_bind hf
      refine Eq.trans ?_ ((jloop_eq (fun _ _ _ _ q => q_X12_image_L96 q) e44))
      obtain ⟨q63, e64, hf⟩ := j_bind hf
      refine Eq.trans ?_ ((jloop_eq (fun _ _ _ _ q => q_X12_image_L154 q) e64))
      obtain ⟨q83, e84, hf⟩ := j_bind hf
      refine Eq.trans ?_ ((jloop_eq (fun _ _ _ _ q => q_X12_image_L209 q) e84))
      rcases j_ite hf with hf | hf
      ·
        obtain ⟨v85, e86, hf⟩ := j_bind hf
        obtain ⟨h87, e88, hf⟩ := j_bind hf
        refine Eq.trans ?_ (jsB_n e88)
        obtain ⟨v89, e90, hf⟩ := j_bind hf
        obtain ⟨v91, e92, hf⟩ := j_bind hf
        obtain ⟨h93, e94, hf⟩ := j_bind hf
        refine Eq.trans ?_ (jsI_n e94)
        obtain rfl := j_inj hf
        rfl
      ·
        obtain rfl := j_inj hf
        rfl
    ·
      obtain ⟨v95, e96, hf⟩ := j_bind hf
      obtain ⟨v97, e98, hf⟩ := j_bind hf
      rcases j_ite hf with hf | hf
      ·
        obtain rfl := j_inj hf
        rfl
      ·
        obtain ⟨v99, e100, hf⟩ := j_bind hf
        obtain ⟨v101, e102, hf⟩ := j_bind hf
        obtain ⟨v103, e104, hf⟩ := j_bind hf
        rcases j_ite hf with hf | hf
        ·
          obtain ⟨q105, e106, hf⟩ := j_bind hf
          refine Eq.trans ?_ ((jloop_eq (fun _ _ _ _ q => q_X12_image_L44 q) e106))
          obtain ⟨q107, e108, hf⟩ := j_bind hf
          refine Eq.trans ?_ ((jloop_eq (fun _ _ _ _ q => q_X12_image_L96 q) e108))
          obtain ⟨q109, e110, hf⟩ := j_bind hf
          refine Eq.trans ?_ ((jloop_eq (fun _ _ _ _ q => q_X12_image_L154 q) e110))
          obtain ⟨q111, e112, hf⟩ := j_bind hf
          refine Eq.trans ?_ ((jloop_eq (fun _ _ _ _ q => q_X12_image_L209 q) e112))
          rcases j_ite hf with hf | hf
          ·
            obtain ⟨v113, e114, hf⟩ := j_bind hf
            obtain ⟨h115, e116, hf⟩ := j_bind hf
            refine Eq.trans ?_ (jsB_n e116)
            obtain ⟨v117, e118, hf⟩ := j_bind hf
            obtain ⟨v119, e120, hf⟩ := j_bind hf
            obtain ⟨h121, e122, hf⟩ := j_bind hf
            refine Eq.trans ?_ (jsI_n e122)
            obtain rfl := j_inj hf
            rfl
          ·
            obtain rfl := j_inj hf
            rfl
        ·
          obtain rfl := j_inj hf
          rfl
