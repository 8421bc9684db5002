/-! What the class's functions leave as it was: read-only arrays, what kind an object is. Made by tools/gen15a.py. -/
def j_rk (h h1 : JH) : Prop := h.2.1.1 ≤ h1.2.1.1 ∧ ∀ a, a < h.2.1.1 → (∀ r, h.1 a = some (.inr (.inr r)) → h1.1 a = some (.inr (.inr r))) ∧ (∀ ci fs, h.1 a = some (.inr (.inl (ci, fs))) → ∃ fs', h1.1 a = some (.inr (.inl (ci, fs'))))
theorem j_rk_refl (h : JH) : j_rk h h := ⟨Nat.le_refl _, fun a _ => ⟨fun r e => e, fun ci fs e => ⟨fs, e⟩⟩⟩
theorem j_rk_trans {a b c : JH} (x : j_rk a b) (y : j_rk b c) : j_rk a c := ⟨Nat.le_trans x.1 y.1, fun q hq => ⟨fun r e => (y.2 q (Nat.lt_of_lt_of_le hq x.1)).1 r ((x.2 q hq).1 r e), fun ci fs e => by
  obtain ⟨fs', e'⟩ := (x.2 q hq).2 ci fs e
  exact (y.2 q (Nat.lt_of_lt_of_le hq x.1)).2 ci fs' e'⟩⟩
theorem j_rk_t {a b c : JH} (y : j_rk b c) (x : j_rk a b) : j_rk a c := j_rk_trans x y
theorem j_rk_set {h : JH} {a : Nat} {c c' : JC} (e : h.1 a = some c) (h1 : ∀ r, c ≠ .inr (.inr r)) (h2 : ∀ ci fs, c = .inr (.inl (ci, fs)) → ∃ fs', c' = .inr (.inl (ci, fs'))) : j_rk h (j_set h a c') := by
  refine ⟨Nat.le_refl _, fun q _ => ⟨fun r er => ?_, fun ci fs er => ?_⟩⟩
  · show (if q = a then some c' else h.1 q) = _
    by_cases g : q = a
    · subst g
      rw [e] at er
      exact absurd (Option.some.inj er) (h1 r)
    · rw [if_neg g]; exact er
  · show ∃ fs', (if q = a then some c' else h.1 q) = _
    by_cases g : q = a
    · subst g
      rw [e] at er
      obtain ⟨fs', e'⟩ := h2 ci fs (Option.some.inj er)
      exact ⟨fs', by rw [if_pos rfl, e']⟩
    · exact ⟨fs, by rw [if_neg g]; exact er⟩
theorem j_rk_new {h : JH} {f : Nat → Option JC} {n s : Nat} (h1 : h.2.1.1 ≤ n) (h2 : ∀ q, q < h.2.1.1 → f q = h.1 q) : j_rk h (f, ((n, s), h.2.2)) := ⟨h1, fun q hq => ⟨fun r e => by show f q = _; rw [h2 q hq]; exact e, fun ci fs e => ⟨fs, by show f q = _; rw [h2 q hq]; exact e⟩⟩⟩
theorem jput_rk {h h1 : JH} {a ci k : Nat} {v : Value} (e : jput h a ci k v = some h1) : j_rk h h1 := by
  obtain ⟨fs, h0, -, rfl⟩ := jput_some e
  exact j_rk_set h0 (fun r q => by cases q) (fun ci' fs' q => by cases q; exact ⟨_, rfl⟩)
theorem jsI_rk {h h1 : JH} {a : Nat} {i v : Int32} (e : jsI h a i v = some h1) : j_rk h h1 := by
  obtain ⟨_, _, h0, -, rfl⟩ := jsI_some e
  exact j_rk_set h0 (fun r q => by cases q) (fun _ _ q => by cases q)
theorem jsB_rk {h h1 : JH} {a : Nat} {i v : Int32} (e : jsB h a i v = some h1) : j_rk h h1 := by
  obtain ⟨_, _, ⟨h0, -, rfl⟩ | ⟨h0, -, rfl⟩⟩ := jsB_some e
  · exact j_rk_set h0 (fun r q => by cases q) (fun _ _ q => by cases q)
  · exact j_rk_set h0 (fun r q => by cases q) (fun _ _ q => by cases q)
theorem jsJ_rk {h h1 : JH} {a : Nat} {i : Int32} {v : Int64} (e : jsJ h a i v = some h1) : j_rk h h1 := by
  obtain ⟨_, _, h0, -, rfl⟩ := jsJ_some e
  exact j_rk_set h0 (fun r q => by cases q) (fun _ _ q => by cases q)
theorem jsR_rk {h h1 : JH} {a v ci : Nat} {i : Int32} (e : jsR h a i v ci = some h1) : j_rk h h1 := by
  obtain ⟨_, _, _, h0, -, -, rfl⟩ := jsR_some e
  exact j_rk_set h0 (fun r q => by cases q) (fun _ _ q => by cases q)
theorem jcI_rk {h h1 : JH} {a0 a1 : Nat} {sp dp n : Int32} (e : jcI h a0 sp a1 dp n = some h1) : j_rk h h1 := by
  obtain ⟨_, _, _, _, -, h0, -, rfl⟩ := jcI_some e
  exact j_rk_set h0 (fun r q => by cases q) (fun _ _ q => by cases q)
theorem jcJ_rk {h h1 : JH} {a0 a1 : Nat} {sp dp n : Int32} (e : jcJ h a0 sp a1 dp n = some h1) : j_rk h h1 := by
  obtain ⟨_, _, _, _, -, h0, -, rfl⟩ := jcJ_some e
  exact j_rk_set h0 (fun r q => by cases q) (fun _ _ q => by cases q)
theorem jnO_rk {h : JH} {ci : Nat} {fs : List Value} {q : Nat × JH} (e : jnO h ci fs = some q) : j_rk h q.2 := by
  rw [jnO_some e]
  exact j_rk_new (Nat.le_succ _) (fun q hq => if_neg (by omega))
theorem jnA_rk {h : JH} {ty : FieldType} {n : Int32} {q : Nat × JH} (e : jnA h ty n = some q) : j_rk h q.2 := by
  obtain ⟨a, b⟩ := q
  obtain ⟨-, -, -, rfl⟩ := jnA_some e
  exact j_rk_new (Nat.le_succ _) (fun q hq => if_neg (by omega))
theorem jnM_rk {h : JH} {ty : FieldType} {n k : Int32} {q : Nat × JH} (e : jnM h ty n k = some q) : j_rk h q.2 := by
  obtain ⟨a, b⟩ := q
  obtain ⟨-, -, -, -, -, rfl⟩ := jnM_some e
  exact j_rk_new (by omega) (fun q hq => by rw [if_neg (by omega), if_neg (by omega)])
theorem jexc_rk (h : JH) : j_rk h (jexc h) := j_rk_new (Nat.le_succ _) (fun _ _ => rfl)
theorem jloop_rk {σ τ : Type} {f : σ → JH → Option ((σ ⊕ τ) × JH)} (hs : ∀ z h r h1, f z h = some (r, h1) → j_rk h h1) {n : Nat} {z : σ} {h : JH} {q : τ × JH} (e : jloop f n z h = some q) : j_rk h q.2 :=
  jloop_ind (fun _ h _ h2 => j_rk h h2) (fun z h z1 h1 _ _ a b => j_rk_trans (hs z h _ h1 a) b) (fun z h t h1 a => hs z h _ h1 a) n z h q e
theorem rk_X9_kindOfWord {a0 : Nat} {a1 a2 : Int32} {h : JH} {q : Int32 × JH} (hf : f_X9_kindOfWord a0 a1 a2 h = some q) : j_rk h q.2 := by
  unfold f_X9_kindOfWord at hf
  obtain ⟨v1, -, hf⟩ := j_bind hf
  rcases j_ite hf with hf | hf
  · cases hf; exact j_rk_refl _
  obtain ⟨v2, -, hf⟩ := j_bind hf
  rcases j_ite hf with hf | hf
  · cases hf; exact j_rk_refl _
  obtain ⟨v3, -, hf⟩ := j_bind hf
  rcases j_ite hf with hf | hf
  · cases hf; exact j_rk_refl _
  obtain ⟨v4, -, hf⟩ := j_bind hf
  rcases j_ite hf with hf | hf
  · cases hf; exact j_rk_refl _
  obtain ⟨v5, -, hf⟩ := j_bind hf
  rcases j_ite hf with hf | hf
  · cases hf; exact j_rk_refl _
  obtain ⟨v6, -, hf⟩ := j_bind hf
  rcases j_ite hf with hf | hf
  · cases hf; exact j_rk_refl _
  · cases hf; exact j_rk_refl _
theorem rk_X2_init {a0 : Nat} {h : JH} {q : Unit × JH} (hf : f_X2_init a0 h = some q) : j_rk h q.2 := by
  unfold f_X2_init at hf
  obtain ⟨q1, e2, hf⟩ := j_bind hf
  refine j_rk_trans (jnA_rk e2) ?_
  obtain ⟨h3, e4, hf⟩ := j_bind hf
  refine j_rk_trans (id (jput_rk e4)) ?_
  obtain rfl := j_inj hf
  exact j_rk_refl _
theorem rk_X11_newForms_L7 {a0 : Int32} {a1 : Nat} {z : Int32} {h : JH} {r : Int32 ⊕ Int32} {h1 : JH} (hf : f_X11_newForms_L7 a0 a1 z h = some (r, h1)) : j_rk h h1 := by
  unfold f_X11_newForms_L7 at hf
  rcases j_ite hf with hf | hf
  ·
    obtain ⟨rfl, rfl⟩ := j_inj2 hf
    exact j_rk_refl _
  ·
    obtain ⟨q3, e4, hf⟩ := j_bind hf
    refine j_rk_trans (jnO_rk e4) ?_
    obtain ⟨q5, e6, hf⟩ := j_bind hf
    refine j_rk_trans (rk_X2_init e6) ?_
    obtain ⟨h7, e8, hf⟩ := j_bind hf
    refine j_rk_trans (id (jsR_rk e8)) ?_
    obtain ⟨rfl, rfl⟩ := j_inj2 hf
    exact j_rk_refl _
theorem rk_X11_newForms {a0 : Int32} {h : JH} {q : Nat × JH} (hf : f_X11_newForms a0 h = some q) : j_rk h q.2 := by
  unfold f_X11_newForms at hf
  obtain ⟨q1, e2, hf⟩ := j_bind hf
  refine j_rk_trans (jnA_rk e2) ?_
  obtain ⟨q10, e11, hf⟩ := j_bind hf
  refine j_rk_trans ((jloop_rk (fun _ _ _ _ q => rk_X11_newForms_L7 q) e11)) ?_
  obtain rfl := j_inj hf
  exact j_rk_refl _
theorem rk_X9_init {a0 : Nat} {h : JH} {q : Unit × JH} (hf : f_X9_init a0 h = some q) : j_rk h q.2 := by
  unfold f_X9_init at hf
  obtain ⟨q1, e2, hf⟩ := j_bind hf
  refine j_rk_trans (jnA_rk e2) ?_
  obtain ⟨h3, e4, hf⟩ := j_bind hf
  refine j_rk_trans (id (jput_rk e4)) ?_
  obtain ⟨q5, e6, hf⟩ := j_bind hf
  refine j_rk_trans (jnA_rk e6) ?_
  obtain ⟨h7, e8, hf⟩ := j_bind hf
  refine j_rk_trans (id (jput_rk e8)) ?_
  obtain ⟨q9, e10, hf⟩ := j_bind hf
  refine j_rk_trans (jnA_rk e10) ?_
  obtain ⟨h11, e12, hf⟩ := j_bind hf
  refine j_rk_trans (id (jput_rk e12)) ?_
  obtain rfl := j_inj hf
  exact j_rk_refl _
theorem rk_X0_init {a0 : Nat} {h : JH} {q : Unit × JH} (hf : f_X0_init a0 h = some q) : j_rk h q.2 := by
  unfold f_X0_init at hf
  obtain ⟨q1, e2, hf⟩ := j_bind hf
  refine j_rk_trans (rk_X11_newForms e2) ?_
  obtain ⟨h3, e4, hf⟩ := j_bind hf
  refine j_rk_trans (id (jput_rk e4)) ?_
  obtain ⟨q5, e6, hf⟩ := j_bind hf
  refine j_rk_trans (jnA_rk e6) ?_
  obtain ⟨h7, e8, hf⟩ := j_bind hf
  refine j_rk_trans (id (jput_rk e8)) ?_
  obtain ⟨q9, e10, hf⟩ := j_bind hf
  refine j_rk_trans (jnO_rk e10) ?_
  obtain ⟨q11, e12, hf⟩ := j_bind hf
  refine j_rk_trans (rk_X9_init e12) ?_
  obtain ⟨h13, e14, hf⟩ := j_bind hf
  refine j_rk_trans (id (jput_rk e14)) ?_
  obtain ⟨q15, e16, hf⟩ := j_bind hf
  refine j_rk_trans (rk_X11_newForms e16) ?_
  obtain ⟨h17, e18, hf⟩ := j_bind hf
  refine j_rk_trans (id (jput_rk e18)) ?_
  obtain ⟨q19, e20, hf⟩ := j_bind hf
  refine j_rk_trans (rk_X11_newForms e20) ?_
  obtain ⟨h21, e22, hf⟩ := j_bind hf
  refine j_rk_trans (id (jput_rk e22)) ?_
  obtain ⟨q23, e24, hf⟩ := j_bind hf
  refine j_rk_trans (rk_X11_newForms e24) ?_
  obtain ⟨h25, e26, hf⟩ := j_bind hf
  refine j_rk_trans (id (jput_rk e26)) ?_
  obtain ⟨q27, e28, hf⟩ := j_bind hf
  refine j_rk_trans (jnO_rk e28) ?_
  obtain ⟨q29, e30, hf⟩ := j_bind hf
  refine j_rk_trans (rk_X2_init e30) ?_
  obtain ⟨h31, e32, hf⟩ := j_bind hf
  refine j_rk_trans (id (jput_rk e32)) ?_
  obtain rfl := j_inj hf
  exact j_rk_refl _
theorem rk_X9_addToken {a0 : Nat} {a1 : Int32} {a2 : Int32} {a3 : Int32} {h : JH} {q : Unit × JH} (hf : f_X9_addToken a0 a1 a2 a3 h = some q) : j_rk h q.2 := by
  unfold f_X9_addToken at hf
  obtain ⟨v1, e2, hf⟩ := j_bind hf
  obtain ⟨v3, e4, hf⟩ := j_bind hf
  obtain ⟨h5, e6, hf⟩ := j_bind hf
  refine j_rk_t ?_ (jsI_rk e6)
  obtain ⟨v7, e8, hf⟩ := j_bind hf
  obtain ⟨v9, e10, hf⟩ := j_bind hf
  obtain ⟨h11, e12, hf⟩ := j_bind hf
  refine j_rk_t ?_ (jsI_rk e12)
  obtain ⟨v13, e14, hf⟩ := j_bind hf
  obtain ⟨v15, e16, hf⟩ := j_bind hf
  obtain ⟨h17, e18, hf⟩ := j_bind hf
  refine j_rk_t ?_ (jsI_rk e18)
  obtain ⟨v19, e20, hf⟩ := j_bind hf
  obtain ⟨h21, e22, hf⟩ := j_bind hf
  refine j_rk_t ?_ (jput_rk e22)
  obtain rfl := j_inj hf
  exact j_rk_refl _
theorem rk_X9_addWord_L22 {a0 : Nat} {a1 : Nat} {a2 : Int32} {a3 : Int32} {z : (Int32 × Int32)} {h : JH} {r : (Int32 × Int32) ⊕ (Int32 × Int32)} {h1 : JH} (hf : f_X9_addWord_L22 a0 a1 a2 a3 z h = some (r, h1)) : j_rk h h1 := by
  unfold f_X9_addWord_L22 at hf
  rcases j_ite hf with hf | hf
  ·
    obtain ⟨rfl, rfl⟩ := j_inj2 hf
    exact j_rk_refl _
  ·
    obtain ⟨v1, e2, hf⟩ := j_bind hf
    obtain ⟨rfl, rfl⟩ := j_inj2 hf
    exact j_rk_refl _
theorem rk_X9_addWord {a0 : Nat} {a1 : Nat} {a2 : Int32} {a3 : Int32} {h : JH} {q : Unit × JH} (hf : f_X9_addWord a0 a1 a2 a3 h = some q) : j_rk h q.2 := by
  unfold f_X9_addWord at hf
  rcases j_ite hf with hf | hf
  ·
    obtain ⟨q4, e5, hf⟩ := j_bind hf
    refine j_rk_t ?_ ((jloop_rk (fun _ _ _ _ q => rk_X9_addWord_L22 q) e5))
    obtain ⟨q6, e7, hf⟩ := j_bind hf
    refine j_rk_t ?_ ((rk_X9_kindOfWord e7))
    obtain ⟨u10, e11, hf⟩ := j_bind hf
    obtain ⟨q8, e9, hf⟩ := j_bind hf
    refine j_rk_t ?_ ((rk_X9_addToken e9))
    obtain rfl := j_inj hf
    exact j_rk_refl _
  ·
    obtain ⟨u14, e15, hf⟩ := j_bind hf
    obtain ⟨q12, e13, hf⟩ := j_bind hf
    refine j_rk_t ?_ ((rk_X9_addToken e13))
    obtain rfl := j_inj hf
    exact j_rk_refl _
theorem rk_X9_isDigit {a0 : Int32} {h : JH} {q : Int32 × JH} (hf : f_X9_isDigit a0 h = some q) : j_rk h q.2 := by
  unfold f_X9_isDigit at hf
  rcases j_ite hf with hf | hf
  ·
    obtain rfl := j_inj hf
    exact j_rk_refl _
  ·
    rcases j_ite hf with hf | hf
    ·
      obtain rfl := j_inj hf
      exact j_rk_refl _
    ·
      obtain rfl := j_inj hf
      exact j_rk_refl _
theorem rk_X9_endOfNumber_L2 {a0 : Nat} {a2 : Int32} {z : Int32} {h : JH} {r : Int32 ⊕ Int32} {h1 : JH} (hf : f_X9_endOfNumber_L2 a0 a2 z h = some (r, h1)) : j_rk h h1 := by
  unfold f_X9_endOfNumber_L2 at hf
  rcases j_ite hf with hf | hf
  ·
    obtain ⟨rfl, rfl⟩ := j_inj2 hf
    exact j_rk_refl _
  ·
    obtain ⟨v1, e2, hf⟩ := j_bind hf
    obtain ⟨q3, e4, hf⟩ := j_bind hf
    refine j_rk_t ?_ ((rk_X9_isDigit e4))
    rcases j_ite hf with hf | hf
    ·
      obtain ⟨rfl, rfl⟩ := j_inj2 hf
      exact j_rk_refl _
    ·
      obtain ⟨rfl, rfl⟩ := j_inj2 hf
      exact j_rk_refl _
theorem rk_X9_endOfNumber {a0 : Nat} {a1 : Int32} {a2 : Int32} {h : JH} {q : Int32 × JH} (hf : f_X9_endOfNumber a0 a1 a2 h = some q) : j_rk h q.2 := by
  unfold f_X9_endOfNumber at hf
  obtain ⟨q7, e8, hf⟩ := j_bind hf
  refine j_rk_t ?_ ((jloop_rk (fun _ _ _ _ q => rk_X9_endOfNumber_L2 q) e8))
  obtain rfl := j_inj hf
  exact j_rk_refl _
theorem rk_X9_isLetter {a0 : Int32} {h : JH} {q : Int32 × JH} (hf : f_X9_isLetter a0 h = some q) : j_rk h q.2 := by
  unfold f_X9_isLetter at hf
  rcases j_ite hf with hf | hf
  ·
    obtain rfl := j_inj hf
    exact j_rk_refl _
  ·
    rcases j_ite hf with hf | hf
    ·
      obtain rfl := j_inj hf
      exact j_rk_refl _
    ·
      obtain rfl := j_inj hf
      exact j_rk_refl _
theorem rk_X9_endOfWord_L2 {a0 : Nat} {a2 : Int32} {z : Int32} {h : JH} {r : Int32 ⊕ Int32} {h1 : JH} (hf : f_X9_endOfWord_L2 a0 a2 z h = some (r, h1)) : j_rk h h1 := by
  unfold f_X9_endOfWord_L2 at hf
  rcases j_ite hf with hf | hf
  ·
    obtain ⟨rfl, rfl⟩ := j_inj2 hf
    exact j_rk_refl _
  ·
    obtain ⟨v1, e2, hf⟩ := j_bind hf
    obtain ⟨q3, e4, hf⟩ := j_bind hf
    refine j_rk_t ?_ ((rk_X9_isLetter e4))
    rcases j_ite hf with hf | hf
    ·
      obtain ⟨rfl, rfl⟩ := j_inj2 hf
      exact j_rk_refl _
    ·
      obtain ⟨rfl, rfl⟩ := j_inj2 hf
      exact j_rk_refl _
theorem rk_X9_endOfWord {a0 : Nat} {a1 : Int32} {a2 : Int32} {h : JH} {q : Int32 × JH} (hf : f_X9_endOfWord a0 a1 a2 h = some q) : j_rk h q.2 := by
  unfold f_X9_endOfWord at hf
  obtain ⟨q7, e8, hf⟩ := j_bind hf
  refine j_rk_t ?_ ((jloop_rk (fun _ _ _ _ q => rk_X9_endOfWord_L2 q) e8))
  obtain rfl := j_inj hf
  exact j_rk_refl _
theorem rk_X9_isSign {a0 : Int32} {h : JH} {q : Int32 × JH} (hf : f_X9_isSign a0 h = some q) : j_rk h q.2 := by
  unfold f_X9_isSign at hf
  rcases j_ite hf with hf | hf
  ·
    obtain rfl := j_inj hf
    exact j_rk_refl _
  ·
    rcases j_ite hf with hf | hf
    ·
      obtain rfl := j_inj hf
      exact j_rk_refl _
    ·
      rcases j_ite hf with hf | hf
      ·
        obtain rfl := j_inj hf
        exact j_rk_refl _
      ·
        rcases j_ite hf with hf | hf
        ·
          obtain rfl := j_inj hf
          exact j_rk_refl _
        ·
          rcases j_ite hf with hf | hf
          ·
            obtain rfl := j_inj hf
            exact j_rk_refl _
          ·
            rcases j_ite hf with hf | hf
            ·
              obtain rfl := j_inj hf
              exact j_rk_refl _
            ·
              rcases j_ite hf with hf | hf
              ·
                obtain rfl := j_inj hf
                exact j_rk_refl _
              ·
                obtain rfl := j_inj hf
                exact j_rk_refl _
theorem rk_X9_numberOf_L14 {a0 : Nat} {a2 : Int32} {z : (Int32 × Int32)} {h : JH} {r : (Int32 × Int32) ⊕ (Int32 × Int32)} {h1 : JH} (hf : f_X9_numberOf_L14 a0 a2 z h = some (r, h1)) : j_rk h h1 := by
  unfold f_X9_numberOf_L14 at hf
  rcases j_ite hf with hf | hf
  ·
    obtain ⟨rfl, rfl⟩ := j_inj2 hf
    exact j_rk_refl _
  ·
    obtain ⟨v1, e2, hf⟩ := j_bind hf
    obtain ⟨rfl, rfl⟩ := j_inj2 hf
    exact j_rk_refl _
theorem rk_X9_numberOf {a0 : Nat} {a1 : Int32} {a2 : Int32} {h : JH} {q : Int32 × JH} (hf : f_X9_numberOf a0 a1 a2 h = some q) : j_rk h q.2 := by
  unfold f_X9_numberOf at hf
  rcases j_ite hf with hf | hf
  ·
    obtain ⟨q4, e5, hf⟩ := j_bind hf
    refine j_rk_t ?_ ((jloop_rk (fun _ _ _ _ q => rk_X9_numberOf_L14 q) e5))
    obtain rfl := j_inj hf
    exact j_rk_refl _
  ·
    obtain rfl := j_inj hf
    exact j_rk_refl _
theorem rk_X9_scan_L7 {a0 : Nat} {a1 : Nat} {a2 : Int32} {z : Int32} {h : JH} {r : Int32 ⊕ Int32} {h1 : JH} (hf : f_X9_scan_L7 a0 a1 a2 z h = some (r, h1)) : j_rk h h1 := by
  unfold f_X9_scan_L7 at hf
  rcases j_ite hf with hf | hf
  ·
    obtain ⟨rfl, rfl⟩ := j_inj2 hf
    exact j_rk_refl _
  ·
    obtain ⟨v3, e4, hf⟩ := j_bind hf
    rcases j_ite hf with hf | hf
    ·
      obtain ⟨q5, e6, hf⟩ := j_bind hf
      refine j_rk_t ?_ ((rk_X9_isLetter e6))
      rcases j_ite hf with hf | hf
      ·
        obtain ⟨q7, e8, hf⟩ := j_bind hf
        refine j_rk_t ?_ ((rk_X9_isDigit e8))
        rcases j_ite hf with hf | hf
        ·
          rcases j_ite hf with hf | hf
          ·
            obtain ⟨rfl, rfl⟩ := j_inj2 hf
            exact j_rk_refl _
          ·
            rcases j_ite hf with hf | hf
            ·
              obtain ⟨rfl, rfl⟩ := j_inj2 hf
              exact j_rk_refl _
            ·
              obtain ⟨q9, e10, hf⟩ := j_bind hf
              refine j_rk_t ?_ ((rk_X9_isSign e10))
              rcases j_ite hf with hf | hf
              ·
                obtain ⟨u13, e14, hf⟩ := j_bind hf
                obtain ⟨q11, e12, hf⟩ := j_bind hf
                refine j_rk_t ?_ ((rk_X9_addToken e12))
                obtain ⟨rfl, rfl⟩ := j_inj2 hf
                exact j_rk_refl _
              ·
                obtain ⟨u17, e18, hf⟩ := j_bind hf
                obtain ⟨q15, e16, hf⟩ := j_bind hf
                refine j_rk_t ?_ ((rk_X9_addToken e16))
                obtain ⟨rfl, rfl⟩ := j_inj2 hf
                exact j_rk_refl _
        ·
          obtain ⟨q19, e20, hf⟩ := j_bind hf
          refine j_rk_t ?_ ((rk_X9_isDigit e20))
          rcases j_ite hf with hf | hf
          ·
            obtain ⟨q21, e22, hf⟩ := j_bind hf
            refine j_rk_t ?_ ((rk_X9_endOfNumber e22))
            obtain ⟨q23, e24, hf⟩ := j_bind hf
            refine j_rk_t ?_ ((rk_X9_numberOf e24))
            obtain ⟨u27, e28, hf⟩ := j_bind hf
            obtain ⟨q25, e26, hf⟩ := j_bind hf
            refine j_rk_t ?_ ((rk_X9_addToken e26))
            obtain ⟨rfl, rfl⟩ := j_inj2 hf
            exact j_rk_refl _
          ·
            obtain ⟨rfl, rfl⟩ := j_inj2 hf
            exact j_rk_refl _
      ·
        obtain ⟨q29, e30, hf⟩ := j_bind hf
        refine j_rk_t ?_ ((rk_X9_isLetter e30))
        rcases j_ite hf with hf | hf
        ·
          obtain ⟨q31, e32, hf⟩ := j_bind hf
          refine j_rk_t ?_ ((rk_X9_endOfWord e32))
          obtain ⟨u35, e36, hf⟩ := j_bind hf
          obtain ⟨q33, e34, hf⟩ := j_bind hf
          refine j_rk_t ?_ ((rk_X9_addWord e34))
          obtain ⟨rfl, rfl⟩ := j_inj2 hf
          exact j_rk_refl _
        ·
          obtain ⟨rfl, rfl⟩ := j_inj2 hf
          exact j_rk_refl _
    ·
      obtain ⟨v37, e38, hf⟩ := j_bind hf
      obtain ⟨q39, e40, hf⟩ := j_bind hf
      refine j_rk_t ?_ ((rk_X9_isLetter e40))
      rcases j_ite hf with hf | hf
      ·
        obtain ⟨q41, e42, hf⟩ := j_bind hf
        refine j_rk_t ?_ ((rk_X9_isDigit e42))
        rcases j_ite hf with hf | hf
        ·
          rcases j_ite hf with hf | hf
          ·
            obtain ⟨rfl, rfl⟩ := j_inj2 hf
            exact j_rk_refl _
          ·
            rcases j_ite hf with hf | hf
            ·
              obtain ⟨rfl, rfl⟩ := j_inj2 hf
              exact j_rk_refl _
            ·
              obtain ⟨q43, e44, hf⟩ := j_bind hf
              refine j_rk_t ?_ ((rk_X9_isSign e44))
              rcases j_ite hf with hf | hf
              ·
                obtain ⟨u47, e48, hf⟩ := j_bind hf
                obtain ⟨q45, e46, hf⟩ := j_bind hf
                refine j_rk_t ?_ ((rk_X9_addToken e46))
                obtain ⟨rfl, rfl⟩ := j_inj2 hf
                exact j_rk_refl _
              ·
                obtain ⟨u51, e52, hf⟩ := j_bind hf
                obtain ⟨q49, e50, hf⟩ := j_bind hf
                refine j_rk_t ?_ ((rk_X9_addToken e50))
                obtain ⟨rfl, rfl⟩ := j_inj2 hf
                exact j_rk_refl _
        ·
          obtain ⟨q53, e54, hf⟩ := j_bind hf
          refine j_rk_t ?_ ((rk_X9_isDigit e54))
          rcases j_ite hf with hf | hf
          ·
            obtain ⟨q55, e56, hf⟩ := j_bind hf
            refine j_rk_t ?_ ((rk_X9_endOfNumber e56))
            obtain ⟨q57, e58, hf⟩ := j_bind hf
            refine j_rk_t ?_ ((rk_X9_numberOf e58))
            obtain ⟨u61, e62, hf⟩ := j_bind hf
            obtain ⟨q59, e60, hf⟩ := j_bind hf
            refine j_rk_t ?_ ((rk_X9_addToken e60))
            obtain ⟨rfl, rfl⟩ := j_inj2 hf
            exact j_rk_refl _
          ·
            obtain ⟨rfl, rfl⟩ := j_inj2 hf
            exact j_rk_refl _
      ·
        obtain ⟨q63, e64, hf⟩ := j_bind hf
        refine j_rk_t ?_ ((rk_X9_isLetter e64))
        rcases j_ite hf with hf | hf
        ·
          obtain ⟨q65, e66, hf⟩ := j_bind hf
          refine j_rk_t ?_ ((rk_X9_endOfWord e66))
          obtain ⟨u69, e70, hf⟩ := j_bind hf
          obtain ⟨q67, e68, hf⟩ := j_bind hf
          refine j_rk_t ?_ ((rk_X9_addWord e68))
          obtain ⟨rfl, rfl⟩ := j_inj2 hf
          exact j_rk_refl _
        ·
          obtain ⟨rfl, rfl⟩ := j_inj2 hf
          exact j_rk_refl _
theorem rk_X9_scan {a0 : Nat} {a1 : Nat} {a2 : Int32} {h : JH} {q : Unit × JH} (hf : f_X9_scan a0 a1 a2 h = some q) : j_rk h q.2 := by
  unfold f_X9_scan at hf
  obtain ⟨h1, e2, hf⟩ := j_bind hf
  refine j_rk_t ?_ (jput_rk e2)
  obtain ⟨q87, e88, hf⟩ := j_bind hf
  refine j_rk_t ?_ ((jloop_rk (fun _ _ _ _ q => rk_X9_scan_L7 q) e88))
  obtain ⟨v89, e90, hf⟩ := j_bind hf
  obtain ⟨v91, e92, hf⟩ := j_bind hf
  obtain ⟨h93, e94, hf⟩ := j_bind hf
  refine j_rk_t ?_ (jsI_rk e94)
  obtain ⟨v95, e96, hf⟩ := j_bind hf
  obtain ⟨v97, e98, hf⟩ := j_bind hf
  obtain ⟨h99, e100, hf⟩ := j_bind hf
  refine j_rk_t ?_ (jsI_rk e100)
  obtain rfl := j_inj hf
  exact j_rk_refl _
theorem rk_X0_open {a0 : Nat} {a1 : Nat} {a2 : Int32} {h : JH} {q : Unit × JH} (hf : f_X0_open a0 a1 a2 h = some q) : j_rk h q.2 := by
  unfold f_X0_open at hf
  obtain ⟨v1, e2, hf⟩ := j_bind hf
  obtain ⟨u11, e12, hf⟩ := j_bind hf
  obtain ⟨q3, e4, hf⟩ := j_bind hf
  refine j_rk_t ?_ ((rk_X9_scan e4))
  obtain ⟨h5, e6, hf⟩ := j_bind hf
  refine j_rk_t ?_ (jput_rk e6)
  obtain ⟨h7, e8, hf⟩ := j_bind hf
  refine j_rk_t ?_ (jput_rk e8)
  obtain ⟨h9, e10, hf⟩ := j_bind hf
  refine j_rk_t ?_ (jput_rk e10)
  obtain rfl := j_inj hf
  exact j_rk_refl _
theorem rk_X0_kind {a0 : Nat} {h : JH} {q : Int32 × JH} (hf : f_X0_kind a0 h = some q) : j_rk h q.2 := by
  unfold f_X0_kind at hf
  obtain ⟨v1, e2, hf⟩ := j_bind hf
  obtain ⟨v3, e4, hf⟩ := j_bind hf
  obtain ⟨v5, e6, hf⟩ := j_bind hf
  obtain ⟨v7, e8, hf⟩ := j_bind hf
  obtain rfl := j_inj hf
  exact j_rk_refl _
theorem rk_X0_value {a0 : Nat} {h : JH} {q : Int32 × JH} (hf : f_X0_value a0 h = some q) : j_rk h q.2 := by
  unfold f_X0_value at hf
  obtain ⟨v1, e2, hf⟩ := j_bind hf
  obtain ⟨v3, e4, hf⟩ := j_bind hf
  obtain ⟨v5, e6, hf⟩ := j_bind hf
  obtain ⟨v7, e8, hf⟩ := j_bind hf
  obtain rfl := j_inj hf
  exact j_rk_refl _
theorem rk_X0_goOn {a0 : Nat} {h : JH} {q : Unit × JH} (hf : f_X0_goOn a0 h = some q) : j_rk h q.2 := by
  unfold f_X0_goOn at hf
  obtain ⟨v1, e2, hf⟩ := j_bind hf
  obtain ⟨v3, e4, hf⟩ := j_bind hf
  obtain ⟨v5, e6, hf⟩ := j_bind hf
  rcases j_ite hf with hf | hf
  ·
    obtain rfl := j_inj hf
    exact j_rk_refl _
  ·
    obtain ⟨v7, e8, hf⟩ := j_bind hf
    obtain ⟨h9, e10, hf⟩ := j_bind hf
    refine j_rk_t ?_ (jput_rk e10)
    obtain rfl := j_inj hf
    exact j_rk_refl _
theorem rk_X0_fail {a0 : Nat} {a1 : Int32} {a2 : Int32} {h : JH} {q : Int32 × JH} (hf : f_X0_fail a0 a1 a2 h = some q) : j_rk h q.2 := by
  unfold f_X0_fail at hf
  obtain ⟨v1, e2, hf⟩ := j_bind hf
  obtain ⟨v3, e4, hf⟩ := j_bind hf
  obtain ⟨v5, e6, hf⟩ := j_bind hf
  obtain ⟨h7, e8, hf⟩ := j_bind hf
  refine j_rk_t ?_ (jput_rk e8)
  obtain rfl := j_inj hf
  exact j_rk_refl _
theorem rk_X0_expect {a0 : Nat} {a1 : Int32} {h : JH} {q : Int32 × JH} (hf : f_X0_expect a0 a1 h = some q) : j_rk h q.2 := by
  unfold f_X0_expect at hf
  obtain ⟨u15, e16, hf⟩ := j_bind hf
  obtain ⟨q1, e2, hf⟩ := j_bind hf
  refine j_rk_t ?_ ((rk_X0_kind e2))
  rcases j_ite hf with hf | hf
  ·
    obtain ⟨u5, e6, hf⟩ := j_bind hf
    obtain ⟨q3, e4, hf⟩ := j_bind hf
    refine j_rk_t ?_ ((rk_X0_goOn e4))
    obtain rfl := j_inj hf
    exact j_rk_refl _
  ·
    obtain ⟨v7, e8, hf⟩ := j_bind hf
    obtain ⟨u13, e14, hf⟩ := j_bind hf
    obtain ⟨q9, e10, hf⟩ := j_bind hf
    refine j_rk_t ?_ ((rk_X0_fail e10))
    obtain ⟨u11, e12, hf⟩ := j_bind hf
    obtain rfl := j_inj hf
    exact j_rk_refl _
theorem rk_X0_isPrime_L17 {a0 : Int32} {z : Int32} {h : JH} {r : Int32 ⊕ (Int32 ⊕ Int32)} {h1 : JH} (hf : f_X0_isPrime_L17 a0 z h = some (r, h1)) : j_rk h h1 := by
  unfold f_X0_isPrime_L17 at hf
  rcases j_ite hf with hf | hf
  ·
    obtain ⟨rfl, rfl⟩ := j_inj2 hf
    exact j_rk_refl _
  ·
    obtain ⟨u1, e2, hf⟩ := j_bind hf
    rcases j_ite hf with hf | hf
    ·
      obtain ⟨rfl, rfl⟩ := j_inj2 hf
      exact j_rk_refl _
    ·
      obtain ⟨rfl, rfl⟩ := j_inj2 hf
      exact j_rk_refl _
theorem rk_X0_isPrime {a0 : Int32} {h : JH} {q : Int32 × JH} (hf : f_X0_isPrime a0 h = some q) : j_rk h q.2 := by
  unfold f_X0_isPrime at hf
  rcases j_ite hf with hf | hf
  ·
    obtain rfl := j_inj hf
    exact j_rk_refl _
  ·
    rcases j_ite hf with hf | hf
    ·
      obtain ⟨q5, e6, hf⟩ := j_bind hf
      refine j_rk_t ?_ ((jloop_rk (fun _ _ _ _ q => rk_X0_isPrime_L17 q) e6))
      cases y9 : q5.1 with
      | inl r8 =>
        rw [y9] at hf
        have hf := j_eliml hf
        obtain rfl := j_inj hf
        exact j_rk_refl _
      | inr t7 =>
        rw [y9] at hf
        have hf := j_elimr hf
        obtain rfl := j_inj hf
        exact j_rk_refl _
    ·
      obtain rfl := j_inj hf
      exact j_rk_refl _
theorem rk_X0_readPrime {a0 : Nat} {h : JH} {q : Int32 × JH} (hf : f_X0_readPrime a0 h = some q) : j_rk h q.2 := by
  unfold f_X0_readPrime at hf
  obtain ⟨u49, e50, hf⟩ := j_bind hf
  obtain ⟨q1, e2, hf⟩ := j_bind hf
  refine j_rk_t ?_ ((rk_X0_kind e2))
  rcases j_ite hf with hf | hf
  ·
    obtain ⟨u47, e48, hf⟩ := j_bind hf
    obtain ⟨q3, e4, hf⟩ := j_bind hf
    refine j_rk_t ?_ ((rk_X0_goOn e4))
    obtain ⟨u45, e46, hf⟩ := j_bind hf
    obtain ⟨q5, e6, hf⟩ := j_bind hf
    refine j_rk_t ?_ ((rk_X0_kind e6))
    rcases j_ite hf with hf | hf
    ·
      obtain ⟨u35, e36, hf⟩ := j_bind hf
      obtain ⟨q7, e8, hf⟩ := j_bind hf
      refine j_rk_t ?_ ((rk_X0_value e8))
      obtain ⟨q9, e10, hf⟩ := j_bind hf
      refine j_rk_t ?_ ((rk_X0_isPrime e10))
      rcases j_ite hf with hf | hf
      ·
        obtain ⟨v27, e28, hf⟩ := j_bind hf
        obtain ⟨u33, e34, hf⟩ := j_bind hf
        obtain ⟨q29, e30, hf⟩ := j_bind hf
        refine j_rk_t ?_ ((rk_X0_fail e30))
        obtain ⟨u31, e32, hf⟩ := j_bind hf
        obtain rfl := j_inj hf
        exact j_rk_refl _
      ·
        obtain ⟨u25, e26, hf⟩ := j_bind hf
        obtain ⟨q11, e12, hf⟩ := j_bind hf
        refine j_rk_t ?_ ((rk_X0_value e12))
        obtain ⟨h13, e14, hf⟩ := j_bind hf
        refine j_rk_t ?_ (jput_rk e14)
        obtain ⟨u23, e24, hf⟩ := j_bind hf
        obtain ⟨q15, e16, hf⟩ := j_bind hf
        refine j_rk_t ?_ ((rk_X0_goOn e16))
        obtain ⟨u21, e22, hf⟩ := j_bind hf
        obtain ⟨q17, e18, hf⟩ := j_bind hf
        refine j_rk_t ?_ ((rk_X0_expect e18))
        obtain ⟨u19, e20, hf⟩ := j_bind hf
        obtain rfl := j_inj hf
        exact j_rk_refl _
    ·
      obtain ⟨v37, e38, hf⟩ := j_bind hf
      obtain ⟨u43, e44, hf⟩ := j_bind hf
      obtain ⟨q39, e40, hf⟩ := j_bind hf
      refine j_rk_t ?_ ((rk_X0_fail e40))
      obtain ⟨u41, e42, hf⟩ := j_bind hf
      obtain rfl := j_inj hf
      exact j_rk_refl _
  ·
    obtain rfl := j_inj hf
    exact j_rk_refl _
theorem rk_X0_findLet_L2 {a0 : Nat} {a1 : Int32} {z : Int32} {h : JH} {r : Int32 ⊕ (Int32 ⊕ Int32)} {h1 : JH} (hf : f_X0_findLet_L2 a0 a1 z h = some (r, h1)) : j_rk h h1 := by
  unfold f_X0_findLet_L2 at hf
  obtain ⟨v1, e2, hf⟩ := j_bind hf
  rcases j_ite hf with hf | hf
  ·
    obtain ⟨rfl, rfl⟩ := j_inj2 hf
    exact j_rk_refl _
  ·
    obtain ⟨v3, e4, hf⟩ := j_bind hf
    obtain ⟨v5, e6, hf⟩ := j_bind hf
    rcases j_ite hf with hf | hf
    ·
      obtain ⟨rfl, rfl⟩ := j_inj2 hf
      exact j_rk_refl _
    ·
      obtain ⟨rfl, rfl⟩ := j_inj2 hf
      exact j_rk_refl _
theorem rk_X0_findLet {a0 : Nat} {a1 : Int32} {h : JH} {q : Int32 × JH} (hf : f_X0_findLet a0 a1 h = some q) : j_rk h q.2 := by
  unfold f_X0_findLet at hf
  obtain ⟨q9, e10, hf⟩ := j_bind hf
  refine j_rk_t ?_ ((jloop_rk (fun _ _ _ _ q => rk_X0_findLet_L2 q) e10))
  cases y13 : q9.1 with
  | inl r12 =>
    rw [y13] at hf
    have hf := j_eliml hf
    obtain rfl := j_inj hf
    exact j_rk_refl _
  | inr t11 =>
    rw [y13] at hf
    have hf := j_elimr hf
    obtain rfl := j_inj hf
    exact j_rk_refl _
theorem rk_X2_copyFrom {a0 : Nat} {a1 : Nat} {h : JH} {q : Unit × JH} (hf : f_X2_copyFrom a0 a1 h = some q) : j_rk h q.2 := by
  unfold f_X2_copyFrom at hf
  obtain ⟨v1, e2, hf⟩ := j_bind hf
  obtain ⟨h3, e4, hf⟩ := j_bind hf
  refine j_rk_t ?_ (jput_rk e4)
  obtain ⟨v5, e6, hf⟩ := j_bind hf
  obtain ⟨v7, e8, hf⟩ := j_bind hf
  obtain ⟨h9, e10, hf⟩ := j_bind hf
  refine j_rk_t ?_ (jcI_rk e10)
  obtain rfl := j_inj hf
  exact j_rk_refl _
theorem rk_X4_of {a0 : Int64} {a2 : Int32} {h : JH} {q : Int32 × JH} (hf : f_X4_of a0 a2 h = some q) : j_rk h q.2 := by
  unfold f_X4_of at hf
  rcases j_ite hf with hf | hf
  ·
    obtain ⟨u1, e2, hf⟩ := j_bind hf
    rcases j_ite hf with hf | hf
    ·
      obtain rfl := j_inj hf
      exact j_rk_refl _
    ·
      obtain rfl := j_inj hf
      exact j_rk_refl _
  ·
    obtain rfl := j_inj hf
    exact j_rk_refl _
theorem rk_X2_multiplyBy_L12 {a0 : Nat} {a1 : Nat} {a2 : Int32} {a3 : Int32} {z : (Int64 × Int32)} {h : JH} {r : (Int64 × Int32) ⊕ (Int64 × Int32)} {h1 : JH} (hf : f_X2_multiplyBy_L12 a0 a1 a2 a3 z h = some (r, h1)) : j_rk h h1 := by
  unfold f_X2_multiplyBy_L12 at hf
  rcases j_ite hf with hf | hf
  ·
    obtain ⟨rfl, rfl⟩ := j_inj2 hf
    exact j_rk_refl _
  ·
    obtain ⟨v1, e2, hf⟩ := j_bind hf
    obtain ⟨v3, e4, hf⟩ := j_bind hf
    obtain ⟨v5, e6, hf⟩ := j_bind hf
    obtain ⟨v7, e8, hf⟩ := j_bind hf
    obtain ⟨rfl, rfl⟩ := j_inj2 hf
    exact j_rk_refl _
theorem rk_X2_multiplyBy_L2 {a0 : Nat} {a1 : Nat} {a2 : Int32} {z : Int32} {h : JH} {r : Int32 ⊕ Int32} {h1 : JH} (hf : f_X2_multiplyBy_L2 a0 a1 a2 z h = some (r, h1)) : j_rk h h1 := by
  unfold f_X2_multiplyBy_L2 at hf
  rcases j_ite hf with hf | hf
  ·
    obtain ⟨rfl, rfl⟩ := j_inj2 hf
    exact j_rk_refl _
  ·
    obtain ⟨q1, e2, hf⟩ := j_bind hf
    refine j_rk_t ?_ ((jloop_rk (fun _ _ _ _ q => rk_X2_multiplyBy_L12 q) e2))
    obtain ⟨v3, e4, hf⟩ := j_bind hf
    obtain ⟨q5, e6, hf⟩ := j_bind hf
    refine j_rk_t ?_ ((rk_X4_of e6))
    obtain ⟨h7, e8, hf⟩ := j_bind hf
    refine j_rk_t ?_ (jsI_rk e8)
    obtain ⟨rfl, rfl⟩ := j_inj2 hf
    exact j_rk_refl _
theorem rk_X2_multiplyBy {a0 : Nat} {a1 : Nat} {a2 : Int32} {h : JH} {q : Unit × JH} (hf : f_X2_multiplyBy a0 a1 a2 h = some q) : j_rk h q.2 := by
  unfold f_X2_multiplyBy at hf
  obtain ⟨q10, e11, hf⟩ := j_bind hf
  refine j_rk_t ?_ ((jloop_rk (fun _ _ _ _ q => rk_X2_multiplyBy_L2 q) e11))
  obtain ⟨v12, e13, hf⟩ := j_bind hf
  obtain ⟨v14, e15, hf⟩ := j_bind hf
  obtain ⟨h16, e17, hf⟩ := j_bind hf
  refine j_rk_t ?_ (jput_rk e17)
  obtain rfl := j_inj hf
  exact j_rk_refl _
theorem rk_J7_fill_53178_L5 {a0 : Nat} {a1 : Int32} {a3 : Int32} {z : Int32} {h : JH} {r : Int32 ⊕ Int32} {h1 : JH} (hf : f_J7_fill_53178_L5 a0 a1 a3 z h = some (r, h1)) : j_rk h h1 := by
  unfold f_J7_fill_53178_L5 at hf
  rcases j_ite hf with hf | hf
  ·
    obtain ⟨rfl, rfl⟩ := j_inj2 hf
    exact j_rk_refl _
  ·
    obtain ⟨h3, e4, hf⟩ := j_bind hf
    refine j_rk_t ?_ (jsI_rk e4)
    obtain ⟨rfl, rfl⟩ := j_inj2 hf
    exact j_rk_refl _
theorem rk_J7_fill_53178 {a0 : Nat} {a1 : Int32} {h : JH} {q : Unit × JH} (hf : f_J7_fill_53178 a0 a1 h = some q) : j_rk h q.2 := by
  unfold f_J7_fill_53178 at hf
  obtain ⟨v1, e2, hf⟩ := j_bind hf
  obtain ⟨q6, e7, hf⟩ := j_bind hf
  refine j_rk_t ?_ ((jloop_rk (fun _ _ _ _ q => rk_J7_fill_53178_L5 q) e7))
  obtain rfl := j_inj hf
  exact j_rk_refl _
theorem rk_X2_setNumber {a0 : Nat} {a1 : Int32} {h : JH} {q : Unit × JH} (hf : f_X2_setNumber a0 a1 h = some q) : j_rk h q.2 := by
  unfold f_X2_setNumber at hf
  obtain ⟨h1, e2, hf⟩ := j_bind hf
  refine j_rk_t ?_ (jput_rk e2)
  obtain ⟨v3, e4, hf⟩ := j_bind hf
  obtain ⟨q5, e6, hf⟩ := j_bind hf
  refine j_rk_t ?_ ((rk_J7_fill_53178 e6))
  obtain ⟨v7, e8, hf⟩ := j_bind hf
  obtain ⟨h9, e10, hf⟩ := j_bind hf
  refine j_rk_t ?_ (jsI_rk e10)
  obtain rfl := j_inj hf
  exact j_rk_refl _
theorem rk_X0_raise_L15 {a0 : Nat} {a1 : Nat} {a2 : Int32} {z : Int32} {h : JH} {r : Int32 ⊕ Int32} {h1 : JH} (hf : f_X0_raise_L15 a0 a1 a2 z h = some (r, h1)) : j_rk h h1 := by
  unfold f_X0_raise_L15 at hf
  rcases j_ite hf with hf | hf
  ·
    obtain ⟨rfl, rfl⟩ := j_inj2 hf
    exact j_rk_refl _
  ·
    obtain ⟨v7, e8, hf⟩ := j_bind hf
    obtain ⟨v9, e10, hf⟩ := j_bind hf
    obtain ⟨u13, e14, hf⟩ := j_bind hf
    obtain ⟨q11, e12, hf⟩ := j_bind hf
    refine j_rk_t ?_ ((rk_X2_multiplyBy e12))
    obtain ⟨rfl, rfl⟩ := j_inj2 hf
    exact j_rk_refl _
theorem rk_X0_raise {a0 : Nat} {a1 : Nat} {a2 : Int32} {h : JH} {q : Unit × JH} (hf : f_X0_raise a0 a1 a2 h = some q) : j_rk h q.2 := by
  unfold f_X0_raise at hf
  obtain ⟨v1, e2, hf⟩ := j_bind hf
  obtain ⟨u20, e21, hf⟩ := j_bind hf
  obtain ⟨q3, e4, hf⟩ := j_bind hf
  refine j_rk_t ?_ ((rk_X2_copyFrom e4))
  obtain ⟨u18, e19, hf⟩ := j_bind hf
  obtain ⟨q5, e6, hf⟩ := j_bind hf
  refine j_rk_t ?_ ((rk_X2_setNumber e6))
  obtain ⟨q16, e17, hf⟩ := j_bind hf
  refine j_rk_t ?_ ((jloop_rk (fun _ _ _ _ q => rk_X0_raise_L15 q) e17))
  obtain rfl := j_inj hf
  exact j_rk_refl _
theorem rk_X0_setKnown_L8 {a0 : Nat} {a1 : Nat} {a3 : Nat} {z : Int32} {h : JH} {r : Int32 ⊕ Int32} {h1 : JH} (hf : f_X0_setKnown_L8 a0 a1 a3 z h = some (r, h1)) : j_rk h h1 := by
  unfold f_X0_setKnown_L8 at hf
  rcases j_ite hf with hf | hf
  ·
    obtain ⟨rfl, rfl⟩ := j_inj2 hf
    exact j_rk_refl _
  ·
    obtain ⟨v3, e4, hf⟩ := j_bind hf
    obtain ⟨v5, e6, hf⟩ := j_bind hf
    obtain ⟨v7, e8, hf⟩ := j_bind hf
    obtain ⟨q9, e10, hf⟩ := j_bind hf
    refine j_rk_t ?_ ((rk_X4_of e10))
    obtain ⟨h11, e12, hf⟩ := j_bind hf
    refine j_rk_t ?_ (jsI_rk e12)
    obtain ⟨rfl, rfl⟩ := j_inj2 hf
    exact j_rk_refl _
theorem rk_X0_setKnown {a0 : Nat} {a1 : Nat} {a2 : Int32} {a3 : Nat} {h : JH} {q : Unit × JH} (hf : f_X0_setKnown a0 a1 a2 a3 h = some q) : j_rk h q.2 := by
  unfold f_X0_setKnown at hf
  obtain ⟨h1, e2, hf⟩ := j_bind hf
  refine j_rk_t ?_ (jput_rk e2)
  obtain ⟨q14, e15, hf⟩ := j_bind hf
  refine j_rk_t ?_ ((jloop_rk (fun _ _ _ _ q => rk_X0_setKnown_L8 q) e15))
  obtain rfl := j_inj hf
  exact j_rk_refl _
theorem rk_X0_readAtom {rec : Nat → Int32 → JH → Option (Int32 × JH)} (hrecq : ∀ {x0 : Nat} {x1 : Int32} {hh : JH} {qq : Int32 × JH}, rec x0 x1 hh = some qq → j_rk hh qq.2) {a0 : Nat} {a1 : Int32} {h : JH} {q : Int32 × JH} (hf : f_X0_readAtom rec a0 a1 h = some q) : j_rk h q.2 := by
  unfold f_X0_readAtom at hf
  obtain ⟨v1, e2, hf⟩ := j_bind hf
  obtain ⟨v3, e4, hf⟩ := j_bind hf
  obtain ⟨u143, e144, hf⟩ := j_bind hf
  obtain ⟨q5, e6, hf⟩ := j_bind hf
  refine j_rk_t ?_ ((rk_X0_kind e6))
  rcases j_ite hf with hf | hf
  ·
    obtain ⟨u41, e42, hf⟩ := j_bind hf
    obtain ⟨q7, e8, hf⟩ := j_bind hf
    refine j_rk_t ?_ ((rk_X0_value e8))
    obtain ⟨u39, e40, hf⟩ := j_bind hf
    obtain ⟨q9, e10, hf⟩ := j_bind hf
    refine j_rk_t ?_ ((rk_X0_findLet e10))
    rcases j_ite hf with hf | hf
    ·
      obtain ⟨v31, e32, hf⟩ := j_bind hf
      obtain ⟨u37, e38, hf⟩ := j_bind hf
      obtain ⟨q33, e34, hf⟩ := j_bind hf
      refine j_rk_t ?_ ((rk_X0_fail e34))
      obtain ⟨u35, e36, hf⟩ := j_bind hf
      obtain rfl := j_inj hf
      exact j_rk_refl _
    ·
      obtain ⟨v11, e12, hf⟩ := j_bind hf
      obtain ⟨u29, e30, hf⟩ := j_bind hf
      obtain ⟨q13, e14, hf⟩ := j_bind hf
      refine j_rk_t ?_ ((rk_X0_value e14))
      obtain ⟨u27, e28, hf⟩ := j_bind hf
      obtain ⟨q15, e16, hf⟩ := j_bind hf
      refine j_rk_t ?_ ((rk_X0_findLet e16))
      obtain ⟨v17, e18, hf⟩ := j_bind hf
      obtain ⟨u25, e26, hf⟩ := j_bind hf
      obtain ⟨q19, e20, hf⟩ := j_bind hf
      refine j_rk_t ?_ ((rk_X2_copyFrom e20))
      obtain ⟨u23, e24, hf⟩ := j_bind hf
      obtain ⟨q21, e22, hf⟩ := j_bind hf
      refine j_rk_t ?_ ((rk_X0_goOn e22))
      obtain rfl := j_inj hf
      exact j_rk_refl _
  rcases j_ite hf with hf | hf
  ·
    obtain ⟨u69, e70, hf⟩ := j_bind hf
    obtain ⟨q43, e44, hf⟩ := j_bind hf
    refine j_rk_t ?_ ((rk_X0_value e44))
    rcases j_ite hf with hf | hf
    ·
      obtain ⟨u59, e60, hf⟩ := j_bind hf
      obtain ⟨q45, e46, hf⟩ := j_bind hf
      refine j_rk_t ?_ ((rk_X0_value e46))
      obtain ⟨v47, e48, hf⟩ := j_bind hf
      obtain ⟨q49, e50, hf⟩ := j_bind hf
      refine j_rk_t ?_ ((rk_X4_of e50))
      obtain ⟨u57, e58, hf⟩ := j_bind hf
      obtain ⟨q51, e52, hf⟩ := j_bind hf
      refine j_rk_t ?_ ((rk_X2_setNumber e52))
      obtain ⟨u55, e56, hf⟩ := j_bind hf
      obtain ⟨q53, e54, hf⟩ := j_bind hf
      refine j_rk_t ?_ ((rk_X0_goOn e54))
      obtain rfl := j_inj hf
      exact j_rk_refl _
    ·
      obtain ⟨v61, e62, hf⟩ := j_bind hf
      obtain ⟨u67, e68, hf⟩ := j_bind hf
      obtain ⟨q63, e64, hf⟩ := j_bind hf
      refine j_rk_t ?_ ((rk_X0_fail e64))
      obtain ⟨u65, e66, hf⟩ := j_bind hf
      obtain rfl := j_inj hf
      exact j_rk_refl _
  rcases j_ite hf with hf | hf
  ·
    obtain ⟨u77, e78, hf⟩ := j_bind hf
    obtain ⟨q71, e72, hf⟩ := j_bind hf
    refine j_rk_t ?_ ((rk_X0_setKnown e72))
    obtain ⟨u75, e76, hf⟩ := j_bind hf
    obtain ⟨q73, e74, hf⟩ := j_bind hf
    refine j_rk_t ?_ ((rk_X0_goOn e74))
    obtain rfl := j_inj hf
    exact j_rk_refl _
  rcases j_ite hf with hf | hf
  ·
    obtain ⟨u85, e86, hf⟩ := j_bind hf
    obtain ⟨q79, e80, hf⟩ := j_bind hf
    refine j_rk_t ?_ ((rk_X0_setKnown e80))
    obtain ⟨u83, e84, hf⟩ := j_bind hf
    obtain ⟨q81, e82, hf⟩ := j_bind hf
    refine j_rk_t ?_ ((rk_X0_goOn e82))
    obtain rfl := j_inj hf
    exact j_rk_refl _
  rcases j_ite hf with hf | hf
  ·
    obtain ⟨u93, e94, hf⟩ := j_bind hf
    obtain ⟨q87, e88, hf⟩ := j_bind hf
    refine j_rk_t ?_ ((rk_X0_setKnown e88))
    obtain ⟨u91, e92, hf⟩ := j_bind hf
    obtain ⟨q89, e90, hf⟩ := j_bind hf
    refine j_rk_t ?_ ((rk_X0_goOn e90))
    obtain rfl := j_inj hf
    exact j_rk_refl _
  rcases j_ite hf with hf | hf
  ·
    rcases j_ite hf with hf | hf
    ·
      obtain ⟨u125, e126, hf⟩ := j_bind hf
      obtain ⟨q95, e96, hf⟩ := j_bind hf
      refine j_rk_t ?_ ((rk_X0_goOn e96))
      obtain ⟨u123, e124, hf⟩ := j_bind hf
      obtain ⟨q97, e98, hf⟩ := j_bind hf
      refine j_rk_t ?_ ((hrecq e98))
      rcases j_ite hf with hf | hf
      ·
        obtain rfl := j_inj hf
        exact j_rk_refl _
      ·
        obtain ⟨u121, e122, hf⟩ := j_bind hf
        obtain ⟨q99, e100, hf⟩ := j_bind hf
        refine j_rk_t ?_ ((rk_X0_kind e100))
        rcases j_ite hf with hf | hf
        ·
          obtain ⟨v101, e102, hf⟩ := j_bind hf
          obtain ⟨v103, e104, hf⟩ := j_bind hf
          obtain ⟨u111, e112, hf⟩ := j_bind hf
          obtain ⟨q105, e106, hf⟩ := j_bind hf
          refine j_rk_t ?_ ((rk_X2_copyFrom e106))
          obtain ⟨u109, e110, hf⟩ := j_bind hf
          obtain ⟨q107, e108, hf⟩ := j_bind hf
          refine j_rk_t ?_ ((rk_X0_goOn e108))
          obtain rfl := j_inj hf
          exact j_rk_refl _
        ·
          obtain ⟨v113, e114, hf⟩ := j_bind hf
          obtain ⟨u119, e120, hf⟩ := j_bind hf
          obtain ⟨q115, e116, hf⟩ := j_bind hf
          refine j_rk_t ?_ ((rk_X0_fail e116))
          obtain ⟨u117, e118, hf⟩ := j_bind hf
          obtain rfl := j_inj hf
          exact j_rk_refl _
    ·
      obtain ⟨v127, e128, hf⟩ := j_bind hf
      obtain ⟨u133, e134, hf⟩ := j_bind hf
      obtain ⟨q129, e130, hf⟩ := j_bind hf
      refine j_rk_t ?_ ((rk_X0_fail e130))
      obtain ⟨u131, e132, hf⟩ := j_bind hf
      obtain rfl := j_inj hf
      exact j_rk_refl _
  obtain ⟨v135, e136, hf⟩ := j_bind hf
  obtain ⟨u141, e142, hf⟩ := j_bind hf
  obtain ⟨q137, e138, hf⟩ := j_bind hf
  refine j_rk_t ?_ ((rk_X0_fail e138))
  obtain ⟨u139, e140, hf⟩ := j_bind hf
  obtain rfl := j_inj hf
  exact j_rk_refl _
theorem rk_X0_readPower {rec : Nat → Int32 → JH → Option (Int32 × JH)} (hrecq : ∀ {x0 : Nat} {x1 : Int32} {hh : JH} {qq : Int32 × JH}, rec x0 x1 hh = some qq → j_rk hh qq.2) {a0 : Nat} {a1 : Int32} {h : JH} {q : Int32 × JH} (hf : f_X0_readPower rec a0 a1 h = some q) : j_rk h q.2 := by
  unfold f_X0_readPower at hf
  obtain ⟨v1, e2, hf⟩ := j_bind hf
  obtain ⟨u69, e70, hf⟩ := j_bind hf
  obtain ⟨q3, e4, hf⟩ := j_bind hf
  refine j_rk_t ?_ ((rk_X0_readAtom hrecq e4))
  rcases j_ite hf with hf | hf
  ·
    obtain rfl := j_inj hf
    exact j_rk_refl _
  ·
    obtain ⟨u67, e68, hf⟩ := j_bind hf
    obtain ⟨q5, e6, hf⟩ := j_bind hf
    refine j_rk_t ?_ ((rk_X0_kind e6))
    rcases j_ite hf with hf | hf
    ·
      obtain ⟨u65, e66, hf⟩ := j_bind hf
      obtain ⟨q7, e8, hf⟩ := j_bind hf
      refine j_rk_t ?_ ((rk_X0_goOn e8))
      obtain ⟨u63, e64, hf⟩ := j_bind hf
      obtain ⟨q9, e10, hf⟩ := j_bind hf
      refine j_rk_t ?_ ((rk_X0_kind e10))
      rcases j_ite hf with hf | hf
      ·
        obtain ⟨u53, e54, hf⟩ := j_bind hf
        obtain ⟨q11, e12, hf⟩ := j_bind hf
        refine j_rk_t ?_ ((rk_X0_value e12))
        rcases j_ite hf with hf | hf
        ·
          obtain ⟨v13, e14, hf⟩ := j_bind hf
          obtain ⟨u19, e20, hf⟩ := j_bind hf
          obtain ⟨q15, e16, hf⟩ := j_bind hf
          refine j_rk_t ?_ ((rk_X0_fail e16))
          obtain ⟨u17, e18, hf⟩ := j_bind hf
          obtain rfl := j_inj hf
          exact j_rk_refl _
        ·
          rcases j_ite hf with hf | hf
          ·
            obtain ⟨u43, e44, hf⟩ := j_bind hf
            obtain ⟨q21, e22, hf⟩ := j_bind hf
            refine j_rk_t ?_ ((rk_X0_goOn e22))
            obtain ⟨v23, e24, hf⟩ := j_bind hf
            obtain ⟨v25, e26, hf⟩ := j_bind hf
            obtain ⟨v27, e28, hf⟩ := j_bind hf
            rcases j_ite hf with hf | hf
            ·
              obtain ⟨v29, e30, hf⟩ := j_bind hf
              obtain ⟨v31, e32, hf⟩ := j_bind hf
              obtain ⟨u35, e36, hf⟩ := j_bind hf
              obtain ⟨q33, e34, hf⟩ := j_bind hf
              refine j_rk_t ?_ ((rk_X0_raise e34))
              obtain rfl := j_inj hf
              exact j_rk_refl _
            ·
              obtain ⟨u41, e42, hf⟩ := j_bind hf
              obtain ⟨q37, e38, hf⟩ := j_bind hf
              refine j_rk_t ?_ ((rk_X0_fail e38))
              obtain ⟨u39, e40, hf⟩ := j_bind hf
              obtain rfl := j_inj hf
              exact j_rk_refl _
          ·
            obtain ⟨v45, e46, hf⟩ := j_bind hf
            obtain ⟨u51, e52, hf⟩ := j_bind hf
            obtain ⟨q47, e48, hf⟩ := j_bind hf
            refine j_rk_t ?_ ((rk_X0_fail e48))
            obtain ⟨u49, e50, hf⟩ := j_bind hf
            obtain rfl := j_inj hf
            exact j_rk_refl _
      ·
        obtain ⟨v55, e56, hf⟩ := j_bind hf
        obtain ⟨u61, e62, hf⟩ := j_bind hf
        obtain ⟨q57, e58, hf⟩ := j_bind hf
        refine j_rk_t ?_ ((rk_X0_fail e58))
        obtain ⟨u59, e60, hf⟩ := j_bind hf
        obtain rfl := j_inj hf
        exact j_rk_refl _
    ·
      obtain rfl := j_inj hf
      exact j_rk_refl _
theorem rk_X0_readProduct_L32 {rec : Nat → Int32 → JH → Option (Int32 × JH)} (hrecq : ∀ {x0 : Nat} {x1 : Int32} {hh : JH} {qq : Int32 × JH}, rec x0 x1 hh = some qq → j_rk hh qq.2) {a0 : Nat} {a1 : Int32} {a2 : Nat} {a3 : Nat} {z : Int32} {h : JH} {r : Int32 ⊕ (Int32 ⊕ Int32)} {h1 : JH} (hf : f_X0_readProduct_L32 rec a0 a1 a2 a3 z h = some (r, h1)) : j_rk h h1 := by
  unfold f_X0_readProduct_L32 at hf
  obtain ⟨v13, e14, hf⟩ := j_bind hf
  obtain ⟨v15, e16, hf⟩ := j_bind hf
  rcases j_ite hf with hf | hf
  ·
    obtain ⟨rfl, rfl⟩ := j_inj2 hf
    exact j_rk_refl _
  ·
    obtain ⟨u45, e46, hf⟩ := j_bind hf
    obtain ⟨q17, e18, hf⟩ := j_bind hf
    refine j_rk_t ?_ ((rk_X0_kind e18))
    rcases j_ite hf with hf | hf
    ·
      obtain ⟨u43, e44, hf⟩ := j_bind hf
      obtain ⟨q19, e20, hf⟩ := j_bind hf
      refine j_rk_t ?_ ((rk_X0_goOn e20))
      obtain ⟨v21, e22, hf⟩ := j_bind hf
      obtain ⟨u41, e42, hf⟩ := j_bind hf
      obtain ⟨q23, e24, hf⟩ := j_bind hf
      refine j_rk_t ?_ ((rk_X0_readPower hrecq e24))
      rcases j_ite hf with hf | hf
      ·
        obtain ⟨rfl, rfl⟩ := j_inj2 hf
        exact j_rk_refl _
      ·
        obtain ⟨v25, e26, hf⟩ := j_bind hf
        obtain ⟨v27, e28, hf⟩ := j_bind hf
        rcases j_ite hf with hf | hf
        ·
          obtain ⟨v29, e30, hf⟩ := j_bind hf
          obtain ⟨u33, e34, hf⟩ := j_bind hf
          obtain ⟨q31, e32, hf⟩ := j_bind hf
          refine j_rk_t ?_ ((rk_X2_multiplyBy e32))
          obtain ⟨rfl, rfl⟩ := j_inj2 hf
          exact j_rk_refl _
        ·
          obtain ⟨u39, e40, hf⟩ := j_bind hf
          obtain ⟨q35, e36, hf⟩ := j_bind hf
          refine j_rk_t ?_ ((rk_X0_fail e36))
          obtain ⟨u37, e38, hf⟩ := j_bind hf
          obtain ⟨rfl, rfl⟩ := j_inj2 hf
          exact j_rk_refl _
    ·
      obtain ⟨rfl, rfl⟩ := j_inj2 hf
      exact j_rk_refl _
theorem rk_X0_readProduct {rec : Nat → Int32 → JH → Option (Int32 × JH)} (hrecq : ∀ {x0 : Nat} {x1 : Int32} {hh : JH} {qq : Int32 × JH}, rec x0 x1 hh = some qq → j_rk hh qq.2) {a0 : Nat} {a1 : Int32} {h : JH} {q : Int32 × JH} (hf : f_X0_readProduct rec a0 a1 h = some q) : j_rk h q.2 := by
  unfold f_X0_readProduct at hf
  obtain ⟨u57, e58, hf⟩ := j_bind hf
  obtain ⟨q1, e2, hf⟩ := j_bind hf
  refine j_rk_t ?_ ((rk_X0_readPower hrecq e2))
  rcases j_ite hf with hf | hf
  ·
    obtain rfl := j_inj hf
    exact j_rk_refl _
  ·
    obtain ⟨v3, e4, hf⟩ := j_bind hf
    obtain ⟨v5, e6, hf⟩ := j_bind hf
    obtain ⟨v7, e8, hf⟩ := j_bind hf
    obtain ⟨v9, e10, hf⟩ := j_bind hf
    obtain ⟨u55, e56, hf⟩ := j_bind hf
    obtain ⟨q11, e12, hf⟩ := j_bind hf
    refine j_rk_t ?_ ((rk_X2_copyFrom e12))
    obtain ⟨q51, e52, hf⟩ := j_bind hf
    refine j_rk_t ?_ ((jloop_rk (fun _ _ _ _ q => rk_X0_readProduct_L32 hrecq q) e52))
    cases y59 : q51.1 with
    | inl r54 =>
      rw [y59] at hf
      have hf := j_eliml hf
      obtain rfl := j_inj hf
      exact j_rk_refl _
    | inr t53 =>
      rw [y59] at hf
      have hf := j_elimr hf
      obtain rfl := j_inj hf
      exact j_rk_refl _
theorem rk_X2_add_L3 {a0 : Nat} {a1 : Nat} {a2 : Int32} {a3 : Int32} {z : Int32} {h : JH} {r : Int32 ⊕ Int32} {h1 : JH} (hf : f_X2_add_L3 a0 a1 a2 a3 z h = some (r, h1)) : j_rk h h1 := by
  unfold f_X2_add_L3 at hf
  rcases j_ite hf with hf | hf
  ·
    obtain ⟨rfl, rfl⟩ := j_inj2 hf
    exact j_rk_refl _
  ·
    obtain ⟨v1, e2, hf⟩ := j_bind hf
    obtain ⟨v3, e4, hf⟩ := j_bind hf
    obtain ⟨v5, e6, hf⟩ := j_bind hf
    obtain ⟨v7, e8, hf⟩ := j_bind hf
    obtain ⟨v9, e10, hf⟩ := j_bind hf
    obtain ⟨q11, e12, hf⟩ := j_bind hf
    refine j_rk_t ?_ ((rk_X4_of e12))
    obtain ⟨h13, e14, hf⟩ := j_bind hf
    refine j_rk_t ?_ (jsI_rk e14)
    obtain ⟨rfl, rfl⟩ := j_inj2 hf
    exact j_rk_refl _
theorem rk_X2_add {a0 : Nat} {a1 : Nat} {a2 : Int32} {a3 : Int32} {h : JH} {q : Unit × JH} (hf : f_X2_add a0 a1 a2 a3 h = some q) : j_rk h q.2 := by
  unfold f_X2_add at hf
  obtain ⟨q16, e17, hf⟩ := j_bind hf
  refine j_rk_t ?_ ((jloop_rk (fun _ _ _ _ q => rk_X2_add_L3 q) e17))
  obtain rfl := j_inj hf
  exact j_rk_refl _
theorem rk_X0_readSum_L32 {rec : Nat → Int32 → JH → Option (Int32 × JH)} (hrecq : ∀ {x0 : Nat} {x1 : Int32} {hh : JH} {qq : Int32 × JH}, rec x0 x1 hh = some qq → j_rk hh qq.2) {a0 : Nat} {a1 : Int32} {a2 : Nat} {a3 : Nat} {z : Int32} {h : JH} {r : Int32 ⊕ (Int32 ⊕ Int32)} {h1 : JH} (hf : f_X0_readSum_L32 rec a0 a1 a2 a3 z h = some (r, h1)) : j_rk h h1 := by
  unfold f_X0_readSum_L32 at hf
  obtain ⟨v13, e14, hf⟩ := j_bind hf
  obtain ⟨v15, e16, hf⟩ := j_bind hf
  rcases j_ite hf with hf | hf
  ·
    obtain ⟨rfl, rfl⟩ := j_inj2 hf
    exact j_rk_refl _
  ·
    obtain ⟨u139, e140, hf⟩ := j_bind hf
    obtain ⟨q17, e18, hf⟩ := j_bind hf
    refine j_rk_t ?_ ((rk_X0_kind e18))
    rcases j_ite hf with hf | hf
    ·
      obtain ⟨u75, e76, hf⟩ := j_bind hf
      obtain ⟨q19, e20, hf⟩ := j_bind hf
      refine j_rk_t ?_ ((rk_X0_kind e20))
      rcases j_ite hf with hf | hf
      ·
        obtain ⟨u73, e74, hf⟩ := j_bind hf
        obtain ⟨q49, e50, hf⟩ := j_bind hf
        refine j_rk_t ?_ ((rk_X0_goOn e50))
        obtain ⟨v51, e52, hf⟩ := j_bind hf
        obtain ⟨u71, e72, hf⟩ := j_bind hf
        obtain ⟨q53, e54, hf⟩ := j_bind hf
        refine j_rk_t ?_ ((rk_X0_readProduct hrecq e54))
        rcases j_ite hf with hf | hf
        ·
          obtain ⟨rfl, rfl⟩ := j_inj2 hf
          exact j_rk_refl _
        ·
          obtain ⟨v55, e56, hf⟩ := j_bind hf
          obtain ⟨v57, e58, hf⟩ := j_bind hf
          rcases j_ite hf with hf | hf
          ·
            obtain ⟨v59, e60, hf⟩ := j_bind hf
            obtain ⟨u63, e64, hf⟩ := j_bind hf
            obtain ⟨q61, e62, hf⟩ := j_bind hf
            refine j_rk_t ?_ ((rk_X2_add e62))
            obtain ⟨rfl, rfl⟩ := j_inj2 hf
            exact j_rk_refl _
          ·
            obtain ⟨u69, e70, hf⟩ := j_bind hf
            obtain ⟨q65, e66, hf⟩ := j_bind hf
            refine j_rk_t ?_ ((rk_X0_fail e66))
            obtain ⟨u67, e68, hf⟩ := j_bind hf
            obtain ⟨rfl, rfl⟩ := j_inj2 hf
            exact j_rk_refl _
      ·
        obtain ⟨v21, e22, hf⟩ := j_bind hf
        obtain ⟨u47, e48, hf⟩ := j_bind hf
        obtain ⟨q23, e24, hf⟩ := j_bind hf
        refine j_rk_t ?_ ((rk_X0_goOn e24))
        obtain ⟨v25, e26, hf⟩ := j_bind hf
        obtain ⟨u45, e46, hf⟩ := j_bind hf
        obtain ⟨q27, e28, hf⟩ := j_bind hf
        refine j_rk_t ?_ ((rk_X0_readProduct hrecq e28))
        rcases j_ite hf with hf | hf
        ·
          obtain ⟨rfl, rfl⟩ := j_inj2 hf
          exact j_rk_refl _
        ·
          obtain ⟨v29, e30, hf⟩ := j_bind hf
          obtain ⟨v31, e32, hf⟩ := j_bind hf
          rcases j_ite hf with hf | hf
          ·
            obtain ⟨v33, e34, hf⟩ := j_bind hf
            obtain ⟨u37, e38, hf⟩ := j_bind hf
            obtain ⟨q35, e36, hf⟩ := j_bind hf
            refine j_rk_t ?_ ((rk_X2_add e36))
            obtain ⟨rfl, rfl⟩ := j_inj2 hf
            exact j_rk_refl _
          ·
            obtain ⟨u43, e44, hf⟩ := j_bind hf
            obtain ⟨q39, e40, hf⟩ := j_bind hf
            refine j_rk_t ?_ ((rk_X0_fail e40))
            obtain ⟨u41, e42, hf⟩ := j_bind hf
            obtain ⟨rfl, rfl⟩ := j_inj2 hf
            exact j_rk_refl _
    ·
      obtain ⟨u137, e138, hf⟩ := j_bind hf
      obtain ⟨q77, e78, hf⟩ := j_bind hf
      refine j_rk_t ?_ ((rk_X0_kind e78))
      rcases j_ite hf with hf | hf
      ·
        obtain ⟨u135, e136, hf⟩ := j_bind hf
        obtain ⟨q79, e80, hf⟩ := j_bind hf
        refine j_rk_t ?_ ((rk_X0_kind e80))
        rcases j_ite hf with hf | hf
        ·
          obtain ⟨u133, e134, hf⟩ := j_bind hf
          obtain ⟨q109, e110, hf⟩ := j_bind hf
          refine j_rk_t ?_ ((rk_X0_goOn e110))
          obtain ⟨v111, e112, hf⟩ := j_bind hf
          obtain ⟨u131, e132, hf⟩ := j_bind hf
          obtain ⟨q113, e114, hf⟩ := j_bind hf
          refine j_rk_t ?_ ((rk_X0_readProduct hrecq e114))
          rcases j_ite hf with hf | hf
          ·
            obtain ⟨rfl, rfl⟩ := j_inj2 hf
            exact j_rk_refl _
          ·
            obtain ⟨v115, e116, hf⟩ := j_bind hf
            obtain ⟨v117, e118, hf⟩ := j_bind hf
            rcases j_ite hf with hf | hf
            ·
              obtain ⟨v119, e120, hf⟩ := j_bind hf
              obtain ⟨u123, e124, hf⟩ := j_bind hf
              obtain ⟨q121, e122, hf⟩ := j_bind hf
              refine j_rk_t ?_ ((rk_X2_add e122))
              obtain ⟨rfl, rfl⟩ := j_inj2 hf
              exact j_rk_refl _
            ·
              obtain ⟨u129, e130, hf⟩ := j_bind hf
              obtain ⟨q125, e126, hf⟩ := j_bind hf
              refine j_rk_t ?_ ((rk_X0_fail e126))
              obtain ⟨u127, e128, hf⟩ := j_bind hf
              obtain ⟨rfl, rfl⟩ := j_inj2 hf
              exact j_rk_refl _
        ·
          obtain ⟨v81, e82, hf⟩ := j_bind hf
          obtain ⟨u107, e108, hf⟩ := j_bind hf
          obtain ⟨q83, e84, hf⟩ := j_bind hf
          refine j_rk_t ?_ ((rk_X0_goOn e84))
          obtain ⟨v85, e86, hf⟩ := j_bind hf
          obtain ⟨u105, e106, hf⟩ := j_bind hf
          obtain ⟨q87, e88, hf⟩ := j_bind hf
          refine j_rk_t ?_ ((rk_X0_readProduct hrecq e88))
          rcases j_ite hf with hf | hf
          ·
            obtain ⟨rfl, rfl⟩ := j_inj2 hf
            exact j_rk_refl _
          ·
            obtain ⟨v89, e90, hf⟩ := j_bind hf
            obtain ⟨v91, e92, hf⟩ := j_bind hf
            rcases j_ite hf with hf | hf
            ·
              obtain ⟨v93, e94, hf⟩ := j_bind hf
              obtain ⟨u97, e98, hf⟩ := j_bind hf
              obtain ⟨q95, e96, hf⟩ := j_bind hf
              refine j_rk_t ?_ ((rk_X2_add e96))
              obtain ⟨rfl, rfl⟩ := j_inj2 hf
              exact j_rk_refl _
            ·
              obtain ⟨u103, e104, hf⟩ := j_bind hf
              obtain ⟨q99, e100, hf⟩ := j_bind hf
              refine j_rk_t ?_ ((rk_X0_fail e100))
              obtain ⟨u101, e102, hf⟩ := j_bind hf
              obtain ⟨rfl, rfl⟩ := j_inj2 hf
              exact j_rk_refl _
      ·
        obtain ⟨rfl, rfl⟩ := j_inj2 hf
        exact j_rk_refl _
theorem rk_X0_readSum {rec : Nat → Int32 → JH → Option (Int32 × JH)} (hrecq : ∀ {x0 : Nat} {x1 : Int32} {hh : JH} {qq : Int32 × JH}, rec x0 x1 hh = some qq → j_rk hh qq.2) {a0 : Nat} {a1 : Int32} {h : JH} {q : Int32 × JH} (hf : f_X0_readSum rec a0 a1 h = some q) : j_rk h q.2 := by
  unfold f_X0_readSum at hf
  obtain ⟨u160, e161, hf⟩ := j_bind hf
  obtain ⟨q1, e2, hf⟩ := j_bind hf
  refine j_rk_t ?_ ((rk_X0_readProduct hrecq e2))
  rcases j_ite hf with hf | hf
  ·
    obtain rfl := j_inj hf
    exact j_rk_refl _
  ·
    obtain ⟨v3, e4, hf⟩ := j_bind hf
    obtain ⟨v5, e6, hf⟩ := j_bind hf
    obtain ⟨v7, e8, hf⟩ := j_bind hf
    obtain ⟨v9, e10, hf⟩ := j_bind hf
    obtain ⟨u158, e159, hf⟩ := j_bind hf
    obtain ⟨q11, e12, hf⟩ := j_bind hf
    refine j_rk_t ?_ ((rk_X2_copyFrom e12))
    obtain ⟨q154, e155, hf⟩ := j_bind hf
    refine j_rk_t ?_ ((jloop_rk (fun _ _ _ _ q => rk_X0_readSum_L32 hrecq q) e155))
    cases y162 : q154.1 with
    | inl r157 =>
      rw [y162] at hf
      have hf := j_eliml hf
      obtain rfl := j_inj hf
      exact j_rk_refl _
    | inr t156 =>
      rw [y162] at hf
      have hf := j_elimr hf
      obtain rfl := j_inj hf
      exact j_rk_refl _
theorem rkn_X0_readSum {n : Nat} {x0 : Nat} {x1 : Int32} {h : JH} {q : Int32 × JH} (hf : n_X0_readSum n x0 x1 h = some q) : j_rk h q.2 := by
  induction n generalizing x0 x1 h q with
  | zero => cases hf
  | succ n ih => exact rk_X0_readSum (rec := n_X0_readSum n) (fun q => ih q) hf
theorem rk_X0_readLets_L2 {a0 : Nat} {z : Int32} {h : JH} {r : Int32 ⊕ (Int32 ⊕ Int32)} {h1 : JH} (hf : f_X0_readLets_L2 a0 z h = some (r, h1)) : j_rk h h1 := by
  unfold f_X0_readLets_L2 at hf
  rcases j_ite hf with hf | hf
  ·
    obtain ⟨rfl, rfl⟩ := j_inj2 hf
    exact j_rk_refl _
  ·
    obtain ⟨u225, e226, hf⟩ := j_bind hf
    obtain ⟨q1, e2, hf⟩ := j_bind hf
    refine j_rk_t ?_ ((rk_X0_kind e2))
    rcases j_ite hf with hf | hf
    ·
      obtain ⟨rfl, rfl⟩ := j_inj2 hf
      exact j_rk_refl _
    ·
      obtain ⟨u223, e224, hf⟩ := j_bind hf
      obtain ⟨q3, e4, hf⟩ := j_bind hf
      refine j_rk_t ?_ ((rk_X0_kind e4))
      rcases j_ite hf with hf | hf
      ·
        obtain ⟨v109, e110, hf⟩ := j_bind hf
        rcases j_ite hf with hf | hf
        ·
          obtain ⟨u213, e214, hf⟩ := j_bind hf
          obtain ⟨q111, e112, hf⟩ := j_bind hf
          refine j_rk_t ?_ ((rk_X0_expect e112))
          rcases j_ite hf with hf | hf
          ·
            obtain ⟨rfl, rfl⟩ := j_inj2 hf
            exact j_rk_refl _
          ·
            obtain ⟨u211, e212, hf⟩ := j_bind hf
            obtain ⟨q113, e114, hf⟩ := j_bind hf
            refine j_rk_t ?_ ((rk_X0_value e114))
            obtain ⟨u209, e210, hf⟩ := j_bind hf
            obtain ⟨q115, e116, hf⟩ := j_bind hf
            refine j_rk_t ?_ ((rk_X0_kind e116))
            rcases j_ite hf with hf | hf
            ·
              obtain ⟨u207, e208, hf⟩ := j_bind hf
              obtain ⟨q157, e158, hf⟩ := j_bind hf
              refine j_rk_t ?_ ((rk_X0_findLet e158))
              rcases j_ite hf with hf | hf
              ·
                obtain ⟨u197, e198, hf⟩ := j_bind hf
                obtain ⟨q159, e160, hf⟩ := j_bind hf
                refine j_rk_t ?_ ((rk_X0_expect e160))
                rcases j_ite hf with hf | hf
                ·
                  obtain ⟨rfl, rfl⟩ := j_inj2 hf
                  exact j_rk_refl _
                ·
                  obtain ⟨u195, e196, hf⟩ := j_bind hf
                  obtain ⟨q161, e162, hf⟩ := j_bind hf
                  refine j_rk_t ?_ ((rk_X0_expect e162))
                  rcases j_ite hf with hf | hf
                  ·
                    obtain ⟨rfl, rfl⟩ := j_inj2 hf
                    exact j_rk_refl _
                  ·
                    obtain ⟨u193, e194, hf⟩ := j_bind hf
                    obtain ⟨q163, e164, hf⟩ := j_bind hf
                    refine j_rk_t ?_ ((rkn_X0_readSum e164))
                    rcases j_ite hf with hf | hf
                    ·
                      obtain ⟨rfl, rfl⟩ := j_inj2 hf
                      exact j_rk_refl _
                    ·
                      obtain ⟨u191, e192, hf⟩ := j_bind hf
                      obtain ⟨q165, e166, hf⟩ := j_bind hf
                      refine j_rk_t ?_ ((rk_X0_expect e166))
                      rcases j_ite hf with hf | hf
                      ·
                        obtain ⟨rfl, rfl⟩ := j_inj2 hf
                        exact j_rk_refl _
                      ·
                        obtain ⟨v167, e168, hf⟩ := j_bind hf
                        obtain ⟨v169, e170, hf⟩ := j_bind hf
                        obtain ⟨h171, e172, hf⟩ := j_bind hf
                        refine j_rk_t ?_ (jsI_rk e172)
                        obtain ⟨v173, e174, hf⟩ := j_bind hf
                        obtain ⟨v175, e176, hf⟩ := j_bind hf
                        obtain ⟨v177, e178, hf⟩ := j_bind hf
                        obtain ⟨v179, e180, hf⟩ := j_bind hf
                        obtain ⟨v181, e182, hf⟩ := j_bind hf
                        obtain ⟨u189, e190, hf⟩ := j_bind hf
                        obtain ⟨q183, e184, hf⟩ := j_bind hf
                        refine j_rk_t ?_ ((rk_X2_copyFrom e184))
                        obtain ⟨v185, e186, hf⟩ := j_bind hf
                        obtain ⟨h187, e188, hf⟩ := j_bind hf
                        refine j_rk_t ?_ (jput_rk e188)
                        obtain ⟨rfl, rfl⟩ := j_inj2 hf
                        exact j_rk_refl _
              ·
                obtain ⟨v199, e200, hf⟩ := j_bind hf
                obtain ⟨u205, e206, hf⟩ := j_bind hf
                obtain ⟨q201, e202, hf⟩ := j_bind hf
                refine j_rk_t ?_ ((rk_X0_fail e202))
                obtain ⟨u203, e204, hf⟩ := j_bind hf
                obtain ⟨rfl, rfl⟩ := j_inj2 hf
                exact j_rk_refl _
            ·
              obtain ⟨u155, e156, hf⟩ := j_bind hf
              obtain ⟨q117, e118, hf⟩ := j_bind hf
              refine j_rk_t ?_ ((rk_X0_expect e118))
              rcases j_ite hf with hf | hf
              ·
                obtain ⟨rfl, rfl⟩ := j_inj2 hf
                exact j_rk_refl _
              ·
                obtain ⟨u153, e154, hf⟩ := j_bind hf
                obtain ⟨q119, e120, hf⟩ := j_bind hf
                refine j_rk_t ?_ ((rk_X0_expect e120))
                rcases j_ite hf with hf | hf
                ·
                  obtain ⟨rfl, rfl⟩ := j_inj2 hf
                  exact j_rk_refl _
                ·
                  obtain ⟨u151, e152, hf⟩ := j_bind hf
                  obtain ⟨q121, e122, hf⟩ := j_bind hf
                  refine j_rk_t ?_ ((rkn_X0_readSum e122))
                  rcases j_ite hf with hf | hf
                  ·
                    obtain ⟨rfl, rfl⟩ := j_inj2 hf
                    exact j_rk_refl _
                  ·
                    obtain ⟨u149, e150, hf⟩ := j_bind hf
                    obtain ⟨q123, e124, hf⟩ := j_bind hf
                    refine j_rk_t ?_ ((rk_X0_expect e124))
                    rcases j_ite hf with hf | hf
                    ·
                      obtain ⟨rfl, rfl⟩ := j_inj2 hf
                      exact j_rk_refl _
                    ·
                      obtain ⟨v125, e126, hf⟩ := j_bind hf
                      obtain ⟨v127, e128, hf⟩ := j_bind hf
                      obtain ⟨h129, e130, hf⟩ := j_bind hf
                      refine j_rk_t ?_ (jsI_rk e130)
                      obtain ⟨v131, e132, hf⟩ := j_bind hf
                      obtain ⟨v133, e134, hf⟩ := j_bind hf
                      obtain ⟨v135, e136, hf⟩ := j_bind hf
                      obtain ⟨v137, e138, hf⟩ := j_bind hf
                      obtain ⟨v139, e140, hf⟩ := j_bind hf
                      obtain ⟨u147, e148, hf⟩ := j_bind hf
                      obtain ⟨q141, e142, hf⟩ := j_bind hf
                      refine j_rk_t ?_ ((rk_X2_copyFrom e142))
                      obtain ⟨v143, e144, hf⟩ := j_bind hf
                      obtain ⟨h145, e146, hf⟩ := j_bind hf
                      refine j_rk_t ?_ (jput_rk e146)
                      obtain ⟨rfl, rfl⟩ := j_inj2 hf
                      exact j_rk_refl _
        ·
          obtain ⟨v215, e216, hf⟩ := j_bind hf
          obtain ⟨u221, e222, hf⟩ := j_bind hf
          obtain ⟨q217, e218, hf⟩ := j_bind hf
          refine j_rk_t ?_ ((rk_X0_fail e218))
          obtain ⟨u219, e220, hf⟩ := j_bind hf
          obtain ⟨rfl, rfl⟩ := j_inj2 hf
          exact j_rk_refl _
      ·
        obtain ⟨u107, e108, hf⟩ := j_bind hf
        obtain ⟨q5, e6, hf⟩ := j_bind hf
        refine j_rk_t ?_ ((rk_X0_expect e6))
        rcases j_ite hf with hf | hf
        ·
          obtain ⟨rfl, rfl⟩ := j_inj2 hf
          exact j_rk_refl _
        ·
          obtain ⟨u105, e106, hf⟩ := j_bind hf
          obtain ⟨q7, e8, hf⟩ := j_bind hf
          refine j_rk_t ?_ ((rk_X0_value e8))
          obtain ⟨u103, e104, hf⟩ := j_bind hf
          obtain ⟨q9, e10, hf⟩ := j_bind hf
          refine j_rk_t ?_ ((rk_X0_kind e10))
          rcases j_ite hf with hf | hf
          ·
            obtain ⟨u101, e102, hf⟩ := j_bind hf
            obtain ⟨q51, e52, hf⟩ := j_bind hf
            refine j_rk_t ?_ ((rk_X0_findLet e52))
            rcases j_ite hf with hf | hf
            ·
              obtain ⟨u91, e92, hf⟩ := j_bind hf
              obtain ⟨q53, e54, hf⟩ := j_bind hf
              refine j_rk_t ?_ ((rk_X0_expect e54))
              rcases j_ite hf with hf | hf
              ·
                obtain ⟨rfl, rfl⟩ := j_inj2 hf
                exact j_rk_refl _
              ·
                obtain ⟨u89, e90, hf⟩ := j_bind hf
                obtain ⟨q55, e56, hf⟩ := j_bind hf
                refine j_rk_t ?_ ((rk_X0_expect e56))
                rcases j_ite hf with hf | hf
                ·
                  obtain ⟨rfl, rfl⟩ := j_inj2 hf
                  exact j_rk_refl _
                ·
                  obtain ⟨u87, e88, hf⟩ := j_bind hf
                  obtain ⟨q57, e58, hf⟩ := j_bind hf
                  refine j_rk_t ?_ ((rkn_X0_readSum e58))
                  rcases j_ite hf with hf | hf
                  ·
                    obtain ⟨rfl, rfl⟩ := j_inj2 hf
                    exact j_rk_refl _
                  ·
                    obtain ⟨u85, e86, hf⟩ := j_bind hf
                    obtain ⟨q59, e60, hf⟩ := j_bind hf
                    refine j_rk_t ?_ ((rk_X0_expect e60))
                    rcases j_ite hf with hf | hf
                    ·
                      obtain ⟨rfl, rfl⟩ := j_inj2 hf
                      exact j_rk_refl _
                    ·
                      obtain ⟨v61, e62, hf⟩ := j_bind hf
                      obtain ⟨v63, e64, hf⟩ := j_bind hf
                      obtain ⟨h65, e66, hf⟩ := j_bind hf
                      refine j_rk_t ?_ (jsI_rk e66)
                      obtain ⟨v67, e68, hf⟩ := j_bind hf
                      obtain ⟨v69, e70, hf⟩ := j_bind hf
                      obtain ⟨v71, e72, hf⟩ := j_bind hf
                      obtain ⟨v73, e74, hf⟩ := j_bind hf
                      obtain ⟨v75, e76, hf⟩ := j_bind hf
                      obtain ⟨u83, e84, hf⟩ := j_bind hf
                      obtain ⟨q77, e78, hf⟩ := j_bind hf
                      refine j_rk_t ?_ ((rk_X2_copyFrom e78))
                      obtain ⟨v79, e80, hf⟩ := j_bind hf
                      obtain ⟨h81, e82, hf⟩ := j_bind hf
                      refine j_rk_t ?_ (jput_rk e82)
                      obtain ⟨rfl, rfl⟩ := j_inj2 hf
                      exact j_rk_refl _
            ·
              obtain ⟨v93, e94, hf⟩ := j_bind hf
              obtain ⟨u99, e100, hf⟩ := j_bind hf
              obtain ⟨q95, e96, hf⟩ := j_bind hf
              refine j_rk_t ?_ ((rk_X0_fail e96))
              obtain ⟨u97, e98, hf⟩ := j_bind hf
              obtain ⟨rfl, rfl⟩ := j_inj2 hf
              exact j_rk_refl _
          ·
            obtain ⟨u49, e50, hf⟩ := j_bind hf
            obtain ⟨q11, e12, hf⟩ := j_bind hf
            refine j_rk_t ?_ ((rk_X0_expect e12))
            rcases j_ite hf with hf | hf
            ·
              obtain ⟨rfl, rfl⟩ := j_inj2 hf
              exact j_rk_refl _
            ·
              obtain ⟨u47, e48, hf⟩ := j_bind hf
              obtain ⟨q13, e14, hf⟩ := j_bind hf
              refine j_rk_t ?_ ((rk_X0_expect e14))
              rcases j_ite hf with hf | hf
              ·
                obtain ⟨rfl, rfl⟩ := j_inj2 hf
                exact j_rk_refl _
              ·
                obtain ⟨u45, e46, hf⟩ := j_bind hf
                obtain ⟨q15, e16, hf⟩ := j_bind hf
                refine j_rk_t ?_ ((rkn_X0_readSum e16))
                rcases j_ite hf with hf | hf
                ·
                  obtain ⟨rfl, rfl⟩ := j_inj2 hf
                  exact j_rk_refl _
                ·
                  obtain ⟨u43, e44, hf⟩ := j_bind hf
                  obtain ⟨q17, e18, hf⟩ := j_bind hf
                  refine j_rk_t ?_ ((rk_X0_expect e18))
                  rcases j_ite hf with hf | hf
                  ·
                    obtain ⟨rfl, rfl⟩ := j_inj2 hf
                    exact j_rk_refl _
                  ·
                    obtain ⟨v19, e20, hf⟩ := j_bind hf
                    obtain ⟨v21, e22, hf⟩ := j_bind hf
                    obtain ⟨h23, e24, hf⟩ := j_bind hf
                    refine j_rk_t ?_ (jsI_rk e24)
                    obtain ⟨v25, e26, hf⟩ := j_bind hf
                    obtain ⟨v27, e28, hf⟩ := j_bind hf
                    obtain ⟨v29, e30, hf⟩ := j_bind hf
                    obtain ⟨v31, e32, hf⟩ := j_bind hf
                    obtain ⟨v33, e34, hf⟩ := j_bind hf
                    obtain ⟨u41, e42, hf⟩ := j_bind hf
                    obtain ⟨q35, e36, hf⟩ := j_bind hf
                    refine j_rk_t ?_ ((rk_X2_copyFrom e36))
                    obtain ⟨v37, e38, hf⟩ := j_bind hf
                    obtain ⟨h39, e40, hf⟩ := j_bind hf
                    refine j_rk_t ?_ (jput_rk e40)
                    obtain ⟨rfl, rfl⟩ := j_inj2 hf
                    exact j_rk_refl _
theorem rk_X0_readLets {a0 : Nat} {h : JH} {q : Int32 × JH} (hf : f_X0_readLets a0 h = some q) : j_rk h q.2 := by
  unfold f_X0_readLets at hf
  obtain ⟨q253, e254, hf⟩ := j_bind hf
  refine j_rk_t ?_ ((jloop_rk (fun _ _ _ _ q => rk_X0_readLets_L2 q) e254))
  cases y257 : q253.1 with
  | inl r256 =>
    rw [y257] at hf
    have hf := j_eliml hf
    obtain rfl := j_inj hf
    exact j_rk_refl _
  | inr t255 =>
    rw [y257] at hf
    have hf := j_elimr hf
    obtain rfl := j_inj hf
    exact j_rk_refl _
theorem rk_X1_onlyIfPrimitive_L2 {a0 : Int32} {a1 : Int32} {a2 : Int32} {z : Int32} {h : JH} {r : Int32 ⊕ (Int32 ⊕ Int32)} {h1 : JH} (hf : f_X1_onlyIfPrimitive_L2 a0 a1 a2 z h = some (r, h1)) : j_rk h h1 := by
  unfold f_X1_onlyIfPrimitive_L2 at hf
  rcases j_ite hf with hf | hf
  ·
    obtain ⟨rfl, rfl⟩ := j_inj2 hf
    exact j_rk_refl _
  ·
    obtain ⟨u1, e2, hf⟩ := j_bind hf
    rcases j_ite hf with hf | hf
    ·
      obtain ⟨u3, e4, hf⟩ := j_bind hf
      rcases j_ite hf with hf | hf
      ·
        obtain ⟨u5, e6, hf⟩ := j_bind hf
        rcases j_ite hf with hf | hf
        ·
          obtain ⟨rfl, rfl⟩ := j_inj2 hf
          exact j_rk_refl _
        ·
          obtain ⟨rfl, rfl⟩ := j_inj2 hf
          exact j_rk_refl _
      ·
        obtain ⟨rfl, rfl⟩ := j_inj2 hf
        exact j_rk_refl _
    ·
      obtain ⟨rfl, rfl⟩ := j_inj2 hf
      exact j_rk_refl _
theorem rk_X1_onlyIfPrimitive {a0 : Int32} {a1 : Int32} {a2 : Int32} {h : JH} {q : Int32 × JH} (hf : f_X1_onlyIfPrimitive a0 a1 a2 h = some q) : j_rk h q.2 := by
  unfold f_X1_onlyIfPrimitive at hf
  obtain ⟨q11, e12, hf⟩ := j_bind hf
  refine j_rk_t ?_ ((jloop_rk (fun _ _ _ _ q => rk_X1_onlyIfPrimitive_L2 q) e12))
  cases y15 : q11.1 with
  | inl r14 =>
    rw [y15] at hf
    have hf := j_eliml hf
    obtain rfl := j_inj hf
    exact j_rk_refl _
  | inr t13 =>
    rw [y15] at hf
    have hf := j_elimr hf
    obtain rfl := j_inj hf
    exact j_rk_refl _
theorem rk_X1_twelfths {a0 : Int32} {a1 : Int32} {a2 : Int32} {h : JH} {q : Int32 × JH} (hf : f_X1_twelfths a0 a1 a2 h = some q) : j_rk h q.2 := by
  unfold f_X1_twelfths at hf
  rcases j_ite hf with hf | hf
  ·
    rcases j_ite hf with hf | hf
    ·
      obtain rfl := j_inj hf
      exact j_rk_refl _
    ·
      rcases j_ite hf with hf | hf
      ·
        obtain rfl := j_inj hf
        exact j_rk_refl _
      ·
        obtain rfl := j_inj hf
        exact j_rk_refl _
  ·
    obtain rfl := j_inj hf
    exact j_rk_refl _
theorem rk_X1_addUp_L18 {a0 : Int32} {a1 : Int32} {a3 : Int32} {z : (Int32 × Int32)} {h : JH} {r : (Int32 × Int32) ⊕ (Int32 × Int32)} {h1 : JH} (hf : f_X1_addUp_L18 a0 a1 a3 z h = some (r, h1)) : j_rk h h1 := by
  unfold f_X1_addUp_L18 at hf
  rcases j_ite hf with hf | hf
  ·
    obtain ⟨rfl, rfl⟩ := j_inj2 hf
    exact j_rk_refl _
  ·
    obtain ⟨u1, e2, hf⟩ := j_bind hf
    obtain ⟨u3, e4, hf⟩ := j_bind hf
    rcases j_ite hf with hf | hf
    ·
      rcases j_ite hf with hf | hf
      ·
        rcases j_ite hf with hf | hf
        ·
          obtain ⟨q5, e6, hf⟩ := j_bind hf
          refine j_rk_t ?_ ((rk_X1_twelfths e6))
          obtain ⟨rfl, rfl⟩ := j_inj2 hf
          exact j_rk_refl _
        ·
          obtain ⟨q7, e8, hf⟩ := j_bind hf
          refine j_rk_t ?_ ((rk_X1_onlyIfPrimitive e8))
          obtain ⟨rfl, rfl⟩ := j_inj2 hf
          exact j_rk_refl _
      ·
        rcases j_ite hf with hf | hf
        ·
          rcases j_ite hf with hf | hf
          ·
            obtain ⟨rfl, rfl⟩ := j_inj2 hf
            exact j_rk_refl _
          ·
            rcases j_ite hf with hf | hf
            ·
              obtain ⟨q9, e10, hf⟩ := j_bind hf
              refine j_rk_t ?_ ((rk_X1_twelfths e10))
              obtain ⟨rfl, rfl⟩ := j_inj2 hf
              exact j_rk_refl _
            ·
              obtain ⟨q11, e12, hf⟩ := j_bind hf
              refine j_rk_t ?_ ((rk_X1_onlyIfPrimitive e12))
              obtain ⟨rfl, rfl⟩ := j_inj2 hf
              exact j_rk_refl _
        ·
          obtain ⟨rfl, rfl⟩ := j_inj2 hf
          exact j_rk_refl _
    ·
      obtain ⟨rfl, rfl⟩ := j_inj2 hf
      exact j_rk_refl _
theorem rk_X1_addUp_L4 {a0 : Int32} {a1 : Int32} {z : (Int32 × Int32)} {h : JH} {r : (Int32 × Int32) ⊕ (Int32 × Int32)} {h1 : JH} (hf : f_X1_addUp_L4 a0 a1 z h = some (r, h1)) : j_rk h h1 := by
  unfold f_X1_addUp_L4 at hf
  rcases j_ite hf with hf | hf
  ·
    obtain ⟨rfl, rfl⟩ := j_inj2 hf
    exact j_rk_refl _
  ·
    obtain ⟨q1, e2, hf⟩ := j_bind hf
    refine j_rk_t ?_ ((jloop_rk (fun _ _ _ _ q => rk_X1_addUp_L18 q) e2))
    obtain ⟨rfl, rfl⟩ := j_inj2 hf
    exact j_rk_refl _
theorem rk_X1_addUp {a0 : Int32} {a1 : Int32} {h : JH} {q : Int32 × JH} (hf : f_X1_addUp a0 a1 h = some q) : j_rk h q.2 := by
  unfold f_X1_addUp at hf
  obtain ⟨q4, e5, hf⟩ := j_bind hf
  refine j_rk_t ?_ ((jloop_rk (fun _ _ _ _ q => rk_X1_addUp_L4 q) e5))
  obtain rfl := j_inj hf
  exact j_rk_refl _
theorem rk_X1_isDiscriminant {a0 : Int32} {h : JH} {q : Int32 × JH} (hf : f_X1_isDiscriminant a0 h = some q) : j_rk h q.2 := by
  unfold f_X1_isDiscriminant at hf
  rcases j_ite hf with hf | hf
  ·
    obtain rfl := j_inj hf
    exact j_rk_refl _
  ·
    rcases j_ite hf with hf | hf
    ·
      obtain rfl := j_inj hf
      exact j_rk_refl _
    ·
      rcases j_ite hf with hf | hf
      ·
        obtain rfl := j_inj hf
        exact j_rk_refl _
      ·
        rcases j_ite hf with hf | hf
        ·
          obtain rfl := j_inj hf
          exact j_rk_refl _
        ·
          obtain rfl := j_inj hf
          exact j_rk_refl _
theorem rk_X1_inTwelfths {a0 : Int32} {h : JH} {q : Int32 × JH} (hf : f_X1_inTwelfths a0 h = some q) : j_rk h q.2 := by
  unfold f_X1_inTwelfths at hf
  rcases j_ite hf with hf | hf
  ·
    obtain rfl := j_inj hf
    exact j_rk_refl _
  ·
    obtain ⟨q1, e2, hf⟩ := j_bind hf
    refine j_rk_t ?_ ((rk_X1_isDiscriminant e2))
    rcases j_ite hf with hf | hf
    ·
      obtain rfl := j_inj hf
      exact j_rk_refl _
    ·
      obtain ⟨q3, e4, hf⟩ := j_bind hf
      refine j_rk_t ?_ ((rk_X1_addUp e4))
      obtain rfl := j_inj hf
      exact j_rk_refl _
theorem rk_X1_ofNothingInCommon {a0 : Int32} {h : JH} {q : Int32 × JH} (hf : f_X1_ofNothingInCommon a0 h = some q) : j_rk h q.2 := by
  unfold f_X1_ofNothingInCommon at hf
  obtain ⟨q1, e2, hf⟩ := j_bind hf
  refine j_rk_t ?_ ((rk_X1_isDiscriminant e2))
  rcases j_ite hf with hf | hf
  ·
    obtain rfl := j_inj hf
    exact j_rk_refl _
  ·
    obtain ⟨q3, e4, hf⟩ := j_bind hf
    refine j_rk_t ?_ ((rk_X1_addUp e4))
    obtain rfl := j_inj hf
    exact j_rk_refl _
theorem rk_X2_firstNotZero_L2 {a0 : Nat} {z : Int32} {h : JH} {r : Int32 ⊕ (Int32 ⊕ Int32)} {h1 : JH} (hf : f_X2_firstNotZero_L2 a0 z h = some (r, h1)) : j_rk h h1 := by
  unfold f_X2_firstNotZero_L2 at hf
  rcases j_ite hf with hf | hf
  ·
    obtain ⟨rfl, rfl⟩ := j_inj2 hf
    exact j_rk_refl _
  ·
    obtain ⟨v1, e2, hf⟩ := j_bind hf
    obtain ⟨v3, e4, hf⟩ := j_bind hf
    rcases j_ite hf with hf | hf
    ·
      obtain ⟨rfl, rfl⟩ := j_inj2 hf
      exact j_rk_refl _
    ·
      obtain ⟨rfl, rfl⟩ := j_inj2 hf
      exact j_rk_refl _
theorem rk_X2_firstNotZero {a0 : Nat} {h : JH} {q : Int32 × JH} (hf : f_X2_firstNotZero a0 h = some q) : j_rk h q.2 := by
  unfold f_X2_firstNotZero at hf
  obtain ⟨q7, e8, hf⟩ := j_bind hf
  refine j_rk_t ?_ ((jloop_rk (fun _ _ _ _ q => rk_X2_firstNotZero_L2 q) e8))
  cases y11 : q7.1 with
  | inl r10 =>
    rw [y11] at hf
    have hf := j_eliml hf
    obtain rfl := j_inj hf
    exact j_rk_refl _
  | inr t9 =>
    rw [y11] at hf
    have hf := j_elimr hf
    obtain rfl := j_inj hf
    exact j_rk_refl _
theorem rk_X6_init {a0 : Nat} {h : JH} {q : Unit × JH} (hf : f_X6_init a0 h = some q) : j_rk h q.2 := by
  unfold f_X6_init at hf
  obtain ⟨q1, e2, hf⟩ := j_bind hf
  refine j_rk_trans (jnA_rk e2) ?_
  obtain ⟨h3, e4, hf⟩ := j_bind hf
  refine j_rk_trans (id (jput_rk e4)) ?_
  obtain ⟨q5, e6, hf⟩ := j_bind hf
  refine j_rk_trans (jnM_rk e6) ?_
  obtain ⟨h7, e8, hf⟩ := j_bind hf
  refine j_rk_trans (id (jput_rk e8)) ?_
  obtain rfl := j_inj hf
  exact j_rk_refl _
theorem rk_X11_newShelves_L7 {a0 : Nat} {z : Int32} {h : JH} {r : Int32 ⊕ Int32} {h1 : JH} (hf : f_X11_newShelves_L7 a0 z h = some (r, h1)) : j_rk h h1 := by
  unfold f_X11_newShelves_L7 at hf
  rcases j_ite hf with hf | hf
  ·
    obtain ⟨rfl, rfl⟩ := j_inj2 hf
    exact j_rk_refl _
  ·
    obtain ⟨q3, e4, hf⟩ := j_bind hf
    refine j_rk_trans (jnO_rk e4) ?_
    obtain ⟨q5, e6, hf⟩ := j_bind hf
    refine j_rk_trans (rk_X6_init e6) ?_
    obtain ⟨h7, e8, hf⟩ := j_bind hf
    refine j_rk_trans (id (jsR_rk e8)) ?_
    obtain ⟨rfl, rfl⟩ := j_inj2 hf
    exact j_rk_refl _
theorem rk_X11_newShelves  {h : JH} {q : Nat × JH} (hf : f_X11_newShelves  h = some q) : j_rk h q.2 := by
  unfold f_X11_newShelves at hf
  obtain ⟨q1, e2, hf⟩ := j_bind hf
  refine j_rk_trans (jnA_rk e2) ?_
  obtain ⟨q10, e11, hf⟩ := j_bind hf
  refine j_rk_trans ((jloop_rk (fun _ _ _ _ q => rk_X11_newShelves_L7 q) e11)) ?_
  obtain rfl := j_inj hf
  exact j_rk_refl _
theorem rk_X3_init {a0 : Nat} {h : JH} {q : Unit × JH} (hf : f_X3_init a0 h = some q) : j_rk h q.2 := by
  unfold f_X3_init at hf
  obtain ⟨q1, e2, hf⟩ := j_bind hf
  refine j_rk_trans (rk_X11_newForms e2) ?_
  obtain ⟨h3, e4, hf⟩ := j_bind hf
  refine j_rk_trans (id (jput_rk e4)) ?_
  obtain ⟨q5, e6, hf⟩ := j_bind hf
  refine j_rk_trans (rk_X11_newShelves e6) ?_
  obtain ⟨h7, e8, hf⟩ := j_bind hf
  refine j_rk_trans (id (jput_rk e8)) ?_
  obtain rfl := j_inj hf
  exact j_rk_refl _
theorem rk_X6_copyFrom_L10 {a0 : Nat} {a1 : Nat} {z : Int32} {h : JH} {r : Int32 ⊕ Int32} {h1 : JH} (hf : f_X6_copyFrom_L10 a0 a1 z h = some (r, h1)) : j_rk h h1 := by
  unfold f_X6_copyFrom_L10 at hf
  rcases j_ite hf with hf | hf
  ·
    obtain ⟨rfl, rfl⟩ := j_inj2 hf
    exact j_rk_refl _
  ·
    obtain ⟨v7, e8, hf⟩ := j_bind hf
    obtain ⟨v9, e10, hf⟩ := j_bind hf
    obtain ⟨v11, e12, hf⟩ := j_bind hf
    obtain ⟨h13, e14, hf⟩ := j_bind hf
    refine j_rk_t ?_ (jsB_rk e14)
    obtain ⟨v15, e16, hf⟩ := j_bind hf
    obtain ⟨v17, e18, hf⟩ := j_bind hf
    obtain ⟨v19, e20, hf⟩ := j_bind hf
    obtain ⟨v21, e22, hf⟩ := j_bind hf
    obtain ⟨h23, e24, hf⟩ := j_bind hf
    refine j_rk_t ?_ (jcJ_rk e24)
    obtain ⟨rfl, rfl⟩ := j_inj2 hf
    exact j_rk_refl _
theorem rk_X6_copyFrom {a0 : Nat} {a1 : Nat} {h : JH} {q : Unit × JH} (hf : f_X6_copyFrom a0 a1 h = some q) : j_rk h q.2 := by
  unfold f_X6_copyFrom at hf
  obtain ⟨v1, e2, hf⟩ := j_bind hf
  obtain ⟨u5, e6, hf⟩ := j_bind hf
  obtain ⟨h3, e4, hf⟩ := j_bind hf
  refine j_rk_t ?_ (jput_rk e4)
  obtain ⟨q26, e27, hf⟩ := j_bind hf
  refine j_rk_t ?_ ((jloop_rk (fun _ _ _ _ q => rk_X6_copyFrom_L10 q) e27))
  obtain rfl := j_inj hf
  exact j_rk_refl _
theorem rk_X3_copyAll_L3 {a0 : Nat} {a1 : Nat} {a2 : Nat} {a3 : Nat} {z : Int32} {h : JH} {r : Int32 ⊕ Int32} {h1 : JH} (hf : f_X3_copyAll_L3 a0 a1 a2 a3 z h = some (r, h1)) : j_rk h h1 := by
  unfold f_X3_copyAll_L3 at hf
  rcases j_ite hf with hf | hf
  ·
    obtain ⟨rfl, rfl⟩ := j_inj2 hf
    exact j_rk_refl _
  ·
    obtain ⟨v1, e2, hf⟩ := j_bind hf
    obtain ⟨v3, e4, hf⟩ := j_bind hf
    obtain ⟨u7, e8, hf⟩ := j_bind hf
    obtain ⟨q5, e6, hf⟩ := j_bind hf
    refine j_rk_t ?_ ((rk_X2_copyFrom e6))
    obtain ⟨rfl, rfl⟩ := j_inj2 hf
    exact j_rk_refl _
theorem rk_X3_copyAll_L29 {a1 : Nat} {a3 : Nat} {z : Int32} {h : JH} {r : Int32 ⊕ Int32} {h1 : JH} (hf : f_X3_copyAll_L29 a1 a3 z h = some (r, h1)) : j_rk h h1 := by
  unfold f_X3_copyAll_L29 at hf
  rcases j_ite hf with hf | hf
  ·
    obtain ⟨rfl, rfl⟩ := j_inj2 hf
    exact j_rk_refl _
  ·
    obtain ⟨v12, e13, hf⟩ := j_bind hf
    obtain ⟨v14, e15, hf⟩ := j_bind hf
    obtain ⟨u18, e19, hf⟩ := j_bind hf
    obtain ⟨q16, e17, hf⟩ := j_bind hf
    refine j_rk_t ?_ ((rk_X6_copyFrom e17))
    obtain ⟨rfl, rfl⟩ := j_inj2 hf
    exact j_rk_refl _
theorem rk_X3_copyAll {a0 : Nat} {a1 : Nat} {a2 : Nat} {a3 : Nat} {h : JH} {q : Unit × JH} (hf : f_X3_copyAll a0 a1 a2 a3 h = some q) : j_rk h q.2 := by
  unfold f_X3_copyAll at hf
  obtain ⟨q10, e11, hf⟩ := j_bind hf
  refine j_rk_t ?_ ((jloop_rk (fun _ _ _ _ q => rk_X3_copyAll_L3 q) e11))
  obtain ⟨q21, e22, hf⟩ := j_bind hf
  refine j_rk_t ?_ ((jloop_rk (fun _ _ _ _ q => rk_X3_copyAll_L29 q) e22))
  obtain rfl := j_inj hf
  exact j_rk_refl _
theorem rk_X3_lay {a0 : Nat} {a1 : Nat} {a2 : Nat} {h : JH} {q : Unit × JH} (hf : f_X3_lay a0 a1 a2 h = some q) : j_rk h q.2 := by
  unfold f_X3_lay at hf
  obtain ⟨v1, e2, hf⟩ := j_bind hf
  obtain ⟨v3, e4, hf⟩ := j_bind hf
  obtain ⟨q5, e6, hf⟩ := j_bind hf
  refine j_rk_t ?_ ((rk_X3_copyAll e6))
  obtain ⟨h7, e8, hf⟩ := j_bind hf
  refine j_rk_t ?_ (jput_rk e8)
  obtain rfl := j_inj hf
  exact j_rk_refl _
theorem rk_X3_bringBack_L11 {a0 : Nat} {a1 : Nat} {a2 : Nat} {z : Int32} {h : JH} {r : Int32 ⊕ (Int32 ⊕ Int32)} {h1 : JH} (hf : f_X3_bringBack_L11 a0 a1 a2 z h = some (r, h1)) : j_rk h h1 := by
  unfold f_X3_bringBack_L11 at hf
  rcases j_ite hf with hf | hf
  ·
    obtain ⟨rfl, rfl⟩ := j_inj2 hf
    exact j_rk_refl _
  ·
    obtain ⟨v3, e4, hf⟩ := j_bind hf
    obtain ⟨v5, e6, hf⟩ := j_bind hf
    obtain ⟨v7, e8, hf⟩ := j_bind hf
    obtain ⟨v9, e10, hf⟩ := j_bind hf
    obtain ⟨v11, e12, hf⟩ := j_bind hf
    rcases j_ite hf with hf | hf
    ·
      obtain ⟨rfl, rfl⟩ := j_inj2 hf
      exact j_rk_refl _
    ·
      obtain ⟨rfl, rfl⟩ := j_inj2 hf
      exact j_rk_refl _
theorem rk_X3_bringBack {a0 : Nat} {a1 : Nat} {a2 : Nat} {h : JH} {q : Int32 × JH} (hf : f_X3_bringBack a0 a1 a2 h = some q) : j_rk h q.2 := by
  unfold f_X3_bringBack at hf
  obtain ⟨v1, e2, hf⟩ := j_bind hf
  rcases j_ite hf with hf | hf
  ·
    obtain rfl := j_inj hf
    exact j_rk_refl _
  ·
    obtain ⟨q15, e16, hf⟩ := j_bind hf
    refine j_rk_t ?_ ((jloop_rk (fun _ _ _ _ q => rk_X3_bringBack_L11 q) e16))
    cases y25 : q15.1 with
    | inl r18 =>
      rw [y25] at hf
      have hf := j_eliml hf
      obtain rfl := j_inj hf
      exact j_rk_refl _
    | inr t17 =>
      rw [y25] at hf
      have hf := j_elimr hf
      obtain ⟨v19, e20, hf⟩ := j_bind hf
      obtain ⟨v21, e22, hf⟩ := j_bind hf
      obtain ⟨q23, e24, hf⟩ := j_bind hf
      refine j_rk_t ?_ ((rk_X3_copyAll e24))
      obtain rfl := j_inj hf
      exact j_rk_refl _
theorem rk_X4_power_L13 {a2 : Int32} {z : (Int32 × Int32 × Int32)} {h : JH} {r : (Int32 × Int32 × Int32) ⊕ (Int32 × Int32 × Int32)} {h1 : JH} (hf : f_X4_power_L13 a2 z h = some (r, h1)) : j_rk h h1 := by
  unfold f_X4_power_L13 at hf
  rcases j_ite hf with hf | hf
  ·
    obtain ⟨rfl, rfl⟩ := j_inj2 hf
    exact j_rk_refl _
  ·
    rcases j_ite hf with hf | hf
    ·
      obtain ⟨q5, e6, hf⟩ := j_bind hf
      refine j_rk_t ?_ ((rk_X4_of e6))
      obtain ⟨q7, e8, hf⟩ := j_bind hf
      refine j_rk_t ?_ ((rk_X4_of e8))
      obtain ⟨rfl, rfl⟩ := j_inj2 hf
      exact j_rk_refl _
    ·
      obtain ⟨q3, e4, hf⟩ := j_bind hf
      refine j_rk_t ?_ ((rk_X4_of e4))
      obtain ⟨rfl, rfl⟩ := j_inj2 hf
      exact j_rk_refl _
theorem rk_X4_power {a0 : Int32} {a1 : Int32} {a2 : Int32} {h : JH} {q : Int32 × JH} (hf : f_X4_power a0 a1 a2 h = some q) : j_rk h q.2 := by
  unfold f_X4_power at hf
  obtain ⟨q1, e2, hf⟩ := j_bind hf
  refine j_rk_t ?_ ((rk_X4_of e2))
  obtain ⟨q11, e12, hf⟩ := j_bind hf
  refine j_rk_t ?_ ((jloop_rk (fun _ _ _ _ q => rk_X4_power_L13 q) e12))
  obtain rfl := j_inj hf
  exact j_rk_refl _
theorem rk_X4_divide {a0 : Int32} {a1 : Int32} {a2 : Int32} {h : JH} {q : Int32 × JH} (hf : f_X4_divide a0 a1 a2 h = some q) : j_rk h q.2 := by
  unfold f_X4_divide at hf
  obtain ⟨q1, e2, hf⟩ := j_bind hf
  refine j_rk_t ?_ ((rk_X4_power e2))
  obtain ⟨q3, e4, hf⟩ := j_bind hf
  refine j_rk_t ?_ ((rk_X4_of e4))
  obtain rfl := j_inj hf
  exact j_rk_refl _
theorem rk_X5_init {a0 : Nat} {h : JH} {q : Unit × JH} (hf : f_X5_init a0 h = some q) : j_rk h q.2 := by
  unfold f_X5_init at hf
  obtain ⟨q1, e2, hf⟩ := j_bind hf
  refine j_rk_trans (jnA_rk e2) ?_
  obtain ⟨h3, e4, hf⟩ := j_bind hf
  refine j_rk_trans (id (jput_rk e4)) ?_
  obtain ⟨q5, e6, hf⟩ := j_bind hf
  refine j_rk_trans (jnM_rk e6) ?_
  obtain ⟨h7, e8, hf⟩ := j_bind hf
  refine j_rk_trans (id (jput_rk e8)) ?_
  obtain ⟨q9, e10, hf⟩ := j_bind hf
  refine j_rk_trans (jnM_rk e10) ?_
  obtain ⟨h11, e12, hf⟩ := j_bind hf
  refine j_rk_trans (id (jput_rk e12)) ?_
  obtain ⟨q13, e14, hf⟩ := j_bind hf
  refine j_rk_trans (jnM_rk e14) ?_
  obtain ⟨h15, e16, hf⟩ := j_bind hf
  refine j_rk_trans (id (jput_rk e16)) ?_
  obtain rfl := j_inj hf
  exact j_rk_refl _
theorem rk_X11_lengthOf {a0 : Int32} {h : JH} {q : Int32 × JH} (hf : f_X11_lengthOf a0 h = some q) : j_rk h q.2 := by
  unfold f_X11_lengthOf at hf
  rcases j_ite hf with hf | hf
  ·
    obtain rfl := j_inj hf
    exact j_rk_refl _
  ·
    obtain rfl := j_inj hf
    exact j_rk_refl _
theorem rk_X11_cuspsOf {a0 : Int32} {h : JH} {q : Int32 × JH} (hf : f_X11_cuspsOf a0 h = some q) : j_rk h q.2 := by
  unfold f_X11_cuspsOf at hf
  obtain ⟨q1, e2, hf⟩ := j_bind hf
  refine j_rk_t ?_ ((rk_X11_lengthOf e2))
  obtain rfl := j_inj hf
  exact j_rk_refl _
theorem rk_X7_expand_L5 {a0 : Nat} {a1 : Nat} {a2 : Int32} {z : (Int64 × Int32)} {h : JH} {r : (Int64 × Int32) ⊕ (Int64 × Int32)} {h1 : JH} (hf : f_X7_expand_L5 a0 a1 a2 z h = some (r, h1)) : j_rk h h1 := by
  unfold f_X7_expand_L5 at hf
  obtain ⟨v1, e2, hf⟩ := j_bind hf
  rcases j_ite hf with hf | hf
  ·
    obtain ⟨rfl, rfl⟩ := j_inj2 hf
    exact j_rk_refl _
  ·
    obtain ⟨v3, e4, hf⟩ := j_bind hf
    obtain ⟨v5, e6, hf⟩ := j_bind hf
    obtain ⟨v7, e8, hf⟩ := j_bind hf
    obtain ⟨v9, e10, hf⟩ := j_bind hf
    obtain ⟨rfl, rfl⟩ := j_inj2 hf
    exact j_rk_refl _
theorem rk_X7_expand {a0 : Nat} {a1 : Nat} {a2 : Int32} {h : JH} {q : Int32 × JH} (hf : f_X7_expand a0 a1 a2 h = some q) : j_rk h q.2 := by
  unfold f_X7_expand at hf
  obtain ⟨q12, e13, hf⟩ := j_bind hf
  refine j_rk_t ?_ ((jloop_rk (fun _ _ _ _ q => rk_X7_expand_L5 q) e13))
  obtain ⟨v14, e15, hf⟩ := j_bind hf
  obtain ⟨q16, e17, hf⟩ := j_bind hf
  refine j_rk_t ?_ ((rk_X4_of e17))
  obtain rfl := j_inj hf
  exact j_rk_refl _
theorem rk_X7_heckeAt_L16 {a0 : Nat} {a1 : Nat} {a2 : Int32} {a3 : Int32} {z : (Int32 × Int32)} {h : JH} {r : (Int32 × Int32) ⊕ (Int32 × Int32)} {h1 : JH} (hf : f_X7_heckeAt_L16 a0 a1 a2 a3 z h = some (r, h1)) : j_rk h h1 := by
  unfold f_X7_heckeAt_L16 at hf
  rcases j_ite hf with hf | hf
  ·
    obtain ⟨rfl, rfl⟩ := j_inj2 hf
    exact j_rk_refl _
  ·
    obtain ⟨u3, e4, hf⟩ := j_bind hf
    rcases j_ite hf with hf | hf
    ·
      obtain ⟨u5, e6, hf⟩ := j_bind hf
      rcases j_ite hf with hf | hf
      ·
        obtain ⟨v7, e8, hf⟩ := j_bind hf
        obtain ⟨v9, e10, hf⟩ := j_bind hf
        obtain ⟨q11, e12, hf⟩ := j_bind hf
        refine j_rk_t ?_ ((rk_X4_power e12))
        obtain ⟨u13, e14, hf⟩ := j_bind hf
        obtain ⟨u15, e16, hf⟩ := j_bind hf
        obtain ⟨u23, e24, hf⟩ := j_bind hf
        obtain ⟨q17, e18, hf⟩ := j_bind hf
        refine j_rk_t ?_ ((rk_X7_expand e18))
        obtain ⟨v19, e20, hf⟩ := j_bind hf
        obtain ⟨q21, e22, hf⟩ := j_bind hf
        refine j_rk_t ?_ ((rk_X4_of e22))
        obtain ⟨rfl, rfl⟩ := j_inj2 hf
        exact j_rk_refl _
      ·
        obtain ⟨rfl, rfl⟩ := j_inj2 hf
        exact j_rk_refl _
    ·
      obtain ⟨rfl, rfl⟩ := j_inj2 hf
      exact j_rk_refl _
theorem rk_X7_heckeAt {a0 : Nat} {a1 : Nat} {a2 : Int32} {a3 : Int32} {h : JH} {q : Int32 × JH} (hf : f_X7_heckeAt a0 a1 a2 a3 h = some q) : j_rk h q.2 := by
  unfold f_X7_heckeAt at hf
  obtain ⟨v1, e2, hf⟩ := j_bind hf
  rcases j_ite hf with hf | hf
  ·
    obtain ⟨q28, e29, hf⟩ := j_bind hf
    refine j_rk_t ?_ ((jloop_rk (fun _ _ _ _ q => rk_X7_heckeAt_L16 q) e29))
    obtain rfl := j_inj hf
    exact j_rk_refl _
  ·
    obtain rfl := j_inj hf
    exact j_rk_refl _
theorem rk_X5_load_L32 {a0 : Nat} {a1 : Nat} {a2 : Int32} {a3 : Int32} {z : Int32} {h : JH} {r : Int32 ⊕ Int32} {h1 : JH} (hf : f_X5_load_L32 a0 a1 a2 a3 z h = some (r, h1)) : j_rk h h1 := by
  unfold f_X5_load_L32 at hf
  obtain ⟨v13, e14, hf⟩ := j_bind hf
  rcases j_ite hf with hf | hf
  ·
    obtain ⟨rfl, rfl⟩ := j_inj2 hf
    exact j_rk_refl _
  ·
    obtain ⟨v15, e16, hf⟩ := j_bind hf
    obtain ⟨v17, e18, hf⟩ := j_bind hf
    obtain ⟨v19, e20, hf⟩ := j_bind hf
    obtain ⟨v21, e22, hf⟩ := j_bind hf
    obtain ⟨u27, e28, hf⟩ := j_bind hf
    obtain ⟨q23, e24, hf⟩ := j_bind hf
    refine j_rk_t ?_ ((rk_X7_heckeAt e24))
    obtain ⟨h25, e26, hf⟩ := j_bind hf
    refine j_rk_t ?_ (jsI_rk e26)
    obtain ⟨rfl, rfl⟩ := j_inj2 hf
    exact j_rk_refl _
theorem rk_X5_load_L21 {a0 : Nat} {a1 : Nat} {a2 : Int32} {z : Int32} {h : JH} {r : Int32 ⊕ Int32} {h1 : JH} (hf : f_X5_load_L21 a0 a1 a2 z h = some (r, h1)) : j_rk h h1 := by
  unfold f_X5_load_L21 at hf
  obtain ⟨v11, e12, hf⟩ := j_bind hf
  rcases j_ite hf with hf | hf
  ·
    obtain ⟨rfl, rfl⟩ := j_inj2 hf
    exact j_rk_refl _
  ·
    obtain ⟨q13, e14, hf⟩ := j_bind hf
    refine j_rk_t ?_ ((jloop_rk (fun _ _ _ _ q => rk_X5_load_L32 q) e14))
    obtain ⟨rfl, rfl⟩ := j_inj2 hf
    exact j_rk_refl _
theorem rk_X5_load {a0 : Nat} {a1 : Nat} {a2 : Int32} {h : JH} {q : Unit × JH} (hf : f_X5_load a0 a1 a2 h = some q) : j_rk h q.2 := by
  unfold f_X5_load at hf
  obtain ⟨v1, e2, hf⟩ := j_bind hf
  obtain ⟨q3, e4, hf⟩ := j_bind hf
  refine j_rk_t ?_ ((rk_X11_cuspsOf e4))
  obtain ⟨h5, e6, hf⟩ := j_bind hf
  refine j_rk_t ?_ (jput_rk e6)
  obtain ⟨v7, e8, hf⟩ := j_bind hf
  obtain ⟨h9, e10, hf⟩ := j_bind hf
  refine j_rk_t ?_ (jput_rk e10)
  obtain ⟨q16, e17, hf⟩ := j_bind hf
  refine j_rk_t ?_ ((jloop_rk (fun _ _ _ _ q => rk_X5_load_L21 q) e17))
  obtain rfl := j_inj hf
  exact j_rk_refl _
theorem rk_X5_multiplyTableByWork_L25 {a0 : Nat} {a1 : Int32} {a2 : Int32} {z : (Int64 × Int32)} {h : JH} {r : (Int64 × Int32) ⊕ (Int64 × Int32)} {h1 : JH} (hf : f_X5_multiplyTableByWork_L25 a0 a1 a2 z h = some (r, h1)) : j_rk h h1 := by
  unfold f_X5_multiplyTableByWork_L25 at hf
  obtain ⟨v5, e6, hf⟩ := j_bind hf
  rcases j_ite hf with hf | hf
  ·
    obtain ⟨rfl, rfl⟩ := j_inj2 hf
    exact j_rk_refl _
  ·
    obtain ⟨v7, e8, hf⟩ := j_bind hf
    obtain ⟨v9, e10, hf⟩ := j_bind hf
    obtain ⟨v11, e12, hf⟩ := j_bind hf
    obtain ⟨v13, e14, hf⟩ := j_bind hf
    obtain ⟨v15, e16, hf⟩ := j_bind hf
    obtain ⟨v17, e18, hf⟩ := j_bind hf
    obtain ⟨rfl, rfl⟩ := j_inj2 hf
    exact j_rk_refl _
theorem rk_X5_multiplyTableByWork_L12 {a0 : Nat} {a1 : Int32} {z : Int32} {h : JH} {r : Int32 ⊕ Int32} {h1 : JH} (hf : f_X5_multiplyTableByWork_L12 a0 a1 z h = some (r, h1)) : j_rk h h1 := by
  unfold f_X5_multiplyTableByWork_L12 at hf
  obtain ⟨v3, e4, hf⟩ := j_bind hf
  rcases j_ite hf with hf | hf
  ·
    obtain ⟨rfl, rfl⟩ := j_inj2 hf
    exact j_rk_refl _
  ·
    obtain ⟨q5, e6, hf⟩ := j_bind hf
    refine j_rk_t ?_ ((jloop_rk (fun _ _ _ _ q => rk_X5_multiplyTableByWork_L25 q) e6))
    obtain ⟨v7, e8, hf⟩ := j_bind hf
    obtain ⟨v9, e10, hf⟩ := j_bind hf
    obtain ⟨v11, e12, hf⟩ := j_bind hf
    obtain ⟨q13, e14, hf⟩ := j_bind hf
    refine j_rk_t ?_ ((rk_X4_of e14))
    obtain ⟨h15, e16, hf⟩ := j_bind hf
    refine j_rk_t ?_ (jsI_rk e16)
    obtain ⟨rfl, rfl⟩ := j_inj2 hf
    exact j_rk_refl _
theorem rk_X5_multiplyTableByWork_L2 {a0 : Nat} {z : Int32} {h : JH} {r : Int32 ⊕ Int32} {h1 : JH} (hf : f_X5_multiplyTableByWork_L2 a0 z h = some (r, h1)) : j_rk h h1 := by
  unfold f_X5_multiplyTableByWork_L2 at hf
  obtain ⟨v1, e2, hf⟩ := j_bind hf
  rcases j_ite hf with hf | hf
  ·
    obtain ⟨rfl, rfl⟩ := j_inj2 hf
    exact j_rk_refl _
  ·
    obtain ⟨q3, e4, hf⟩ := j_bind hf
    refine j_rk_t ?_ ((jloop_rk (fun _ _ _ _ q => rk_X5_multiplyTableByWork_L12 q) e4))
    obtain ⟨rfl, rfl⟩ := j_inj2 hf
    exact j_rk_refl _
theorem rk_X5_multiplyTableByWork {a0 : Nat} {h : JH} {q : Unit × JH} (hf : f_X5_multiplyTableByWork a0 h = some q) : j_rk h q.2 := by
  unfold f_X5_multiplyTableByWork at hf
  obtain ⟨q6, e7, hf⟩ := j_bind hf
  refine j_rk_t ?_ ((jloop_rk (fun _ _ _ _ q => rk_X5_multiplyTableByWork_L2 q) e7))
  obtain rfl := j_inj hf
  exact j_rk_refl _
theorem rk_X5_takeProduct_L2 {a0 : Nat} {a1 : Int32} {z : Int32} {h : JH} {r : Int32 ⊕ Int32} {h1 : JH} (hf : f_X5_takeProduct_L2 a0 a1 z h = some (r, h1)) : j_rk h h1 := by
  unfold f_X5_takeProduct_L2 at hf
  obtain ⟨v1, e2, hf⟩ := j_bind hf
  rcases j_ite hf with hf | hf
  ·
    obtain ⟨rfl, rfl⟩ := j_inj2 hf
    exact j_rk_refl _
  ·
    obtain ⟨v3, e4, hf⟩ := j_bind hf
    obtain ⟨v5, e6, hf⟩ := j_bind hf
    obtain ⟨v7, e8, hf⟩ := j_bind hf
    obtain ⟨v9, e10, hf⟩ := j_bind hf
    obtain ⟨v11, e12, hf⟩ := j_bind hf
    obtain ⟨h13, e14, hf⟩ := j_bind hf
    refine j_rk_t ?_ (jcI_rk e14)
    obtain ⟨v15, e16, hf⟩ := j_bind hf
    obtain ⟨v17, e18, hf⟩ := j_bind hf
    obtain ⟨v19, e20, hf⟩ := j_bind hf
    obtain ⟨v21, e22, hf⟩ := j_bind hf
    obtain ⟨v23, e24, hf⟩ := j_bind hf
    obtain ⟨v25, e26, hf⟩ := j_bind hf
    obtain ⟨q27, e28, hf⟩ := j_bind hf
    refine j_rk_t ?_ ((rk_X4_of e28))
    obtain ⟨h29, e30, hf⟩ := j_bind hf
    refine j_rk_t ?_ (jsI_rk e30)
    obtain ⟨rfl, rfl⟩ := j_inj2 hf
    exact j_rk_refl _
theorem rk_X5_takeProduct {a0 : Nat} {a1 : Int32} {h : JH} {q : Unit × JH} (hf : f_X5_takeProduct a0 a1 h = some q) : j_rk h q.2 := by
  unfold f_X5_takeProduct at hf
  obtain ⟨q32, e33, hf⟩ := j_bind hf
  refine j_rk_t ?_ ((jloop_rk (fun _ _ _ _ q => rk_X5_takeProduct_L2 q) e33))
  obtain rfl := j_inj hf
  exact j_rk_refl _
theorem rk_X5_findPolynomial_L2 {a0 : Nat} {z : Int32} {h : JH} {r : Int32 ⊕ Int32} {h1 : JH} (hf : f_X5_findPolynomial_L2 a0 z h = some (r, h1)) : j_rk h h1 := by
  unfold f_X5_findPolynomial_L2 at hf
  obtain ⟨v1, e2, hf⟩ := j_bind hf
  rcases j_ite hf with hf | hf
  ·
    obtain ⟨rfl, rfl⟩ := j_inj2 hf
    exact j_rk_refl _
  ·
    obtain ⟨v3, e4, hf⟩ := j_bind hf
    obtain ⟨v5, e6, hf⟩ := j_bind hf
    obtain ⟨q7, e8, hf⟩ := j_bind hf
    refine j_rk_t ?_ ((rk_J7_fill_53178 e8))
    obtain ⟨rfl, rfl⟩ := j_inj2 hf
    exact j_rk_refl _
theorem rk_X5_findPolynomial_L72 {a0 : Nat} {a1 : Int32} {z : (Int64 × Int32)} {h : JH} {r : (Int64 × Int32) ⊕ (Int64 × Int32)} {h1 : JH} (hf : f_X5_findPolynomial_L72 a0 a1 z h = some (r, h1)) : j_rk h h1 := by
  unfold f_X5_findPolynomial_L72 at hf
  obtain ⟨v30, e31, hf⟩ := j_bind hf
  rcases j_ite hf with hf | hf
  ·
    obtain ⟨rfl, rfl⟩ := j_inj2 hf
    exact j_rk_refl _
  ·
    obtain ⟨v32, e33, hf⟩ := j_bind hf
    obtain ⟨v34, e35, hf⟩ := j_bind hf
    obtain ⟨v36, e37, hf⟩ := j_bind hf
    obtain ⟨rfl, rfl⟩ := j_inj2 hf
    exact j_rk_refl _
theorem rk_X5_findPolynomial_L38 {a0 : Nat} {z : Int32} {h : JH} {r : Int32 ⊕ Int32} {h1 : JH} (hf : f_X5_findPolynomial_L38 a0 z h = some (r, h1)) : j_rk h h1 := by
  unfold f_X5_findPolynomial_L38 at hf
  obtain ⟨v18, e19, hf⟩ := j_bind hf
  rcases j_ite hf with hf | hf
  ·
    obtain ⟨rfl, rfl⟩ := j_inj2 hf
    exact j_rk_refl _
  ·
    obtain ⟨v20, e21, hf⟩ := j_bind hf
    obtain ⟨v22, e23, hf⟩ := j_bind hf
    obtain ⟨v24, e25, hf⟩ := j_bind hf
    obtain ⟨u48, e49, hf⟩ := j_bind hf
    obtain ⟨q26, e27, hf⟩ := j_bind hf
    refine j_rk_t ?_ ((rk_X5_takeProduct e27))
    obtain ⟨u46, e47, hf⟩ := j_bind hf
    obtain ⟨q28, e29, hf⟩ := j_bind hf
    refine j_rk_t ?_ ((rk_X5_multiplyTableByWork e29))
    obtain ⟨q30, e31, hf⟩ := j_bind hf
    refine j_rk_t ?_ ((jloop_rk (fun _ _ _ _ q => rk_X5_findPolynomial_L72 q) e31))
    obtain ⟨v32, e33, hf⟩ := j_bind hf
    obtain ⟨v34, e35, hf⟩ := j_bind hf
    obtain ⟨v36, e37, hf⟩ := j_bind hf
    obtain ⟨q38, e39, hf⟩ := j_bind hf
    refine j_rk_t ?_ ((rk_X4_of e39))
    obtain ⟨v40, e41, hf⟩ := j_bind hf
    obtain ⟨q42, e43, hf⟩ := j_bind hf
    refine j_rk_t ?_ ((rk_X4_divide e43))
    obtain ⟨h44, e45, hf⟩ := j_bind hf
    refine j_rk_t ?_ (jsI_rk e45)
    obtain ⟨rfl, rfl⟩ := j_inj2 hf
    exact j_rk_refl _
theorem rk_X5_findPolynomial {a0 : Nat} {h : JH} {q : Unit × JH} (hf : f_X5_findPolynomial a0 h = some q) : j_rk h q.2 := by
  unfold f_X5_findPolynomial at hf
  obtain ⟨q10, e11, hf⟩ := j_bind hf
  refine j_rk_t ?_ ((jloop_rk (fun _ _ _ _ q => rk_X5_findPolynomial_L2 q) e11))
  obtain ⟨v12, e13, hf⟩ := j_bind hf
  obtain ⟨v14, e15, hf⟩ := j_bind hf
  obtain ⟨h16, e17, hf⟩ := j_bind hf
  refine j_rk_t ?_ (jsI_rk e17)
  obtain ⟨q51, e52, hf⟩ := j_bind hf
  refine j_rk_t ?_ ((jloop_rk (fun _ _ _ _ q => rk_X5_findPolynomial_L38 q) e52))
  obtain rfl := j_inj hf
  exact j_rk_refl _
theorem rk_X5_polynomialAt_L7 {a0 : Nat} {a1 : Int32} {z : (Int32 × Int32)} {h : JH} {r : (Int32 × Int32) ⊕ (Int32 × Int32)} {h1 : JH} (hf : f_X5_polynomialAt_L7 a0 a1 z h = some (r, h1)) : j_rk h h1 := by
  unfold f_X5_polynomialAt_L7 at hf
  rcases j_ite hf with hf | hf
  ·
    obtain ⟨rfl, rfl⟩ := j_inj2 hf
    exact j_rk_refl _
  ·
    obtain ⟨v3, e4, hf⟩ := j_bind hf
    obtain ⟨v5, e6, hf⟩ := j_bind hf
    obtain ⟨v7, e8, hf⟩ := j_bind hf
    obtain ⟨q9, e10, hf⟩ := j_bind hf
    refine j_rk_t ?_ ((rk_X4_of e10))
    obtain ⟨rfl, rfl⟩ := j_inj2 hf
    exact j_rk_refl _
theorem rk_X5_polynomialAt {a0 : Nat} {a1 : Int32} {h : JH} {q : Int32 × JH} (hf : f_X5_polynomialAt a0 a1 h = some q) : j_rk h q.2 := by
  unfold f_X5_polynomialAt at hf
  obtain ⟨v1, e2, hf⟩ := j_bind hf
  obtain ⟨q12, e13, hf⟩ := j_bind hf
  refine j_rk_t ?_ ((jloop_rk (fun _ _ _ _ q => rk_X5_polynomialAt_L7 q) e13))
  obtain rfl := j_inj hf
  exact j_rk_refl _
theorem rk_X5_findRoots_L4 {a0 : Nat} {a1 : Nat} {z : (Int32 × Int32)} {h : JH} {r : (Int32 × Int32) ⊕ (Int32 × Int32)} {h1 : JH} (hf : f_X5_findRoots_L4 a0 a1 z h = some (r, h1)) : j_rk h h1 := by
  unfold f_X5_findRoots_L4 at hf
  obtain ⟨v1, e2, hf⟩ := j_bind hf
  rcases j_ite hf with hf | hf
  ·
    obtain ⟨rfl, rfl⟩ := j_inj2 hf
    exact j_rk_refl _
  ·
    obtain ⟨v3, e4, hf⟩ := j_bind hf
    rcases j_ite hf with hf | hf
    ·
      obtain ⟨rfl, rfl⟩ := j_inj2 hf
      exact j_rk_refl _
    ·
      obtain ⟨u9, e10, hf⟩ := j_bind hf
      obtain ⟨q5, e6, hf⟩ := j_bind hf
      refine j_rk_t ?_ ((rk_X5_polynomialAt e6))
      rcases j_ite hf with hf | hf
      ·
        obtain ⟨h7, e8, hf⟩ := j_bind hf
        refine j_rk_t ?_ (jsI_rk e8)
        obtain ⟨rfl, rfl⟩ := j_inj2 hf
        exact j_rk_refl _
      ·
        obtain ⟨rfl, rfl⟩ := j_inj2 hf
        exact j_rk_refl _
theorem rk_X5_findRoots {a0 : Nat} {a1 : Nat} {h : JH} {q : Int32 × JH} (hf : f_X5_findRoots a0 a1 h = some q) : j_rk h q.2 := by
  unfold f_X5_findRoots at hf
  obtain ⟨q14, e15, hf⟩ := j_bind hf
  refine j_rk_t ?_ ((jloop_rk (fun _ _ _ _ q => rk_X5_findRoots_L4 q) e15))
  obtain rfl := j_inj hf
  exact j_rk_refl _
theorem rk_X5_clearColumn_L19 {a0 : Nat} {a1 : Int32} {a2 : Int32} {z : Int32} {h : JH} {r : Int32 ⊕ Int32} {h1 : JH} (hf : f_X5_clearColumn_L19 a0 a1 a2 z h = some (r, h1)) : j_rk h h1 := by
  unfold f_X5_clearColumn_L19 at hf
  obtain ⟨v11, e12, hf⟩ := j_bind hf
  rcases j_ite hf with hf | hf
  ·
    obtain ⟨rfl, rfl⟩ := j_inj2 hf
    exact j_rk_refl _
  ·
    obtain ⟨v13, e14, hf⟩ := j_bind hf
    obtain ⟨v15, e16, hf⟩ := j_bind hf
    obtain ⟨v17, e18, hf⟩ := j_bind hf
    obtain ⟨v19, e20, hf⟩ := j_bind hf
    obtain ⟨v21, e22, hf⟩ := j_bind hf
    obtain ⟨v23, e24, hf⟩ := j_bind hf
    obtain ⟨q25, e26, hf⟩ := j_bind hf
    refine j_rk_t ?_ ((rk_X4_of e26))
    obtain ⟨h27, e28, hf⟩ := j_bind hf
    refine j_rk_t ?_ (jsI_rk e28)
    obtain ⟨rfl, rfl⟩ := j_inj2 hf
    exact j_rk_refl _
theorem rk_X5_clearColumn_L93 {a0 : Nat} {a1 : Int32} {a3 : Int32} {a4 : Int32} {z : Int32} {h : JH} {r : Int32 ⊕ Int32} {h1 : JH} (hf : f_X5_clearColumn_L93 a0 a1 a3 a4 z h = some (r, h1)) : j_rk h h1 := by
  unfold f_X5_clearColumn_L93 at hf
  obtain ⟨v40, e41, hf⟩ := j_bind hf
  rcases j_ite hf with hf | hf
  ·
    obtain ⟨rfl, rfl⟩ := j_inj2 hf
    exact j_rk_refl _
  ·
    obtain ⟨v42, e43, hf⟩ := j_bind hf
    obtain ⟨v44, e45, hf⟩ := j_bind hf
    obtain ⟨v46, e47, hf⟩ := j_bind hf
    obtain ⟨v48, e49, hf⟩ := j_bind hf
    obtain ⟨v50, e51, hf⟩ := j_bind hf
    obtain ⟨v52, e53, hf⟩ := j_bind hf
    obtain ⟨v54, e55, hf⟩ := j_bind hf
    obtain ⟨v56, e57, hf⟩ := j_bind hf
    obtain ⟨v58, e59, hf⟩ := j_bind hf
    obtain ⟨q60, e61, hf⟩ := j_bind hf
    refine j_rk_t ?_ ((rk_X4_of e61))
    obtain ⟨h62, e63, hf⟩ := j_bind hf
    refine j_rk_t ?_ (jsI_rk e63)
    obtain ⟨rfl, rfl⟩ := j_inj2 hf
    exact j_rk_refl _
theorem rk_X5_clearColumn_L62 {a0 : Nat} {a1 : Int32} {z : Int32} {h : JH} {r : Int32 ⊕ Int32} {h1 : JH} (hf : f_X5_clearColumn_L62 a0 a1 z h = some (r, h1)) : j_rk h h1 := by
  unfold f_X5_clearColumn_L62 at hf
  obtain ⟨v32, e33, hf⟩ := j_bind hf
  rcases j_ite hf with hf | hf
  ·
    obtain ⟨rfl, rfl⟩ := j_inj2 hf
    exact j_rk_refl _
  ·
    obtain ⟨v34, e35, hf⟩ := j_bind hf
    obtain ⟨v36, e37, hf⟩ := j_bind hf
    obtain ⟨v38, e39, hf⟩ := j_bind hf
    rcases j_ite hf with hf | hf
    ·
      obtain ⟨rfl, rfl⟩ := j_inj2 hf
      exact j_rk_refl _
    ·
      rcases j_ite hf with hf | hf
      ·
        obtain ⟨rfl, rfl⟩ := j_inj2 hf
        exact j_rk_refl _
      ·
        obtain ⟨q40, e41, hf⟩ := j_bind hf
        refine j_rk_t ?_ ((jloop_rk (fun _ _ _ _ q => rk_X5_clearColumn_L93 q) e41))
        obtain ⟨rfl, rfl⟩ := j_inj2 hf
        exact j_rk_refl _
theorem rk_X5_clearColumn {a0 : Nat} {a1 : Int32} {h : JH} {q : Unit × JH} (hf : f_X5_clearColumn a0 a1 h = some q) : j_rk h q.2 := by
  unfold f_X5_clearColumn at hf
  obtain ⟨v1, e2, hf⟩ := j_bind hf
  obtain ⟨v3, e4, hf⟩ := j_bind hf
  obtain ⟨v5, e6, hf⟩ := j_bind hf
  obtain ⟨v7, e8, hf⟩ := j_bind hf
  obtain ⟨q9, e10, hf⟩ := j_bind hf
  refine j_rk_t ?_ ((rk_X4_divide e10))
  obtain ⟨q30, e31, hf⟩ := j_bind hf
  refine j_rk_t ?_ ((jloop_rk (fun _ _ _ _ q => rk_X5_clearColumn_L19 q) e31))
  obtain ⟨q45, e46, hf⟩ := j_bind hf
  refine j_rk_t ?_ ((jloop_rk (fun _ _ _ _ q => rk_X5_clearColumn_L62 q) e46))
  obtain rfl := j_inj hf
  exact j_rk_refl _
theorem rk_X5_layEquations_L12 {a0 : Nat} {a1 : Int32} {a2 : Int32} {z : Int32} {h : JH} {r : Int32 ⊕ Int32} {h1 : JH} (hf : f_X5_layEquations_L12 a0 a1 a2 z h = some (r, h1)) : j_rk h h1 := by
  unfold f_X5_layEquations_L12 at hf
  obtain ⟨v3, e4, hf⟩ := j_bind hf
  rcases j_ite hf with hf | hf
  ·
    obtain ⟨rfl, rfl⟩ := j_inj2 hf
    exact j_rk_refl _
  ·
    obtain ⟨v5, e6, hf⟩ := j_bind hf
    obtain ⟨v7, e8, hf⟩ := j_bind hf
    obtain ⟨v9, e10, hf⟩ := j_bind hf
    obtain ⟨v11, e12, hf⟩ := j_bind hf
    obtain ⟨v13, e14, hf⟩ := j_bind hf
    rcases j_ite hf with hf | hf
    ·
      obtain ⟨v21, e22, hf⟩ := j_bind hf
      obtain ⟨q23, e24, hf⟩ := j_bind hf
      refine j_rk_t ?_ ((rk_X4_of e24))
      obtain ⟨h25, e26, hf⟩ := j_bind hf
      refine j_rk_t ?_ (jsI_rk e26)
      obtain ⟨rfl, rfl⟩ := j_inj2 hf
      exact j_rk_refl _
    ·
      obtain ⟨v15, e16, hf⟩ := j_bind hf
      obtain ⟨q17, e18, hf⟩ := j_bind hf
      refine j_rk_t ?_ ((rk_X4_of e18))
      obtain ⟨h19, e20, hf⟩ := j_bind hf
      refine j_rk_t ?_ (jsI_rk e20)
      obtain ⟨rfl, rfl⟩ := j_inj2 hf
      exact j_rk_refl _
theorem rk_X5_layEquations_L2 {a0 : Nat} {a1 : Int32} {z : Int32} {h : JH} {r : Int32 ⊕ Int32} {h1 : JH} (hf : f_X5_layEquations_L2 a0 a1 z h = some (r, h1)) : j_rk h h1 := by
  unfold f_X5_layEquations_L2 at hf
  obtain ⟨v1, e2, hf⟩ := j_bind hf
  rcases j_ite hf with hf | hf
  ·
    obtain ⟨rfl, rfl⟩ := j_inj2 hf
    exact j_rk_refl _
  ·
    obtain ⟨q3, e4, hf⟩ := j_bind hf
    refine j_rk_t ?_ ((jloop_rk (fun _ _ _ _ q => rk_X5_layEquations_L12 q) e4))
    obtain ⟨v5, e6, hf⟩ := j_bind hf
    obtain ⟨v7, e8, hf⟩ := j_bind hf
    obtain ⟨v9, e10, hf⟩ := j_bind hf
    rcases j_ite hf with hf | hf
    ·
      obtain ⟨v23, e24, hf⟩ := j_bind hf
      obtain ⟨v25, e26, hf⟩ := j_bind hf
      obtain ⟨v27, e28, hf⟩ := j_bind hf
      obtain ⟨v29, e30, hf⟩ := j_bind hf
      obtain ⟨q31, e32, hf⟩ := j_bind hf
      refine j_rk_t ?_ ((rk_X4_of e32))
      obtain ⟨h33, e34, hf⟩ := j_bind hf
      refine j_rk_t ?_ (jsI_rk e34)
      obtain ⟨rfl, rfl⟩ := j_inj2 hf
      exact j_rk_refl _
    ·
      obtain ⟨v11, e12, hf⟩ := j_bind hf
      obtain ⟨v13, e14, hf⟩ := j_bind hf
      obtain ⟨v15, e16, hf⟩ := j_bind hf
      obtain ⟨v17, e18, hf⟩ := j_bind hf
      obtain ⟨q19, e20, hf⟩ := j_bind hf
      refine j_rk_t ?_ ((rk_X4_of e20))
      obtain ⟨h21, e22, hf⟩ := j_bind hf
      refine j_rk_t ?_ (jsI_rk e22)
      obtain ⟨rfl, rfl⟩ := j_inj2 hf
      exact j_rk_refl _
theorem rk_X5_layEquations {a0 : Nat} {a1 : Int32} {h : JH} {q : Unit × JH} (hf : f_X5_layEquations a0 a1 h = some q) : j_rk h q.2 := by
  unfold f_X5_layEquations at hf
  obtain ⟨q37, e38, hf⟩ := j_bind hf
  refine j_rk_t ?_ ((jloop_rk (fun _ _ _ _ q => rk_X5_layEquations_L2 q) e38))
  obtain rfl := j_inj hf
  exact j_rk_refl _
theorem rk_X5_exchange_L2 {a0 : Nat} {a1 : Nat} {a2 : Nat} {z : Int32} {h : JH} {r : Int32 ⊕ Int32} {h1 : JH} (hf : f_X5_exchange_L2 a0 a1 a2 z h = some (r, h1)) : j_rk h h1 := by
  unfold f_X5_exchange_L2 at hf
  obtain ⟨v1, e2, hf⟩ := j_bind hf
  rcases j_ite hf with hf | hf
  ·
    obtain ⟨rfl, rfl⟩ := j_inj2 hf
    exact j_rk_refl _
  ·
    obtain ⟨v3, e4, hf⟩ := j_bind hf
    obtain ⟨v5, e6, hf⟩ := j_bind hf
    obtain ⟨h7, e8, hf⟩ := j_bind hf
    refine j_rk_t ?_ (jsI_rk e8)
    obtain ⟨h9, e10, hf⟩ := j_bind hf
    refine j_rk_t ?_ (jsI_rk e10)
    obtain ⟨rfl, rfl⟩ := j_inj2 hf
    exact j_rk_refl _
theorem rk_X5_exchange {a0 : Nat} {a1 : Nat} {a2 : Nat} {h : JH} {q : Unit × JH} (hf : f_X5_exchange a0 a1 a2 h = some q) : j_rk h q.2 := by
  unfold f_X5_exchange at hf
  obtain ⟨q12, e13, hf⟩ := j_bind hf
  refine j_rk_t ?_ ((jloop_rk (fun _ _ _ _ q => rk_X5_exchange_L2 q) e13))
  obtain rfl := j_inj hf
  exact j_rk_refl _
theorem rk_X5_liftPivot_L2 {a0 : Nat} {a1 : Int32} {z : Int32} {h : JH} {r : Int32 ⊕ (Int32 ⊕ Int32)} {h1 : JH} (hf : f_X5_liftPivot_L2 a0 a1 z h = some (r, h1)) : j_rk h h1 := by
  unfold f_X5_liftPivot_L2 at hf
  obtain ⟨v1, e2, hf⟩ := j_bind hf
  rcases j_ite hf with hf | hf
  ·
    obtain ⟨rfl, rfl⟩ := j_inj2 hf
    exact j_rk_refl _
  ·
    obtain ⟨v3, e4, hf⟩ := j_bind hf
    obtain ⟨v5, e6, hf⟩ := j_bind hf
    obtain ⟨v7, e8, hf⟩ := j_bind hf
    rcases j_ite hf with hf | hf
    ·
      obtain ⟨rfl, rfl⟩ := j_inj2 hf
      exact j_rk_refl _
    ·
      obtain ⟨v9, e10, hf⟩ := j_bind hf
      obtain ⟨v11, e12, hf⟩ := j_bind hf
      obtain ⟨v13, e14, hf⟩ := j_bind hf
      obtain ⟨v15, e16, hf⟩ := j_bind hf
      obtain ⟨u19, e20, hf⟩ := j_bind hf
      obtain ⟨q17, e18, hf⟩ := j_bind hf
      refine j_rk_t ?_ ((rk_X5_exchange e18))
      obtain ⟨rfl, rfl⟩ := j_inj2 hf
      exact j_rk_refl _
theorem rk_X5_liftPivot {a0 : Nat} {a1 : Int32} {h : JH} {q : Int32 × JH} (hf : f_X5_liftPivot a0 a1 h = some q) : j_rk h q.2 := by
  unfold f_X5_liftPivot at hf
  obtain ⟨q23, e24, hf⟩ := j_bind hf
  refine j_rk_t ?_ ((jloop_rk (fun _ _ _ _ q => rk_X5_liftPivot_L2 q) e24))
  cases y27 : q23.1 with
  | inl r26 =>
    rw [y27] at hf
    have hf := j_eliml hf
    obtain rfl := j_inj hf
    exact j_rk_refl _
  | inr t25 =>
    rw [y27] at hf
    have hf := j_elimr hf
    obtain rfl := j_inj hf
    exact j_rk_refl _
theorem rk_X5_findOwn_L15 {a0 : Nat} {a2 : Nat} {a3 : Int32} {z : Int32} {h : JH} {r : Int32 ⊕ (Int32 ⊕ Int32)} {h1 : JH} (hf : f_X5_findOwn_L15 a0 a2 a3 z h = some (r, h1)) : j_rk h h1 := by
  unfold f_X5_findOwn_L15 at hf
  rcases j_ite hf with hf | hf
  ·
    obtain ⟨rfl, rfl⟩ := j_inj2 hf
    exact j_rk_refl _
  ·
    obtain ⟨u11, e12, hf⟩ := j_bind hf
    obtain ⟨q5, e6, hf⟩ := j_bind hf
    refine j_rk_t ?_ ((rk_X5_liftPivot e6))
    rcases j_ite hf with hf | hf
    ·
      obtain ⟨rfl, rfl⟩ := j_inj2 hf
      exact j_rk_refl _
    ·
      obtain ⟨u9, e10, hf⟩ := j_bind hf
      obtain ⟨q7, e8, hf⟩ := j_bind hf
      refine j_rk_t ?_ ((rk_X5_clearColumn e8))
      obtain ⟨rfl, rfl⟩ := j_inj2 hf
      exact j_rk_refl _
theorem rk_X5_findOwn_L68 {a0 : Nat} {a2 : Nat} {a3 : Int32} {z : Int32} {h : JH} {r : Int32 ⊕ Int32} {h1 : JH} (hf : f_X5_findOwn_L68 a0 a2 a3 z h = some (r, h1)) : j_rk h h1 := by
  unfold f_X5_findOwn_L68 at hf
  rcases j_ite hf with hf | hf
  ·
    obtain ⟨rfl, rfl⟩ := j_inj2 hf
    exact j_rk_refl _
  ·
    obtain ⟨v27, e28, hf⟩ := j_bind hf
    obtain ⟨v29, e30, hf⟩ := j_bind hf
    obtain ⟨v31, e32, hf⟩ := j_bind hf
    obtain ⟨h33, e34, hf⟩ := j_bind hf
    refine j_rk_t ?_ (jsI_rk e34)
    obtain ⟨rfl, rfl⟩ := j_inj2 hf
    exact j_rk_refl _
theorem rk_X5_findOwn {a0 : Nat} {a1 : Int32} {a2 : Nat} {h : JH} {q : Int32 × JH} (hf : f_X5_findOwn a0 a1 a2 h = some q) : j_rk h q.2 := by
  unfold f_X5_findOwn at hf
  obtain ⟨u38, e39, hf⟩ := j_bind hf
  obtain ⟨q1, e2, hf⟩ := j_bind hf
  refine j_rk_t ?_ ((rk_X5_layEquations e2))
  obtain ⟨v3, e4, hf⟩ := j_bind hf
  obtain ⟨q15, e16, hf⟩ := j_bind hf
  refine j_rk_t ?_ ((jloop_rk (fun _ _ _ _ q => rk_X5_findOwn_L15 q) e16))
  cases y40 : q15.1 with
  | inl r18 =>
    rw [y40] at hf
    have hf := j_eliml hf
    obtain rfl := j_inj hf
    exact j_rk_refl _
  | inr t17 =>
    rw [y40] at hf
    have hf := j_elimr hf
    rcases j_ite hf with hf | hf
    ·
      obtain rfl := j_inj hf
      exact j_rk_refl _
    ·
      obtain ⟨v19, e20, hf⟩ := j_bind hf
      obtain ⟨v21, e22, hf⟩ := j_bind hf
      obtain ⟨v23, e24, hf⟩ := j_bind hf
      rcases j_ite hf with hf | hf
      ·
        obtain ⟨h25, e26, hf⟩ := j_bind hf
        refine j_rk_t ?_ (jsI_rk e26)
        obtain ⟨q36, e37, hf⟩ := j_bind hf
        refine j_rk_t ?_ ((jloop_rk (fun _ _ _ _ q => rk_X5_findOwn_L68 q) e37))
        obtain rfl := j_inj hf
        exact j_rk_refl _
      ·
        obtain rfl := j_inj hf
        exact j_rk_refl _
theorem rk_X6_numbersInRow {a0 : Nat} {h : JH} {q : Int32 × JH} (hf : f_X6_numbersInRow a0 h = some q) : j_rk h q.2 := by
  unfold f_X6_numbersInRow at hf
  obtain ⟨v1, e2, hf⟩ := j_bind hf
  rcases j_ite hf with hf | hf
  ·
    obtain rfl := j_inj hf
    exact j_rk_refl _
  ·
    obtain rfl := j_inj hf
    exact j_rk_refl _
theorem rk_X6_empty_L2 {a0 : Nat} {z : Int32} {h : JH} {r : Int32 ⊕ Int32} {h1 : JH} (hf : f_X6_empty_L2 a0 z h = some (r, h1)) : j_rk h h1 := by
  unfold f_X6_empty_L2 at hf
  rcases j_ite hf with hf | hf
  ·
    obtain ⟨rfl, rfl⟩ := j_inj2 hf
    exact j_rk_refl _
  ·
    obtain ⟨v1, e2, hf⟩ := j_bind hf
    obtain ⟨h3, e4, hf⟩ := j_bind hf
    refine j_rk_t ?_ (jsB_rk e4)
    obtain ⟨rfl, rfl⟩ := j_inj2 hf
    exact j_rk_refl _
theorem rk_X6_empty {a0 : Nat} {h : JH} {q : Unit × JH} (hf : f_X6_empty a0 h = some q) : j_rk h q.2 := by
  unfold f_X6_empty at hf
  obtain ⟨q6, e7, hf⟩ := j_bind hf
  refine j_rk_t ?_ ((jloop_rk (fun _ _ _ _ q => rk_X6_empty_L2 q) e7))
  obtain rfl := j_inj hf
  exact j_rk_refl _
theorem rk_X7_init {a0 : Nat} {a1 : Int32} {h : JH} {q : Unit × JH} (hf : f_X7_init a0 a1 h = some q) : j_rk h q.2 := by
  unfold f_X7_init at hf
  obtain ⟨q1, e2, hf⟩ := j_bind hf
  refine j_rk_trans (jnM_rk e2) ?_
  obtain ⟨h3, e4, hf⟩ := j_bind hf
  refine j_rk_trans (id (jput_rk e4)) ?_
  obtain ⟨q5, e6, hf⟩ := j_bind hf
  refine j_rk_trans (jnA_rk e6) ?_
  obtain ⟨h7, e8, hf⟩ := j_bind hf
  refine j_rk_trans (id (jput_rk e8)) ?_
  obtain ⟨h9, e10, hf⟩ := j_bind hf
  refine j_rk_trans (id (jput_rk e10)) ?_
  obtain ⟨q11, e12, hf⟩ := j_bind hf
  refine j_rk_trans (id ((rk_X11_lengthOf e12))) ?_
  obtain ⟨h13, e14, hf⟩ := j_bind hf
  refine j_rk_trans (id (jput_rk e14)) ?_
  obtain rfl := j_inj hf
  exact j_rk_refl _
theorem rk_X7_isReady {a0 : Nat} {a1 : Int32} {a2 : Int32} {h : JH} {q : Int32 × JH} (hf : f_X7_isReady a0 a1 a2 h = some q) : j_rk h q.2 := by
  unfold f_X7_isReady at hf
  obtain ⟨v1, e2, hf⟩ := j_bind hf
  rcases j_ite hf with hf | hf
  ·
    obtain ⟨v3, e4, hf⟩ := j_bind hf
    rcases j_ite hf with hf | hf
    ·
      obtain rfl := j_inj hf
      exact j_rk_refl _
    ·
      obtain rfl := j_inj hf
      exact j_rk_refl _
  ·
    obtain rfl := j_inj hf
    exact j_rk_refl _
theorem rk_X7_begin {a0 : Nat} {a1 : Int32} {a2 : Int32} {h : JH} {q : Unit × JH} (hf : f_X7_begin a0 a1 a2 h = some q) : j_rk h q.2 := by
  unfold f_X7_begin at hf
  obtain ⟨h1, e2, hf⟩ := j_bind hf
  refine j_rk_trans (id (jput_rk e2)) ?_
  obtain ⟨h3, e4, hf⟩ := j_bind hf
  refine j_rk_trans (id (jput_rk e4)) ?_
  obtain ⟨v5, e6, hf⟩ := j_bind hf
  obtain ⟨v7, e8, hf⟩ := j_bind hf
  obtain ⟨v9, e10, hf⟩ := j_bind hf
  rcases j_ite hf with hf | hf
  ·
    obtain rfl := j_inj hf
    exact j_rk_refl _
  ·
    obtain ⟨v11, e12, hf⟩ := j_bind hf
    obtain ⟨q13, e14, hf⟩ := j_bind hf
    refine j_rk_trans (jnM_rk e14) ?_
    obtain ⟨h15, e16, hf⟩ := j_bind hf
    refine j_rk_trans (id (jput_rk e16)) ?_
    obtain rfl := j_inj hf
    exact j_rk_refl _
theorem rk_X7_factorOfSums {a0 : Nat} {h : JH} {q : Int32 × JH} (hf : f_X7_factorOfSums a0 h = some q) : j_rk h q.2 := by
  unfold f_X7_factorOfSums at hf
  obtain ⟨v1, e2, hf⟩ := j_bind hf
  rcases j_ite hf with hf | hf
  ·
    obtain rfl := j_inj hf
    exact j_rk_refl _
  rcases j_ite hf with hf | hf
  ·
    obtain rfl := j_inj hf
    exact j_rk_refl _
  rcases j_ite hf with hf | hf
  ·
    obtain rfl := j_inj hf
    exact j_rk_refl _
  rcases j_ite hf with hf | hf
  ·
    obtain rfl := j_inj hf
    exact j_rk_refl _
  rcases j_ite hf with hf | hf
  ·
    obtain rfl := j_inj hf
    exact j_rk_refl _
  obtain rfl := j_inj hf
  exact j_rk_refl _
theorem rk_X7_makeAlone_L65 {a0 : Nat} {a3 : Nat} {a4 : Int32} {a5 : Int32} {a6 : Int32} {z : Int32} {h : JH} {r : Int32 ⊕ Int32} {h1 : JH} (hf : f_X7_makeAlone_L65 a0 a3 a4 a5 a6 z h = some (r, h1)) : j_rk h h1 := by
  unfold f_X7_makeAlone_L65 at hf
  obtain ⟨v23, e24, hf⟩ := j_bind hf
  rcases j_ite hf with hf | hf
  ·
    obtain ⟨rfl, rfl⟩ := j_inj2 hf
    exact j_rk_refl _
  ·
    obtain ⟨v25, e26, hf⟩ := j_bind hf
    obtain ⟨h27, e28, hf⟩ := j_bind hf
    refine j_rk_t ?_ (jsI_rk e28)
    obtain ⟨rfl, rfl⟩ := j_inj2 hf
    exact j_rk_refl _
theorem rk_X7_makeAlone_L35 {a0 : Nat} {a3 : Nat} {a4 : Int32} {z : Int32} {h : JH} {r : Int32 ⊕ Int32} {h1 : JH} (hf : f_X7_makeAlone_L35 a0 a3 a4 z h = some (r, h1)) : j_rk h h1 := by
  unfold f_X7_makeAlone_L35 at hf
  obtain ⟨v15, e16, hf⟩ := j_bind hf
  rcases j_ite hf with hf | hf
  ·
    obtain ⟨rfl, rfl⟩ := j_inj2 hf
    exact j_rk_refl _
  ·
    obtain ⟨v17, e18, hf⟩ := j_bind hf
    obtain ⟨v19, e20, hf⟩ := j_bind hf
    obtain ⟨q21, e22, hf⟩ := j_bind hf
    refine j_rk_t ?_ ((rk_X4_power e22))
    obtain ⟨q23, e24, hf⟩ := j_bind hf
    refine j_rk_t ?_ ((jloop_rk (fun _ _ _ _ q => rk_X7_makeAlone_L65 q) e24))
    obtain ⟨rfl, rfl⟩ := j_inj2 hf
    exact j_rk_refl _
theorem rk_X7_makeAlone_L102 {a0 : Nat} {a3 : Nat} {a4 : Int32} {z : Int32} {h : JH} {r : Int32 ⊕ Int32} {h1 : JH} (hf : f_X7_makeAlone_L102 a0 a3 a4 z h = some (r, h1)) : j_rk h h1 := by
  unfold f_X7_makeAlone_L102 at hf
  obtain ⟨v28, e29, hf⟩ := j_bind hf
  rcases j_ite hf with hf | hf
  ·
    obtain ⟨rfl, rfl⟩ := j_inj2 hf
    exact j_rk_refl _
  ·
    obtain ⟨v30, e31, hf⟩ := j_bind hf
    obtain ⟨v32, e33, hf⟩ := j_bind hf
    obtain ⟨q34, e35, hf⟩ := j_bind hf
    refine j_rk_t ?_ ((rk_X4_of e35))
    obtain ⟨h36, e37, hf⟩ := j_bind hf
    refine j_rk_t ?_ (jsI_rk e37)
    obtain ⟨rfl, rfl⟩ := j_inj2 hf
    exact j_rk_refl _
theorem rk_X7_makeAlone {a0 : Nat} {a1 : Int32} {a2 : Int32} {h : JH} {q : Unit × JH} (hf : f_X7_makeAlone a0 a1 a2 h = some q) : j_rk h q.2 := by
  unfold f_X7_makeAlone at hf
  obtain ⟨u45, e46, hf⟩ := j_bind hf
  obtain ⟨q1, e2, hf⟩ := j_bind hf
  refine j_rk_trans (rk_X7_begin e2) ?_
  obtain ⟨v3, e4, hf⟩ := j_bind hf
  obtain ⟨v5, e6, hf⟩ := j_bind hf
  obtain ⟨q7, e8, hf⟩ := j_bind hf
  refine j_rk_trans (id ((rk_J7_fill_53178 e8))) ?_
  obtain ⟨u43, e44, hf⟩ := j_bind hf
  obtain ⟨q9, e10, hf⟩ := j_bind hf
  refine j_rk_trans (id ((rk_X7_factorOfSums e10))) ?_
  obtain ⟨v11, e12, hf⟩ := j_bind hf
  obtain ⟨q13, e14, hf⟩ := j_bind hf
  refine j_rk_trans (id ((rk_X4_of e14))) ?_
  obtain ⟨q26, e27, hf⟩ := j_bind hf
  refine j_rk_trans (id ((jloop_rk (fun _ _ _ _ q => rk_X7_makeAlone_L35 q) e27))) ?_
  obtain ⟨q39, e40, hf⟩ := j_bind hf
  refine j_rk_trans (id ((jloop_rk (fun _ _ _ _ q => rk_X7_makeAlone_L102 q) e40))) ?_
  obtain ⟨h41, e42, hf⟩ := j_bind hf
  refine j_rk_trans (id (jsI_rk e42)) ?_
  obtain rfl := j_inj hf
  exact j_rk_refl _
theorem rk_X7_multiply_L18 {a0 : Nat} {a1 : Nat} {a2 : Nat} {a3 : Nat} {a4 : Int32} {z : (Int64 × Int32)} {h : JH} {r : (Int64 × Int32) ⊕ (Int64 × Int32)} {h1 : JH} (hf : f_X7_multiply_L18 a0 a1 a2 a3 a4 z h = some (r, h1)) : j_rk h h1 := by
  unfold f_X7_multiply_L18 at hf
  rcases j_ite hf with hf | hf
  ·
    obtain ⟨rfl, rfl⟩ := j_inj2 hf
    exact j_rk_refl _
  ·
    obtain ⟨v3, e4, hf⟩ := j_bind hf
    obtain ⟨v5, e6, hf⟩ := j_bind hf
    obtain ⟨rfl, rfl⟩ := j_inj2 hf
    exact j_rk_refl _
theorem rk_X7_multiply_L3 {a0 : Nat} {a1 : Nat} {a2 : Nat} {a3 : Nat} {z : Int32} {h : JH} {r : Int32 ⊕ Int32} {h1 : JH} (hf : f_X7_multiply_L3 a0 a1 a2 a3 z h = some (r, h1)) : j_rk h h1 := by
  unfold f_X7_multiply_L3 at hf
  obtain ⟨v1, e2, hf⟩ := j_bind hf
  rcases j_ite hf with hf | hf
  ·
    obtain ⟨rfl, rfl⟩ := j_inj2 hf
    exact j_rk_refl _
  ·
    obtain ⟨q3, e4, hf⟩ := j_bind hf
    refine j_rk_t ?_ ((jloop_rk (fun _ _ _ _ q => rk_X7_multiply_L18 q) e4))
    obtain ⟨v5, e6, hf⟩ := j_bind hf
    obtain ⟨q7, e8, hf⟩ := j_bind hf
    refine j_rk_t ?_ ((rk_X4_of e8))
    obtain ⟨h9, e10, hf⟩ := j_bind hf
    refine j_rk_t ?_ (jsI_rk e10)
    obtain ⟨rfl, rfl⟩ := j_inj2 hf
    exact j_rk_refl _
theorem rk_X7_multiply {a0 : Nat} {a1 : Nat} {a2 : Nat} {a3 : Nat} {h : JH} {q : Unit × JH} (hf : f_X7_multiply a0 a1 a2 a3 h = some q) : j_rk h q.2 := by
  unfold f_X7_multiply at hf
  obtain ⟨q12, e13, hf⟩ := j_bind hf
  refine j_rk_t ?_ ((jloop_rk (fun _ _ _ _ q => rk_X7_multiply_L3 q) e13))
  obtain rfl := j_inj hf
  exact j_rk_refl _
theorem rk_X7_subtract_L3 {a0 : Nat} {a1 : Nat} {a2 : Nat} {a3 : Int32} {z : Int32} {h : JH} {r : Int32 ⊕ Int32} {h1 : JH} (hf : f_X7_subtract_L3 a0 a1 a2 a3 z h = some (r, h1)) : j_rk h h1 := by
  unfold f_X7_subtract_L3 at hf
  obtain ⟨v1, e2, hf⟩ := j_bind hf
  rcases j_ite hf with hf | hf
  ·
    obtain ⟨rfl, rfl⟩ := j_inj2 hf
    exact j_rk_refl _
  ·
    obtain ⟨v3, e4, hf⟩ := j_bind hf
    obtain ⟨v5, e6, hf⟩ := j_bind hf
    obtain ⟨v7, e8, hf⟩ := j_bind hf
    obtain ⟨q9, e10, hf⟩ := j_bind hf
    refine j_rk_t ?_ ((rk_X4_of e10))
    obtain ⟨h11, e12, hf⟩ := j_bind hf
    refine j_rk_t ?_ (jsI_rk e12)
    obtain ⟨rfl, rfl⟩ := j_inj2 hf
    exact j_rk_refl _
theorem rk_X7_subtract {a0 : Nat} {a1 : Nat} {a2 : Nat} {a3 : Int32} {h : JH} {q : Unit × JH} (hf : f_X7_subtract a0 a1 a2 a3 h = some q) : j_rk h q.2 := by
  unfold f_X7_subtract at hf
  obtain ⟨q14, e15, hf⟩ := j_bind hf
  refine j_rk_t ?_ ((jloop_rk (fun _ _ _ _ q => rk_X7_subtract_L3 q) e15))
  obtain rfl := j_inj hf
  exact j_rk_refl _
theorem rk_X7_reduce_L15 {a0 : Nat} {a1 : Int32} {z : Int32} {h : JH} {r : Int32 ⊕ Int32} {h1 : JH} (hf : f_X7_reduce_L15 a0 a1 z h = some (r, h1)) : j_rk h h1 := by
  unfold f_X7_reduce_L15 at hf
  obtain ⟨v3, e4, hf⟩ := j_bind hf
  rcases j_ite hf with hf | hf
  ·
    obtain ⟨rfl, rfl⟩ := j_inj2 hf
    exact j_rk_refl _
  ·
    obtain ⟨v5, e6, hf⟩ := j_bind hf
    obtain ⟨v7, e8, hf⟩ := j_bind hf
    obtain ⟨v9, e10, hf⟩ := j_bind hf
    obtain ⟨v11, e12, hf⟩ := j_bind hf
    obtain ⟨v13, e14, hf⟩ := j_bind hf
    obtain ⟨v15, e16, hf⟩ := j_bind hf
    obtain ⟨v17, e18, hf⟩ := j_bind hf
    obtain ⟨u21, e22, hf⟩ := j_bind hf
    obtain ⟨q19, e20, hf⟩ := j_bind hf
    refine j_rk_t ?_ ((rk_X7_subtract e20))
    obtain ⟨rfl, rfl⟩ := j_inj2 hf
    exact j_rk_refl _
theorem rk_X7_reduce_L7 {a0 : Nat} {z : Int32} {h : JH} {r : Int32 ⊕ Int32} {h1 : JH} (hf : f_X7_reduce_L7 a0 z h = some (r, h1)) : j_rk h h1 := by
  unfold f_X7_reduce_L7 at hf
  rcases j_ite hf with hf | hf
  ·
    obtain ⟨rfl, rfl⟩ := j_inj2 hf
    exact j_rk_refl _
  ·
    obtain ⟨q3, e4, hf⟩ := j_bind hf
    refine j_rk_t ?_ ((jloop_rk (fun _ _ _ _ q => rk_X7_reduce_L15 q) e4))
    obtain ⟨rfl, rfl⟩ := j_inj2 hf
    exact j_rk_refl _
theorem rk_X7_reduce {a0 : Nat} {h : JH} {q : Unit × JH} (hf : f_X7_reduce a0 h = some q) : j_rk h q.2 := by
  unfold f_X7_reduce at hf
  obtain ⟨v1, e2, hf⟩ := j_bind hf
  obtain ⟨q6, e7, hf⟩ := j_bind hf
  refine j_rk_t ?_ ((jloop_rk (fun _ _ _ _ q => rk_X7_reduce_L7 q) e7))
  obtain rfl := j_inj hf
  exact j_rk_refl _
theorem rk_X7_makeTwelve_L78 {a0 : Nat} {a5 : Nat} {a6 : Nat} {a7 : Int32} {z : Int32} {h : JH} {r : Int32 ⊕ Int32} {h1 : JH} (hf : f_X7_makeTwelve_L78 a0 a5 a6 a7 z h = some (r, h1)) : j_rk h h1 := by
  unfold f_X7_makeTwelve_L78 at hf
  obtain ⟨v37, e38, hf⟩ := j_bind hf
  rcases j_ite hf with hf | hf
  ·
    obtain ⟨rfl, rfl⟩ := j_inj2 hf
    exact j_rk_refl _
  ·
    obtain ⟨v39, e40, hf⟩ := j_bind hf
    obtain ⟨v41, e42, hf⟩ := j_bind hf
    obtain ⟨v43, e44, hf⟩ := j_bind hf
    obtain ⟨q45, e46, hf⟩ := j_bind hf
    refine j_rk_t ?_ ((rk_X4_of e46))
    obtain ⟨h47, e48, hf⟩ := j_bind hf
    refine j_rk_t ?_ (jsI_rk e48)
    obtain ⟨rfl, rfl⟩ := j_inj2 hf
    exact j_rk_refl _
theorem rk_X7_makeTwelve {a0 : Nat} {a1 : Nat} {a2 : Nat} {a3 : Nat} {a4 : Int32} {h : JH} {q : Unit × JH} (hf : f_X7_makeTwelve a0 a1 a2 a3 a4 h = some q) : j_rk h q.2 := by
  unfold f_X7_makeTwelve at hf
  obtain ⟨v1, e2, hf⟩ := j_bind hf
  obtain ⟨u60, e61, hf⟩ := j_bind hf
  obtain ⟨q3, e4, hf⟩ := j_bind hf
  refine j_rk_trans (rk_X7_begin e4) ?_
  obtain ⟨v5, e6, hf⟩ := j_bind hf
  obtain ⟨v7, e8, hf⟩ := j_bind hf
  obtain ⟨v9, e10, hf⟩ := j_bind hf
  obtain ⟨v11, e12, hf⟩ := j_bind hf
  obtain ⟨v13, e14, hf⟩ := j_bind hf
  obtain ⟨v15, e16, hf⟩ := j_bind hf
  obtain ⟨v17, e18, hf⟩ := j_bind hf
  obtain ⟨v19, e20, hf⟩ := j_bind hf
  obtain ⟨u58, e59, hf⟩ := j_bind hf
  obtain ⟨q21, e22, hf⟩ := j_bind hf
  refine j_rk_trans (id ((rk_X7_multiply e22))) ?_
  obtain ⟨v23, e24, hf⟩ := j_bind hf
  obtain ⟨v25, e26, hf⟩ := j_bind hf
  obtain ⟨v27, e28, hf⟩ := j_bind hf
  obtain ⟨v29, e30, hf⟩ := j_bind hf
  obtain ⟨u56, e57, hf⟩ := j_bind hf
  obtain ⟨q31, e32, hf⟩ := j_bind hf
  refine j_rk_trans (id ((rk_X7_multiply e32))) ?_
  obtain ⟨v33, e34, hf⟩ := j_bind hf
  obtain ⟨q35, e36, hf⟩ := j_bind hf
  refine j_rk_trans (id ((rk_X4_divide e36))) ?_
  obtain ⟨q50, e51, hf⟩ := j_bind hf
  refine j_rk_trans (id ((jloop_rk (fun _ _ _ _ q => rk_X7_makeTwelve_L78 q) e51))) ?_
  obtain ⟨u54, e55, hf⟩ := j_bind hf
  obtain ⟨q52, e53, hf⟩ := j_bind hf
  refine j_rk_trans (id ((rk_X7_reduce e53))) ?_
  obtain rfl := j_inj hf
  exact j_rk_refl _
theorem rk_X7_makeFrom_L34 {a0 : Nat} {a1 : Nat} {a2 : Nat} {z : Int32} {h : JH} {r : Int32 ⊕ Int32} {h1 : JH} (hf : f_X7_makeFrom_L34 a0 a1 a2 z h = some (r, h1)) : j_rk h h1 := by
  unfold f_X7_makeFrom_L34 at hf
  obtain ⟨v19, e20, hf⟩ := j_bind hf
  rcases j_ite hf with hf | hf
  ·
    obtain ⟨rfl, rfl⟩ := j_inj2 hf
    exact j_rk_refl _
  ·
    obtain ⟨v21, e22, hf⟩ := j_bind hf
    obtain ⟨v23, e24, hf⟩ := j_bind hf
    obtain ⟨v25, e26, hf⟩ := j_bind hf
    obtain ⟨v27, e28, hf⟩ := j_bind hf
    obtain ⟨v29, e30, hf⟩ := j_bind hf
    obtain ⟨v31, e32, hf⟩ := j_bind hf
    obtain ⟨u35, e36, hf⟩ := j_bind hf
    obtain ⟨q33, e34, hf⟩ := j_bind hf
    refine j_rk_t ?_ ((rk_X7_multiply e34))
    obtain ⟨rfl, rfl⟩ := j_inj2 hf
    exact j_rk_refl _
theorem rk_X7_makeFrom {a0 : Nat} {a1 : Nat} {a2 : Nat} {a3 : Int32} {h : JH} {q : Unit × JH} (hf : f_X7_makeFrom a0 a1 a2 a3 h = some q) : j_rk h q.2 := by
  unfold f_X7_makeFrom at hf
  obtain ⟨v1, e2, hf⟩ := j_bind hf
  obtain ⟨u46, e47, hf⟩ := j_bind hf
  obtain ⟨q3, e4, hf⟩ := j_bind hf
  refine j_rk_trans (rk_X7_begin e4) ?_
  obtain ⟨v5, e6, hf⟩ := j_bind hf
  obtain ⟨v7, e8, hf⟩ := j_bind hf
  obtain ⟨v9, e10, hf⟩ := j_bind hf
  obtain ⟨v11, e12, hf⟩ := j_bind hf
  obtain ⟨v13, e14, hf⟩ := j_bind hf
  obtain ⟨v15, e16, hf⟩ := j_bind hf
  obtain ⟨u44, e45, hf⟩ := j_bind hf
  obtain ⟨q17, e18, hf⟩ := j_bind hf
  refine j_rk_trans (id ((rk_X7_multiply e18))) ?_
  obtain ⟨q38, e39, hf⟩ := j_bind hf
  refine j_rk_trans (id ((jloop_rk (fun _ _ _ _ q => rk_X7_makeFrom_L34 q) e39))) ?_
  obtain ⟨u42, e43, hf⟩ := j_bind hf
  obtain ⟨q40, e41, hf⟩ := j_bind hf
  refine j_rk_trans (id ((rk_X7_reduce e41))) ?_
  obtain rfl := j_inj hf
  exact j_rk_refl _
theorem rk_X7_complete_L13 {a0 : Nat} {a1 : Nat} {z : Int32} {h : JH} {r : Int32 ⊕ Int32} {h1 : JH} (hf : f_X7_complete_L13 a0 a1 z h = some (r, h1)) : j_rk h h1 := by
  unfold f_X7_complete_L13 at hf
  rcases j_ite hf with hf | hf
  ·
    obtain ⟨rfl, rfl⟩ := j_inj2 hf
    exact j_rk_refl _
  ·
    obtain ⟨v7, e8, hf⟩ := j_bind hf
    obtain ⟨v9, e10, hf⟩ := j_bind hf
    obtain ⟨u15, e16, hf⟩ := j_bind hf
    obtain ⟨q11, e12, hf⟩ := j_bind hf
    refine j_rk_t ?_ ((rk_X7_expand e12))
    obtain ⟨h13, e14, hf⟩ := j_bind hf
    refine j_rk_t ?_ (jsI_rk e14)
    obtain ⟨rfl, rfl⟩ := j_inj2 hf
    exact j_rk_refl _
theorem rk_X7_complete {a0 : Nat} {a1 : Nat} {h : JH} {q : Unit × JH} (hf : f_X7_complete a0 a1 h = some q) : j_rk h q.2 := by
  unfold f_X7_complete at hf
  obtain ⟨v1, e2, hf⟩ := j_bind hf
  obtain ⟨h3, e4, hf⟩ := j_bind hf
  refine j_rk_t ?_ (jput_rk e4)
  obtain ⟨v5, e6, hf⟩ := j_bind hf
  obtain ⟨q18, e19, hf⟩ := j_bind hf
  refine j_rk_t ?_ ((jloop_rk (fun _ _ _ _ q => rk_X7_complete_L13 q) e19))
  obtain rfl := j_inj hf
  exact j_rk_refl _
theorem rk_X8_init_L15 {a0 : Nat} {z : Int32} {h : JH} {r : Int32 ⊕ Int32} {h1 : JH} (hf : f_X8_init_L15 a0 z h = some (r, h1)) : j_rk h h1 := by
  unfold f_X8_init_L15 at hf
  obtain ⟨v5, e6, hf⟩ := j_bind hf
  obtain ⟨v7, e8, hf⟩ := j_bind hf
  rcases j_ite hf with hf | hf
  ·
    obtain ⟨rfl, rfl⟩ := j_inj2 hf
    exact j_rk_refl _
  ·
    obtain ⟨v9, e10, hf⟩ := j_bind hf
    obtain ⟨q11, e12, hf⟩ := j_bind hf
    refine j_rk_trans (jnO_rk e12) ?_
    obtain ⟨q13, e14, hf⟩ := j_bind hf
    refine j_rk_trans (rk_X7_init e14) ?_
    obtain ⟨h15, e16, hf⟩ := j_bind hf
    refine j_rk_trans (id (jsR_rk e16)) ?_
    obtain ⟨rfl, rfl⟩ := j_inj2 hf
    exact j_rk_refl _
theorem rk_X8_init {a0 : Nat} {h : JH} {q : Unit × JH} (hf : f_X8_init a0 h = some q) : j_rk h q.2 := by
  unfold f_X8_init at hf
  obtain ⟨q1, e2, hf⟩ := j_bind hf
  refine j_rk_trans (jnA_rk e2) ?_
  obtain ⟨h3, e4, hf⟩ := j_bind hf
  refine j_rk_trans (id (jput_rk e4)) ?_
  obtain ⟨q18, e19, hf⟩ := j_bind hf
  refine j_rk_trans ((jloop_rk (fun _ _ _ _ q => rk_X8_init_L15 q) e19)) ?_
  obtain rfl := j_inj hf
  exact j_rk_refl _
theorem rk_X8_makeAlone {a0 : Nat} {a1 : Int32} {a2 : Int32} {a3 : Int32} {h : JH} {q : Unit × JH} (hf : f_X8_makeAlone a0 a1 a2 a3 h = some q) : j_rk h q.2 := by
  unfold f_X8_makeAlone at hf
  obtain ⟨v1, e2, hf⟩ := j_bind hf
  obtain ⟨v3, e4, hf⟩ := j_bind hf
  obtain ⟨u15, e16, hf⟩ := j_bind hf
  obtain ⟨q5, e6, hf⟩ := j_bind hf
  refine j_rk_trans (id ((rk_X7_isReady e6))) ?_
  rcases j_ite hf with hf | hf
  ·
    obtain ⟨v7, e8, hf⟩ := j_bind hf
    obtain ⟨v9, e10, hf⟩ := j_bind hf
    obtain ⟨u13, e14, hf⟩ := j_bind hf
    obtain ⟨q11, e12, hf⟩ := j_bind hf
    refine j_rk_trans (rk_X7_makeAlone e12) ?_
    obtain rfl := j_inj hf
    exact j_rk_refl _
  ·
    obtain rfl := j_inj hf
    exact j_rk_refl _
theorem rk_X8_makeTwelve {a0 : Nat} {a1 : Int32} {a2 : Int32} {h : JH} {q : Unit × JH} (hf : f_X8_makeTwelve a0 a1 a2 h = some q) : j_rk h q.2 := by
  unfold f_X8_makeTwelve at hf
  obtain ⟨v1, e2, hf⟩ := j_bind hf
  obtain ⟨v3, e4, hf⟩ := j_bind hf
  obtain ⟨u39, e40, hf⟩ := j_bind hf
  obtain ⟨q5, e6, hf⟩ := j_bind hf
  refine j_rk_trans (id ((rk_X7_isReady e6))) ?_
  rcases j_ite hf with hf | hf
  ·
    obtain ⟨u37, e38, hf⟩ := j_bind hf
    obtain ⟨q7, e8, hf⟩ := j_bind hf
    refine j_rk_trans (rk_X8_makeAlone e8) ?_
    obtain ⟨u35, e36, hf⟩ := j_bind hf
    obtain ⟨q9, e10, hf⟩ := j_bind hf
    refine j_rk_trans (rk_X8_makeAlone e10) ?_
    obtain ⟨u33, e34, hf⟩ := j_bind hf
    obtain ⟨q11, e12, hf⟩ := j_bind hf
    refine j_rk_trans (rk_X8_makeAlone e12) ?_
    obtain ⟨v13, e14, hf⟩ := j_bind hf
    obtain ⟨v15, e16, hf⟩ := j_bind hf
    obtain ⟨v17, e18, hf⟩ := j_bind hf
    obtain ⟨v19, e20, hf⟩ := j_bind hf
    obtain ⟨v21, e22, hf⟩ := j_bind hf
    obtain ⟨v23, e24, hf⟩ := j_bind hf
    obtain ⟨v25, e26, hf⟩ := j_bind hf
    obtain ⟨v27, e28, hf⟩ := j_bind hf
    obtain ⟨u31, e32, hf⟩ := j_bind hf
    obtain ⟨q29, e30, hf⟩ := j_bind hf
    refine j_rk_trans (rk_X7_makeTwelve e30) ?_
    obtain rfl := j_inj hf
    exact j_rk_refl _
  ·
    obtain rfl := j_inj hf
    exact j_rk_refl _
theorem rk_X8_ready_L94 {a0 : Nat} {a1 : Int32} {a2 : Int32} {a4 : Nat} {a5 : Int32} {z : Int32} {h : JH} {r : Int32 ⊕ Int32} {h1 : JH} (hf : f_X8_ready_L94 a0 a1 a2 a4 a5 z h = some (r, h1)) : j_rk h h1 := by
  unfold f_X8_ready_L94 at hf
  rcases j_ite hf with hf | hf
  ·
    obtain ⟨rfl, rfl⟩ := j_inj2 hf
    exact j_rk_refl _
  ·
    obtain ⟨v7, e8, hf⟩ := j_bind hf
    obtain ⟨v9, e10, hf⟩ := j_bind hf
    obtain ⟨u29, e30, hf⟩ := j_bind hf
    obtain ⟨q11, e12, hf⟩ := j_bind hf
    refine j_rk_trans (id ((rk_X7_isReady e12))) ?_
    rcases j_ite hf with hf | hf
    ·
      obtain ⟨v13, e14, hf⟩ := j_bind hf
      obtain ⟨v15, e16, hf⟩ := j_bind hf
      obtain ⟨v17, e18, hf⟩ := j_bind hf
      obtain ⟨v19, e20, hf⟩ := j_bind hf
      obtain ⟨v21, e22, hf⟩ := j_bind hf
      obtain ⟨v23, e24, hf⟩ := j_bind hf
      obtain ⟨u27, e28, hf⟩ := j_bind hf
      obtain ⟨q25, e26, hf⟩ := j_bind hf
      refine j_rk_trans (rk_X7_makeFrom e26) ?_
      obtain ⟨rfl, rfl⟩ := j_inj2 hf
      exact j_rk_refl _
    ·
      obtain ⟨rfl, rfl⟩ := j_inj2 hf
      exact j_rk_refl _
theorem rk_X8_ready {a0 : Nat} {a1 : Int32} {a2 : Int32} {a3 : Int32} {h : JH} {q : Nat × JH} (hf : f_X8_ready a0 a1 a2 a3 h = some q) : j_rk h q.2 := by
  unfold f_X8_ready at hf
  obtain ⟨v1, e2, hf⟩ := j_bind hf
  obtain ⟨v3, e4, hf⟩ := j_bind hf
  rcases j_ite hf with hf | hf
  ·
    obtain ⟨u73, e74, hf⟩ := j_bind hf
    obtain ⟨q5, e6, hf⟩ := j_bind hf
    refine j_rk_trans (id ((rk_X7_isReady e6))) ?_
    rcases j_ite hf with hf | hf
    ·
      rcases j_ite hf with hf | hf
      ·
        rcases j_ite hf with hf | hf
        ·
          rcases j_ite hf with hf | hf
          ·
            obtain ⟨q53, e54, hf⟩ := j_bind hf
            refine j_rk_trans ((jloop_rk (fun _ _ _ _ q => rk_X8_ready_L94 q) e54)) ?_
            obtain rfl := j_inj hf
            exact j_rk_refl _
          ·
            obtain ⟨u59, e60, hf⟩ := j_bind hf
            obtain ⟨q55, e56, hf⟩ := j_bind hf
            refine j_rk_trans (rk_X8_makeTwelve e56) ?_
            obtain ⟨q57, e58, hf⟩ := j_bind hf
            refine j_rk_trans ((jloop_rk (fun _ _ _ _ q => rk_X8_ready_L94 q) e58)) ?_
            obtain rfl := j_inj hf
            exact j_rk_refl _
        ·
          obtain ⟨u71, e72, hf⟩ := j_bind hf
          obtain ⟨q61, e62, hf⟩ := j_bind hf
          refine j_rk_trans (rk_X8_makeAlone e62) ?_
          rcases j_ite hf with hf | hf
          ·
            obtain ⟨q63, e64, hf⟩ := j_bind hf
            refine j_rk_trans ((jloop_rk (fun _ _ _ _ q => rk_X8_ready_L94 q) e64)) ?_
            obtain rfl := j_inj hf
            exact j_rk_refl _
          ·
            obtain ⟨u69, e70, hf⟩ := j_bind hf
            obtain ⟨q65, e66, hf⟩ := j_bind hf
            refine j_rk_trans (rk_X8_makeTwelve e66) ?_
            obtain ⟨q67, e68, hf⟩ := j_bind hf
            refine j_rk_trans ((jloop_rk (fun _ _ _ _ q => rk_X8_ready_L94 q) e68)) ?_
            obtain rfl := j_inj hf
            exact j_rk_refl _
      ·
        rcases j_ite hf with hf | hf
        ·
          rcases j_ite hf with hf | hf
          ·
            obtain ⟨q33, e34, hf⟩ := j_bind hf
            refine j_rk_trans ((jloop_rk (fun _ _ _ _ q => rk_X8_ready_L94 q) e34)) ?_
            obtain rfl := j_inj hf
            exact j_rk_refl _
          ·
            obtain ⟨u39, e40, hf⟩ := j_bind hf
            obtain ⟨q35, e36, hf⟩ := j_bind hf
            refine j_rk_trans (rk_X8_makeTwelve e36) ?_
            obtain ⟨q37, e38, hf⟩ := j_bind hf
            refine j_rk_trans ((jloop_rk (fun _ _ _ _ q => rk_X8_ready_L94 q) e38)) ?_
            obtain rfl := j_inj hf
            exact j_rk_refl _
        ·
          obtain ⟨u51, e52, hf⟩ := j_bind hf
          obtain ⟨q41, e42, hf⟩ := j_bind hf
          refine j_rk_trans (rk_X8_makeAlone e42) ?_
          rcases j_ite hf with hf | hf
          ·
            obtain ⟨q43, e44, hf⟩ := j_bind hf
            refine j_rk_trans ((jloop_rk (fun _ _ _ _ q => rk_X8_ready_L94 q) e44)) ?_
            obtain rfl := j_inj hf
            exact j_rk_refl _
          ·
            obtain ⟨u49, e50, hf⟩ := j_bind hf
            obtain ⟨q45, e46, hf⟩ := j_bind hf
            refine j_rk_trans (rk_X8_makeTwelve e46) ?_
            obtain ⟨q47, e48, hf⟩ := j_bind hf
            refine j_rk_trans ((jloop_rk (fun _ _ _ _ q => rk_X8_ready_L94 q) e48)) ?_
            obtain rfl := j_inj hf
            exact j_rk_refl _
    ·
      obtain rfl := j_inj hf
      exact j_rk_refl _
  ·
    obtain ⟨u117, e118, hf⟩ := j_bind hf
    obtain ⟨q75, e76, hf⟩ := j_bind hf
    refine j_rk_trans (id ((rk_X7_isReady e76))) ?_
    rcases j_ite hf with hf | hf
    ·
      rcases j_ite hf with hf | hf
      ·
        rcases j_ite hf with hf | hf
        ·
          rcases j_ite hf with hf | hf
          ·
            obtain ⟨q97, e98, hf⟩ := j_bind hf
            refine j_rk_trans ((jloop_rk (fun _ _ _ _ q => rk_X8_ready_L94 q) e98)) ?_
            obtain rfl := j_inj hf
            exact j_rk_refl _
          ·
            obtain ⟨u103, e104, hf⟩ := j_bind hf
            obtain ⟨q99, e100, hf⟩ := j_bind hf
            refine j_rk_trans (rk_X8_makeTwelve e100) ?_
            obtain ⟨q101, e102, hf⟩ := j_bind hf
            refine j_rk_trans ((jloop_rk (fun _ _ _ _ q => rk_X8_ready_L94 q) e102)) ?_
            obtain rfl := j_inj hf
            exact j_rk_refl _
        ·
          obtain ⟨u115, e116, hf⟩ := j_bind hf
          obtain ⟨q105, e106, hf⟩ := j_bind hf
          refine j_rk_trans (rk_X8_makeAlone e106) ?_
          rcases j_ite hf with hf | hf
          ·
            obtain ⟨q107, e108, hf⟩ := j_bind hf
            refine j_rk_trans ((jloop_rk (fun _ _ _ _ q => rk_X8_ready_L94 q) e108)) ?_
            obtain rfl := j_inj hf
            exact j_rk_refl _
          ·
            obtain ⟨u113, e114, hf⟩ := j_bind hf
            obtain ⟨q109, e110, hf⟩ := j_bind hf
            refine j_rk_trans (rk_X8_makeTwelve e110) ?_
            obtain ⟨q111, e112, hf⟩ := j_bind hf
            refine j_rk_trans ((jloop_rk (fun _ _ _ _ q => rk_X8_ready_L94 q) e112)) ?_
            obtain rfl := j_inj hf
            exact j_rk_refl _
      ·
        rcases j_ite hf with hf | hf
        ·
          rcases j_ite hf with hf | hf
          ·
            obtain ⟨q77, e78, hf⟩ := j_bind hf
            refine j_rk_trans ((jloop_rk (fun _ _ _ _ q => rk_X8_ready_L94 q) e78)) ?_
            obtain rfl := j_inj hf
            exact j_rk_refl _
          ·
            obtain ⟨u83, e84, hf⟩ := j_bind hf
            obtain ⟨q79, e80, hf⟩ := j_bind hf
            refine j_rk_trans (rk_X8_makeTwelve e80) ?_
            obtain ⟨q81, e82, hf⟩ := j_bind hf
            refine j_rk_trans ((jloop_rk (fun _ _ _ _ q => rk_X8_ready_L94 q) e82)) ?_
            obtain rfl := j_inj hf
            exact j_rk_refl _
        ·
          obtain ⟨u95, e96, hf⟩ := j_bind hf
          obtain ⟨q85, e86, hf⟩ := j_bind hf
          refine j_rk_trans (rk_X8_makeAlone e86) ?_
          rcases j_ite hf with hf | hf
          ·
            obtain ⟨q87, e88, hf⟩ := j_bind hf
            refine j_rk_trans ((jloop_rk (fun _ _ _ _ q => rk_X8_ready_L94 q) e88)) ?_
            obtain rfl := j_inj hf
            exact j_rk_refl _
          ·
            obtain ⟨u93, e94, hf⟩ := j_bind hf
            obtain ⟨q89, e90, hf⟩ := j_bind hf
            refine j_rk_trans (rk_X8_makeTwelve e90) ?_
            obtain ⟨q91, e92, hf⟩ := j_bind hf
            refine j_rk_trans ((jloop_rk (fun _ _ _ _ q => rk_X8_ready_L94 q) e92)) ?_
            obtain rfl := j_inj hf
            exact j_rk_refl _
    ·
      obtain rfl := j_inj hf
      exact j_rk_refl _
theorem rk_X11_isWeight {a0 : Int32} {h : JH} {q : Int32 × JH} (hf : f_X11_isWeight a0 h = some q) : j_rk h q.2 := by
  unfold f_X11_isWeight at hf
  rcases j_ite hf with hf | hf
  ·
    obtain rfl := j_inj hf
    exact j_rk_refl _
  ·
    rcases j_ite hf with hf | hf
    ·
      obtain rfl := j_inj hf
      exact j_rk_refl _
    ·
      rcases j_ite hf with hf | hf
      ·
        obtain rfl := j_inj hf
        exact j_rk_refl _
      ·
        obtain rfl := j_inj hf
        exact j_rk_refl _
theorem rk_X10_isAsked {a0 : Int32} {a1 : Int32} {h : JH} {q : Int32 × JH} (hf : f_X10_isAsked a0 a1 h = some q) : j_rk h q.2 := by
  unfold f_X10_isAsked at hf
  obtain ⟨q1, e2, hf⟩ := j_bind hf
  refine j_rk_t ?_ ((rk_X11_isWeight e2))
  rcases j_ite hf with hf | hf
  ·
    obtain rfl := j_inj hf
    exact j_rk_refl _
  ·
    rcases j_ite hf with hf | hf
    ·
      obtain rfl := j_inj hf
      exact j_rk_refl _
    ·
      rcases j_ite hf with hf | hf
      ·
        obtain rfl := j_inj hf
        exact j_rk_refl _
      ·
        rcases j_ite hf with hf | hf
        ·
          obtain rfl := j_inj hf
          exact j_rk_refl _
        ·
          obtain rfl := j_inj hf
          exact j_rk_refl _
theorem rk_X10_add {a0 : Int64} {a2 : Int64} {h : JH} {q : Int64 × JH} (hf : f_X10_add a0 a2 h = some q) : j_rk h q.2 := by
  unfold f_X10_add at hf
  rcases j_ite hf with hf | hf
  ·
    obtain rfl := j_inj hf
    exact j_rk_refl _
  ·
    rcases j_ite hf with hf | hf
    ·
      obtain rfl := j_inj hf
      exact j_rk_refl _
    ·
      rcases j_ite hf with hf | hf
      ·
        obtain rfl := j_inj hf
        exact j_rk_refl _
      ·
        rcases j_ite hf with hf | hf
        ·
          obtain rfl := j_inj hf
          exact j_rk_refl _
        ·
          obtain rfl := j_inj hf
          exact j_rk_refl _
theorem rk_X10_multiply {a0 : Int64} {a2 : Int64} {h : JH} {q : Int64 × JH} (hf : f_X10_multiply a0 a2 h = some q) : j_rk h q.2 := by
  unfold f_X10_multiply at hf
  rcases j_ite hf with hf | hf
  ·
    obtain rfl := j_inj hf
    exact j_rk_refl _
  ·
    rcases j_ite hf with hf | hf
    ·
      obtain rfl := j_inj hf
      exact j_rk_refl _
    ·
      rcases j_ite hf with hf | hf
      ·
        obtain rfl := j_inj hf
        exact j_rk_refl _
      ·
        obtain ⟨u1, e2, hf⟩ := j_bind hf
        rcases j_ite hf with hf | hf
        ·
          obtain rfl := j_inj hf
          exact j_rk_refl _
        ·
          obtain rfl := j_inj hf
          exact j_rk_refl _
theorem rk_X10_exactPower_L5 {a0 : Int32} {a1 : Int32} {z : (Int64 × Int32)} {h : JH} {r : (Int64 × Int32) ⊕ (Int64 × Int32)} {h1 : JH} (hf : f_X10_exactPower_L5 a0 a1 z h = some (r, h1)) : j_rk h h1 := by
  unfold f_X10_exactPower_L5 at hf
  rcases j_ite hf with hf | hf
  ·
    obtain ⟨rfl, rfl⟩ := j_inj2 hf
    exact j_rk_refl _
  ·
    obtain ⟨q1, e2, hf⟩ := j_bind hf
    refine j_rk_t ?_ ((rk_X10_multiply e2))
    obtain ⟨rfl, rfl⟩ := j_inj2 hf
    exact j_rk_refl _
theorem rk_X10_exactPower {a0 : Int32} {a1 : Int32} {h : JH} {q : Int64 × JH} (hf : f_X10_exactPower a0 a1 h = some q) : j_rk h q.2 := by
  unfold f_X10_exactPower at hf
  obtain ⟨q4, e5, hf⟩ := j_bind hf
  refine j_rk_t ?_ ((jloop_rk (fun _ _ _ _ q => rk_X10_exactPower_L5 q) e5))
  obtain rfl := j_inj hf
  exact j_rk_refl _
theorem rk_X10_exactQ_L9 {a0 : Int32} {a1 : Int32} {a2 : Int32} {z : (Int64 × Int64 × Int32)} {h : JH} {r : (Int64 × Int64 × Int32) ⊕ (Int64 × Int64 × Int32)} {h1 : JH} (hf : f_X10_exactQ_L9 a0 a1 a2 z h = some (r, h1)) : j_rk h h1 := by
  unfold f_X10_exactQ_L9 at hf
  rcases j_ite hf with hf | hf
  ·
    obtain ⟨rfl, rfl⟩ := j_inj2 hf
    exact j_rk_refl _
  ·
    obtain ⟨q1, e2, hf⟩ := j_bind hf
    refine j_rk_t ?_ ((rk_X10_multiply e2))
    obtain ⟨q3, e4, hf⟩ := j_bind hf
    refine j_rk_t ?_ ((rk_X10_multiply e4))
    obtain ⟨q5, e6, hf⟩ := j_bind hf
    refine j_rk_t ?_ ((rk_X10_add e6))
    obtain ⟨rfl, rfl⟩ := j_inj2 hf
    exact j_rk_refl _
theorem rk_X10_exactQ {a0 : Int32} {a1 : Int32} {a2 : Int32} {h : JH} {q : Int64 × JH} (hf : f_X10_exactQ a0 a1 a2 h = some q) : j_rk h q.2 := by
  unfold f_X10_exactQ at hf
  obtain ⟨q8, e9, hf⟩ := j_bind hf
  refine j_rk_t ?_ ((jloop_rk (fun _ _ _ _ q => rk_X10_exactQ_L9 q) e9))
  obtain rfl := j_inj hf
  exact j_rk_refl _
theorem rk_X10_reachOf_L4 {a0 : Int32} {z : (Int32 × Int32)} {h : JH} {r : (Int32 × Int32) ⊕ (Int32 × Int32)} {h1 : JH} (hf : f_X10_reachOf_L4 a0 z h = some (r, h1)) : j_rk h h1 := by
  unfold f_X10_reachOf_L4 at hf
  rcases j_ite hf with hf | hf
  ·
    obtain ⟨rfl, rfl⟩ := j_inj2 hf
    exact j_rk_refl _
  ·
    obtain ⟨rfl, rfl⟩ := j_inj2 hf
    exact j_rk_refl _
theorem rk_X10_reachOf {a0 : Int32} {h : JH} {q : Int32 × JH} (hf : f_X10_reachOf a0 h = some q) : j_rk h q.2 := by
  unfold f_X10_reachOf at hf
  obtain ⟨q2, e3, hf⟩ := j_bind hf
  refine j_rk_t ?_ ((jloop_rk (fun _ _ _ _ q => rk_X10_reachOf_L4 q) e3))
  obtain rfl := j_inj hf
  exact j_rk_refl _
theorem rk_X10_exact_L13 {a0 : Int32} {a1 : Int32} {a4 : Int32} {z : (Int64 × Int32)} {h : JH} {r : (Int64 × Int32) ⊕ (Int64 × Int32)} {h1 : JH} (hf : f_X10_exact_L13 a0 a1 a4 z h = some (r, h1)) : j_rk h h1 := by
  unfold f_X10_exact_L13 at hf
  rcases j_ite hf with hf | hf
  ·
    obtain ⟨rfl, rfl⟩ := j_inj2 hf
    exact j_rk_refl _
  ·
    obtain ⟨q3, e4, hf⟩ := j_bind hf
    refine j_rk_t ?_ ((rk_X1_inTwelfths e4))
    obtain ⟨q5, e6, hf⟩ := j_bind hf
    refine j_rk_t ?_ ((rk_X10_exactQ e6))
    obtain ⟨q7, e8, hf⟩ := j_bind hf
    refine j_rk_t ?_ ((rk_X10_multiply e8))
    obtain ⟨q9, e10, hf⟩ := j_bind hf
    refine j_rk_t ?_ ((rk_X10_add e10))
    obtain ⟨rfl, rfl⟩ := j_inj2 hf
    exact j_rk_refl _
theorem rk_X10_exact_L61 {a0 : Int32} {a1 : Int32} {z : (Int64 × Int32)} {h : JH} {r : (Int64 × Int32) ⊕ (Int64 × Int32)} {h1 : JH} (hf : f_X10_exact_L61 a0 a1 z h = some (r, h1)) : j_rk h h1 := by
  unfold f_X10_exact_L61 at hf
  rcases j_ite hf with hf | hf
  ·
    obtain ⟨rfl, rfl⟩ := j_inj2 hf
    exact j_rk_refl _
  ·
    obtain ⟨u14, e15, hf⟩ := j_bind hf
    rcases j_ite hf with hf | hf
    ·
      obtain ⟨u16, e17, hf⟩ := j_bind hf
      obtain ⟨q18, e19, hf⟩ := j_bind hf
      refine j_rk_t ?_ ((rk_X10_exactPower e19))
      obtain ⟨q20, e21, hf⟩ := j_bind hf
      refine j_rk_t ?_ ((rk_X10_multiply e21))
      obtain ⟨q22, e23, hf⟩ := j_bind hf
      refine j_rk_t ?_ ((rk_X10_add e23))
      obtain ⟨rfl, rfl⟩ := j_inj2 hf
      exact j_rk_refl _
    ·
      obtain ⟨rfl, rfl⟩ := j_inj2 hf
      exact j_rk_refl _
theorem rk_X10_exact {a0 : Int32} {a1 : Int32} {h : JH} {q : Int64 × JH} (hf : f_X10_exact a0 a1 h = some q) : j_rk h q.2 := by
  unfold f_X10_exact at hf
  obtain ⟨q1, e2, hf⟩ := j_bind hf
  refine j_rk_t ?_ ((rk_X10_reachOf e2))
  obtain ⟨q12, e13, hf⟩ := j_bind hf
  refine j_rk_t ?_ ((jloop_rk (fun _ _ _ _ q => rk_X10_exact_L13 q) e13))
  obtain ⟨q26, e27, hf⟩ := j_bind hf
  refine j_rk_t ?_ ((jloop_rk (fun _ _ _ _ q => rk_X10_exact_L61 q) e27))
  rcases j_ite hf with hf | hf
  ·
    obtain rfl := j_inj hf
    exact j_rk_refl _
  ·
    obtain rfl := j_inj hf
    exact j_rk_refl _
theorem rk_X10_leftQ_L14 {a0 : Int32} {a1 : Int32} {a2 : Int32} {a3 : Int32} {z : (Int32 × Int32 × Int32)} {h : JH} {r : (Int32 × Int32 × Int32) ⊕ (Int32 × Int32 × Int32)} {h1 : JH} (hf : f_X10_leftQ_L14 a0 a1 a2 a3 z h = some (r, h1)) : j_rk h h1 := by
  unfold f_X10_leftQ_L14 at hf
  rcases j_ite hf with hf | hf
  ·
    obtain ⟨rfl, rfl⟩ := j_inj2 hf
    exact j_rk_refl _
  ·
    obtain ⟨q3, e4, hf⟩ := j_bind hf
    refine j_rk_t ?_ ((rk_X4_of e4))
    obtain ⟨rfl, rfl⟩ := j_inj2 hf
    exact j_rk_refl _
theorem rk_X10_leftQ {a0 : Int32} {a1 : Int32} {a2 : Int32} {a3 : Int32} {h : JH} {q : Int32 × JH} (hf : f_X10_leftQ a0 a1 a2 a3 h = some q) : j_rk h q.2 := by
  unfold f_X10_leftQ at hf
  obtain ⟨q1, e2, hf⟩ := j_bind hf
  refine j_rk_t ?_ ((rk_X4_of e2))
  obtain ⟨q6, e7, hf⟩ := j_bind hf
  refine j_rk_t ?_ ((jloop_rk (fun _ _ _ _ q => rk_X10_leftQ_L14 q) e7))
  obtain rfl := j_inj hf
  exact j_rk_refl _
theorem rk_X10_left_L13 {a0 : Int32} {a1 : Int32} {a2 : Int32} {a5 : Int32} {z : (Int64 × Int32)} {h : JH} {r : (Int64 × Int32) ⊕ (Int64 × Int32)} {h1 : JH} (hf : f_X10_left_L13 a0 a1 a2 a5 z h = some (r, h1)) : j_rk h h1 := by
  unfold f_X10_left_L13 at hf
  rcases j_ite hf with hf | hf
  ·
    obtain ⟨rfl, rfl⟩ := j_inj2 hf
    exact j_rk_refl _
  ·
    obtain ⟨q3, e4, hf⟩ := j_bind hf
    refine j_rk_t ?_ ((rk_X10_leftQ e4))
    obtain ⟨q5, e6, hf⟩ := j_bind hf
    refine j_rk_t ?_ ((rk_X1_inTwelfths e6))
    obtain ⟨rfl, rfl⟩ := j_inj2 hf
    exact j_rk_refl _
theorem rk_X10_left_L55 {a0 : Int32} {a1 : Int32} {a2 : Int32} {z : (Int64 × Int32)} {h : JH} {r : (Int64 × Int32) ⊕ (Int64 × Int32)} {h1 : JH} (hf : f_X10_left_L55 a0 a1 a2 z h = some (r, h1)) : j_rk h h1 := by
  unfold f_X10_left_L55 at hf
  rcases j_ite hf with hf | hf
  ·
    obtain ⟨rfl, rfl⟩ := j_inj2 hf
    exact j_rk_refl _
  ·
    obtain ⟨u10, e11, hf⟩ := j_bind hf
    rcases j_ite hf with hf | hf
    ·
      obtain ⟨u12, e13, hf⟩ := j_bind hf
      obtain ⟨q14, e15, hf⟩ := j_bind hf
      refine j_rk_t ?_ ((rk_X4_power e15))
      obtain ⟨rfl, rfl⟩ := j_inj2 hf
      exact j_rk_refl _
    ·
      obtain ⟨rfl, rfl⟩ := j_inj2 hf
      exact j_rk_refl _
theorem rk_X10_left {a0 : Int32} {a1 : Int32} {a2 : Int32} {h : JH} {q : Int32 × JH} (hf : f_X10_left a0 a1 a2 h = some q) : j_rk h q.2 := by
  unfold f_X10_left at hf
  obtain ⟨q1, e2, hf⟩ := j_bind hf
  refine j_rk_t ?_ ((rk_X10_reachOf e2))
  obtain ⟨q8, e9, hf⟩ := j_bind hf
  refine j_rk_t ?_ ((jloop_rk (fun _ _ _ _ q => rk_X10_left_L13 q) e9))
  obtain ⟨q18, e19, hf⟩ := j_bind hf
  refine j_rk_t ?_ ((jloop_rk (fun _ _ _ _ q => rk_X10_left_L55 q) e19))
  obtain ⟨q20, e21, hf⟩ := j_bind hf
  refine j_rk_t ?_ ((rk_X4_of e21))
  obtain ⟨q22, e23, hf⟩ := j_bind hf
  refine j_rk_t ?_ ((rk_X4_divide e23))
  obtain rfl := j_inj hf
  exact j_rk_refl _
theorem rk_X10_shareOf_L19 {a0 : Int64} {a2 : Int32} {a3 : Int32} {a4 : Int32} {z : (UInt32 × Int32)} {h : JH} {r : (UInt32 × Int32) ⊕ (UInt32 × Int32)} {h1 : JH} (hf : f_X10_shareOf_L19 a0 a2 a3 a4 z h = some (r, h1)) : j_rk h h1 := by
  unfold f_X10_shareOf_L19 at hf
  rcases j_ite hf with hf | hf
  ·
    obtain ⟨rfl, rfl⟩ := j_inj2 hf
    exact j_rk_refl _
  ·
    obtain ⟨u3, e4, hf⟩ := j_bind hf
    obtain ⟨rfl, rfl⟩ := j_inj2 hf
    exact j_rk_refl _
theorem rk_X10_shareOf_L49 {a0 : Int64} {a3 : Int32} {a4 : Int32} {a5 : UInt32} {z : (UInt32 × Int32)} {h : JH} {r : (UInt32 × Int32) ⊕ (UInt32 × Int32)} {h1 : JH} (hf : f_X10_shareOf_L49 a0 a3 a4 a5 z h = some (r, h1)) : j_rk h h1 := by
  unfold f_X10_shareOf_L49 at hf
  rcases j_ite hf with hf | hf
  ·
    obtain ⟨rfl, rfl⟩ := j_inj2 hf
    exact j_rk_refl _
  ·
    obtain ⟨u8, e9, hf⟩ := j_bind hf
    obtain ⟨u10, e11, hf⟩ := j_bind hf
    obtain ⟨u12, e13, hf⟩ := j_bind hf
    obtain ⟨rfl, rfl⟩ := j_inj2 hf
    exact j_rk_refl _
theorem rk_X10_shareOf {a0 : Int64} {a2 : Int32} {a3 : Int32} {h : JH} {q : UInt32 × JH} (hf : f_X10_shareOf a0 a2 a3 h = some q) : j_rk h q.2 := by
  unfold f_X10_shareOf at hf
  obtain ⟨q1, e2, hf⟩ := j_bind hf
  refine j_rk_t ?_ ((rk_X11_cuspsOf e2))
  rcases j_ite hf with hf | hf
  ·
    obtain rfl := j_inj hf
    exact j_rk_refl _
  ·
    obtain ⟨q6, e7, hf⟩ := j_bind hf
    refine j_rk_t ?_ ((jloop_rk (fun _ _ _ _ q => rk_X10_shareOf_L19 q) e7))
    obtain ⟨q15, e16, hf⟩ := j_bind hf
    refine j_rk_t ?_ ((jloop_rk (fun _ _ _ _ q => rk_X10_shareOf_L49 q) e16))
    obtain ⟨u17, e18, hf⟩ := j_bind hf
    obtain ⟨u19, e20, hf⟩ := j_bind hf
    obtain ⟨u21, e22, hf⟩ := j_bind hf
    obtain ⟨u23, e24, hf⟩ := j_bind hf
    obtain rfl := j_inj hf
    exact j_rk_refl _
theorem rk_X10_bitsOf_L27 {a0 : UInt32} {z : (UInt32 × Int32 × Int32)} {h : JH} {r : (UInt32 × Int32 × Int32) ⊕ (UInt32 × Int32 × Int32)} {h1 : JH} (hf : f_X10_bitsOf_L27 a0 z h = some (r, h1)) : j_rk h h1 := by
  unfold f_X10_bitsOf_L27 at hf
  rcases j_ite hf with hf | hf
  ·
    obtain ⟨rfl, rfl⟩ := j_inj2 hf
    exact j_rk_refl _
  ·
    rcases j_ite hf with hf | hf
    ·
      obtain ⟨rfl, rfl⟩ := j_inj2 hf
      exact j_rk_refl _
    ·
      obtain ⟨u1, e2, hf⟩ := j_bind hf
      obtain ⟨rfl, rfl⟩ := j_inj2 hf
      exact j_rk_refl _
theorem rk_X10_bitsOf {a0 : UInt32} {h : JH} {q : Int32 × JH} (hf : f_X10_bitsOf a0 h = some q) : j_rk h q.2 := by
  unfold f_X10_bitsOf at hf
  rcases j_ite hf with hf | hf
  ·
    obtain rfl := j_inj hf
    exact j_rk_refl _
  ·
    rcases j_ite hf with hf | hf
    ·
      obtain ⟨q5, e6, hf⟩ := j_bind hf
      refine j_rk_t ?_ ((jloop_rk (fun _ _ _ _ q => rk_X10_bitsOf_L27 q) e6))
      rcases j_ite hf with hf | hf
      ·
        obtain rfl := j_inj hf
        exact j_rk_refl _
      ·
        obtain rfl := j_inj hf
        exact j_rk_refl _
    ·
      obtain ⟨q7, e8, hf⟩ := j_bind hf
      refine j_rk_t ?_ ((jloop_rk (fun _ _ _ _ q => rk_X10_bitsOf_L27 q) e8))
      rcases j_ite hf with hf | hf
      ·
        obtain rfl := j_inj hf
        exact j_rk_refl _
      ·
        obtain rfl := j_inj hf
        exact j_rk_refl _
theorem rk_X11_forget_L2 {a0 : Nat} {z : Int32} {h : JH} {r : Int32 ⊕ Int32} {h1 : JH} (hf : f_X11_forget_L2 a0 z h = some (r, h1)) : j_rk h h1 := by
  unfold f_X11_forget_L2 at hf
  rcases j_ite hf with hf | hf
  ·
    obtain ⟨rfl, rfl⟩ := j_inj2 hf
    exact j_rk_refl _
  ·
    obtain ⟨v1, e2, hf⟩ := j_bind hf
    obtain ⟨v3, e4, hf⟩ := j_bind hf
    obtain ⟨u7, e8, hf⟩ := j_bind hf
    obtain ⟨q5, e6, hf⟩ := j_bind hf
    refine j_rk_t ?_ ((rk_X2_setNumber e6))
    obtain ⟨rfl, rfl⟩ := j_inj2 hf
    exact j_rk_refl _
theorem rk_X11_forget_L25 {a0 : Nat} {z : Int32} {h : JH} {r : Int32 ⊕ Int32} {h1 : JH} (hf : f_X11_forget_L25 a0 z h = some (r, h1)) : j_rk h h1 := by
  unfold f_X11_forget_L25 at hf
  rcases j_ite hf with hf | hf
  ·
    obtain ⟨rfl, rfl⟩ := j_inj2 hf
    exact j_rk_refl _
  ·
    obtain ⟨v12, e13, hf⟩ := j_bind hf
    obtain ⟨v14, e15, hf⟩ := j_bind hf
    obtain ⟨u18, e19, hf⟩ := j_bind hf
    obtain ⟨q16, e17, hf⟩ := j_bind hf
    refine j_rk_t ?_ ((rk_X6_empty e17))
    obtain ⟨rfl, rfl⟩ := j_inj2 hf
    exact j_rk_refl _
theorem rk_X11_forget_L47 {a0 : Nat} {z : Int32} {h : JH} {r : Int32 ⊕ Int32} {h1 : JH} (hf : f_X11_forget_L47 a0 z h = some (r, h1)) : j_rk h h1 := by
  unfold f_X11_forget_L47 at hf
  rcases j_ite hf with hf | hf
  ·
    obtain ⟨rfl, rfl⟩ := j_inj2 hf
    exact j_rk_refl _
  ·
    obtain ⟨v23, e24, hf⟩ := j_bind hf
    obtain ⟨v25, e26, hf⟩ := j_bind hf
    obtain ⟨h27, e28, hf⟩ := j_bind hf
    refine j_rk_t ?_ (jput_rk e28)
    obtain ⟨rfl, rfl⟩ := j_inj2 hf
    exact j_rk_refl _
theorem rk_X11_forget {a0 : Nat} {h : JH} {q : Unit × JH} (hf : f_X11_forget a0 h = some q) : j_rk h q.2 := by
  unfold f_X11_forget at hf
  obtain ⟨q10, e11, hf⟩ := j_bind hf
  refine j_rk_t ?_ ((jloop_rk (fun _ _ _ _ q => rk_X11_forget_L2 q) e11))
  obtain ⟨q21, e22, hf⟩ := j_bind hf
  refine j_rk_t ?_ ((jloop_rk (fun _ _ _ _ q => rk_X11_forget_L25 q) e22))
  obtain ⟨q30, e31, hf⟩ := j_bind hf
  refine j_rk_t ?_ ((jloop_rk (fun _ _ _ _ q => rk_X11_forget_L47 q) e31))
  obtain rfl := j_inj hf
  exact j_rk_refl _
theorem rk_X11_init_L106 {a0 : Nat} {z : Int32} {h : JH} {r : Int32 ⊕ Int32} {h1 : JH} (hf : f_X11_init_L106 a0 z h = some (r, h1)) : j_rk h h1 := by
  unfold f_X11_init_L106 at hf
  rcases j_ite hf with hf | hf
  ·
    obtain ⟨rfl, rfl⟩ := j_inj2 hf
    exact j_rk_refl _
  ·
    obtain ⟨v51, e52, hf⟩ := j_bind hf
    obtain ⟨q53, e54, hf⟩ := j_bind hf
    refine j_rk_trans (jnO_rk e54) ?_
    obtain ⟨q55, e56, hf⟩ := j_bind hf
    refine j_rk_trans (rk_X3_init e56) ?_
    obtain ⟨h57, e58, hf⟩ := j_bind hf
    refine j_rk_trans (id (jsR_rk e58)) ?_
    obtain ⟨rfl, rfl⟩ := j_inj2 hf
    exact j_rk_refl _
theorem rk_X11_init {a0 : Nat} {h : JH} {q : Unit × JH} (hf : f_X11_init a0 h = some q) : j_rk h q.2 := by
  unfold f_X11_init at hf
  obtain ⟨q1, e2, hf⟩ := j_bind hf
  refine j_rk_trans (jnA_rk e2) ?_
  obtain ⟨h3, e4, hf⟩ := j_bind hf
  refine j_rk_trans (id (jput_rk e4)) ?_
  obtain ⟨h5, e6, hf⟩ := j_bind hf
  refine j_rk_trans (id (jput_rk e6)) ?_
  obtain ⟨q7, e8, hf⟩ := j_bind hf
  refine j_rk_trans (rk_X11_newForms e8) ?_
  obtain ⟨h9, e10, hf⟩ := j_bind hf
  refine j_rk_trans (id (jput_rk e10)) ?_
  obtain ⟨q11, e12, hf⟩ := j_bind hf
  refine j_rk_trans (rk_X11_newForms e12) ?_
  obtain ⟨h13, e14, hf⟩ := j_bind hf
  refine j_rk_trans (id (jput_rk e14)) ?_
  obtain ⟨q15, e16, hf⟩ := j_bind hf
  refine j_rk_trans (rk_X11_newShelves e16) ?_
  obtain ⟨h17, e18, hf⟩ := j_bind hf
  refine j_rk_trans (id (jput_rk e18)) ?_
  obtain ⟨q19, e20, hf⟩ := j_bind hf
  refine j_rk_trans (jnA_rk e20) ?_
  obtain ⟨h21, e22, hf⟩ := j_bind hf
  refine j_rk_trans (id (jput_rk e22)) ?_
  obtain ⟨q23, e24, hf⟩ := j_bind hf
  refine j_rk_trans (jnO_rk e24) ?_
  obtain ⟨q25, e26, hf⟩ := j_bind hf
  refine j_rk_trans (rk_X8_init e26) ?_
  obtain ⟨h27, e28, hf⟩ := j_bind hf
  refine j_rk_trans (id (jput_rk e28)) ?_
  obtain ⟨q29, e30, hf⟩ := j_bind hf
  refine j_rk_trans (jnO_rk e30) ?_
  obtain ⟨q31, e32, hf⟩ := j_bind hf
  refine j_rk_trans (rk_X5_init e32) ?_
  obtain ⟨h33, e34, hf⟩ := j_bind hf
  refine j_rk_trans (id (jput_rk e34)) ?_
  obtain ⟨q35, e36, hf⟩ := j_bind hf
  refine j_rk_trans (jnO_rk e36) ?_
  obtain ⟨q37, e38, hf⟩ := j_bind hf
  refine j_rk_trans (rk_X0_init e38) ?_
  obtain ⟨h39, e40, hf⟩ := j_bind hf
  refine j_rk_trans (id (jput_rk e40)) ?_
  obtain ⟨q41, e42, hf⟩ := j_bind hf
  refine j_rk_trans (jnO_rk e42) ?_
  obtain ⟨q43, e44, hf⟩ := j_bind hf
  refine j_rk_trans (rk_X2_init e44) ?_
  obtain ⟨h45, e46, hf⟩ := j_bind hf
  refine j_rk_trans (id (jput_rk e46)) ?_
  obtain ⟨q47, e48, hf⟩ := j_bind hf
  refine j_rk_trans (jnA_rk e48) ?_
  obtain ⟨h49, e50, hf⟩ := j_bind hf
  refine j_rk_trans (id (jput_rk e50)) ?_
  obtain ⟨q60, e61, hf⟩ := j_bind hf
  refine j_rk_trans ((jloop_rk (fun _ _ _ _ q => rk_X11_init_L106 q) e61)) ?_
  obtain ⟨v62, e63, hf⟩ := j_bind hf
  obtain ⟨v64, e65, hf⟩ := j_bind hf
  obtain ⟨h66, e67, hf⟩ := j_bind hf
  refine j_rk_trans (id (jput_rk e67)) ?_
  obtain ⟨u70, e71, hf⟩ := j_bind hf
  obtain ⟨q68, e69, hf⟩ := j_bind hf
  refine j_rk_trans (id ((rk_X11_forget e69))) ?_
  obtain rfl := j_inj hf
  exact j_rk_refl _
theorem rk_X11_feedFour_L3 {a0 : Nat} {a1 : Int32} {z : Int32} {h : JH} {r : Int32 ⊕ Int32} {h1 : JH} (hf : f_X11_feedFour_L3 a0 a1 z h = some (r, h1)) : j_rk h h1 := by
  unfold f_X11_feedFour_L3 at hf
  rcases j_ite hf with hf | hf
  ·
    obtain ⟨rfl, rfl⟩ := j_inj2 hf
    exact j_rk_refl _
  ·
    obtain ⟨v1, e2, hf⟩ := j_bind hf
    rcases j_ite hf with hf | hf
    ·
      obtain ⟨rfl, rfl⟩ := j_inj2 hf
      exact j_rk_refl _
    ·
      obtain ⟨v3, e4, hf⟩ := j_bind hf
      obtain ⟨v5, e6, hf⟩ := j_bind hf
      obtain ⟨h7, e8, hf⟩ := j_bind hf
      refine j_rk_t ?_ (jsB_rk e8)
      obtain ⟨v9, e10, hf⟩ := j_bind hf
      obtain ⟨h11, e12, hf⟩ := j_bind hf
      refine j_rk_t ?_ (jput_rk e12)
      obtain ⟨rfl, rfl⟩ := j_inj2 hf
      exact j_rk_refl _
theorem rk_X11_feedFour {a0 : Nat} {a1 : Int32} {h : JH} {q : Unit × JH} (hf : f_X11_feedFour a0 a1 h = some q) : j_rk h q.2 := by
  unfold f_X11_feedFour at hf
  obtain ⟨q15, e16, hf⟩ := j_bind hf
  refine j_rk_t ?_ ((jloop_rk (fun _ _ _ _ q => rk_X11_feedFour_L3 q) e16))
  obtain rfl := j_inj hf
  exact j_rk_refl _
theorem rk_X11_feed {a0 : Nat} {a1 : Int32} {a2 : Int32} {a3 : Int32} {a4 : Int32} {a5 : Int32} {h : JH} {q : Int32 × JH} (hf : f_X11_feed a0 a1 a2 a3 a4 a5 h = some q) : j_rk h q.2 := by
  unfold f_X11_feed at hf
  obtain ⟨v1, e2, hf⟩ := j_bind hf
  rcases j_ite hf with hf | hf
  ·
    obtain ⟨u23, e24, hf⟩ := j_bind hf
    obtain ⟨q3, e4, hf⟩ := j_bind hf
    refine j_rk_t ?_ ((rk_X11_feedFour e4))
    obtain ⟨u21, e22, hf⟩ := j_bind hf
    obtain ⟨q5, e6, hf⟩ := j_bind hf
    refine j_rk_t ?_ ((rk_X11_feedFour e6))
    obtain ⟨u19, e20, hf⟩ := j_bind hf
    obtain ⟨q7, e8, hf⟩ := j_bind hf
    refine j_rk_t ?_ ((rk_X11_feedFour e8))
    obtain ⟨u17, e18, hf⟩ := j_bind hf
    obtain ⟨q9, e10, hf⟩ := j_bind hf
    refine j_rk_t ?_ ((rk_X11_feedFour e10))
    obtain ⟨u15, e16, hf⟩ := j_bind hf
    obtain ⟨q11, e12, hf⟩ := j_bind hf
    refine j_rk_t ?_ ((rk_X11_feedFour e12))
    obtain ⟨v13, e14, hf⟩ := j_bind hf
    obtain rfl := j_inj hf
    exact j_rk_refl _
  ·
    obtain rfl := j_inj hf
    exact j_rk_refl _
theorem rk_X11_book_L86 {a0 : Nat} {z : Int32} {h : JH} {r : Int32 ⊕ Int32} {h1 : JH} (hf : f_X11_book_L86 a0 z h = some (r, h1)) : j_rk h h1 := by
  unfold f_X11_book_L86 at hf
  obtain ⟨v35, e36, hf⟩ := j_bind hf
  rcases j_ite hf with hf | hf
  ·
    obtain ⟨rfl, rfl⟩ := j_inj2 hf
    exact j_rk_refl _
  ·
    obtain ⟨v37, e38, hf⟩ := j_bind hf
    obtain ⟨v39, e40, hf⟩ := j_bind hf
    obtain ⟨v41, e42, hf⟩ := j_bind hf
    obtain ⟨v43, e44, hf⟩ := j_bind hf
    obtain ⟨v45, e46, hf⟩ := j_bind hf
    obtain ⟨u49, e50, hf⟩ := j_bind hf
    obtain ⟨q47, e48, hf⟩ := j_bind hf
    refine j_rk_t ?_ ((rk_X2_copyFrom e48))
    obtain ⟨rfl, rfl⟩ := j_inj2 hf
    exact j_rk_refl _
theorem rk_X11_book {a0 : Nat} {a1 : Int32} {h : JH} {q : Int32 × JH} (hf : f_X11_book a0 a1 h = some q) : j_rk h q.2 := by
  unfold f_X11_book at hf
  rcases j_ite hf with hf | hf
  ·
    obtain rfl := j_inj hf
    exact j_rk_refl _
  ·
    obtain ⟨v1, e2, hf⟩ := j_bind hf
    rcases j_ite hf with hf | hf
    ·
      obtain ⟨h3, e4, hf⟩ := j_bind hf
      refine j_rk_t ?_ (jput_rk e4)
      obtain ⟨v5, e6, hf⟩ := j_bind hf
      obtain ⟨v7, e8, hf⟩ := j_bind hf
      obtain ⟨u68, e69, hf⟩ := j_bind hf
      obtain ⟨q9, e10, hf⟩ := j_bind hf
      refine j_rk_t ?_ ((rk_X0_open e10))
      obtain ⟨v11, e12, hf⟩ := j_bind hf
      obtain ⟨u66, e67, hf⟩ := j_bind hf
      obtain ⟨q13, e14, hf⟩ := j_bind hf
      refine j_rk_t ?_ ((rk_X0_readPrime e14))
      rcases j_ite hf with hf | hf
      ·
        obtain ⟨v15, e16, hf⟩ := j_bind hf
        obtain ⟨v17, e18, hf⟩ := j_bind hf
        obtain rfl := j_inj hf
        exact j_rk_refl _
      ·
        obtain ⟨v19, e20, hf⟩ := j_bind hf
        obtain ⟨u64, e65, hf⟩ := j_bind hf
        obtain ⟨q21, e22, hf⟩ := j_bind hf
        refine j_rk_t ?_ ((rk_X0_readLets e22))
        rcases j_ite hf with hf | hf
        ·
          obtain ⟨v60, e61, hf⟩ := j_bind hf
          obtain ⟨v62, e63, hf⟩ := j_bind hf
          obtain rfl := j_inj hf
          exact j_rk_refl _
        ·
          obtain ⟨v23, e24, hf⟩ := j_bind hf
          obtain ⟨v25, e26, hf⟩ := j_bind hf
          obtain ⟨h27, e28, hf⟩ := j_bind hf
          refine j_rk_t ?_ (jput_rk e28)
          obtain ⟨v29, e30, hf⟩ := j_bind hf
          obtain ⟨v31, e32, hf⟩ := j_bind hf
          obtain ⟨h33, e34, hf⟩ := j_bind hf
          refine j_rk_t ?_ (jput_rk e34)
          obtain ⟨q52, e53, hf⟩ := j_bind hf
          refine j_rk_t ?_ ((jloop_rk (fun _ _ _ _ q => rk_X11_book_L86 q) e53))
          obtain ⟨u58, e59, hf⟩ := j_bind hf
          obtain ⟨q54, e55, hf⟩ := j_bind hf
          refine j_rk_t ?_ ((rk_X11_forget e55))
          obtain ⟨v56, e57, hf⟩ := j_bind hf
          obtain rfl := j_inj hf
          exact j_rk_refl _
    ·
      obtain rfl := j_inj hf
      exact j_rk_refl _
theorem rk_X11_laidImages_L4 {a0 : Nat} {z : (Int32 × Int32)} {h : JH} {r : (Int32 × Int32) ⊕ (Int32 × Int32)} {h1 : JH} (hf : f_X11_laidImages_L4 a0 z h = some (r, h1)) : j_rk h h1 := by
  unfold f_X11_laidImages_L4 at hf
  rcases j_ite hf with hf | hf
  ·
    obtain ⟨rfl, rfl⟩ := j_inj2 hf
    exact j_rk_refl _
  ·
    obtain ⟨v1, e2, hf⟩ := j_bind hf
    obtain ⟨v3, e4, hf⟩ := j_bind hf
    obtain ⟨v5, e6, hf⟩ := j_bind hf
    rcases j_ite hf with hf | hf
    ·
      obtain ⟨rfl, rfl⟩ := j_inj2 hf
      exact j_rk_refl _
    ·
      obtain ⟨rfl, rfl⟩ := j_inj2 hf
      exact j_rk_refl _
theorem rk_X11_laidImages {a0 : Nat} {h : JH} {q : Int32 × JH} (hf : f_X11_laidImages a0 h = some q) : j_rk h q.2 := by
  unfold f_X11_laidImages at hf
  obtain ⟨q9, e10, hf⟩ := j_bind hf
  refine j_rk_t ?_ ((jloop_rk (fun _ _ _ _ q => rk_X11_laidImages_L4 q) e10))
  obtain rfl := j_inj hf
  exact j_rk_refl _
theorem rk_X11_count {a0 : Nat} {a1 : Int32} {h : JH} {q : Int32 × JH} (hf : f_X11_count a0 a1 h = some q) : j_rk h q.2 := by
  unfold f_X11_count at hf
  rcases j_ite hf with hf | hf
  ·
    obtain ⟨v1, e2, hf⟩ := j_bind hf
    obtain rfl := j_inj hf
    exact j_rk_refl _
  rcases j_ite hf with hf | hf
  ·
    obtain ⟨v3, e4, hf⟩ := j_bind hf
    obtain rfl := j_inj hf
    exact j_rk_refl _
  rcases j_ite hf with hf | hf
  ·
    obtain ⟨v5, e6, hf⟩ := j_bind hf
    obtain rfl := j_inj hf
    exact j_rk_refl _
  rcases j_ite hf with hf | hf
  ·
    obtain ⟨u9, e10, hf⟩ := j_bind hf
    obtain ⟨q7, e8, hf⟩ := j_bind hf
    refine j_rk_t ?_ ((rk_X11_laidImages e8))
    obtain rfl := j_inj hf
    exact j_rk_refl _
  obtain rfl := j_inj hf
  exact j_rk_refl _
theorem rk_X11_isLet {a0 : Nat} {a1 : Int32} {h : JH} {q : Int32 × JH} (hf : f_X11_isLet a0 a1 h = some q) : j_rk h q.2 := by
  unfold f_X11_isLet at hf
  rcases j_ite hf with hf | hf
  ·
    obtain rfl := j_inj hf
    exact j_rk_refl _
  ·
    obtain ⟨v1, e2, hf⟩ := j_bind hf
    rcases j_ite hf with hf | hf
    ·
      obtain rfl := j_inj hf
      exact j_rk_refl _
    ·
      obtain rfl := j_inj hf
      exact j_rk_refl _
theorem rk_X11_let {a0 : Nat} {a1 : Int32} {a2 : Int32} {h : JH} {q : Int32 × JH} (hf : f_X11_let a0 a1 a2 h = some q) : j_rk h q.2 := by
  unfold f_X11_let at hf
  obtain ⟨u17, e18, hf⟩ := j_bind hf
  obtain ⟨q1, e2, hf⟩ := j_bind hf
  refine j_rk_t ?_ ((rk_X11_isLet e2))
  rcases j_ite hf with hf | hf
  ·
    obtain rfl := j_inj hf
    exact j_rk_refl _
  ·
    obtain ⟨v3, e4, hf⟩ := j_bind hf
    obtain ⟨v5, e6, hf⟩ := j_bind hf
    rcases j_ite hf with hf | hf
    ·
      obtain ⟨v7, e8, hf⟩ := j_bind hf
      obtain rfl := j_inj hf
      exact j_rk_refl _
    rcases j_ite hf with hf | hf
    ·
      obtain ⟨v9, e10, hf⟩ := j_bind hf
      obtain ⟨q11, e12, hf⟩ := j_bind hf
      refine j_rk_t ?_ ((rk_X11_lengthOf e12))
      obtain rfl := j_inj hf
      exact j_rk_refl _
    rcases j_ite hf with hf | hf
    ·
      obtain ⟨v13, e14, hf⟩ := j_bind hf
      obtain ⟨v15, e16, hf⟩ := j_bind hf
      rcases j_ite hf with hf | hf
      ·
        obtain rfl := j_inj hf
        exact j_rk_refl _
      ·
        obtain rfl := j_inj hf
        exact j_rk_refl _
    obtain rfl := j_inj hf
    exact j_rk_refl _
theorem rk_X11_coefficientOf {a0 : Nat} {a1 : Nat} {a2 : Int32} {h : JH} {q : Int32 × JH} (hf : f_X11_coefficientOf a0 a1 a2 h = some q) : j_rk h q.2 := by
  unfold f_X11_coefficientOf at hf
  rcases j_ite hf with hf | hf
  ·
    obtain ⟨v1, e2, hf⟩ := j_bind hf
    obtain ⟨v3, e4, hf⟩ := j_bind hf
    obtain ⟨v5, e6, hf⟩ := j_bind hf
    obtain ⟨u15, e16, hf⟩ := j_bind hf
    obtain ⟨q7, e8, hf⟩ := j_bind hf
    refine j_rk_trans (rk_X8_ready e8) ?_
    obtain ⟨v9, e10, hf⟩ := j_bind hf
    obtain ⟨u13, e14, hf⟩ := j_bind hf
    obtain ⟨q11, e12, hf⟩ := j_bind hf
    refine j_rk_trans (id ((rk_X7_expand e12))) ?_
    obtain rfl := j_inj hf
    exact j_rk_refl _
  ·
    obtain ⟨v17, e18, hf⟩ := j_bind hf
    obtain ⟨v19, e20, hf⟩ := j_bind hf
    obtain rfl := j_inj hf
    exact j_rk_refl _
theorem rk_X11_isRegister {a0 : Int32} {h : JH} {q : Int32 × JH} (hf : f_X11_isRegister a0 h = some q) : j_rk h q.2 := by
  unfold f_X11_isRegister at hf
  rcases j_ite hf with hf | hf
  ·
    obtain rfl := j_inj hf
    exact j_rk_refl _
  ·
    rcases j_ite hf with hf | hf
    ·
      obtain rfl := j_inj hf
      exact j_rk_refl _
    ·
      obtain rfl := j_inj hf
      exact j_rk_refl _
theorem rk_X11_coefficient {a0 : Nat} {a1 : Int32} {a2 : Int32} {h : JH} {q : Int32 × JH} (hf : f_X11_coefficient a0 a1 a2 h = some q) : j_rk h q.2 := by
  unfold f_X11_coefficient at hf
  obtain ⟨q1, e2, hf⟩ := j_bind hf
  refine j_rk_trans (id ((rk_X11_isRegister e2))) ?_
  rcases j_ite hf with hf | hf
  ·
    obtain rfl := j_inj hf
    exact j_rk_refl _
  ·
    rcases j_ite hf with hf | hf
    ·
      obtain rfl := j_inj hf
      exact j_rk_refl _
    ·
      rcases j_ite hf with hf | hf
      ·
        obtain ⟨v3, e4, hf⟩ := j_bind hf
        obtain ⟨v5, e6, hf⟩ := j_bind hf
        obtain ⟨u9, e10, hf⟩ := j_bind hf
        obtain ⟨q7, e8, hf⟩ := j_bind hf
        refine j_rk_trans (rk_X11_coefficientOf e8) ?_
        obtain rfl := j_inj hf
        exact j_rk_refl _
      ·
        obtain rfl := j_inj hf
        exact j_rk_refl _
theorem rk_X11_weight {a0 : Nat} {a1 : Int32} {h : JH} {q : Int32 × JH} (hf : f_X11_weight a0 a1 h = some q) : j_rk h q.2 := by
  unfold f_X11_weight at hf
  obtain ⟨q1, e2, hf⟩ := j_bind hf
  refine j_rk_t ?_ ((rk_X11_isRegister e2))
  rcases j_ite hf with hf | hf
  ·
    obtain rfl := j_inj hf
    exact j_rk_refl _
  ·
    obtain ⟨v3, e4, hf⟩ := j_bind hf
    obtain ⟨v5, e6, hf⟩ := j_bind hf
    obtain ⟨v7, e8, hf⟩ := j_bind hf
    obtain rfl := j_inj hf
    exact j_rk_refl _
theorem rk_X11_makes {a0 : Nat} {a1 : Int32} {a2 : Int32} {h : JH} {q : Int32 × JH} (hf : f_X11_makes a0 a1 a2 h = some q) : j_rk h q.2 := by
  unfold f_X11_makes at hf
  obtain ⟨q1, e2, hf⟩ := j_bind hf
  refine j_rk_t ?_ ((rk_X11_isWeight e2))
  rcases j_ite hf with hf | hf
  ·
    obtain rfl := j_inj hf
    exact j_rk_refl _
  ·
    rcases j_ite hf with hf | hf
    ·
      obtain ⟨q3, e4, hf⟩ := j_bind hf
      refine j_rk_t ?_ ((rk_X11_lengthOf e4))
      obtain rfl := j_inj hf
      exact j_rk_refl _
    ·
      obtain ⟨q5, e6, hf⟩ := j_bind hf
      refine j_rk_t ?_ ((rk_X11_cuspsOf e6))
      obtain rfl := j_inj hf
      exact j_rk_refl _
theorem rk_X11_whole {a0 : Nat} {a1 : Int32} {h : JH} {q : (Option Int32) × JH} (hf : f_X11_whole a0 a1 h = some q) : j_rk h q.2 := by
  unfold f_X11_whole at hf
  rcases j_ite hf with hf | hf
  ·
    obtain ⟨q1, e2, hf⟩ := j_bind hf
    refine j_rk_trans (id ((rk_X1_inTwelfths e2))) ?_
    obtain rfl := j_inj hf
    exact j_rk_refl _
  ·
    obtain rfl := j_inj hf
    exact jexc_rk _
theorem rk_X11_small {a0 : Nat} {a1 : Int32} {h : JH} {q : Int32 × JH} (hf : f_X11_small a0 a1 h = some q) : j_rk h q.2 := by
  unfold f_X11_small at hf
  obtain ⟨q1, e2, hf⟩ := j_bind hf
  refine j_rk_t ?_ ((rk_X1_ofNothingInCommon e2))
  obtain rfl := j_inj hf
  exact j_rk_refl _
theorem rk_X11_trace {a0 : Nat} {a1 : Int32} {a2 : Int32} {h : JH} {q : Int64 × JH} (hf : f_X11_trace a0 a1 a2 h = some q) : j_rk h q.2 := by
  unfold f_X11_trace at hf
  obtain ⟨q1, e2, hf⟩ := j_bind hf
  refine j_rk_t ?_ ((rk_X10_isAsked e2))
  rcases j_ite hf with hf | hf
  ·
    obtain rfl := j_inj hf
    exact j_rk_refl _
  ·
    obtain ⟨q3, e4, hf⟩ := j_bind hf
    refine j_rk_t ?_ ((rk_X10_exact e4))
    obtain rfl := j_inj hf
    exact j_rk_refl _
theorem rk_X11_traceLeft {a0 : Nat} {a1 : Int32} {a2 : Int32} {h : JH} {q : Int32 × JH} (hf : f_X11_traceLeft a0 a1 a2 h = some q) : j_rk h q.2 := by
  unfold f_X11_traceLeft at hf
  obtain ⟨q1, e2, hf⟩ := j_bind hf
  refine j_rk_t ?_ ((rk_X10_isAsked e2))
  rcases j_ite hf with hf | hf
  ·
    obtain rfl := j_inj hf
    exact j_rk_refl _
  ·
    obtain ⟨v3, e4, hf⟩ := j_bind hf
    obtain ⟨q5, e6, hf⟩ := j_bind hf
    refine j_rk_t ?_ ((rk_X10_left e6))
    obtain rfl := j_inj hf
    exact j_rk_refl _
theorem rk_X11_share {a0 : Nat} {a1 : Int32} {a2 : Int32} {h : JH} {q : Int32 × JH} (hf : f_X11_share a0 a1 a2 h = some q) : j_rk h q.2 := by
  unfold f_X11_share at hf
  obtain ⟨q1, e2, hf⟩ := j_bind hf
  refine j_rk_t ?_ ((rk_X10_isAsked e2))
  rcases j_ite hf with hf | hf
  ·
    obtain rfl := j_inj hf
    exact j_rk_refl _
  ·
    obtain ⟨q3, e4, hf⟩ := j_bind hf
    refine j_rk_t ?_ ((rk_X10_exact e4))
    rcases j_ite hf with hf | hf
    ·
      obtain rfl := j_inj hf
      exact j_rk_refl _
    ·
      obtain ⟨q5, e6, hf⟩ := j_bind hf
      refine j_rk_t ?_ ((rk_X10_shareOf e6))
      obtain ⟨q7, e8, hf⟩ := j_bind hf
      refine j_rk_t ?_ ((rk_X10_bitsOf e8))
      obtain rfl := j_inj hf
      exact j_rk_refl _
theorem rk_X11_take {a0 : Nat} {a1 : Int32} {a2 : Int32} {h : JH} {q : Int32 × JH} (hf : f_X11_take a0 a1 a2 h = some q) : j_rk h q.2 := by
  unfold f_X11_take at hf
  obtain ⟨q1, e2, hf⟩ := j_bind hf
  refine j_rk_t ?_ ((rk_X11_isRegister e2))
  rcases j_ite hf with hf | hf
  ·
    obtain rfl := j_inj hf
    exact j_rk_refl _
  ·
    obtain ⟨u23, e24, hf⟩ := j_bind hf
    obtain ⟨q3, e4, hf⟩ := j_bind hf
    refine j_rk_t ?_ ((rk_X11_isLet e4))
    rcases j_ite hf with hf | hf
    ·
      obtain rfl := j_inj hf
      exact j_rk_refl _
    ·
      obtain ⟨v5, e6, hf⟩ := j_bind hf
      obtain ⟨v7, e8, hf⟩ := j_bind hf
      obtain ⟨v9, e10, hf⟩ := j_bind hf
      obtain ⟨v11, e12, hf⟩ := j_bind hf
      obtain ⟨u21, e22, hf⟩ := j_bind hf
      obtain ⟨q13, e14, hf⟩ := j_bind hf
      refine j_rk_t ?_ ((rk_X2_copyFrom e14))
      obtain ⟨v15, e16, hf⟩ := j_bind hf
      obtain ⟨v17, e18, hf⟩ := j_bind hf
      obtain ⟨v19, e20, hf⟩ := j_bind hf
      obtain rfl := j_inj hf
      exact j_rk_refl _
theorem rk_X11_plus {a0 : Nat} {a1 : Int32} {a2 : Int32} {a3 : Int32} {h : JH} {q : Int32 × JH} (hf : f_X11_plus a0 a1 a2 a3 h = some q) : j_rk h q.2 := by
  unfold f_X11_plus at hf
  obtain ⟨q1, e2, hf⟩ := j_bind hf
  refine j_rk_t ?_ ((rk_X11_isRegister e2))
  rcases j_ite hf with hf | hf
  ·
    obtain rfl := j_inj hf
    exact j_rk_refl _
  ·
    obtain ⟨q3, e4, hf⟩ := j_bind hf
    refine j_rk_t ?_ ((rk_X11_isRegister e4))
    rcases j_ite hf with hf | hf
    ·
      obtain rfl := j_inj hf
      exact j_rk_refl _
    ·
      obtain ⟨v5, e6, hf⟩ := j_bind hf
      obtain ⟨v7, e8, hf⟩ := j_bind hf
      obtain ⟨v9, e10, hf⟩ := j_bind hf
      obtain ⟨v11, e12, hf⟩ := j_bind hf
      obtain ⟨v13, e14, hf⟩ := j_bind hf
      obtain ⟨v15, e16, hf⟩ := j_bind hf
      rcases j_ite hf with hf | hf
      ·
        obtain ⟨v17, e18, hf⟩ := j_bind hf
        obtain ⟨v19, e20, hf⟩ := j_bind hf
        obtain ⟨v21, e22, hf⟩ := j_bind hf
        obtain ⟨v23, e24, hf⟩ := j_bind hf
        obtain ⟨v25, e26, hf⟩ := j_bind hf
        obtain ⟨q27, e28, hf⟩ := j_bind hf
        refine j_rk_t ?_ ((rk_X4_of e28))
        obtain ⟨v29, e30, hf⟩ := j_bind hf
        obtain ⟨u33, e34, hf⟩ := j_bind hf
        obtain ⟨q31, e32, hf⟩ := j_bind hf
        refine j_rk_t ?_ ((rk_X2_add e32))
        obtain rfl := j_inj hf
        exact j_rk_refl _
      ·
        obtain rfl := j_inj hf
        exact j_rk_refl _
theorem rk_X11_times {a0 : Nat} {a1 : Int32} {a2 : Int32} {h : JH} {q : Int32 × JH} (hf : f_X11_times a0 a1 a2 h = some q) : j_rk h q.2 := by
  unfold f_X11_times at hf
  obtain ⟨q1, e2, hf⟩ := j_bind hf
  refine j_rk_t ?_ ((rk_X11_isRegister e2))
  rcases j_ite hf with hf | hf
  ·
    obtain rfl := j_inj hf
    exact j_rk_refl _
  ·
    obtain ⟨q3, e4, hf⟩ := j_bind hf
    refine j_rk_t ?_ ((rk_X11_isRegister e4))
    rcases j_ite hf with hf | hf
    ·
      obtain rfl := j_inj hf
      exact j_rk_refl _
    ·
      obtain ⟨v5, e6, hf⟩ := j_bind hf
      obtain ⟨v7, e8, hf⟩ := j_bind hf
      obtain ⟨v9, e10, hf⟩ := j_bind hf
      obtain ⟨v11, e12, hf⟩ := j_bind hf
      obtain ⟨v13, e14, hf⟩ := j_bind hf
      obtain ⟨v15, e16, hf⟩ := j_bind hf
      rcases j_ite hf with hf | hf
      ·
        obtain ⟨v17, e18, hf⟩ := j_bind hf
        obtain ⟨v19, e20, hf⟩ := j_bind hf
        obtain ⟨v21, e22, hf⟩ := j_bind hf
        obtain ⟨v23, e24, hf⟩ := j_bind hf
        obtain ⟨v25, e26, hf⟩ := j_bind hf
        obtain ⟨u35, e36, hf⟩ := j_bind hf
        obtain ⟨q27, e28, hf⟩ := j_bind hf
        refine j_rk_t ?_ ((rk_X2_multiplyBy e28))
        obtain ⟨v29, e30, hf⟩ := j_bind hf
        obtain ⟨v31, e32, hf⟩ := j_bind hf
        obtain ⟨v33, e34, hf⟩ := j_bind hf
        obtain rfl := j_inj hf
        exact j_rk_refl _
      ·
        obtain rfl := j_inj hf
        exact j_rk_refl _
theorem rk_X11_readyForHecke {a0 : Nat} {a1 : Int32} {a2 : Int32} {h : JH} {q : Nat × JH} (hf : f_X11_readyForHecke a0 a1 a2 h = some q) : j_rk h q.2 := by
  unfold f_X11_readyForHecke at hf
  obtain ⟨v1, e2, hf⟩ := j_bind hf
  obtain ⟨v3, e4, hf⟩ := j_bind hf
  obtain ⟨q5, e6, hf⟩ := j_bind hf
  refine j_rk_trans (id ((rk_X11_cuspsOf e6))) ?_
  obtain ⟨u9, e10, hf⟩ := j_bind hf
  obtain ⟨q7, e8, hf⟩ := j_bind hf
  refine j_rk_trans (rk_X8_ready e8) ?_
  obtain rfl := j_inj hf
  exact j_rk_refl _
theorem rk_X11_isHecke {a0 : Int32} {h : JH} {q : Int32 × JH} (hf : f_X11_isHecke a0 h = some q) : j_rk h q.2 := by
  unfold f_X11_isHecke at hf
  rcases j_ite hf with hf | hf
  ·
    obtain rfl := j_inj hf
    exact j_rk_refl _
  ·
    rcases j_ite hf with hf | hf
    ·
      obtain rfl := j_inj hf
      exact j_rk_refl _
    ·
      obtain rfl := j_inj hf
      exact j_rk_refl _
theorem rk_X11_hecke_L37 {a0 : Nat} {a2 : Int32} {a3 : Nat} {a4 : Nat} {z : Int32} {h : JH} {r : Int32 ⊕ Int32} {h1 : JH} (hf : f_X11_hecke_L37 a0 a2 a3 a4 z h = some (r, h1)) : j_rk h h1 := by
  unfold f_X11_hecke_L37 at hf
  obtain ⟨v13, e14, hf⟩ := j_bind hf
  rcases j_ite hf with hf | hf
  ·
    obtain ⟨rfl, rfl⟩ := j_inj2 hf
    exact j_rk_refl _
  ·
    obtain ⟨v15, e16, hf⟩ := j_bind hf
    obtain ⟨v17, e18, hf⟩ := j_bind hf
    obtain ⟨v19, e20, hf⟩ := j_bind hf
    obtain ⟨u25, e26, hf⟩ := j_bind hf
    obtain ⟨q21, e22, hf⟩ := j_bind hf
    refine j_rk_t ?_ ((rk_X7_heckeAt e22))
    obtain ⟨h23, e24, hf⟩ := j_bind hf
    refine j_rk_t ?_ (jsI_rk e24)
    obtain ⟨rfl, rfl⟩ := j_inj2 hf
    exact j_rk_refl _
theorem rk_X11_hecke {a0 : Nat} {a1 : Int32} {a2 : Int32} {h : JH} {q : Int32 × JH} (hf : f_X11_hecke a0 a1 a2 h = some q) : j_rk h q.2 := by
  unfold f_X11_hecke at hf
  obtain ⟨q1, e2, hf⟩ := j_bind hf
  refine j_rk_trans (id ((rk_X11_isRegister e2))) ?_
  rcases j_ite hf with hf | hf
  ·
    obtain rfl := j_inj hf
    exact j_rk_refl _
  ·
    obtain ⟨q3, e4, hf⟩ := j_bind hf
    refine j_rk_trans (id ((rk_X11_isHecke e4))) ?_
    rcases j_ite hf with hf | hf
    ·
      obtain rfl := j_inj hf
      exact j_rk_refl _
    ·
      obtain ⟨v5, e6, hf⟩ := j_bind hf
      obtain ⟨v7, e8, hf⟩ := j_bind hf
      obtain ⟨v9, e10, hf⟩ := j_bind hf
      obtain ⟨u42, e43, hf⟩ := j_bind hf
      obtain ⟨q11, e12, hf⟩ := j_bind hf
      refine j_rk_trans (rk_X11_readyForHecke e12) ?_
      obtain ⟨q28, e29, hf⟩ := j_bind hf
      refine j_rk_trans (id ((jloop_rk (fun _ _ _ _ q => rk_X11_hecke_L37 q) e29))) ?_
      obtain ⟨v30, e31, hf⟩ := j_bind hf
      obtain ⟨u40, e41, hf⟩ := j_bind hf
      obtain ⟨q32, e33, hf⟩ := j_bind hf
      refine j_rk_trans (id ((rk_X7_complete e33))) ?_
      obtain ⟨v34, e35, hf⟩ := j_bind hf
      obtain ⟨u38, e39, hf⟩ := j_bind hf
      obtain ⟨q36, e37, hf⟩ := j_bind hf
      refine j_rk_trans (id ((rk_X2_copyFrom e37))) ?_
      obtain rfl := j_inj hf
      exact j_rk_refl _
theorem rk_X11_multiplies_L86 {a0 : Nat} {a2 : Int32} {a3 : Nat} {a5 : Nat} {a6 : Int32} {z : Int32} {h : JH} {r : Int32 ⊕ (Int32 ⊕ Int32)} {h1 : JH} (hf : f_X11_multiplies_L86 a0 a2 a3 a5 a6 z h = some (r, h1)) : j_rk h h1 := by
  unfold f_X11_multiplies_L86 at hf
  obtain ⟨v33, e34, hf⟩ := j_bind hf
  rcases j_ite hf with hf | hf
  ·
    obtain ⟨rfl, rfl⟩ := j_inj2 hf
    exact j_rk_refl _
  ·
    obtain ⟨u43, e44, hf⟩ := j_bind hf
    obtain ⟨q35, e36, hf⟩ := j_bind hf
    refine j_rk_t ?_ ((rk_X7_heckeAt e36))
    obtain ⟨v37, e38, hf⟩ := j_bind hf
    obtain ⟨v39, e40, hf⟩ := j_bind hf
    obtain ⟨q41, e42, hf⟩ := j_bind hf
    refine j_rk_t ?_ ((rk_X4_of e42))
    rcases j_ite hf with hf | hf
    ·
      obtain ⟨rfl, rfl⟩ := j_inj2 hf
      exact j_rk_refl _
    ·
      obtain ⟨rfl, rfl⟩ := j_inj2 hf
      exact j_rk_refl _
theorem rk_X11_multiplies {a0 : Nat} {a1 : Int32} {a2 : Int32} {h : JH} {q : Int32 × JH} (hf : f_X11_multiplies a0 a1 a2 h = some q) : j_rk h q.2 := by
  unfold f_X11_multiplies at hf
  obtain ⟨q1, e2, hf⟩ := j_bind hf
  refine j_rk_trans (id ((rk_X11_isRegister e2))) ?_
  rcases j_ite hf with hf | hf
  ·
    obtain rfl := j_inj hf
    exact j_rk_refl _
  ·
    obtain ⟨q3, e4, hf⟩ := j_bind hf
    refine j_rk_trans (id ((rk_X11_isHecke e4))) ?_
    rcases j_ite hf with hf | hf
    ·
      obtain rfl := j_inj hf
      exact j_rk_refl _
    ·
      obtain ⟨v5, e6, hf⟩ := j_bind hf
      obtain ⟨v7, e8, hf⟩ := j_bind hf
      obtain ⟨v9, e10, hf⟩ := j_bind hf
      obtain ⟨v11, e12, hf⟩ := j_bind hf
      obtain ⟨v13, e14, hf⟩ := j_bind hf
      obtain ⟨u55, e56, hf⟩ := j_bind hf
      obtain ⟨q15, e16, hf⟩ := j_bind hf
      refine j_rk_trans (id ((rk_X2_firstNotZero e16))) ?_
      rcases j_ite hf with hf | hf
      ·
        obtain ⟨v17, e18, hf⟩ := j_bind hf
        obtain ⟨v19, e20, hf⟩ := j_bind hf
        obtain ⟨v21, e22, hf⟩ := j_bind hf
        obtain ⟨u53, e54, hf⟩ := j_bind hf
        obtain ⟨q23, e24, hf⟩ := j_bind hf
        refine j_rk_trans (rk_X11_readyForHecke e24) ?_
        obtain ⟨u51, e52, hf⟩ := j_bind hf
        obtain ⟨q25, e26, hf⟩ := j_bind hf
        refine j_rk_trans (id ((rk_X7_heckeAt e26))) ?_
        obtain ⟨v27, e28, hf⟩ := j_bind hf
        obtain ⟨v29, e30, hf⟩ := j_bind hf
        obtain ⟨q31, e32, hf⟩ := j_bind hf
        refine j_rk_trans (id ((rk_X4_divide e32))) ?_
        obtain ⟨q47, e48, hf⟩ := j_bind hf
        refine j_rk_trans (id ((jloop_rk (fun _ _ _ _ q => rk_X11_multiplies_L86 q) e48))) ?_
        cases y57 : q47.1 with
        | inl r50 =>
          rw [y57] at hf
          have hf := j_eliml hf
          obtain rfl := j_inj hf
          exact j_rk_refl _
        | inr t49 =>
          rw [y57] at hf
          have hf := j_elimr hf
          obtain rfl := j_inj hf
          exact j_rk_refl _
      ·
        obtain rfl := j_inj hf
        exact j_rk_refl _
theorem rk_X11_partingPlace_L2 {a0 : Nat} {a1 : Nat} {z : Int32} {h : JH} {r : Int32 ⊕ (Int32 ⊕ Int32)} {h1 : JH} (hf : f_X11_partingPlace_L2 a0 a1 z h = some (r, h1)) : j_rk h h1 := by
  unfold f_X11_partingPlace_L2 at hf
  rcases j_ite hf with hf | hf
  ·
    obtain ⟨rfl, rfl⟩ := j_inj2 hf
    exact j_rk_refl _
  ·
    obtain ⟨v1, e2, hf⟩ := j_bind hf
    obtain ⟨v3, e4, hf⟩ := j_bind hf
    obtain ⟨v5, e6, hf⟩ := j_bind hf
    obtain ⟨v7, e8, hf⟩ := j_bind hf
    rcases j_ite hf with hf | hf
    ·
      obtain ⟨rfl, rfl⟩ := j_inj2 hf
      exact j_rk_refl _
    ·
      obtain ⟨rfl, rfl⟩ := j_inj2 hf
      exact j_rk_refl _
theorem rk_X11_partingPlace {a0 : Nat} {a1 : Nat} {h : JH} {q : Int32 × JH} (hf : f_X11_partingPlace a0 a1 h = some q) : j_rk h q.2 := by
  unfold f_X11_partingPlace at hf
  obtain ⟨q11, e12, hf⟩ := j_bind hf
  refine j_rk_t ?_ ((jloop_rk (fun _ _ _ _ q => rk_X11_partingPlace_L2 q) e12))
  cases y15 : q11.1 with
  | inl r14 =>
    rw [y15] at hf
    have hf := j_eliml hf
    obtain rfl := j_inj hf
    exact j_rk_refl _
  | inr t13 =>
    rw [y15] at hf
    have hf := j_elimr hf
    obtain rfl := j_inj hf
    exact j_rk_refl _
theorem rk_X11_alike {a0 : Nat} {a1 : Int32} {a2 : Int32} {a3 : Int32} {h : JH} {q : Int32 × JH} (hf : f_X11_alike a0 a1 a2 a3 h = some q) : j_rk h q.2 := by
  unfold f_X11_alike at hf
  obtain ⟨q1, e2, hf⟩ := j_bind hf
  refine j_rk_t ?_ ((rk_X11_isRegister e2))
  rcases j_ite hf with hf | hf
  ·
    obtain rfl := j_inj hf
    exact j_rk_refl _
  ·
    obtain ⟨q3, e4, hf⟩ := j_bind hf
    refine j_rk_t ?_ ((rk_X11_isRegister e4))
    rcases j_ite hf with hf | hf
    ·
      obtain rfl := j_inj hf
      exact j_rk_refl _
    ·
      rcases j_ite hf with hf | hf
      ·
        obtain rfl := j_inj hf
        exact j_rk_refl _
      ·
        rcases j_ite hf with hf | hf
        ·
          obtain ⟨v5, e6, hf⟩ := j_bind hf
          obtain ⟨v7, e8, hf⟩ := j_bind hf
          obtain ⟨v9, e10, hf⟩ := j_bind hf
          obtain ⟨v11, e12, hf⟩ := j_bind hf
          obtain ⟨v13, e14, hf⟩ := j_bind hf
          obtain ⟨v15, e16, hf⟩ := j_bind hf
          rcases j_ite hf with hf | hf
          ·
            obtain ⟨v17, e18, hf⟩ := j_bind hf
            obtain ⟨v19, e20, hf⟩ := j_bind hf
            obtain ⟨v21, e22, hf⟩ := j_bind hf
            obtain ⟨v23, e24, hf⟩ := j_bind hf
            obtain ⟨q25, e26, hf⟩ := j_bind hf
            refine j_rk_t ?_ ((rk_X11_partingPlace e26))
            rcases j_ite hf with hf | hf
            ·
              obtain rfl := j_inj hf
              exact j_rk_refl _
            ·
              rcases j_ite hf with hf | hf
              ·
                obtain rfl := j_inj hf
                exact j_rk_refl _
              ·
                obtain rfl := j_inj hf
                exact j_rk_refl _
          ·
            obtain rfl := j_inj hf
            exact j_rk_refl _
        ·
          obtain rfl := j_inj hf
          exact j_rk_refl _
theorem rk_X11_parts {a0 : Nat} {a1 : Int32} {a2 : Int32} {h : JH} {q : Int32 × JH} (hf : f_X11_parts a0 a1 a2 h = some q) : j_rk h q.2 := by
  unfold f_X11_parts at hf
  obtain ⟨q1, e2, hf⟩ := j_bind hf
  refine j_rk_t ?_ ((rk_X11_isRegister e2))
  rcases j_ite hf with hf | hf
  ·
    obtain rfl := j_inj hf
    exact j_rk_refl _
  ·
    obtain ⟨q3, e4, hf⟩ := j_bind hf
    refine j_rk_t ?_ ((rk_X11_isRegister e4))
    rcases j_ite hf with hf | hf
    ·
      obtain rfl := j_inj hf
      exact j_rk_refl _
    ·
      obtain ⟨v5, e6, hf⟩ := j_bind hf
      obtain ⟨v7, e8, hf⟩ := j_bind hf
      obtain ⟨v9, e10, hf⟩ := j_bind hf
      obtain ⟨v11, e12, hf⟩ := j_bind hf
      obtain ⟨v13, e14, hf⟩ := j_bind hf
      obtain ⟨v15, e16, hf⟩ := j_bind hf
      rcases j_ite hf with hf | hf
      ·
        obtain ⟨v17, e18, hf⟩ := j_bind hf
        obtain ⟨v19, e20, hf⟩ := j_bind hf
        obtain ⟨v21, e22, hf⟩ := j_bind hf
        obtain ⟨v23, e24, hf⟩ := j_bind hf
        obtain ⟨q25, e26, hf⟩ := j_bind hf
        refine j_rk_t ?_ ((rk_X11_partingPlace e26))
        obtain rfl := j_inj hf
        exact j_rk_refl _
      ·
        obtain rfl := j_inj hf
        exact j_rk_refl _
theorem rk_X11_table {a0 : Nat} {a1 : Int32} {a2 : Int32} {a3 : Int32} {a4 : Int32} {h : JH} {q : Int32 × JH} (hf : f_X11_table a0 a1 a2 a3 a4 h = some q) : j_rk h q.2 := by
  unfold f_X11_table at hf
  obtain ⟨q1, e2, hf⟩ := j_bind hf
  refine j_rk_trans (id ((rk_X11_isWeight e2))) ?_
  rcases j_ite hf with hf | hf
  ·
    obtain rfl := j_inj hf
    exact j_rk_refl _
  ·
    obtain ⟨q3, e4, hf⟩ := j_bind hf
    refine j_rk_trans (id ((rk_X11_isHecke e4))) ?_
    rcases j_ite hf with hf | hf
    ·
      obtain rfl := j_inj hf
      exact j_rk_refl _
    ·
      obtain ⟨q5, e6, hf⟩ := j_bind hf
      refine j_rk_trans (id ((rk_X11_cuspsOf e6))) ?_
      rcases j_ite hf with hf | hf
      ·
        obtain rfl := j_inj hf
        exact j_rk_refl _
      ·
        rcases j_ite hf with hf | hf
        ·
          obtain rfl := j_inj hf
          exact j_rk_refl _
        ·
          rcases j_ite hf with hf | hf
          ·
            obtain rfl := j_inj hf
            exact j_rk_refl _
          ·
            rcases j_ite hf with hf | hf
            ·
              obtain ⟨u17, e18, hf⟩ := j_bind hf
              obtain ⟨q7, e8, hf⟩ := j_bind hf
              refine j_rk_trans (rk_X11_readyForHecke e8) ?_
              obtain ⟨v9, e10, hf⟩ := j_bind hf
              obtain ⟨v11, e12, hf⟩ := j_bind hf
              obtain ⟨u15, e16, hf⟩ := j_bind hf
              obtain ⟨q13, e14, hf⟩ := j_bind hf
              refine j_rk_trans (id ((rk_X7_heckeAt e14))) ?_
              obtain rfl := j_inj hf
              exact j_rk_refl _
            ·
              obtain rfl := j_inj hf
              exact j_rk_refl _
theorem rk_X11_polynomial {a0 : Nat} {a1 : Int32} {a2 : Int32} {a3 : Int32} {h : JH} {q : Int32 × JH} (hf : f_X11_polynomial a0 a1 a2 a3 h = some q) : j_rk h q.2 := by
  unfold f_X11_polynomial at hf
  obtain ⟨q1, e2, hf⟩ := j_bind hf
  refine j_rk_trans (id ((rk_X11_isWeight e2))) ?_
  rcases j_ite hf with hf | hf
  ·
    obtain rfl := j_inj hf
    exact j_rk_refl _
  ·
    obtain ⟨q3, e4, hf⟩ := j_bind hf
    refine j_rk_trans (id ((rk_X11_isHecke e4))) ?_
    rcases j_ite hf with hf | hf
    ·
      obtain rfl := j_inj hf
      exact j_rk_refl _
    ·
      rcases j_ite hf with hf | hf
      ·
        obtain rfl := j_inj hf
        exact j_rk_refl _
      ·
        obtain ⟨q5, e6, hf⟩ := j_bind hf
        refine j_rk_trans (id ((rk_X11_cuspsOf e6))) ?_
        rcases j_ite hf with hf | hf
        ·
          obtain ⟨v7, e8, hf⟩ := j_bind hf
          obtain ⟨u27, e28, hf⟩ := j_bind hf
          obtain ⟨q9, e10, hf⟩ := j_bind hf
          refine j_rk_trans (rk_X11_readyForHecke e10) ?_
          obtain ⟨u25, e26, hf⟩ := j_bind hf
          obtain ⟨q11, e12, hf⟩ := j_bind hf
          refine j_rk_trans (id ((rk_X5_load e12))) ?_
          obtain ⟨v13, e14, hf⟩ := j_bind hf
          obtain ⟨u23, e24, hf⟩ := j_bind hf
          obtain ⟨q15, e16, hf⟩ := j_bind hf
          refine j_rk_trans (id ((rk_X5_findPolynomial e16))) ?_
          obtain ⟨v17, e18, hf⟩ := j_bind hf
          obtain ⟨v19, e20, hf⟩ := j_bind hf
          obtain ⟨v21, e22, hf⟩ := j_bind hf
          obtain rfl := j_inj hf
          exact j_rk_refl _
        ·
          obtain rfl := j_inj hf
          exact j_rk_refl _
theorem rk_X11_spaceWithRoots {a0 : Nat} {a1 : Int32} {h : JH} {q : Nat × JH} (hf : f_X11_spaceWithRoots a0 a1 h = some q) : j_rk h q.2 := by
  unfold f_X11_spaceWithRoots at hf
  obtain ⟨v1, e2, hf⟩ := j_bind hf
  obtain ⟨v3, e4, hf⟩ := j_bind hf
  obtain ⟨q5, e6, hf⟩ := j_bind hf
  refine j_rk_trans (id ((rk_X11_cuspsOf e6))) ?_
  obtain ⟨u39, e40, hf⟩ := j_bind hf
  obtain ⟨q7, e8, hf⟩ := j_bind hf
  refine j_rk_trans (rk_X8_ready e8) ?_
  obtain ⟨v9, e10, hf⟩ := j_bind hf
  obtain ⟨v11, e12, hf⟩ := j_bind hf
  rcases j_ite hf with hf | hf
  ·
    obtain rfl := j_inj hf
    exact j_rk_refl _
  ·
    obtain ⟨v13, e14, hf⟩ := j_bind hf
    obtain ⟨u37, e38, hf⟩ := j_bind hf
    obtain ⟨q15, e16, hf⟩ := j_bind hf
    refine j_rk_trans (id ((rk_X5_load e16))) ?_
    obtain ⟨v17, e18, hf⟩ := j_bind hf
    obtain ⟨u35, e36, hf⟩ := j_bind hf
    obtain ⟨q19, e20, hf⟩ := j_bind hf
    refine j_rk_trans (id ((rk_X5_findPolynomial e20))) ?_
    obtain ⟨v21, e22, hf⟩ := j_bind hf
    obtain ⟨v23, e24, hf⟩ := j_bind hf
    obtain ⟨u33, e34, hf⟩ := j_bind hf
    obtain ⟨q25, e26, hf⟩ := j_bind hf
    refine j_rk_trans (id ((rk_X5_findRoots e26))) ?_
    obtain ⟨h27, e28, hf⟩ := j_bind hf
    refine j_rk_trans (id (jput_rk e28)) ?_
    obtain ⟨v29, e30, hf⟩ := j_bind hf
    obtain ⟨h31, e32, hf⟩ := j_bind hf
    refine j_rk_trans (id (jput_rk e32)) ?_
    obtain rfl := j_inj hf
    exact j_rk_refl _
theorem rk_X11_root {a0 : Nat} {a1 : Int32} {a2 : Int32} {h : JH} {q : Int32 × JH} (hf : f_X11_root a0 a1 a2 h = some q) : j_rk h q.2 := by
  unfold f_X11_root at hf
  obtain ⟨q1, e2, hf⟩ := j_bind hf
  refine j_rk_trans (id ((rk_X11_isWeight e2))) ?_
  rcases j_ite hf with hf | hf
  ·
    obtain rfl := j_inj hf
    exact j_rk_refl _
  ·
    obtain ⟨u13, e14, hf⟩ := j_bind hf
    obtain ⟨q3, e4, hf⟩ := j_bind hf
    refine j_rk_trans (rk_X11_spaceWithRoots e4) ?_
    rcases j_ite hf with hf | hf
    ·
      obtain ⟨v11, e12, hf⟩ := j_bind hf
      obtain rfl := j_inj hf
      exact j_rk_refl _
    ·
      rcases j_ite hf with hf | hf
      ·
        obtain rfl := j_inj hf
        exact j_rk_refl _
      ·
        obtain ⟨v5, e6, hf⟩ := j_bind hf
        rcases j_ite hf with hf | hf
        ·
          obtain rfl := j_inj hf
          exact j_rk_refl _
        ·
          obtain ⟨v7, e8, hf⟩ := j_bind hf
          obtain ⟨v9, e10, hf⟩ := j_bind hf
          obtain rfl := j_inj hf
          exact j_rk_refl _
theorem rk_X11_own {a0 : Nat} {a1 : Int32} {a2 : Int32} {a3 : Int32} {h : JH} {q : Int32 × JH} (hf : f_X11_own a0 a1 a2 a3 h = some q) : j_rk h q.2 := by
  unfold f_X11_own at hf
  obtain ⟨q1, e2, hf⟩ := j_bind hf
  refine j_rk_trans (id ((rk_X11_isRegister e2))) ?_
  rcases j_ite hf with hf | hf
  ·
    obtain rfl := j_inj hf
    exact j_rk_refl _
  ·
    obtain ⟨q3, e4, hf⟩ := j_bind hf
    refine j_rk_trans (id ((rk_X11_isWeight e4))) ?_
    rcases j_ite hf with hf | hf
    ·
      obtain rfl := j_inj hf
      exact j_rk_refl _
    ·
      obtain ⟨u55, e56, hf⟩ := j_bind hf
      obtain ⟨q5, e6, hf⟩ := j_bind hf
      refine j_rk_trans (rk_X11_spaceWithRoots e6) ?_
      rcases j_ite hf with hf | hf
      ·
        obtain rfl := j_inj hf
        exact j_rk_refl _
      ·
        obtain ⟨v7, e8, hf⟩ := j_bind hf
        rcases j_ite hf with hf | hf
        ·
          obtain ⟨v9, e10, hf⟩ := j_bind hf
          obtain ⟨u53, e54, hf⟩ := j_bind hf
          obtain ⟨q11, e12, hf⟩ := j_bind hf
          refine j_rk_trans (id ((rk_X5_load e12))) ?_
          obtain ⟨v13, e14, hf⟩ := j_bind hf
          obtain ⟨u51, e52, hf⟩ := j_bind hf
          obtain ⟨q15, e16, hf⟩ := j_bind hf
          refine j_rk_trans (id ((rk_X2_setNumber e16))) ?_
          obtain ⟨v17, e18, hf⟩ := j_bind hf
          obtain ⟨v19, e20, hf⟩ := j_bind hf
          obtain ⟨v21, e22, hf⟩ := j_bind hf
          obtain ⟨v23, e24, hf⟩ := j_bind hf
          obtain ⟨v25, e26, hf⟩ := j_bind hf
          obtain ⟨u49, e50, hf⟩ := j_bind hf
          obtain ⟨q27, e28, hf⟩ := j_bind hf
          refine j_rk_trans (id ((rk_X5_findOwn e28))) ?_
          rcases j_ite hf with hf | hf
          ·
            obtain rfl := j_inj hf
            exact j_rk_refl _
          ·
            obtain ⟨v29, e30, hf⟩ := j_bind hf
            obtain ⟨u47, e48, hf⟩ := j_bind hf
            obtain ⟨q31, e32, hf⟩ := j_bind hf
            refine j_rk_trans (id ((rk_X7_complete e32))) ?_
            obtain ⟨v33, e34, hf⟩ := j_bind hf
            obtain ⟨v35, e36, hf⟩ := j_bind hf
            obtain ⟨v37, e38, hf⟩ := j_bind hf
            obtain ⟨u45, e46, hf⟩ := j_bind hf
            obtain ⟨q39, e40, hf⟩ := j_bind hf
            refine j_rk_trans (id ((rk_X2_copyFrom e40))) ?_
            obtain ⟨v41, e42, hf⟩ := j_bind hf
            obtain ⟨v43, e44, hf⟩ := j_bind hf
            obtain rfl := j_inj hf
            exact j_rk_refl _
        ·
          obtain rfl := j_inj hf
          exact j_rk_refl _
theorem rk_X11_findFreshTraces_L2 {a0 : Nat} {a1 : Int32} {z : Int32} {h : JH} {r : Int32 ⊕ (Int32 ⊕ Int32)} {h1 : JH} (hf : f_X11_findFreshTraces_L2 a0 a1 z h = some (r, h1)) : j_rk h h1 := by
  unfold f_X11_findFreshTraces_L2 at hf
  rcases j_ite hf with hf | hf
  ·
    obtain ⟨rfl, rfl⟩ := j_inj2 hf
    exact j_rk_refl _
  ·
    obtain ⟨v1, e2, hf⟩ := j_bind hf
    obtain ⟨q3, e4, hf⟩ := j_bind hf
    refine j_rk_t ?_ ((rk_X10_exact e4))
    obtain ⟨h5, e6, hf⟩ := j_bind hf
    refine j_rk_t ?_ (jsJ_rk e6)
    obtain ⟨v7, e8, hf⟩ := j_bind hf
    obtain ⟨v9, e10, hf⟩ := j_bind hf
    rcases j_ite hf with hf | hf
    ·
      obtain ⟨rfl, rfl⟩ := j_inj2 hf
      exact j_rk_refl _
    ·
      obtain ⟨rfl, rfl⟩ := j_inj2 hf
      exact j_rk_refl _
theorem rk_X11_findFreshTraces {a0 : Nat} {a1 : Int32} {h : JH} {q : Int32 × JH} (hf : f_X11_findFreshTraces a0 a1 h = some q) : j_rk h q.2 := by
  unfold f_X11_findFreshTraces at hf
  obtain ⟨q13, e14, hf⟩ := j_bind hf
  refine j_rk_t ?_ ((jloop_rk (fun _ _ _ _ q => rk_X11_findFreshTraces_L2 q) e14))
  cases y17 : q13.1 with
  | inl r16 =>
    rw [y17] at hf
    have hf := j_eliml hf
    obtain rfl := j_inj hf
    exact j_rk_refl _
  | inr t15 =>
    rw [y17] at hf
    have hf := j_elimr hf
    obtain rfl := j_inj hf
    exact j_rk_refl _
theorem rk_X11_isRow {a0 : Int32} {a1 : Int32} {h : JH} {q : Int32 × JH} (hf : f_X11_isRow a0 a1 h = some q) : j_rk h q.2 := by
  unfold f_X11_isRow at hf
  rcases j_ite hf with hf | hf
  ·
    obtain rfl := j_inj hf
    exact j_rk_refl _
  ·
    rcases j_ite hf with hf | hf
    ·
      obtain rfl := j_inj hf
      exact j_rk_refl _
    ·
      rcases j_ite hf with hf | hf
      ·
        obtain rfl := j_inj hf
        exact j_rk_refl _
      ·
        rcases j_ite hf with hf | hf
        ·
          obtain rfl := j_inj hf
          exact j_rk_refl _
        ·
          obtain rfl := j_inj hf
          exact j_rk_refl _
theorem rk_X11_put_L83 {a0 : Nat} {a1 : Int32} {a2 : Int32} {a5 : Nat} {z : Int32} {h : JH} {r : Int32 ⊕ Int32} {h1 : JH} (hf : f_X11_put_L83 a0 a1 a2 a5 z h = some (r, h1)) : j_rk h h1 := by
  unfold f_X11_put_L83 at hf
  rcases j_ite hf with hf | hf
  ·
    obtain ⟨rfl, rfl⟩ := j_inj2 hf
    exact j_rk_refl _
  ·
    obtain ⟨v17, e18, hf⟩ := j_bind hf
    obtain ⟨v19, e20, hf⟩ := j_bind hf
    obtain ⟨u25, e26, hf⟩ := j_bind hf
    obtain ⟨q21, e22, hf⟩ := j_bind hf
    refine j_rk_trans (rk_X11_coefficientOf e22) ?_
    obtain ⟨h23, e24, hf⟩ := j_bind hf
    refine j_rk_trans (id (jsJ_rk e24)) ?_
    obtain ⟨rfl, rfl⟩ := j_inj2 hf
    exact j_rk_refl _
theorem rk_X11_put {a0 : Nat} {a1 : Int32} {a2 : Int32} {a3 : Int32} {a4 : Int32} {h : JH} {q : Int32 × JH} (hf : f_X11_put a0 a1 a2 a3 a4 h = some q) : j_rk h q.2 := by
  unfold f_X11_put at hf
  obtain ⟨q1, e2, hf⟩ := j_bind hf
  refine j_rk_trans (id ((rk_X11_isRow e2))) ?_
  rcases j_ite hf with hf | hf
  ·
    obtain rfl := j_inj hf
    exact j_rk_refl _
  ·
    rcases j_ite hf with hf | hf
    ·
      obtain ⟨v3, e4, hf⟩ := j_bind hf
      obtain ⟨v5, e6, hf⟩ := j_bind hf
      obtain ⟨v7, e8, hf⟩ := j_bind hf
      rcases j_ite hf with hf | hf
      ·
        obtain ⟨v9, e10, hf⟩ := j_bind hf
        obtain ⟨v11, e12, hf⟩ := j_bind hf
        obtain ⟨v13, e14, hf⟩ := j_bind hf
        obtain ⟨v15, e16, hf⟩ := j_bind hf
        rcases j_ite hf with hf | hf
        ·
          obtain ⟨q28, e29, hf⟩ := j_bind hf
          refine j_rk_trans ((jloop_rk (fun _ _ _ _ q => rk_X11_put_L83 q) e29)) ?_
          obtain ⟨v30, e31, hf⟩ := j_bind hf
          obtain ⟨v32, e33, hf⟩ := j_bind hf
          obtain ⟨v34, e35, hf⟩ := j_bind hf
          obtain ⟨h36, e37, hf⟩ := j_bind hf
          refine j_rk_trans (id (jsB_rk e37)) ?_
          obtain rfl := j_inj hf
          exact j_rk_refl _
        ·
          obtain ⟨u52, e53, hf⟩ := j_bind hf
          obtain ⟨q38, e39, hf⟩ := j_bind hf
          refine j_rk_trans (id ((rk_X11_findFreshTraces e39))) ?_
          rcases j_ite hf with hf | hf
          ·
            obtain rfl := j_inj hf
            exact j_rk_refl _
          ·
            obtain ⟨v40, e41, hf⟩ := j_bind hf
            obtain ⟨h42, e43, hf⟩ := j_bind hf
            refine j_rk_trans (id (jcJ_rk e43)) ?_
            obtain ⟨v44, e45, hf⟩ := j_bind hf
            obtain ⟨v46, e47, hf⟩ := j_bind hf
            obtain ⟨v48, e49, hf⟩ := j_bind hf
            obtain ⟨h50, e51, hf⟩ := j_bind hf
            refine j_rk_trans (id (jsB_rk e51)) ?_
            obtain rfl := j_inj hf
            exact j_rk_refl _
      ·
        obtain rfl := j_inj hf
        exact j_rk_refl _
    ·
      obtain ⟨q54, e55, hf⟩ := j_bind hf
      refine j_rk_trans (id ((rk_X10_isAsked e55))) ?_
      rcases j_ite hf with hf | hf
      ·
        obtain rfl := j_inj hf
        exact j_rk_refl _
      ·
        obtain ⟨v56, e57, hf⟩ := j_bind hf
        obtain ⟨v58, e59, hf⟩ := j_bind hf
        obtain ⟨v60, e61, hf⟩ := j_bind hf
        rcases j_ite hf with hf | hf
        ·
          obtain ⟨v62, e63, hf⟩ := j_bind hf
          obtain ⟨v64, e65, hf⟩ := j_bind hf
          obtain ⟨v66, e67, hf⟩ := j_bind hf
          obtain ⟨v68, e69, hf⟩ := j_bind hf
          rcases j_ite hf with hf | hf
          ·
            obtain ⟨q70, e71, hf⟩ := j_bind hf
            refine j_rk_trans ((jloop_rk (fun _ _ _ _ q => rk_X11_put_L83 q) e71)) ?_
            obtain ⟨v72, e73, hf⟩ := j_bind hf
            obtain ⟨v74, e75, hf⟩ := j_bind hf
            obtain ⟨v76, e77, hf⟩ := j_bind hf
            obtain ⟨h78, e79, hf⟩ := j_bind hf
            refine j_rk_trans (id (jsB_rk e79)) ?_
            obtain rfl := j_inj hf
            exact j_rk_refl _
          ·
            obtain ⟨u94, e95, hf⟩ := j_bind hf
            obtain ⟨q80, e81, hf⟩ := j_bind hf
            refine j_rk_trans (id ((rk_X11_findFreshTraces e81))) ?_
            rcases j_ite hf with hf | hf
            ·
              obtain rfl := j_inj hf
              exact j_rk_refl _
            ·
              obtain ⟨v82, e83, hf⟩ := j_bind hf
              obtain ⟨h84, e85, hf⟩ := j_bind hf
              refine j_rk_trans (id (jcJ_rk e85)) ?_
              obtain ⟨v86, e87, hf⟩ := j_bind hf
              obtain ⟨v88, e89, hf⟩ := j_bind hf
              obtain ⟨v90, e91, hf⟩ := j_bind hf
              obtain ⟨h92, e93, hf⟩ := j_bind hf
              refine j_rk_trans (id (jsB_rk e93)) ?_
              obtain rfl := j_inj hf
              exact j_rk_refl _
        ·
          obtain rfl := j_inj hf
          exact j_rk_refl _
theorem rk_X11_row {a0 : Nat} {a1 : Int32} {a2 : Int32} {a3 : Int32} {h : JH} {q : (Option Int64) × JH} (hf : f_X11_row a0 a1 a2 a3 h = some q) : j_rk h q.2 := by
  unfold f_X11_row at hf
  obtain ⟨q1, e2, hf⟩ := j_bind hf
  refine j_rk_trans (id ((rk_X11_isRow e2))) ?_
  rcases j_ite hf with hf | hf
  ·
    obtain rfl := j_inj hf
    exact jexc_rk _
  ·
    obtain ⟨v3, e4, hf⟩ := j_bind hf
    obtain ⟨v5, e6, hf⟩ := j_bind hf
    obtain ⟨v7, e8, hf⟩ := j_bind hf
    obtain ⟨v9, e10, hf⟩ := j_bind hf
    rcases j_ite hf with hf | hf
    ·
      obtain rfl := j_inj hf
      exact jexc_rk _
    ·
      rcases j_ite hf with hf | hf
      ·
        obtain rfl := j_inj hf
        exact jexc_rk _
      ·
        obtain ⟨v11, e12, hf⟩ := j_bind hf
        obtain ⟨v13, e14, hf⟩ := j_bind hf
        obtain ⟨u27, e28, hf⟩ := j_bind hf
        obtain ⟨q15, e16, hf⟩ := j_bind hf
        refine j_rk_trans (id ((rk_X6_numbersInRow e16))) ?_
        rcases j_ite hf with hf | hf
        ·
          obtain ⟨v17, e18, hf⟩ := j_bind hf
          obtain ⟨v19, e20, hf⟩ := j_bind hf
          obtain ⟨v21, e22, hf⟩ := j_bind hf
          obtain ⟨v23, e24, hf⟩ := j_bind hf
          obtain ⟨v25, e26, hf⟩ := j_bind hf
          obtain rfl := j_inj hf
          exact j_rk_refl _
        ·
          obtain rfl := j_inj hf
          exact jexc_rk _
theorem rk_X11_swap_L2 {a0 : Nat} {z : Int32} {h : JH} {r : Int32 ⊕ Int32} {h1 : JH} (hf : f_X11_swap_L2 a0 z h = some (r, h1)) : j_rk h h1 := by
  unfold f_X11_swap_L2 at hf
  rcases j_ite hf with hf | hf
  ·
    obtain ⟨rfl, rfl⟩ := j_inj2 hf
    exact j_rk_refl _
  ·
    obtain ⟨v1, e2, hf⟩ := j_bind hf
    obtain ⟨v3, e4, hf⟩ := j_bind hf
    obtain ⟨v5, e6, hf⟩ := j_bind hf
    obtain ⟨v7, e8, hf⟩ := j_bind hf
    obtain ⟨v9, e10, hf⟩ := j_bind hf
    rcases j_ite hf with hf | hf
    ·
      obtain ⟨h21, e22, hf⟩ := j_bind hf
      refine j_rk_t ?_ (jput_rk e22)
      obtain ⟨v23, e24, hf⟩ := j_bind hf
      obtain ⟨v25, e26, hf⟩ := j_bind hf
      obtain ⟨u29, e30, hf⟩ := j_bind hf
      obtain ⟨q27, e28, hf⟩ := j_bind hf
      refine j_rk_t ?_ ((rk_X6_empty e28))
      obtain ⟨rfl, rfl⟩ := j_inj2 hf
      exact j_rk_refl _
    ·
      obtain ⟨h11, e12, hf⟩ := j_bind hf
      refine j_rk_t ?_ (jput_rk e12)
      obtain ⟨v13, e14, hf⟩ := j_bind hf
      obtain ⟨v15, e16, hf⟩ := j_bind hf
      obtain ⟨u19, e20, hf⟩ := j_bind hf
      obtain ⟨q17, e18, hf⟩ := j_bind hf
      refine j_rk_t ?_ ((rk_X6_empty e18))
      obtain ⟨rfl, rfl⟩ := j_inj2 hf
      exact j_rk_refl _
theorem rk_X11_swap {a0 : Nat} {h : JH} {q : Int32 × JH} (hf : f_X11_swap a0 h = some q) : j_rk h q.2 := by
  unfold f_X11_swap at hf
  obtain ⟨q33, e34, hf⟩ := j_bind hf
  refine j_rk_t ?_ ((jloop_rk (fun _ _ _ _ q => rk_X11_swap_L2 q) e34))
  obtain ⟨v35, e36, hf⟩ := j_bind hf
  obtain ⟨v37, e38, hf⟩ := j_bind hf
  obtain ⟨v39, e40, hf⟩ := j_bind hf
  rcases j_ite hf with hf | hf
  ·
    obtain rfl := j_inj hf
    exact j_rk_refl _
  ·
    obtain rfl := j_inj hf
    exact j_rk_refl _
theorem rk_X11_image {a0 : Nat} {a1 : Int32} {a2 : Int32} {h : JH} {q : Int32 × JH} (hf : f_X11_image a0 a1 a2 h = some q) : j_rk h q.2 := by
  unfold f_X11_image at hf
  rcases j_ite hf with hf | hf
  ·
    obtain rfl := j_inj hf
    exact j_rk_refl _
  ·
    rcases j_ite hf with hf | hf
    ·
      rcases j_ite hf with hf | hf
      ·
        obtain ⟨v15, e16, hf⟩ := j_bind hf
        obtain ⟨v17, e18, hf⟩ := j_bind hf
        obtain ⟨v19, e20, hf⟩ := j_bind hf
        obtain ⟨v21, e22, hf⟩ := j_bind hf
        obtain ⟨u25, e26, hf⟩ := j_bind hf
        obtain ⟨q23, e24, hf⟩ := j_bind hf
        refine j_rk_t ?_ ((rk_X3_lay e24))
        obtain rfl := j_inj hf
        exact j_rk_refl _
      ·
        obtain ⟨v1, e2, hf⟩ := j_bind hf
        obtain ⟨v3, e4, hf⟩ := j_bind hf
        obtain ⟨v5, e6, hf⟩ := j_bind hf
        obtain ⟨v7, e8, hf⟩ := j_bind hf
        obtain ⟨u13, e14, hf⟩ := j_bind hf
        obtain ⟨q9, e10, hf⟩ := j_bind hf
        refine j_rk_t ?_ ((rk_X3_bringBack e10))
        obtain ⟨u11, e12, hf⟩ := j_bind hf
        obtain rfl := j_inj hf
        exact j_rk_refl _
    ·
      obtain rfl := j_inj hf
      exact j_rk_refl _
theorem rk_Jxf58ca_isNaN_12338 {a0 : UInt32} {h : JH} {q : Int32 × JH} (hf : f_Jxf58ca_isNaN_12338 a0 h = some q) : j_rk h q.2 := by
  unfold f_Jxf58ca_isNaN_12338 at hf
  rcases j_ite hf with hf | hf
  ·
    obtain rfl := j_inj hf
    exact j_rk_refl _
  ·
    obtain rfl := j_inj hf
    exact j_rk_refl _
theorem rk_Jxf58ca_floatToIntBits_5c35a {a0 : UInt32} {h : JH} {q : Int32 × JH} (hf : f_Jxf58ca_floatToIntBits_5c35a a0 h = some q) : j_rk h q.2 := by
  unfold f_Jxf58ca_floatToIntBits_5c35a at hf
  obtain ⟨q1, e2, hf⟩ := j_bind hf
  refine j_rk_t ?_ ((rk_Jxf58ca_isNaN_12338 e2))
  rcases j_ite hf with hf | hf
  ·
    obtain rfl := j_inj hf
    exact j_rk_refl _
  ·
    obtain rfl := j_inj hf
    exact j_rk_refl _
theorem rk_L_whole {a0 : Nat} {a1 : Int32} {a2 : Nat} {h : JH} {q : Int32 × JH} (hf : f_L_whole a0 a1 a2 h = some q) : j_rk h q.2 := by
  unfold f_L_whole at hf
  obtain ⟨_, -, hf⟩ := j_bind hf
  obtain ⟨q1, e1, hf⟩ := j_bind hf
  refine j_rk_trans (rk_X11_whole e1) ?_
  cases e : q1.1 with
  | none =>
    rw [e] at hf
    obtain rfl := j_inj hf
    exact j_rk_refl _
  | some v =>
    rw [e] at hf
    obtain ⟨h2, e2, hf⟩ := j_bind hf
    refine j_rk_trans (jsJ_rk e2) ?_
    obtain rfl := j_inj hf
    exact j_rk_refl _
theorem rk_L_row {a0 : Nat} {a1 a2 a3 : Int32} {a4 : Nat} {h : JH} {q : Int32 × JH} (hf : f_L_row a0 a1 a2 a3 a4 h = some q) : j_rk h q.2 := by
  unfold f_L_row at hf
  obtain ⟨_, -, hf⟩ := j_bind hf
  obtain ⟨q1, e1, hf⟩ := j_bind hf
  refine j_rk_trans (rk_X11_row e1) ?_
  cases e : q1.1 with
  | none =>
    rw [e] at hf
    obtain rfl := j_inj hf
    exact j_rk_refl _
  | some v =>
    rw [e] at hf
    obtain ⟨h2, e2, hf⟩ := j_bind hf
    refine j_rk_trans (jsJ_rk e2) ?_
    obtain rfl := j_inj hf
    exact j_rk_refl _
