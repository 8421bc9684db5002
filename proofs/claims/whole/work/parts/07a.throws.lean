/-! The law's two methods that catch. -/
def f_L_whole (a0 : Nat) (a1 : Int32) (a2 : Nat) (h : JH) : Option (Int32 × JH) :=
  (jrecv h a0 8).bind fun _ => (f_X11_whole a0 a1 h).bind fun q =>
  q.1.elim (some (1, q.2)) (fun v => (jsJ q.2 a2 0 v.toInt64).bind fun h2 => some (0, h2))
def f_L_row (a0 : Nat) (a1 a2 a3 : Int32) (a4 : Nat) (h : JH) : Option (Int32 × JH) :=
  (jrecv h a0 8).bind fun _ => (f_X11_row a0 a1 a2 a3 h).bind fun q =>
  q.1.elim (some (1, q.2)) (fun v => (jsJ q.2 a4 0 v).bind fun h2 => some (0, h2))
theorem n_L_whole {a0 : Nat} {a1 : Int32} {a2 : Nat} {h : JH} {q : Int32 × JH} (hf : f_L_whole a0 a1 a2 h = some q) : j_le h q.2 := by
  unfold f_L_whole at hf
  obtain ⟨_, -, hf⟩ := j_bind hf
  obtain ⟨q1, e1, hf⟩ := j_bind hf
  refine j_le_trans (n_X11_whole e1) ?_
  cases hq : q1.1 with
  | none => rw [hq] at hf; obtain rfl := j_inj (show some ((1 : Int32), q1.2) = some q from hf); exact j_le_refl _
  | some v =>
    rw [hq] at hf
    obtain ⟨h2, e2, hf⟩ := j_bind (show (jsJ q1.2 a2 0 v.toInt64).bind (fun h2 => some ((0 : Int32), h2)) = some q from hf)
    obtain rfl := j_inj hf
    exact j_le_of (jsJ_n e2)
theorem n_L_row {a0 : Nat} {a1 a2 a3 : Int32} {a4 : Nat} {h : JH} {q : Int32 × JH} (hf : f_L_row a0 a1 a2 a3 a4 h = some q) : j_le h q.2 := by
  unfold f_L_row at hf
  obtain ⟨_, -, hf⟩ := j_bind hf
  obtain ⟨q1, e1, hf⟩ := j_bind hf
  refine j_le_trans (n_X11_row e1) ?_
  cases hq : q1.1 with
  | none => rw [hq] at hf; obtain rfl := j_inj (show some ((1 : Int32), q1.2) = some q from hf); exact j_le_refl _
  | some v =>
    rw [hq] at hf
    obtain ⟨h2, e2, hf⟩ := j_bind (show (jsJ q1.2 a4 0 v).bind (fun h2 => some ((0 : Int32), h2)) = some q from hf)
    obtain rfl := j_inj hf
    exact j_le_of (jsJ_n e2)
theorem m_L_whole {l : Launch} {E : JE} {d : Nat} (hfl : l.flags = flags0) (hdd : 20 ≤ d) {a0 : Nat} {a1 : Int32} {a2 : Nat} {h : JH} {q : Int32 × JH} (hf : f_L_whole a0 a1 a2 h = some q) : ConW l E d yL_whole cL_whole 4 (some .int) [(0, 9, 12, 13)] [.ref a0, .int a1, .ref a2] h (some (.int q.1)) q.2 := sorry
theorem m_L_row {l : Launch} {E : JE} {d : Nat} (hfl : l.flags = flags0) (hdd : 20 ≤ d) {a0 : Nat} {a1 a2 a3 : Int32} {a4 : Nat} {h : JH} {q : Int32 × JH} (hf : f_L_row a0 a1 a2 a3 a4 h = some q) : ConW l E d yL_row cL_row 6 (some .int) [(0, 11, 14, 13)] [.ref a0, .int a1, .int a2, .int a3, .ref a4] h (some (.int q.1)) q.2 := sorry
