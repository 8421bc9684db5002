def f_X2_init (a0 : Nat) (h : JH) : Option (Unit × JH) :=
  (jnA h .int (6 : Int32)).bind fun q1 =>
  (jput q1.2 a0 1 1 (.ref q1.1)).bind fun h3 =>
  some ((), h3)

def f_X11_newForms_L7 (a0 : Int32) (a1 : Nat) (z : Int32) (h : JH) : Option ((Int32 ⊕ Int32) × JH) :=
  if a0 ≤ z then
    some (.inr z, h)
  else
    (jnO h 1 [.int 0, .null]).bind fun q3 =>
    (f_X2_init q3.1 q3.2).bind fun q5 =>
    (jsR q5.2 a1 z q3.1 1).bind fun h7 =>
    some (.inl (z + (1 : Int32)), h7)

def f_X11_newForms (a0 : Int32) (h : JH) : Option (Nat × JH) :=
  (jnA h (.object "HeckeSeries$Form") a0).bind fun q1 =>
  (jloop (f_X11_newForms_L7 a0 q1.1) jF (0 : Int32) q1.2).bind fun q10 =>
  some (q1.1, q10.2)

def f_X9_init (a0 : Nat) (h : JH) : Option (Unit × JH) :=
  (jnA h .int (601 : Int32)).bind fun q1 =>
  (jput q1.2 a0 7 0 (.ref q1.1)).bind fun h3 =>
  (jnA h3 .int (601 : Int32)).bind fun q5 =>
  (jput q5.2 a0 7 1 (.ref q5.1)).bind fun h7 =>
  (jnA h7 .int (601 : Int32)).bind fun q9 =>
  (jput q9.2 a0 7 2 (.ref q9.1)).bind fun h11 =>
  some ((), h11)

def f_X0_init (a0 : Nat) (h : JH) : Option (Unit × JH) :=
  (f_X11_newForms (6 : Int32) h).bind fun q1 =>
  (jput q1.2 a0 0 3 (.ref q1.1)).bind fun h3 =>
  (jnA h3 .int (6 : Int32)).bind fun q5 =>
  (jput q5.2 a0 0 4 (.ref q5.1)).bind fun h7 =>
  (jnO h7 7 [.null, .null, .null, .int 0]).bind fun q9 =>
  (f_X9_init q9.1 q9.2).bind fun q11 =>
  (jput q11.2 a0 0 5 (.ref q9.1)).bind fun h13 =>
  (f_X11_newForms (9 : Int32) h13).bind fun q15 =>
  (jput q15.2 a0 0 7 (.ref q15.1)).bind fun h17 =>
  (f_X11_newForms (9 : Int32) h17).bind fun q19 =>
  (jput q19.2 a0 0 8 (.ref q19.1)).bind fun h21 =>
  (f_X11_newForms (9 : Int32) h21).bind fun q23 =>
  (jput q23.2 a0 0 9 (.ref q23.1)).bind fun h25 =>
  (jnO h25 1 [.int 0, .null]).bind fun q27 =>
  (f_X2_init q27.1 q27.2).bind fun q29 =>
  (jput q29.2 a0 0 10 (.ref q27.1)).bind fun h31 =>
  some ((), h31)

def f_X9_addToken (a0 : Nat) (a1 : Int32) (a2 : Int32) (a3 : Int32) (h : JH) : Option (Unit × JH) :=
  (jgR h a0 7 0).bind fun v1 =>
  (jgI h a0 7 3).bind fun v3 =>
  (jsI h v1 v3 a1).bind fun h5 =>
  (jgR h5 a0 7 1).bind fun v7 =>
  (jgI h5 a0 7 3).bind fun v9 =>
  (jsI h5 v7 v9 a2).bind fun h11 =>
  (jgR h11 a0 7 2).bind fun v13 =>
  (jgI h11 a0 7 3).bind fun v15 =>
  (jsI h11 v13 v15 a3).bind fun h17 =>
  (jgI h17 a0 7 3).bind fun v19 =>
  (jput h17 a0 7 3 (.int (v19 + (1 : Int32)))).bind fun h21 =>
  some ((), h21)

def f_X9_addWord_L22 (a0 : Nat) (a1 : Nat) (a2 : Int32) (a3 : Int32) (z : (Int32 × Int32)) (h : JH) : Option (((Int32 × Int32) ⊕ (Int32 × Int32)) × JH) :=
  if a3 ≤ z.2 then
    some (.inr (z.1, z.2), h)
  else
    (jaB h a1 z.2).bind fun v1 =>
    some (.inl ((z.1 * (32 : Int32)) + ((v1 - (97 : Int32)) + (1 : Int32)), z.2 + (1 : Int32)), h)

def f_X9_addWord (a0 : Nat) (a1 : Nat) (a2 : Int32) (a3 : Int32) (h : JH) : Option (Unit × JH) :=
  if (a3 - a2) ≤ (6 : Int32) then
    (jloop (f_X9_addWord_L22 a0 a1 a2 a3) jF ((0 : Int32), a2) h).bind fun q4 =>
    (f_X9_kindOfWord a1 a2 a3 q4.2).bind fun q6 =>
    (jrecv q6.2 a0 7).bind fun u10 =>
    (f_X9_addToken a0 q6.1 a2 q4.1.1 q6.2).bind fun q8 =>
    some ((), q8.2)
  else
    (jrecv h a0 7).bind fun u14 =>
    (f_X9_addToken a0 (1 : Int32) a2 (0 : Int32) h).bind fun q12 =>
    some ((), q12.2)

def f_X9_isDigit (a0 : Int32) (h : JH) : Option (Int32 × JH) :=
  if a0 < (48 : Int32) then
    some ((0 : Int32), h)
  else
    if (57 : Int32) < a0 then
      some ((0 : Int32), h)
    else
      some ((1 : Int32), h)

def f_X9_endOfNumber_L2 (a0 : Nat) (a2 : Int32) (z : Int32) (h : JH) : Option ((Int32 ⊕ Int32) × JH) :=
  if a2 ≤ z then
    some (.inr z, h)
  else
    (jaB h a0 z).bind fun v1 =>
    (f_X9_isDigit v1 h).bind fun q3 =>
    if q3.1 = (0 : Int32) then
      some (.inr z, q3.2)
    else
      some (.inl (z + (1 : Int32)), q3.2)

def f_X9_endOfNumber (a0 : Nat) (a1 : Int32) (a2 : Int32) (h : JH) : Option (Int32 × JH) :=
  (jloop (f_X9_endOfNumber_L2 a0 a2) jF a1 h).bind fun q7 =>
  some (q7.1, q7.2)

def f_X9_isLetter (a0 : Int32) (h : JH) : Option (Int32 × JH) :=
  if a0 < (97 : Int32) then
    some ((0 : Int32), h)
  else
    if (122 : Int32) < a0 then
      some ((0 : Int32), h)
    else
      some ((1 : Int32), h)

def f_X9_endOfWord_L2 (a0 : Nat) (a2 : Int32) (z : Int32) (h : JH) : Option ((Int32 ⊕ Int32) × JH) :=
  if a2 ≤ z then
    some (.inr z, h)
  else
    (jaB h a0 z).bind fun v1 =>
    (f_X9_isLetter v1 h).bind fun q3 =>
    if q3.1 = (0 : Int32) then
      some (.inr z, q3.2)
    else
      some (.inl (z + (1 : Int32)), q3.2)

def f_X9_endOfWord (a0 : Nat) (a1 : Int32) (a2 : Int32) (h : JH) : Option (Int32 × JH) :=
  (jloop (f_X9_endOfWord_L2 a0 a2) jF a1 h).bind fun q7 =>
  some (q7.1, q7.2)

def f_X9_isSign (a0 : Int32) (h : JH) : Option (Int32 × JH) :=
  if a0 = (59 : Int32) then
    some ((1 : Int32), h)
  else
    if a0 = (43 : Int32) then
      some ((1 : Int32), h)
    else
      if a0 = (45 : Int32) then
        some ((1 : Int32), h)
      else
        if a0 = (42 : Int32) then
          some ((1 : Int32), h)
        else
          if a0 = (94 : Int32) then
            some ((1 : Int32), h)
          else
            if a0 = (40 : Int32) then
              some ((1 : Int32), h)
            else
              if a0 = (41 : Int32) then
                some ((1 : Int32), h)
              else
                some ((0 : Int32), h)

def f_X9_numberOf_L14 (a0 : Nat) (a2 : Int32) (z : (Int32 × Int32)) (h : JH) : Option (((Int32 × Int32) ⊕ (Int32 × Int32)) × JH) :=
  if a2 ≤ z.2 then
    some (.inr (z.1, z.2), h)
  else
    (jaB h a0 z.2).bind fun v1 =>
    some (.inl ((z.1 * (10 : Int32)) + (v1 - (48 : Int32)), z.2 + (1 : Int32)), h)

def f_X9_numberOf (a0 : Nat) (a1 : Int32) (a2 : Int32) (h : JH) : Option (Int32 × JH) :=
  if (a2 - a1) ≤ (4 : Int32) then
    (jloop (f_X9_numberOf_L14 a0 a2) jF ((0 : Int32), a1) h).bind fun q4 =>
    some (q4.1.1, q4.2)
  else
    some ((-1 : Int32), h)

def f_X9_scan_L7 (a0 : Nat) (a1 : Nat) (a2 : Int32) (z : Int32) (h : JH) : Option ((Int32 ⊕ Int32) × JH) :=
  if a2 ≤ z then
    some (.inr z, h)
  else
    (jaB h a1 z).bind fun v3 =>
    if z ≤ (0 : Int32) then
      (f_X9_isLetter v3 h).bind fun q5 =>
      if q5.1 = (0 : Int32) then
        (f_X9_isDigit v3 q5.2).bind fun q7 =>
        if q7.1 = (0 : Int32) then
          if v3 = (32 : Int32) then
            some (.inl (z + (1 : Int32)), q7.2)
          else
            if v3 = (10 : Int32) then
              some (.inl (z + (1 : Int32)), q7.2)
            else
              (f_X9_isSign v3 q7.2).bind fun q9 =>
              if q9.1 = (0 : Int32) then
                (jrecv q9.2 a0 7).bind fun u13 =>
                (f_X9_addToken a0 (1 : Int32) z (0 : Int32) q9.2).bind fun q11 =>
                some (.inl (z + (1 : Int32)), q11.2)
              else
                (jrecv q9.2 a0 7).bind fun u17 =>
                (f_X9_addToken a0 v3 z (0 : Int32) q9.2).bind fun q15 =>
                some (.inl (z + (1 : Int32)), q15.2)
        else
          (f_X9_isDigit (32 : Int32) q7.2).bind fun q19 =>
          if q19.1 = (0 : Int32) then
            (f_X9_endOfNumber a1 z a2 q19.2).bind fun q21 =>
            (f_X9_numberOf a1 z q21.1 q21.2).bind fun q23 =>
            (jrecv q23.2 a0 7).bind fun u27 =>
            (f_X9_addToken a0 (3 : Int32) z q23.1 q23.2).bind fun q25 =>
            some (.inl (z + (1 : Int32)), q25.2)
          else
            some (.inl (z + (1 : Int32)), q19.2)
      else
        (f_X9_isLetter (32 : Int32) q5.2).bind fun q29 =>
        if q29.1 = (0 : Int32) then
          (f_X9_endOfWord a1 z a2 q29.2).bind fun q31 =>
          (jrecv q31.2 a0 7).bind fun u35 =>
          (f_X9_addWord a0 a1 z q31.1 q31.2).bind fun q33 =>
          some (.inl (z + (1 : Int32)), q33.2)
        else
          some (.inl (z + (1 : Int32)), q29.2)
    else
      (jaB h a1 (z - (1 : Int32))).bind fun v37 =>
      (f_X9_isLetter v3 h).bind fun q39 =>
      if q39.1 = (0 : Int32) then
        (f_X9_isDigit v3 q39.2).bind fun q41 =>
        if q41.1 = (0 : Int32) then
          if v3 = (32 : Int32) then
            some (.inl (z + (1 : Int32)), q41.2)
          else
            if v3 = (10 : Int32) then
              some (.inl (z + (1 : Int32)), q41.2)
            else
              (f_X9_isSign v3 q41.2).bind fun q43 =>
              if q43.1 = (0 : Int32) then
                (jrecv q43.2 a0 7).bind fun u47 =>
                (f_X9_addToken a0 (1 : Int32) z (0 : Int32) q43.2).bind fun q45 =>
                some (.inl (z + (1 : Int32)), q45.2)
              else
                (jrecv q43.2 a0 7).bind fun u51 =>
                (f_X9_addToken a0 v3 z (0 : Int32) q43.2).bind fun q49 =>
                some (.inl (z + (1 : Int32)), q49.2)
        else
          (f_X9_isDigit v37 q41.2).bind fun q53 =>
          if q53.1 = (0 : Int32) then
            (f_X9_endOfNumber a1 z a2 q53.2).bind fun q55 =>
            (f_X9_numberOf a1 z q55.1 q55.2).bind fun q57 =>
            (jrecv q57.2 a0 7).bind fun u61 =>
            (f_X9_addToken a0 (3 : Int32) z q57.1 q57.2).bind fun q59 =>
            some (.inl (z + (1 : Int32)), q59.2)
          else
            some (.inl (z + (1 : Int32)), q53.2)
      else
        (f_X9_isLetter v37 q39.2).bind fun q63 =>
        if q63.1 = (0 : Int32) then
          (f_X9_endOfWord a1 z a2 q63.2).bind fun q65 =>
          (jrecv q65.2 a0 7).bind fun u69 =>
          (f_X9_addWord a0 a1 z q65.1 q65.2).bind fun q67 =>
          some (.inl (z + (1 : Int32)), q67.2)
        else
          some (.inl (z + (1 : Int32)), q63.2)

def f_X9_scan (a0 : Nat) (a1 : Nat) (a2 : Int32) (h : JH) : Option (Unit × JH) :=
  (jput h a0 7 3 (.int (0 : Int32))).bind fun h1 =>
  (jloop (f_X9_scan_L7 a0 a1 a2) jF (0 : Int32) h1).bind fun q87 =>
  (jgR q87.2 a0 7 0).bind fun v89 =>
  (jgI q87.2 a0 7 3).bind fun v91 =>
  (jsI q87.2 v89 v91 (0 : Int32)).bind fun h93 =>
  (jgR h93 a0 7 1).bind fun v95 =>
  (jgI h93 a0 7 3).bind fun v97 =>
  (jsI h93 v95 v97 a2).bind fun h99 =>
  some ((), h99)

def f_X0_open (a0 : Nat) (a1 : Nat) (a2 : Int32) (h : JH) : Option (Unit × JH) :=
  (jgR h a0 0 5).bind fun v1 =>
  (jrecv h v1 7).bind fun u11 =>
  (f_X9_scan v1 a1 a2 h).bind fun q3 =>
  (jput q3.2 a0 0 6 (.int (0 : Int32))).bind fun h5 =>
  (jput h5 a0 0 1 (.int (1009 : Int32))).bind fun h7 =>
  (jput h7 a0 0 2 (.int (0 : Int32))).bind fun h9 =>
  some ((), h9)

def f_X0_kind (a0 : Nat) (h : JH) : Option (Int32 × JH) :=
  (jgR h a0 0 5).bind fun v1 =>
  (jgR h v1 7 0).bind fun v3 =>
  (jgI h a0 0 6).bind fun v5 =>
  (jaI h v3 v5).bind fun v7 =>
  some (v7, h)

def f_X0_value (a0 : Nat) (h : JH) : Option (Int32 × JH) :=
  (jgR h a0 0 5).bind fun v1 =>
  (jgR h v1 7 2).bind fun v3 =>
  (jgI h a0 0 6).bind fun v5 =>
  (jaI h v3 v5).bind fun v7 =>
  some (v7, h)

def f_X0_goOn (a0 : Nat) (h : JH) : Option (Unit × JH) :=
  (jgI h a0 0 6).bind fun v1 =>
  (jgR h a0 0 5).bind fun v3 =>
  (jgI h v3 7 3).bind fun v5 =>
  if v5 ≤ v1 then
    some ((), h)
  else
    (jgI h a0 0 6).bind fun v7 =>
    (jput h a0 0 6 (.int (v7 + (1 : Int32)))).bind fun h9 =>
    some ((), h9)

def f_X0_fail (a0 : Nat) (a1 : Int32) (a2 : Int32) (h : JH) : Option (Int32 × JH) :=
  (jgR h a0 0 5).bind fun v1 =>
  (jgR h v1 7 1).bind fun v3 =>
  (jaI h v3 a2).bind fun v5 =>
  (jput h a0 0 0 (.int (((8 : Int32) * v5) + a1))).bind fun h7 =>
  some ((0 : Int32), h7)

def f_X0_expect (a0 : Nat) (a1 : Int32) (h : JH) : Option (Int32 × JH) :=
  (jrecv h a0 0).bind fun u15 =>
  (f_X0_kind a0 h).bind fun q1 =>
  if q1.1 = a1 then
    (jrecv q1.2 a0 0).bind fun u5 =>
    (f_X0_goOn a0 q1.2).bind fun q3 =>
    some ((1 : Int32), q3.2)
  else
    (jgI q1.2 a0 0 6).bind fun v7 =>
    (jrecv q1.2 a0 0).bind fun u13 =>
    (f_X0_fail a0 (1 : Int32) v7 q1.2).bind fun q9 =>
    (jzb q9.1).bind fun u11 =>
    some (q9.1, q9.2)

def f_X0_isPrime_L17 (a0 : Int32) (z : Int32) (h : JH) : Option ((Int32 ⊕ (Int32 ⊕ Int32)) × JH) :=
  if a0 < (z * z) then
    some (.inr (.inr z), h)
  else
    (jnz z).bind fun u1 =>
    if (jrem a0 z) = (0 : Int32) then
      some (.inr (.inl (0 : Int32)), h)
    else
      some (.inl (z + (1 : Int32)), h)

def f_X0_isPrime (a0 : Int32) (h : JH) : Option (Int32 × JH) :=
  if a0 < (101 : Int32) then
    some ((0 : Int32), h)
  else
    if a0 ≤ (9973 : Int32) then
      (jloop (f_X0_isPrime_L17 a0) jF (2 : Int32) h).bind fun q5 =>
      Sum.elim (fun r8 => some (r8, q5.2)) (fun t7 =>
        some ((1 : Int32), q5.2)) q5.1
    else
      some ((0 : Int32), h)

def f_X0_readPrime (a0 : Nat) (h : JH) : Option (Int32 × JH) :=
  (jrecv h a0 0).bind fun u49 =>
  (f_X0_kind a0 h).bind fun q1 =>
  if q1.1 = (4 : Int32) then
    (jrecv q1.2 a0 0).bind fun u47 =>
    (f_X0_goOn a0 q1.2).bind fun q3 =>
    (jrecv q3.2 a0 0).bind fun u45 =>
    (f_X0_kind a0 q3.2).bind fun q5 =>
    if q5.1 = (3 : Int32) then
      (jrecv q5.2 a0 0).bind fun u35 =>
      (f_X0_value a0 q5.2).bind fun q7 =>
      (f_X0_isPrime q7.1 q7.2).bind fun q9 =>
      if q9.1 = (0 : Int32) then
        (jgI q9.2 a0 0 6).bind fun v27 =>
        (jrecv q9.2 a0 0).bind fun u33 =>
        (f_X0_fail a0 (4 : Int32) v27 q9.2).bind fun q29 =>
        (jzb q29.1).bind fun u31 =>
        some (q29.1, q29.2)
      else
        (jrecv q9.2 a0 0).bind fun u25 =>
        (f_X0_value a0 q9.2).bind fun q11 =>
        (jput q11.2 a0 0 1 (.int q11.1)).bind fun h13 =>
        (jrecv h13 a0 0).bind fun u23 =>
        (f_X0_goOn a0 h13).bind fun q15 =>
        (jrecv q15.2 a0 0).bind fun u21 =>
        (f_X0_expect a0 (59 : Int32) q15.2).bind fun q17 =>
        (jzb q17.1).bind fun u19 =>
        some (q17.1, q17.2)
    else
      (jgI q5.2 a0 0 6).bind fun v37 =>
      (jrecv q5.2 a0 0).bind fun u43 =>
      (f_X0_fail a0 (1 : Int32) v37 q5.2).bind fun q39 =>
      (jzb q39.1).bind fun u41 =>
      some (q39.1, q39.2)
  else
    some ((1 : Int32), q1.2)

def f_X0_findLet_L2 (a0 : Nat) (a1 : Int32) (z : Int32) (h : JH) : Option ((Int32 ⊕ (Int32 ⊕ Int32)) × JH) :=
  (jgI h a0 0 2).bind fun v1 =>
  if v1 ≤ z then
    some (.inr (.inr z), h)
  else
    (jgR h a0 0 4).bind fun v3 =>
    (jaI h v3 z).bind fun v5 =>
    if v5 = a1 then
      some (.inr (.inl z), h)
    else
      some (.inl (z + (1 : Int32)), h)

def f_X0_findLet (a0 : Nat) (a1 : Int32) (h : JH) : Option (Int32 × JH) :=
  (jloop (f_X0_findLet_L2 a0 a1) jF (0 : Int32) h).bind fun q9 =>
  Sum.elim (fun r12 => some (r12, q9.2)) (fun t11 =>
    some ((-1 : Int32), q9.2)) q9.1

def f_X2_copyFrom (a0 : Nat) (a1 : Nat) (h : JH) : Option (Unit × JH) :=
  (jgI h a1 1 0).bind fun v1 =>
  (jput h a0 1 0 (.int v1)).bind fun h3 =>
  (jgR h3 a1 1 1).bind fun v5 =>
  (jgR h3 a0 1 1).bind fun v7 =>
  (jcI h3 v5 (0 : Int32) v7 (0 : Int32) (6 : Int32)).bind fun h9 =>
  some ((), h9)

def f_X4_of (a0 : Int64) (a2 : Int32) (h : JH) : Option (Int32 × JH) :=
  if (0 : Int32) < a2 then
    (jnzL a2.toInt64).bind fun u1 =>
    if (0 : Int32) ≤ ((jremL a0 a2.toInt64).toInt32) then
      some ((jremL a0 a2.toInt64).toInt32, h)
    else
      some (((jremL a0 a2.toInt64).toInt32) + a2, h)
  else
    some ((0 : Int32), h)

def f_X2_multiplyBy_L12 (a0 : Nat) (a1 : Nat) (a2 : Int32) (a3 : Int32) (z : (Int64 × Int32)) (h : JH) : Option (((Int64 × Int32) ⊕ (Int64 × Int32)) × JH) :=
  if a3 < z.2 then
    some (.inr (z.1, z.2), h)
  else
    (jgR h a0 1 1).bind fun v1 =>
    (jaI h v1 z.2).bind fun v3 =>
    (jgR h a1 1 1).bind fun v5 =>
    (jaI h v5 (a3 - z.2)).bind fun v7 =>
    some (.inl (z.1 + (v3.toInt64 * v7.toInt64), z.2 + (1 : Int32)), h)

def f_X2_multiplyBy_L2 (a0 : Nat) (a1 : Nat) (a2 : Int32) (z : Int32) (h : JH) : Option ((Int32 ⊕ Int32) × JH) :=
  if z < (0 : Int32) then
    some (.inr z, h)
  else
    (jloop (f_X2_multiplyBy_L12 a0 a1 a2 z) jF ((0 : Int64), (0 : Int32)) h).bind fun q1 =>
    (jgR q1.2 a0 1 1).bind fun v3 =>
    (f_X4_of q1.1.1 a2 q1.2).bind fun q5 =>
    (jsI q5.2 v3 z q5.1).bind fun h7 =>
    some (.inl (z + (-1 : Int32)), h7)

def f_X2_multiplyBy (a0 : Nat) (a1 : Nat) (a2 : Int32) (h : JH) : Option (Unit × JH) :=
  (jloop (f_X2_multiplyBy_L2 a0 a1 a2) jF (5 : Int32) h).bind fun q10 =>
  (jgI q10.2 a0 1 0).bind fun v12 =>
  (jgI q10.2 a1 1 0).bind fun v14 =>
  (jput q10.2 a0 1 0 (.int (v12 + v14))).bind fun h16 =>
  some ((), h16)

def f_J7_fill_53178_L5 (a0 : Nat) (a1 : Int32) (a3 : Int32) (z : Int32) (h : JH) : Option ((Int32 ⊕ Int32) × JH) :=
  if a3 ≤ z then
    some (.inr z, h)
  else
    (jsI h a0 z a1).bind fun h3 =>
    some (.inl (z + (1 : Int32)), h3)

def f_J7_fill_53178 (a0 : Nat) (a1 : Int32) (h : JH) : Option (Unit × JH) :=
  (jal h a0).bind fun v1 =>
  (jloop (f_J7_fill_53178_L5 a0 a1 v1) jF (0 : Int32) h).bind fun q6 =>
  some ((), q6.2)

def f_X2_setNumber (a0 : Nat) (a1 : Int32) (h : JH) : Option (Unit × JH) :=
  (jput h a0 1 0 (.int (0 : Int32))).bind fun h1 =>
  (jgR h1 a0 1 1).bind fun v3 =>
  (f_J7_fill_53178 v3 (0 : Int32) h1).bind fun q5 =>
  (jgR q5.2 a0 1 1).bind fun v7 =>
  (jsI q5.2 v7 (0 : Int32) a1).bind fun h9 =>
  some ((), h9)

def f_X0_raise_L15 (a0 : Nat) (a1 : Nat) (a2 : Int32) (z : Int32) (h : JH) : Option ((Int32 ⊕ Int32) × JH) :=
  if a2 ≤ z then
    some (.inr z, h)
  else
    (jgR h a0 0 10).bind fun v7 =>
    (jgI h a0 0 1).bind fun v9 =>
    (jrecv h a1 1).bind fun u13 =>
    (f_X2_multiplyBy a1 v7 v9 h).bind fun q11 =>
    some (.inl (z + (1 : Int32)), q11.2)

def f_X0_raise (a0 : Nat) (a1 : Nat) (a2 : Int32) (h : JH) : Option (Unit × JH) :=
  (jgR h a0 0 10).bind fun v1 =>
  (jrecv h v1 1).bind fun u20 =>
  (f_X2_copyFrom v1 a1 h).bind fun q3 =>
  (jrecv q3.2 a1 1).bind fun u18 =>
  (f_X2_setNumber a1 (1 : Int32) q3.2).bind fun q5 =>
  (jloop (f_X0_raise_L15 a0 a1 a2) jF (0 : Int32) q5.2).bind fun q16 =>
  some ((), q16.2)

def f_X0_setKnown_L8 (a0 : Nat) (a1 : Nat) (a3 : Nat) (z : Int32) (h : JH) : Option ((Int32 ⊕ Int32) × JH) :=
  if (6 : Int32) ≤ z then
    some (.inr z, h)
  else
    (jgR h a1 1 1).bind fun v3 =>
    (jaI h a3 z).bind fun v5 =>
    (jgI h a0 0 1).bind fun v7 =>
    (f_X4_of v5.toInt64 v7 h).bind fun q9 =>
    (jsI q9.2 v3 z q9.1).bind fun h11 =>
    some (.inl (z + (1 : Int32)), h11)

def f_X0_setKnown (a0 : Nat) (a1 : Nat) (a2 : Int32) (a3 : Nat) (h : JH) : Option (Unit × JH) :=
  (jput h a1 1 0 (.int a2)).bind fun h1 =>
  (jloop (f_X0_setKnown_L8 a0 a1 a3) jF (0 : Int32) h1).bind fun q14 =>
  some ((), q14.2)

def f_X0_readAtom (rec : Nat → Int32 → JH → Option (Int32 × JH)) (a0 : Nat) (a1 : Int32) (h : JH) : Option (Int32 × JH) :=
  (jgR h a0 0 9).bind fun v1 =>
  (jaR h v1 a1).bind fun v3 =>
  (jrecv h a0 0).bind fun u143 =>
  (f_X0_kind a0 h).bind fun q5 =>
  if q5.1 = (2 : Int32) then
    (jrecv q5.2 a0 0).bind fun u41 =>
    (f_X0_value a0 q5.2).bind fun q7 =>
    (jrecv q7.2 a0 0).bind fun u39 =>
    (f_X0_findLet a0 q7.1 q7.2).bind fun q9 =>
    if q9.1 = (-1 : Int32) then
      (jgI q9.2 a0 0 6).bind fun v31 =>
      (jrecv q9.2 a0 0).bind fun u37 =>
      (f_X0_fail a0 (3 : Int32) v31 q9.2).bind fun q33 =>
      (jzb q33.1).bind fun u35 =>
      some (q33.1, q33.2)
    else
      (jgR q9.2 a0 0 3).bind fun v11 =>
      (jrecv q9.2 a0 0).bind fun u29 =>
      (f_X0_value a0 q9.2).bind fun q13 =>
      (jrecv q13.2 a0 0).bind fun u27 =>
      (f_X0_findLet a0 q13.1 q13.2).bind fun q15 =>
      (jaR q15.2 v11 q15.1).bind fun v17 =>
      (jrecv q15.2 v3 1).bind fun u25 =>
      (f_X2_copyFrom v3 v17 q15.2).bind fun q19 =>
      (jrecv q19.2 a0 0).bind fun u23 =>
      (f_X0_goOn a0 q19.2).bind fun q21 =>
      some ((1 : Int32), q21.2)
  else if q5.1 = (3 : Int32) then
    (jrecv q5.2 a0 0).bind fun u69 =>
    (f_X0_value a0 q5.2).bind fun q43 =>
    if (0 : Int32) ≤ q43.1 then
      (jrecv q43.2 a0 0).bind fun u59 =>
      (f_X0_value a0 q43.2).bind fun q45 =>
      (jgI q45.2 a0 0 1).bind fun v47 =>
      (f_X4_of q45.1.toInt64 v47 q45.2).bind fun q49 =>
      (jrecv q49.2 v3 1).bind fun u57 =>
      (f_X2_setNumber v3 q49.1 q49.2).bind fun q51 =>
      (jrecv q51.2 a0 0).bind fun u55 =>
      (f_X0_goOn a0 q51.2).bind fun q53 =>
      some ((1 : Int32), q53.2)
    else
      (jgI q43.2 a0 0 6).bind fun v61 =>
      (jrecv q43.2 a0 0).bind fun u67 =>
      (f_X0_fail a0 (4 : Int32) v61 q43.2).bind fun q63 =>
      (jzb q63.1).bind fun u65 =>
      some (q63.1, q63.2)
  else if q5.1 = (7 : Int32) then
    (jrecv q5.2 a0 0).bind fun u77 =>
    (f_X0_setKnown a0 v3 (4 : Int32) (q5.2.2.2 0) q5.2).bind fun q71 =>
    (jrecv q71.2 a0 0).bind fun u75 =>
    (f_X0_goOn a0 q71.2).bind fun q73 =>
    some ((1 : Int32), q73.2)
  else if q5.1 = (8 : Int32) then
    (jrecv q5.2 a0 0).bind fun u85 =>
    (f_X0_setKnown a0 v3 (6 : Int32) (q5.2.2.2 1) q5.2).bind fun q79 =>
    (jrecv q79.2 a0 0).bind fun u83 =>
    (f_X0_goOn a0 q79.2).bind fun q81 =>
    some ((1 : Int32), q81.2)
  else if q5.1 = (9 : Int32) then
    (jrecv q5.2 a0 0).bind fun u93 =>
    (f_X0_setKnown a0 v3 (12 : Int32) (q5.2.2.2 2) q5.2).bind fun q87 =>
    (jrecv q87.2 a0 0).bind fun u91 =>
    (f_X0_goOn a0 q87.2).bind fun q89 =>
    some ((1 : Int32), q89.2)
  else if q5.1 = (40 : Int32) then
    if a1 < (8 : Int32) then
      (jrecv q5.2 a0 0).bind fun u125 =>
      (f_X0_goOn a0 q5.2).bind fun q95 =>
      (jrecv q95.2 a0 0).bind fun u123 =>
      (rec a0 (a1 + (1 : Int32)) q95.2).bind fun q97 =>
      if q97.1 = (0 : Int32) then
        some ((0 : Int32), q97.2)
      else
        (jrecv q97.2 a0 0).bind fun u121 =>
        (f_X0_kind a0 q97.2).bind fun q99 =>
        if q99.1 = (41 : Int32) then
          (jgR q99.2 a0 0 7).bind fun v101 =>
          (jaR q99.2 v101 (a1 + (1 : Int32))).bind fun v103 =>
          (jrecv q99.2 v3 1).bind fun u111 =>
          (f_X2_copyFrom v3 v103 q99.2).bind fun q105 =>
          (jrecv q105.2 a0 0).bind fun u109 =>
          (f_X0_goOn a0 q105.2).bind fun q107 =>
          some ((1 : Int32), q107.2)
        else
          (jgI q99.2 a0 0 6).bind fun v113 =>
          (jrecv q99.2 a0 0).bind fun u119 =>
          (f_X0_fail a0 (1 : Int32) v113 q99.2).bind fun q115 =>
          (jzb q115.1).bind fun u117 =>
          some (q115.1, q115.2)
    else
      (jgI q5.2 a0 0 6).bind fun v127 =>
      (jrecv q5.2 a0 0).bind fun u133 =>
      (f_X0_fail a0 (5 : Int32) v127 q5.2).bind fun q129 =>
      (jzb q129.1).bind fun u131 =>
      some (q129.1, q129.2)
  else 
    (jgI q5.2 a0 0 6).bind fun v135 =>
    (jrecv q5.2 a0 0).bind fun u141 =>
    (f_X0_fail a0 (1 : Int32) v135 q5.2).bind fun q137 =>
    (jzb q137.1).bind fun u139 =>
    some (q137.1, q137.2)

def f_X0_readPower (rec : Nat → Int32 → JH → Option (Int32 × JH)) (a0 : Nat) (a1 : Int32) (h : JH) : Option (Int32 × JH) :=
  (jgI h a0 0 6).bind fun v1 =>
  (jrecv h a0 0).bind fun u69 =>
  (f_X0_readAtom rec a0 a1 h).bind fun q3 =>
  if q3.1 = (0 : Int32) then
    some ((0 : Int32), q3.2)
  else
    (jrecv q3.2 a0 0).bind fun u67 =>
    (f_X0_kind a0 q3.2).bind fun q5 =>
    if q5.1 = (94 : Int32) then
      (jrecv q5.2 a0 0).bind fun u65 =>
      (f_X0_goOn a0 q5.2).bind fun q7 =>
      (jrecv q7.2 a0 0).bind fun u63 =>
      (f_X0_kind a0 q7.2).bind fun q9 =>
      if q9.1 = (3 : Int32) then
        (jrecv q9.2 a0 0).bind fun u53 =>
        (f_X0_value a0 q9.2).bind fun q11 =>
        if q11.1 < (0 : Int32) then
          (jgI q11.2 a0 0 6).bind fun v13 =>
          (jrecv q11.2 a0 0).bind fun u19 =>
          (f_X0_fail a0 (4 : Int32) v13 q11.2).bind fun q15 =>
          (jzb q15.1).bind fun u17 =>
          some (q15.1, q15.2)
        else
          if q11.1 ≤ (15 : Int32) then
            (jrecv q11.2 a0 0).bind fun u43 =>
            (f_X0_goOn a0 q11.2).bind fun q21 =>
            (jgR q21.2 a0 0 9).bind fun v23 =>
            (jaR q21.2 v23 a1).bind fun v25 =>
            (jgI q21.2 v25 1 0).bind fun v27 =>
            if (v27 * q11.1) ≤ (60 : Int32) then
              (jgR q21.2 a0 0 9).bind fun v29 =>
              (jaR q21.2 v29 a1).bind fun v31 =>
              (jrecv q21.2 a0 0).bind fun u35 =>
              (f_X0_raise a0 v31 q11.1 q21.2).bind fun q33 =>
              some ((1 : Int32), q33.2)
            else
              (jrecv q21.2 a0 0).bind fun u41 =>
              (f_X0_fail a0 (7 : Int32) v1 q21.2).bind fun q37 =>
              (jzb q37.1).bind fun u39 =>
              some (q37.1, q37.2)
          else
            (jgI q11.2 a0 0 6).bind fun v45 =>
            (jrecv q11.2 a0 0).bind fun u51 =>
            (f_X0_fail a0 (4 : Int32) v45 q11.2).bind fun q47 =>
            (jzb q47.1).bind fun u49 =>
            some (q47.1, q47.2)
      else
        (jgI q9.2 a0 0 6).bind fun v55 =>
        (jrecv q9.2 a0 0).bind fun u61 =>
        (f_X0_fail a0 (1 : Int32) v55 q9.2).bind fun q57 =>
        (jzb q57.1).bind fun u59 =>
        some (q57.1, q57.2)
    else
      some ((1 : Int32), q5.2)

def f_X0_readProduct_L32 (rec : Nat → Int32 → JH → Option (Int32 × JH)) (a0 : Nat) (a1 : Int32) (a2 : Nat) (a3 : Nat) (z : Int32) (h : JH) : Option ((Int32 ⊕ (Int32 ⊕ Int32)) × JH) :=
  (jgR h a0 0 5).bind fun v13 =>
  (jgI h v13 7 3).bind fun v15 =>
  if v15 ≤ z then
    some (.inr (.inr z), h)
  else
    (jrecv h a0 0).bind fun u45 =>
    (f_X0_kind a0 h).bind fun q17 =>
    if q17.1 = (42 : Int32) then
      (jrecv q17.2 a0 0).bind fun u43 =>
      (f_X0_goOn a0 q17.2).bind fun q19 =>
      (jgI q19.2 a0 0 6).bind fun v21 =>
      (jrecv q19.2 a0 0).bind fun u41 =>
      (f_X0_readPower rec a0 a1 q19.2).bind fun q23 =>
      if q23.1 = (0 : Int32) then
        some (.inr (.inl (0 : Int32)), q23.2)
      else
        (jgI q23.2 a2 1 0).bind fun v25 =>
        (jgI q23.2 a3 1 0).bind fun v27 =>
        if (v25 + v27) ≤ (60 : Int32) then
          (jgI q23.2 a0 0 1).bind fun v29 =>
          (jrecv q23.2 a2 1).bind fun u33 =>
          (f_X2_multiplyBy a2 a3 v29 q23.2).bind fun q31 =>
          some (.inl (z + (1 : Int32)), q31.2)
        else
          (jrecv q23.2 a0 0).bind fun u39 =>
          (f_X0_fail a0 (7 : Int32) v21 q23.2).bind fun q35 =>
          (jzb q35.1).bind fun u37 =>
          some (.inr (.inl q35.1), q35.2)
    else
      some (.inr (.inr z), q17.2)

def f_X0_readProduct (rec : Nat → Int32 → JH → Option (Int32 × JH)) (a0 : Nat) (a1 : Int32) (h : JH) : Option (Int32 × JH) :=
  (jrecv h a0 0).bind fun u57 =>
  (f_X0_readPower rec a0 a1 h).bind fun q1 =>
  if q1.1 = (0 : Int32) then
    some ((0 : Int32), q1.2)
  else
    (jgR q1.2 a0 0 8).bind fun v3 =>
    (jaR q1.2 v3 a1).bind fun v5 =>
    (jgR q1.2 a0 0 9).bind fun v7 =>
    (jaR q1.2 v7 a1).bind fun v9 =>
    (jrecv q1.2 v5 1).bind fun u55 =>
    (f_X2_copyFrom v5 v9 q1.2).bind fun q11 =>
    (jloop (f_X0_readProduct_L32 rec a0 a1 v5 v9) jF (0 : Int32) q11.2).bind fun q51 =>
    Sum.elim (fun r54 => some (r54, q51.2)) (fun t53 =>
      some ((1 : Int32), q51.2)) q51.1

def f_X2_add_L3 (a0 : Nat) (a1 : Nat) (a2 : Int32) (a3 : Int32) (z : Int32) (h : JH) : Option ((Int32 ⊕ Int32) × JH) :=
  if (6 : Int32) ≤ z then
    some (.inr z, h)
  else
    (jgR h a0 1 1).bind fun v1 =>
    (jgR h a0 1 1).bind fun v3 =>
    (jaI h v3 z).bind fun v5 =>
    (jgR h a1 1 1).bind fun v7 =>
    (jaI h v7 z).bind fun v9 =>
    (f_X4_of (v5.toInt64 + (a2.toInt64 * v9.toInt64)) a3 h).bind fun q11 =>
    (jsI q11.2 v1 z q11.1).bind fun h13 =>
    some (.inl (z + (1 : Int32)), h13)

def f_X2_add (a0 : Nat) (a1 : Nat) (a2 : Int32) (a3 : Int32) (h : JH) : Option (Unit × JH) :=
  (jloop (f_X2_add_L3 a0 a1 a2 a3) jF (0 : Int32) h).bind fun q16 =>
  some ((), q16.2)

def f_X0_readSum_L32 (rec : Nat → Int32 → JH → Option (Int32 × JH)) (a0 : Nat) (a1 : Int32) (a2 : Nat) (a3 : Nat) (z : Int32) (h : JH) : Option ((Int32 ⊕ (Int32 ⊕ Int32)) × JH) :=
  (jgR h a0 0 5).bind fun v13 =>
  (jgI h v13 7 3).bind fun v15 =>
  if v15 ≤ z then
    some (.inr (.inr z), h)
  else
    (jrecv h a0 0).bind fun u139 =>
    (f_X0_kind a0 h).bind fun q17 =>
    if q17.1 = (43 : Int32) then
      (jrecv q17.2 a0 0).bind fun u75 =>
      (f_X0_kind a0 q17.2).bind fun q19 =>
      if q19.1 = (43 : Int32) then
        (jrecv q19.2 a0 0).bind fun u73 =>
        (f_X0_goOn a0 q19.2).bind fun q49 =>
        (jgI q49.2 a0 0 6).bind fun v51 =>
        (jrecv q49.2 a0 0).bind fun u71 =>
        (f_X0_readProduct rec a0 a1 q49.2).bind fun q53 =>
        if q53.1 = (0 : Int32) then
          some (.inr (.inl (0 : Int32)), q53.2)
        else
          (jgI q53.2 a3 1 0).bind fun v55 =>
          (jgI q53.2 a2 1 0).bind fun v57 =>
          if v55 = v57 then
            (jgI q53.2 a0 0 1).bind fun v59 =>
            (jrecv q53.2 a2 1).bind fun u63 =>
            (f_X2_add a2 a3 (1 : Int32) v59 q53.2).bind fun q61 =>
            some (.inl (z + (1 : Int32)), q61.2)
          else
            (jrecv q53.2 a0 0).bind fun u69 =>
            (f_X0_fail a0 (6 : Int32) v51 q53.2).bind fun q65 =>
            (jzb q65.1).bind fun u67 =>
            some (.inr (.inl q65.1), q65.2)
      else
        (jgI q19.2 a0 0 1).bind fun v21 =>
        (jrecv q19.2 a0 0).bind fun u47 =>
        (f_X0_goOn a0 q19.2).bind fun q23 =>
        (jgI q23.2 a0 0 6).bind fun v25 =>
        (jrecv q23.2 a0 0).bind fun u45 =>
        (f_X0_readProduct rec a0 a1 q23.2).bind fun q27 =>
        if q27.1 = (0 : Int32) then
          some (.inr (.inl (0 : Int32)), q27.2)
        else
          (jgI q27.2 a3 1 0).bind fun v29 =>
          (jgI q27.2 a2 1 0).bind fun v31 =>
          if v29 = v31 then
            (jgI q27.2 a0 0 1).bind fun v33 =>
            (jrecv q27.2 a2 1).bind fun u37 =>
            (f_X2_add a2 a3 (v21 - (1 : Int32)) v33 q27.2).bind fun q35 =>
            some (.inl (z + (1 : Int32)), q35.2)
          else
            (jrecv q27.2 a0 0).bind fun u43 =>
            (f_X0_fail a0 (6 : Int32) v25 q27.2).bind fun q39 =>
            (jzb q39.1).bind fun u41 =>
            some (.inr (.inl q39.1), q39.2)
    else
      (jrecv q17.2 a0 0).bind fun u137 =>
      (f_X0_kind a0 q17.2).bind fun q77 =>
      if q77.1 = (45 : Int32) then
        (jrecv q77.2 a0 0).bind fun u135 =>
        (f_X0_kind a0 q77.2).bind fun q79 =>
        if q79.1 = (43 : Int32) then
          (jrecv q79.2 a0 0).bind fun u133 =>
          (f_X0_goOn a0 q79.2).bind fun q109 =>
          (jgI q109.2 a0 0 6).bind fun v111 =>
          (jrecv q109.2 a0 0).bind fun u131 =>
          (f_X0_readProduct rec a0 a1 q109.2).bind fun q113 =>
          if q113.1 = (0 : Int32) then
            some (.inr (.inl (0 : Int32)), q113.2)
          else
            (jgI q113.2 a3 1 0).bind fun v115 =>
            (jgI q113.2 a2 1 0).bind fun v117 =>
            if v115 = v117 then
              (jgI q113.2 a0 0 1).bind fun v119 =>
              (jrecv q113.2 a2 1).bind fun u123 =>
              (f_X2_add a2 a3 (1 : Int32) v119 q113.2).bind fun q121 =>
              some (.inl (z + (1 : Int32)), q121.2)
            else
              (jrecv q113.2 a0 0).bind fun u129 =>
              (f_X0_fail a0 (6 : Int32) v111 q113.2).bind fun q125 =>
              (jzb q125.1).bind fun u127 =>
              some (.inr (.inl q125.1), q125.2)
        else
          (jgI q79.2 a0 0 1).bind fun v81 =>
          (jrecv q79.2 a0 0).bind fun u107 =>
          (f_X0_goOn a0 q79.2).bind fun q83 =>
          (jgI q83.2 a0 0 6).bind fun v85 =>
          (jrecv q83.2 a0 0).bind fun u105 =>
          (f_X0_readProduct rec a0 a1 q83.2).bind fun q87 =>
          if q87.1 = (0 : Int32) then
            some (.inr (.inl (0 : Int32)), q87.2)
          else
            (jgI q87.2 a3 1 0).bind fun v89 =>
            (jgI q87.2 a2 1 0).bind fun v91 =>
            if v89 = v91 then
              (jgI q87.2 a0 0 1).bind fun v93 =>
              (jrecv q87.2 a2 1).bind fun u97 =>
              (f_X2_add a2 a3 (v81 - (1 : Int32)) v93 q87.2).bind fun q95 =>
              some (.inl (z + (1 : Int32)), q95.2)
            else
              (jrecv q87.2 a0 0).bind fun u103 =>
              (f_X0_fail a0 (6 : Int32) v85 q87.2).bind fun q99 =>
              (jzb q99.1).bind fun u101 =>
              some (.inr (.inl q99.1), q99.2)
      else
        some (.inr (.inr z), q77.2)

def f_X0_readSum (rec : Nat → Int32 → JH → Option (Int32 × JH)) (a0 : Nat) (a1 : Int32) (h : JH) : Option (Int32 × JH) :=
  (jrecv h a0 0).bind fun u160 =>
  (f_X0_readProduct rec a0 a1 h).bind fun q1 =>
  if q1.1 = (0 : Int32) then
    some ((0 : Int32), q1.2)
  else
    (jgR q1.2 a0 0 7).bind fun v3 =>
    (jaR q1.2 v3 a1).bind fun v5 =>
    (jgR q1.2 a0 0 8).bind fun v7 =>
    (jaR q1.2 v7 a1).bind fun v9 =>
    (jrecv q1.2 v5 1).bind fun u158 =>
    (f_X2_copyFrom v5 v9 q1.2).bind fun q11 =>
    (jloop (f_X0_readSum_L32 rec a0 a1 v5 v9) jF (0 : Int32) q11.2).bind fun q154 =>
    Sum.elim (fun r157 => some (r157, q154.2)) (fun t156 =>
      some ((1 : Int32), q154.2)) q154.1

def n_X0_readSum : Nat → Nat → Int32 → JH → Option (Int32 × JH)
  | 0 => fun _ _ _ => none
  | n + 1 => f_X0_readSum (n_X0_readSum n)

def f_X0_readLets_L2 (a0 : Nat) (z : Int32) (h : JH) : Option ((Int32 ⊕ (Int32 ⊕ Int32)) × JH) :=
  if (6 : Int32) < z then
    some (.inr (.inr z), h)
  else
    (jrecv h a0 0).bind fun u225 =>
    (f_X0_kind a0 h).bind fun q1 =>
    if q1.1 = (0 : Int32) then
      some (.inr (.inr z), q1.2)
    else
      (jrecv q1.2 a0 0).bind fun u223 =>
      (f_X0_kind a0 q1.2).bind fun q3 =>
      if q3.1 = (5 : Int32) then
        (jgI q3.2 a0 0 2).bind fun v109 =>
        if v109 < (6 : Int32) then
          (jrecv q3.2 a0 0).bind fun u213 =>
          (f_X0_expect a0 (5 : Int32) q3.2).bind fun q111 =>
          if q111.1 = (0 : Int32) then
            some (.inr (.inl (0 : Int32)), q111.2)
          else
            (jrecv q111.2 a0 0).bind fun u211 =>
            (f_X0_value a0 q111.2).bind fun q113 =>
            (jrecv q113.2 a0 0).bind fun u209 =>
            (f_X0_kind a0 q113.2).bind fun q115 =>
            if q115.1 = (2 : Int32) then
              (jrecv q115.2 a0 0).bind fun u207 =>
              (f_X0_findLet a0 q113.1 q115.2).bind fun q157 =>
              if q157.1 = (-1 : Int32) then
                (jrecv q157.2 a0 0).bind fun u197 =>
                (f_X0_expect a0 (2 : Int32) q157.2).bind fun q159 =>
                if q159.1 = (0 : Int32) then
                  some (.inr (.inl (0 : Int32)), q159.2)
                else
                  (jrecv q159.2 a0 0).bind fun u195 =>
                  (f_X0_expect a0 (6 : Int32) q159.2).bind fun q161 =>
                  if q161.1 = (0 : Int32) then
                    some (.inr (.inl (0 : Int32)), q161.2)
                  else
                    (jrecv q161.2 a0 0).bind fun u193 =>
                    (n_X0_readSum 10 a0 (0 : Int32) q161.2).bind fun q163 =>
                    if q163.1 = (0 : Int32) then
                      some (.inr (.inl (0 : Int32)), q163.2)
                    else
                      (jrecv q163.2 a0 0).bind fun u191 =>
                      (f_X0_expect a0 (59 : Int32) q163.2).bind fun q165 =>
                      if q165.1 = (0 : Int32) then
                        some (.inr (.inl (0 : Int32)), q165.2)
                      else
                        (jgR q165.2 a0 0 4).bind fun v167 =>
                        (jgI q165.2 a0 0 2).bind fun v169 =>
                        (jsI q165.2 v167 v169 q113.1).bind fun h171 =>
                        (jgR h171 a0 0 3).bind fun v173 =>
                        (jgI h171 a0 0 2).bind fun v175 =>
                        (jaR h171 v173 v175).bind fun v177 =>
                        (jgR h171 a0 0 7).bind fun v179 =>
                        (jaR h171 v179 (0 : Int32)).bind fun v181 =>
                        (jrecv h171 v177 1).bind fun u189 =>
                        (f_X2_copyFrom v177 v181 h171).bind fun q183 =>
                        (jgI q183.2 a0 0 2).bind fun v185 =>
                        (jput q183.2 a0 0 2 (.int (v185 + (1 : Int32)))).bind fun h187 =>
                        some (.inl (z + (1 : Int32)), h187)
              else
                (jgI q157.2 a0 0 6).bind fun v199 =>
                (jrecv q157.2 a0 0).bind fun u205 =>
                (f_X0_fail a0 (2 : Int32) v199 q157.2).bind fun q201 =>
                (jzb q201.1).bind fun u203 =>
                some (.inr (.inl q201.1), q201.2)
            else
              (jrecv q115.2 a0 0).bind fun u155 =>
              (f_X0_expect a0 (2 : Int32) q115.2).bind fun q117 =>
              if q117.1 = (0 : Int32) then
                some (.inr (.inl (0 : Int32)), q117.2)
              else
                (jrecv q117.2 a0 0).bind fun u153 =>
                (f_X0_expect a0 (6 : Int32) q117.2).bind fun q119 =>
                if q119.1 = (0 : Int32) then
                  some (.inr (.inl (0 : Int32)), q119.2)
                else
                  (jrecv q119.2 a0 0).bind fun u151 =>
                  (n_X0_readSum 10 a0 (0 : Int32) q119.2).bind fun q121 =>
                  if q121.1 = (0 : Int32) then
                    some (.inr (.inl (0 : Int32)), q121.2)
                  else
                    (jrecv q121.2 a0 0).bind fun u149 =>
                    (f_X0_expect a0 (59 : Int32) q121.2).bind fun q123 =>
                    if q123.1 = (0 : Int32) then
                      some (.inr (.inl (0 : Int32)), q123.2)
                    else
                      (jgR q123.2 a0 0 4).bind fun v125 =>
                      (jgI q123.2 a0 0 2).bind fun v127 =>
                      (jsI q123.2 v125 v127 q113.1).bind fun h129 =>
                      (jgR h129 a0 0 3).bind fun v131 =>
                      (jgI h129 a0 0 2).bind fun v133 =>
                      (jaR h129 v131 v133).bind fun v135 =>
                      (jgR h129 a0 0 7).bind fun v137 =>
                      (jaR h129 v137 (0 : Int32)).bind fun v139 =>
                      (jrecv h129 v135 1).bind fun u147 =>
                      (f_X2_copyFrom v135 v139 h129).bind fun q141 =>
                      (jgI q141.2 a0 0 2).bind fun v143 =>
                      (jput q141.2 a0 0 2 (.int (v143 + (1 : Int32)))).bind fun h145 =>
                      some (.inl (z + (1 : Int32)), h145)
        else
          (jgI q3.2 a0 0 6).bind fun v215 =>
          (jrecv q3.2 a0 0).bind fun u221 =>
          (f_X0_fail a0 (5 : Int32) v215 q3.2).bind fun q217 =>
          (jzb q217.1).bind fun u219 =>
          some (.inr (.inl q217.1), q217.2)
      else
        (jrecv q3.2 a0 0).bind fun u107 =>
        (f_X0_expect a0 (5 : Int32) q3.2).bind fun q5 =>
        if q5.1 = (0 : Int32) then
          some (.inr (.inl (0 : Int32)), q5.2)
        else
          (jrecv q5.2 a0 0).bind fun u105 =>
          (f_X0_value a0 q5.2).bind fun q7 =>
          (jrecv q7.2 a0 0).bind fun u103 =>
          (f_X0_kind a0 q7.2).bind fun q9 =>
          if q9.1 = (2 : Int32) then
            (jrecv q9.2 a0 0).bind fun u101 =>
            (f_X0_findLet a0 q7.1 q9.2).bind fun q51 =>
            if q51.1 = (-1 : Int32) then
              (jrecv q51.2 a0 0).bind fun u91 =>
              (f_X0_expect a0 (2 : Int32) q51.2).bind fun q53 =>
              if q53.1 = (0 : Int32) then
                some (.inr (.inl (0 : Int32)), q53.2)
              else
                (jrecv q53.2 a0 0).bind fun u89 =>
                (f_X0_expect a0 (6 : Int32) q53.2).bind fun q55 =>
                if q55.1 = (0 : Int32) then
                  some (.inr (.inl (0 : Int32)), q55.2)
                else
                  (jrecv q55.2 a0 0).bind fun u87 =>
                  (n_X0_readSum 10 a0 (0 : Int32) q55.2).bind fun q57 =>
                  if q57.1 = (0 : Int32) then
                    some (.inr (.inl (0 : Int32)), q57.2)
                  else
                    (jrecv q57.2 a0 0).bind fun u85 =>
                    (f_X0_expect a0 (59 : Int32) q57.2).bind fun q59 =>
                    if q59.1 = (0 : Int32) then
                      some (.inr (.inl (0 : Int32)), q59.2)
                    else
                      (jgR q59.2 a0 0 4).bind fun v61 =>
                      (jgI q59.2 a0 0 2).bind fun v63 =>
                      (jsI q59.2 v61 v63 q7.1).bind fun h65 =>
                      (jgR h65 a0 0 3).bind fun v67 =>
                      (jgI h65 a0 0 2).bind fun v69 =>
                      (jaR h65 v67 v69).bind fun v71 =>
                      (jgR h65 a0 0 7).bind fun v73 =>
                      (jaR h65 v73 (0 : Int32)).bind fun v75 =>
                      (jrecv h65 v71 1).bind fun u83 =>
                      (f_X2_copyFrom v71 v75 h65).bind fun q77 =>
                      (jgI q77.2 a0 0 2).bind fun v79 =>
                      (jput q77.2 a0 0 2 (.int (v79 + (1 : Int32)))).bind fun h81 =>
                      some (.inl (z + (1 : Int32)), h81)
            else
              (jgI q51.2 a0 0 6).bind fun v93 =>
              (jrecv q51.2 a0 0).bind fun u99 =>
              (f_X0_fail a0 (2 : Int32) v93 q51.2).bind fun q95 =>
              (jzb q95.1).bind fun u97 =>
              some (.inr (.inl q95.1), q95.2)
          else
            (jrecv q9.2 a0 0).bind fun u49 =>
            (f_X0_expect a0 (2 : Int32) q9.2).bind fun q11 =>
            if q11.1 = (0 : Int32) then
              some (.inr (.inl (0 : Int32)), q11.2)
            else
              (jrecv q11.2 a0 0).bind fun u47 =>
              (f_X0_expect a0 (6 : Int32) q11.2).bind fun q13 =>
              if q13.1 = (0 : Int32) then
                some (.inr (.inl (0 : Int32)), q13.2)
              else
                (jrecv q13.2 a0 0).bind fun u45 =>
                (n_X0_readSum 10 a0 (0 : Int32) q13.2).bind fun q15 =>
                if q15.1 = (0 : Int32) then
                  some (.inr (.inl (0 : Int32)), q15.2)
                else
                  (jrecv q15.2 a0 0).bind fun u43 =>
                  (f_X0_expect a0 (59 : Int32) q15.2).bind fun q17 =>
                  if q17.1 = (0 : Int32) then
                    some (.inr (.inl (0 : Int32)), q17.2)
                  else
                    (jgR q17.2 a0 0 4).bind fun v19 =>
                    (jgI q17.2 a0 0 2).bind fun v21 =>
                    (jsI q17.2 v19 v21 q7.1).bind fun h23 =>
                    (jgR h23 a0 0 3).bind fun v25 =>
                    (jgI h23 a0 0 2).bind fun v27 =>
                    (jaR h23 v25 v27).bind fun v29 =>
                    (jgR h23 a0 0 7).bind fun v31 =>
                    (jaR h23 v31 (0 : Int32)).bind fun v33 =>
                    (jrecv h23 v29 1).bind fun u41 =>
                    (f_X2_copyFrom v29 v33 h23).bind fun q35 =>
                    (jgI q35.2 a0 0 2).bind fun v37 =>
                    (jput q35.2 a0 0 2 (.int (v37 + (1 : Int32)))).bind fun h39 =>
                    some (.inl (z + (1 : Int32)), h39)

def f_X0_readLets (a0 : Nat) (h : JH) : Option (Int32 × JH) :=
  (jloop (f_X0_readLets_L2 a0) jF (0 : Int32) h).bind fun q253 =>
  Sum.elim (fun r256 => some (r256, q253.2)) (fun t255 =>
    some ((1 : Int32), q253.2)) q253.1

def f_X1_onlyIfPrimitive_L2 (a0 : Int32) (a1 : Int32) (a2 : Int32) (z : Int32) (h : JH) : Option ((Int32 ⊕ (Int32 ⊕ Int32)) × JH) :=
  if a0 < z then
    some (.inr (.inr z), h)
  else
    (jnz z).bind fun u1 =>
    if (jrem a0 z) = (0 : Int32) then
      (jnz z).bind fun u3 =>
      if (jrem a1 z) = (0 : Int32) then
        (jnz z).bind fun u5 =>
        if (jrem a2 z) = (0 : Int32) then
          some (.inr (.inl (0 : Int32)), h)
        else
          some (.inl (z + (1 : Int32)), h)
      else
        some (.inl (z + (1 : Int32)), h)
    else
      some (.inl (z + (1 : Int32)), h)

def f_X1_onlyIfPrimitive (a0 : Int32) (a1 : Int32) (a2 : Int32) (h : JH) : Option (Int32 × JH) :=
  (jloop (f_X1_onlyIfPrimitive_L2 a0 a1 a2) jF (2 : Int32) h).bind fun q11 =>
  Sum.elim (fun r14 => some (r14, q11.2)) (fun t13 =>
    some ((1 : Int32), q11.2)) q11.1

def f_X1_twelfths (a0 : Int32) (a1 : Int32) (a2 : Int32) (h : JH) : Option (Int32 × JH) :=
  if a0 = a2 then
    if a1 = (0 : Int32) then
      some ((6 : Int32), h)
    else
      if a0 = a1 then
        some ((4 : Int32), h)
      else
        some ((12 : Int32), h)
  else
    some ((12 : Int32), h)

def f_X1_addUp_L18 (a0 : Int32) (a1 : Int32) (a3 : Int32) (z : (Int32 × Int32)) (h : JH) : Option (((Int32 × Int32) ⊕ (Int32 × Int32)) × JH) :=
  if a3 < z.2 then
    some (.inr (z.1, z.2), h)
  else
    (jnz ((4 : Int32) * a3)).bind fun u1 =>
    (jnz ((4 : Int32) * a3)).bind fun u3 =>
    if (jrem (a0 + (z.2 * z.2)) ((4 : Int32) * a3)) = (0 : Int32) then
      if a3 < ((a0 + (z.2 * z.2)) / ((4 : Int32) * a3)) then
        if a1 = (0 : Int32) then
          (f_X1_twelfths a3 z.2 ((a0 + (z.2 * z.2)) / ((4 : Int32) * a3)) h).bind fun q5 =>
          some (.inl (z.1 + q5.1, z.2 + (1 : Int32)), q5.2)
        else
          (f_X1_onlyIfPrimitive a3 z.2 ((a0 + (z.2 * z.2)) / ((4 : Int32) * a3)) h).bind fun q7 =>
          some (.inl (z.1 + q7.1, z.2 + (1 : Int32)), q7.2)
      else
        if ((a0 + (z.2 * z.2)) / ((4 : Int32) * a3)) = a3 then
          if z.2 < (0 : Int32) then
            some (.inl (z.1, z.2 + (1 : Int32)), h)
          else
            if a1 = (0 : Int32) then
              (f_X1_twelfths a3 z.2 ((a0 + (z.2 * z.2)) / ((4 : Int32) * a3)) h).bind fun q9 =>
              some (.inl (z.1 + q9.1, z.2 + (1 : Int32)), q9.2)
            else
              (f_X1_onlyIfPrimitive a3 z.2 ((a0 + (z.2 * z.2)) / ((4 : Int32) * a3)) h).bind fun q11 =>
              some (.inl (z.1 + q11.1, z.2 + (1 : Int32)), q11.2)
        else
          some (.inl (z.1, z.2 + (1 : Int32)), h)
    else
      some (.inl (z.1, z.2 + (1 : Int32)), h)

def f_X1_addUp_L4 (a0 : Int32) (a1 : Int32) (z : (Int32 × Int32)) (h : JH) : Option (((Int32 × Int32) ⊕ (Int32 × Int32)) × JH) :=
  if a0 < (((3 : Int32) * z.2) * z.2) then
    some (.inr (z.1, z.2), h)
  else
    (jloop (f_X1_addUp_L18 a0 a1 z.2) jF (z.1, (1 : Int32) - z.2) h).bind fun q1 =>
    some (.inl (q1.1.1, z.2 + (1 : Int32)), q1.2)

def f_X1_addUp (a0 : Int32) (a1 : Int32) (h : JH) : Option (Int32 × JH) :=
  (jloop (f_X1_addUp_L4 a0 a1) jF ((0 : Int32), (1 : Int32)) h).bind fun q4 =>
  some (q4.1.1, q4.2)

def f_X1_isDiscriminant (a0 : Int32) (h : JH) : Option (Int32 × JH) :=
  if a0 < (1 : Int32) then
    some ((0 : Int32), h)
  else
    if (2000 : Int32) < a0 then
      some ((0 : Int32), h)
    else
      if (jrem a0 (4 : Int32)) = (0 : Int32) then
        some ((1 : Int32), h)
      else
        if (jrem a0 (4 : Int32)) = (3 : Int32) then
          some ((1 : Int32), h)
        else
          some ((0 : Int32), h)

def f_X1_inTwelfths (a0 : Int32) (h : JH) : Option (Int32 × JH) :=
  if a0 = (0 : Int32) then
    some ((-1 : Int32), h)
  else
    (f_X1_isDiscriminant a0 h).bind fun q1 =>
    if q1.1 = (0 : Int32) then
      some ((0 : Int32), q1.2)
    else
      (f_X1_addUp a0 (0 : Int32) q1.2).bind fun q3 =>
      some (q3.1, q3.2)

def f_X1_ofNothingInCommon (a0 : Int32) (h : JH) : Option (Int32 × JH) :=
  (f_X1_isDiscriminant a0 h).bind fun q1 =>
  if q1.1 = (0 : Int32) then
    some ((0 : Int32), q1.2)
  else
    (f_X1_addUp a0 (1 : Int32) q1.2).bind fun q3 =>
    some (q3.1, q3.2)

def f_X2_firstNotZero_L2 (a0 : Nat) (z : Int32) (h : JH) : Option ((Int32 ⊕ (Int32 ⊕ Int32)) × JH) :=
  if (6 : Int32) ≤ z then
    some (.inr (.inr z), h)
  else
    (jgR h a0 1 1).bind fun v1 =>
    (jaI h v1 z).bind fun v3 =>
    if v3 = (0 : Int32) then
      some (.inl (z + (1 : Int32)), h)
    else
      some (.inr (.inl z), h)

def f_X2_firstNotZero (a0 : Nat) (h : JH) : Option (Int32 × JH) :=
  (jloop (f_X2_firstNotZero_L2 a0) jF (0 : Int32) h).bind fun q7 =>
  Sum.elim (fun r10 => some (r10, q7.2)) (fun t9 =>
    some ((-1 : Int32), q7.2)) q7.1

def f_X6_init (a0 : Nat) (h : JH) : Option (Unit × JH) :=
  (jnA h .boolean (4 : Int32)).bind fun q1 =>
  (jput q1.2 a0 4 1 (.ref q1.1)).bind fun h3 =>
  (jnM h3 .long (4 : Int32) (13 : Int32)).bind fun q5 =>
  (jput q5.2 a0 4 2 (.ref q5.1)).bind fun h7 =>
  some ((), h7)

def f_X11_newShelves_L7 (a0 : Nat) (z : Int32) (h : JH) : Option ((Int32 ⊕ Int32) × JH) :=
  if (2 : Int32) ≤ z then
    some (.inr z, h)
  else
    (jnO h 4 [.int 0, .null, .null]).bind fun q3 =>
    (f_X6_init q3.1 q3.2).bind fun q5 =>
    (jsR q5.2 a0 z q3.1 4).bind fun h7 =>
    some (.inl (z + (1 : Int32)), h7)

def f_X11_newShelves  (h : JH) : Option (Nat × JH) :=
  (jnA h (.object "HeckeSeries$Shelf") (2 : Int32)).bind fun q1 =>
  (jloop (f_X11_newShelves_L7 q1.1) jF (0 : Int32) q1.2).bind fun q10 =>
  some (q1.1, q10.2)

def f_X3_init (a0 : Nat) (h : JH) : Option (Unit × JH) :=
  (f_X11_newForms (4 : Int32) h).bind fun q1 =>
  (jput q1.2 a0 2 1 (.ref q1.1)).bind fun h3 =>
  (f_X11_newShelves h3).bind fun q5 =>
  (jput q5.2 a0 2 2 (.ref q5.1)).bind fun h7 =>
  some ((), h7)

def f_X6_copyFrom_L10 (a0 : Nat) (a1 : Nat) (z : Int32) (h : JH) : Option ((Int32 ⊕ Int32) × JH) :=
  if (4 : Int32) ≤ z then
    some (.inr z, h)
  else
    (jgR h a0 4 1).bind fun v7 =>
    (jgR h a1 4 1).bind fun v9 =>
    (jaB h v9 z).bind fun v11 =>
    (jsB h v7 z v11).bind fun h13 =>
    (jgR h13 a1 4 2).bind fun v15 =>
    (jaR h13 v15 z).bind fun v17 =>
    (jgR h13 a0 4 2).bind fun v19 =>
    (jaR h13 v19 z).bind fun v21 =>
    (jcJ h13 v17 (0 : Int32) v21 (0 : Int32) (13 : Int32)).bind fun h23 =>
    some (.inl (z + (1 : Int32)), h23)

def f_X6_copyFrom (a0 : Nat) (a1 : Nat) (h : JH) : Option (Unit × JH) :=
  (jgI h a1 4 0).bind fun v1 =>
  (jzb v1).bind fun u5 =>
  (jput h a0 4 0 (.int v1)).bind fun h3 =>
  (jloop (f_X6_copyFrom_L10 a0 a1) jF (0 : Int32) h3).bind fun q26 =>
  some ((), q26.2)

def f_X3_copyAll_L3 (a0 : Nat) (a1 : Nat) (a2 : Nat) (a3 : Nat) (z : Int32) (h : JH) : Option ((Int32 ⊕ Int32) × JH) :=
  if (4 : Int32) ≤ z then
    some (.inr z, h)
  else
    (jaR h a2 z).bind fun v1 =>
    (jaR h a0 z).bind fun v3 =>
    (jrecv h v1 1).bind fun u7 =>
    (f_X2_copyFrom v1 v3 h).bind fun q5 =>
    some (.inl (z + (1 : Int32)), q5.2)

def f_X3_copyAll_L29 (a1 : Nat) (a3 : Nat) (z : Int32) (h : JH) : Option ((Int32 ⊕ Int32) × JH) :=
  if (2 : Int32) ≤ z then
    some (.inr z, h)
  else
    (jaR h a3 z).bind fun v12 =>
    (jaR h a1 z).bind fun v14 =>
    (jrecv h v12 4).bind fun u18 =>
    (f_X6_copyFrom v12 v14 h).bind fun q16 =>
    some (.inl (z + (1 : Int32)), q16.2)

def f_X3_copyAll (a0 : Nat) (a1 : Nat) (a2 : Nat) (a3 : Nat) (h : JH) : Option (Unit × JH) :=
  (jloop (f_X3_copyAll_L3 a0 a1 a2 a3) jF (0 : Int32) h).bind fun q10 =>
  (jloop (f_X3_copyAll_L29 a1 a3) jF (0 : Int32) q10.2).bind fun q21 =>
  some ((), q21.2)

def f_X3_lay (a0 : Nat) (a1 : Nat) (a2 : Nat) (h : JH) : Option (Unit × JH) :=
  (jgR h a0 2 1).bind fun v1 =>
  (jgR h a0 2 2).bind fun v3 =>
  (f_X3_copyAll a1 a2 v1 v3 h).bind fun q5 =>
  (jput q5.2 a0 2 0 (.int (1 : Int32))).bind fun h7 =>
  some ((), h7)

def f_X3_bringBack_L11 (a0 : Nat) (a1 : Nat) (a2 : Nat) (z : Int32) (h : JH) : Option ((Int32 ⊕ (Int32 ⊕ Int32)) × JH) :=
  if (2 : Int32) ≤ z then
    some (.inr (.inr z), h)
  else
    (jaR h a2 z).bind fun v3 =>
    (jgI h v3 4 0).bind fun v5 =>
    (jgR h a0 2 2).bind fun v7 =>
    (jaR h v7 z).bind fun v9 =>
    (jgI h v9 4 0).bind fun v11 =>
    if v5 = v11 then
      some (.inl (z + (1 : Int32)), h)
    else
      some (.inr (.inl (0 : Int32)), h)

def f_X3_bringBack (a0 : Nat) (a1 : Nat) (a2 : Nat) (h : JH) : Option (Int32 × JH) :=
  (jgI h a0 2 0).bind fun v1 =>
  if v1 = (0 : Int32) then
    some ((0 : Int32), h)
  else
    (jloop (f_X3_bringBack_L11 a0 a1 a2) jF (0 : Int32) h).bind fun q15 =>
    Sum.elim (fun r18 => some (r18, q15.2)) (fun t17 =>
      (jgR q15.2 a0 2 1).bind fun v19 =>
      (jgR q15.2 a0 2 2).bind fun v21 =>
      (f_X3_copyAll v19 v21 a1 a2 q15.2).bind fun q23 =>
      some ((1 : Int32), q23.2)) q15.1

def f_X4_power_L13 (a2 : Int32) (z : (Int32 × Int32 × Int32)) (h : JH) : Option (((Int32 × Int32 × Int32) ⊕ (Int32 × Int32 × Int32)) × JH) :=
  if z.2.2 ≤ (0 : Int32) then
    some (.inr (z.1, z.2.1, z.2.2), h)
  else
    if (z.2.2 &&& (1 : Int32)) = (1 : Int32) then
      (f_X4_of (z.1.toInt64 * z.2.1.toInt64) a2 h).bind fun q5 =>
      (f_X4_of (z.2.1.toInt64 * z.2.1.toInt64) a2 q5.2).bind fun q7 =>
      some (.inl (q5.1, q7.1, z.2.2 >>> ((1 : Int32) &&& 31)), q7.2)
    else
      (f_X4_of (z.2.1.toInt64 * z.2.1.toInt64) a2 h).bind fun q3 =>
      some (.inl (z.1, q3.1, z.2.2 >>> ((1 : Int32) &&& 31)), q3.2)

def f_X4_power (a0 : Int32) (a1 : Int32) (a2 : Int32) (h : JH) : Option (Int32 × JH) :=
  (f_X4_of a0.toInt64 a2 h).bind fun q1 =>
  (jloop (f_X4_power_L13 a2) jF ((1 : Int32), q1.1, a1) q1.2).bind fun q11 =>
  some (q11.1.1, q11.2)

def f_X4_divide (a0 : Int32) (a1 : Int32) (a2 : Int32) (h : JH) : Option (Int32 × JH) :=
  (f_X4_power a1 (a2 - (2 : Int32)) a2 h).bind fun q1 =>
  (f_X4_of (a0.toInt64 * q1.1.toInt64) a2 q1.2).bind fun q3 =>
  some (q3.1, q3.2)

def f_X5_init (a0 : Nat) (h : JH) : Option (Unit × JH) :=
  (jnA h .int (6 : Int32)).bind fun q1 =>
  (jput q1.2 a0 3 0 (.ref q1.1)).bind fun h3 =>
  (jnM h3 .int (5 : Int32) (5 : Int32)).bind fun q5 =>
  (jput q5.2 a0 3 1 (.ref q5.1)).bind fun h7 =>
  (jnM h7 .int (5 : Int32) (5 : Int32)).bind fun q9 =>
  (jput q9.2 a0 3 2 (.ref q9.1)).bind fun h11 =>
  (jnM h11 .int (5 : Int32) (5 : Int32)).bind fun q13 =>
  (jput q13.2 a0 3 3 (.ref q13.1)).bind fun h15 =>
  some ((), h15)

def f_X11_lengthOf (a0 : Int32) (h : JH) : Option (Int32 × JH) :=
  if (jrem a0 (12 : Int32)) = (2 : Int32) then
    some (a0 / (12 : Int32), h)
  else
    some ((a0 / (12 : Int32)) + (1 : Int32), h)

def f_X11_cuspsOf (a0 : Int32) (h : JH) : Option (Int32 × JH) :=
  (f_X11_lengthOf a0 h).bind fun q1 =>
  some (if (q1.1 - (1 : Int32)) < (0 : Int32) then (0 : Int32) else (q1.1 - (1 : Int32)), q1.2)

def f_X7_expand_L5 (a0 : Nat) (a1 : Nat) (a2 : Int32) (z : (Int64 × Int32)) (h : JH) : Option (((Int64 × Int32) ⊕ (Int64 × Int32)) × JH) :=
  (jgI h a0 5 1).bind fun v1 =>
  if v1 ≤ z.2 then
    some (.inr (z.1, z.2), h)
  else
    (jaI h a1 z.2).bind fun v3 =>
    (jgR h a0 5 2).bind fun v5 =>
    (jaR h v5 z.2).bind fun v7 =>
    (jaI h v7 a2).bind fun v9 =>
    some (.inl (z.1 + (v3.toInt64 * v9.toInt64), z.2 + (1 : Int32)), h)

def f_X7_expand (a0 : Nat) (a1 : Nat) (a2 : Int32) (h : JH) : Option (Int32 × JH) :=
  (jloop (f_X7_expand_L5 a0 a1 a2) jF ((0 : Int64), (0 : Int32)) h).bind fun q12 =>
  (jgI q12.2 a0 5 3).bind fun v14 =>
  (f_X4_of q12.1.1 v14 q12.2).bind fun q16 =>
  some (q16.1, q16.2)

def f_X7_heckeAt_L16 (a0 : Nat) (a1 : Nat) (a2 : Int32) (a3 : Int32) (z : (Int32 × Int32)) (h : JH) : Option (((Int32 × Int32) ⊕ (Int32 × Int32)) × JH) :=
  if a2 < z.2 then
    some (.inr (z.1, z.2), h)
  else
    (jnz z.2).bind fun u3 =>
    if (jrem a2 z.2) = (0 : Int32) then
      (jnz z.2).bind fun u5 =>
      if (jrem a3 z.2) = (0 : Int32) then
        (jgI h a0 5 0).bind fun v7 =>
        (jgI h a0 5 3).bind fun v9 =>
        (f_X4_power z.2 (v7 - (1 : Int32)) v9 h).bind fun q11 =>
        (jnz z.2).bind fun u13 =>
        (jnz z.2).bind fun u15 =>
        (jrecv q11.2 a0 5).bind fun u23 =>
        (f_X7_expand a0 a1 ((a3 / z.2) * (a2 / z.2)) q11.2).bind fun q17 =>
        (jgI q17.2 a0 5 3).bind fun v19 =>
        (f_X4_of (z.1.toInt64 + (q11.1.toInt64 * q17.1.toInt64)) v19 q17.2).bind fun q21 =>
        some (.inl (q21.1, z.2 + (1 : Int32)), q21.2)
      else
        some (.inl (z.1, z.2 + (1 : Int32)), h)
    else
      some (.inl (z.1, z.2 + (1 : Int32)), h)

def f_X7_heckeAt (a0 : Nat) (a1 : Nat) (a2 : Int32) (a3 : Int32) (h : JH) : Option (Int32 × JH) :=
  (jgI h a0 5 0).bind fun v1 =>
  if (4 : Int32) ≤ v1 then
    (jloop (f_X7_heckeAt_L16 a0 a1 a2 a3) jF ((0 : Int32), (1 : Int32)) h).bind fun q28 =>
    some (q28.1.1, q28.2)
  else
    some ((0 : Int32), h)

def f_X5_load_L32 (a0 : Nat) (a1 : Nat) (a2 : Int32) (a3 : Int32) (z : Int32) (h : JH) : Option ((Int32 ⊕ Int32) × JH) :=
  (jgI h a0 3 4).bind fun v13 =>
  if v13 ≤ z then
    some (.inr z, h)
  else
    (jgR h a0 3 1).bind fun v15 =>
    (jaR h v15 a3).bind fun v17 =>
    (jgR h a1 5 2).bind fun v19 =>
    (jaR h v19 (a3 + (1 : Int32))).bind fun v21 =>
    (jrecv h a1 5).bind fun u27 =>
    (f_X7_heckeAt a1 v21 a2 (z + (1 : Int32)) h).bind fun q23 =>
    (jsI q23.2 v17 z q23.1).bind fun h25 =>
    some (.inl (z + (1 : Int32)), h25)

def f_X5_load_L21 (a0 : Nat) (a1 : Nat) (a2 : Int32) (z : Int32) (h : JH) : Option ((Int32 ⊕ Int32) × JH) :=
  (jgI h a0 3 4).bind fun v11 =>
  if v11 ≤ z then
    some (.inr z, h)
  else
    (jloop (f_X5_load_L32 a0 a1 a2 z) jF (0 : Int32) h).bind fun q13 =>
    some (.inl (z + (1 : Int32)), q13.2)

def f_X5_load (a0 : Nat) (a1 : Nat) (a2 : Int32) (h : JH) : Option (Unit × JH) :=
  (jgI h a1 5 0).bind fun v1 =>
  (f_X11_cuspsOf v1 h).bind fun q3 =>
  (jput q3.2 a0 3 4 (.int q3.1)).bind fun h5 =>
  (jgI h5 a1 5 3).bind fun v7 =>
  (jput h5 a0 3 5 (.int v7)).bind fun h9 =>
  (jloop (f_X5_load_L21 a0 a1 a2) jF (0 : Int32) h9).bind fun q16 =>
  some ((), q16.2)

def f_X5_multiplyTableByWork_L25 (a0 : Nat) (a1 : Int32) (a2 : Int32) (z : (Int64 × Int32)) (h : JH) : Option (((Int64 × Int32) ⊕ (Int64 × Int32)) × JH) :=
  (jgI h a0 3 4).bind fun v5 =>
  if v5 ≤ z.2 then
    some (.inr (z.1, z.2), h)
  else
    (jgR h a0 3 1).bind fun v7 =>
    (jaR h v7 a1).bind fun v9 =>
    (jaI h v9 z.2).bind fun v11 =>
    (jgR h a0 3 2).bind fun v13 =>
    (jaR h v13 z.2).bind fun v15 =>
    (jaI h v15 a2).bind fun v17 =>
    some (.inl (z.1 + (v11.toInt64 * v17.toInt64), z.2 + (1 : Int32)), h)

def f_X5_multiplyTableByWork_L12 (a0 : Nat) (a1 : Int32) (z : Int32) (h : JH) : Option ((Int32 ⊕ Int32) × JH) :=
  (jgI h a0 3 4).bind fun v3 =>
  if v3 ≤ z then
    some (.inr z, h)
  else
    (jloop (f_X5_multiplyTableByWork_L25 a0 a1 z) jF ((0 : Int64), (0 : Int32)) h).bind fun q5 =>
    (jgR q5.2 a0 3 3).bind fun v7 =>
    (jaR q5.2 v7 a1).bind fun v9 =>
    (jgI q5.2 a0 3 5).bind fun v11 =>
    (f_X4_of q5.1.1 v11 q5.2).bind fun q13 =>
    (jsI q13.2 v9 z q13.1).bind fun h15 =>
    some (.inl (z + (1 : Int32)), h15)

def f_X5_multiplyTableByWork_L2 (a0 : Nat) (z : Int32) (h : JH) : Option ((Int32 ⊕ Int32) × JH) :=
  (jgI h a0 3 4).bind fun v1 =>
  if v1 ≤ z then
    some (.inr z, h)
  else
    (jloop (f_X5_multiplyTableByWork_L12 a0 z) jF (0 : Int32) h).bind fun q3 =>
    some (.inl (z + (1 : Int32)), q3.2)

def f_X5_multiplyTableByWork (a0 : Nat) (h : JH) : Option (Unit × JH) :=
  (jloop (f_X5_multiplyTableByWork_L2 a0) jF (0 : Int32) h).bind fun q6 =>
  some ((), q6.2)

def f_X5_takeProduct_L2 (a0 : Nat) (a1 : Int32) (z : Int32) (h : JH) : Option ((Int32 ⊕ Int32) × JH) :=
  (jgI h a0 3 4).bind fun v1 =>
  if v1 ≤ z then
    some (.inr z, h)
  else
    (jgR h a0 3 3).bind fun v3 =>
    (jaR h v3 z).bind fun v5 =>
    (jgR h a0 3 2).bind fun v7 =>
    (jaR h v7 z).bind fun v9 =>
    (jgI h a0 3 4).bind fun v11 =>
    (jcI h v5 (0 : Int32) v9 (0 : Int32) v11).bind fun h13 =>
    (jgR h13 a0 3 2).bind fun v15 =>
    (jaR h13 v15 z).bind fun v17 =>
    (jgR h13 a0 3 2).bind fun v19 =>
    (jaR h13 v19 z).bind fun v21 =>
    (jaI h13 v21 z).bind fun v23 =>
    (jgI h13 a0 3 5).bind fun v25 =>
    (f_X4_of ((v23 + a1).toInt64) v25 h13).bind fun q27 =>
    (jsI q27.2 v17 z q27.1).bind fun h29 =>
    some (.inl (z + (1 : Int32)), h29)

def f_X5_takeProduct (a0 : Nat) (a1 : Int32) (h : JH) : Option (Unit × JH) :=
  (jloop (f_X5_takeProduct_L2 a0 a1) jF (0 : Int32) h).bind fun q32 =>
  some ((), q32.2)

def f_X5_findPolynomial_L2 (a0 : Nat) (z : Int32) (h : JH) : Option ((Int32 ⊕ Int32) × JH) :=
  (jgI h a0 3 4).bind fun v1 =>
  if v1 ≤ z then
    some (.inr z, h)
  else
    (jgR h a0 3 3).bind fun v3 =>
    (jaR h v3 z).bind fun v5 =>
    (f_J7_fill_53178 v5 (0 : Int32) h).bind fun q7 =>
    some (.inl (z + (1 : Int32)), q7.2)

def f_X5_findPolynomial_L72 (a0 : Nat) (a1 : Int32) (z : (Int64 × Int32)) (h : JH) : Option (((Int64 × Int32) ⊕ (Int64 × Int32)) × JH) :=
  (jgI h a0 3 4).bind fun v30 =>
  if v30 ≤ z.2 then
    some (.inr (z.1, z.2), h)
  else
    (jgR h a0 3 3).bind fun v32 =>
    (jaR h v32 z.2).bind fun v34 =>
    (jaI h v34 z.2).bind fun v36 =>
    some (.inl (z.1 + v36.toInt64, z.2 + (1 : Int32)), h)

def f_X5_findPolynomial_L38 (a0 : Nat) (z : Int32) (h : JH) : Option ((Int32 ⊕ Int32) × JH) :=
  (jgI h a0 3 4).bind fun v18 =>
  if v18 < z then
    some (.inr z, h)
  else
    (jgR h a0 3 0).bind fun v20 =>
    (jgI h a0 3 4).bind fun v22 =>
    (jaI h v20 ((v22 - z) + (1 : Int32))).bind fun v24 =>
    (jrecv h a0 3).bind fun u48 =>
    (f_X5_takeProduct a0 v24 h).bind fun q26 =>
    (jrecv q26.2 a0 3).bind fun u46 =>
    (f_X5_multiplyTableByWork a0 q26.2).bind fun q28 =>
    (jloop (f_X5_findPolynomial_L72 a0 z) jF ((0 : Int64), (0 : Int32)) q28.2).bind fun q30 =>
    (jgR q30.2 a0 3 0).bind fun v32 =>
    (jgI q30.2 a0 3 4).bind fun v34 =>
    (jgI q30.2 a0 3 5).bind fun v36 =>
    (f_X4_of (-q30.1.1) v36 q30.2).bind fun q38 =>
    (jgI q38.2 a0 3 5).bind fun v40 =>
    (f_X4_divide q38.1 z v40 q38.2).bind fun q42 =>
    (jsI q42.2 v32 (v34 - z) q42.1).bind fun h44 =>
    some (.inl (z + (1 : Int32)), h44)

def f_X5_findPolynomial (a0 : Nat) (h : JH) : Option (Unit × JH) :=
  (jloop (f_X5_findPolynomial_L2 a0) jF (0 : Int32) h).bind fun q10 =>
  (jgR q10.2 a0 3 0).bind fun v12 =>
  (jgI q10.2 a0 3 4).bind fun v14 =>
  (jsI q10.2 v12 v14 (1 : Int32)).bind fun h16 =>
  (jloop (f_X5_findPolynomial_L38 a0) jF (1 : Int32) h16).bind fun q51 =>
  some ((), q51.2)

def f_X5_polynomialAt_L7 (a0 : Nat) (a1 : Int32) (z : (Int32 × Int32)) (h : JH) : Option (((Int32 × Int32) ⊕ (Int32 × Int32)) × JH) :=
  if z.2 < (0 : Int32) then
    some (.inr (z.1, z.2), h)
  else
    (jgR h a0 3 0).bind fun v3 =>
    (jaI h v3 z.2).bind fun v5 =>
    (jgI h a0 3 5).bind fun v7 =>
    (f_X4_of ((z.1.toInt64 * a1.toInt64) + v5.toInt64) v7 h).bind fun q9 =>
    some (.inl (q9.1, z.2 + (-1 : Int32)), q9.2)

def f_X5_polynomialAt (a0 : Nat) (a1 : Int32) (h : JH) : Option (Int32 × JH) :=
  (jgI h a0 3 4).bind fun v1 =>
  (jloop (f_X5_polynomialAt_L7 a0 a1) jF ((0 : Int32), v1) h).bind fun q12 =>
  some (q12.1.1, q12.2)

def f_X5_findRoots_L4 (a0 : Nat) (a1 : Nat) (z : (Int32 × Int32)) (h : JH) : Option (((Int32 × Int32) ⊕ (Int32 × Int32)) × JH) :=
  (jgI h a0 3 5).bind fun v1 =>
  if v1 ≤ z.2 then
    some (.inr (z.1, z.2), h)
  else
    (jgI h a0 3 4).bind fun v3 =>
    if v3 ≤ z.1 then
      some (.inr (z.1, z.2), h)
    else
      (jrecv h a0 3).bind fun u9 =>
      (f_X5_polynomialAt a0 z.2 h).bind fun q5 =>
      if q5.1 = (0 : Int32) then
        (jsI q5.2 a1 z.1 z.2).bind fun h7 =>
        some (.inl (z.1 + (1 : Int32), z.2 + (1 : Int32)), h7)
      else
        some (.inl (z.1, z.2 + (1 : Int32)), q5.2)

def f_X5_findRoots (a0 : Nat) (a1 : Nat) (h : JH) : Option (Int32 × JH) :=
  (jloop (f_X5_findRoots_L4 a0 a1) jF ((0 : Int32), (0 : Int32)) h).bind fun q14 =>
  some (q14.1.1, q14.2)

def f_X5_clearColumn_L19 (a0 : Nat) (a1 : Int32) (a2 : Int32) (z : Int32) (h : JH) : Option ((Int32 ⊕ Int32) × JH) :=
  (jgI h a0 3 4).bind fun v11 =>
  if v11 ≤ z then
    some (.inr z, h)
  else
    (jgR h a0 3 2).bind fun v13 =>
    (jaR h v13 a1).bind fun v15 =>
    (jgR h a0 3 2).bind fun v17 =>
    (jaR h v17 a1).bind fun v19 =>
    (jaI h v19 z).bind fun v21 =>
    (jgI h a0 3 5).bind fun v23 =>
    (f_X4_of (v21.toInt64 * a2.toInt64) v23 h).bind fun q25 =>
    (jsI q25.2 v15 z q25.1).bind fun h27 =>
    some (.inl (z + (1 : Int32)), h27)

def f_X5_clearColumn_L93 (a0 : Nat) (a1 : Int32) (a3 : Int32) (a4 : Int32) (z : Int32) (h : JH) : Option ((Int32 ⊕ Int32) × JH) :=
  (jgI h a0 3 4).bind fun v40 =>
  if v40 ≤ z then
    some (.inr z, h)
  else
    (jgR h a0 3 2).bind fun v42 =>
    (jaR h v42 a3).bind fun v44 =>
    (jgR h a0 3 2).bind fun v46 =>
    (jaR h v46 a3).bind fun v48 =>
    (jaI h v48 z).bind fun v50 =>
    (jgR h a0 3 2).bind fun v52 =>
    (jaR h v52 a1).bind fun v54 =>
    (jaI h v54 z).bind fun v56 =>
    (jgI h a0 3 5).bind fun v58 =>
    (f_X4_of (v50.toInt64 - (a4.toInt64 * v56.toInt64)) v58 h).bind fun q60 =>
    (jsI q60.2 v44 z q60.1).bind fun h62 =>
    some (.inl (z + (1 : Int32)), h62)

def f_X5_clearColumn_L62 (a0 : Nat) (a1 : Int32) (z : Int32) (h : JH) : Option ((Int32 ⊕ Int32) × JH) :=
  (jgI h a0 3 4).bind fun v32 =>
  if v32 ≤ z then
    some (.inr z, h)
  else
    (jgR h a0 3 2).bind fun v34 =>
    (jaR h v34 z).bind fun v36 =>
    (jaI h v36 a1).bind fun v38 =>
    if z = a1 then
      some (.inl (z + (1 : Int32)), h)
    else
      if v38 = (0 : Int32) then
        some (.inl (z + (1 : Int32)), h)
      else
        (jloop (f_X5_clearColumn_L93 a0 a1 z v38) jF (0 : Int32) h).bind fun q40 =>
        some (.inl (z + (1 : Int32)), q40.2)

def f_X5_clearColumn (a0 : Nat) (a1 : Int32) (h : JH) : Option (Unit × JH) :=
  (jgR h a0 3 2).bind fun v1 =>
  (jaR h v1 a1).bind fun v3 =>
  (jaI h v3 a1).bind fun v5 =>
  (jgI h a0 3 5).bind fun v7 =>
  (f_X4_divide (1 : Int32) v5 v7 h).bind fun q9 =>
  (jloop (f_X5_clearColumn_L19 a0 a1 q9.1) jF (0 : Int32) q9.2).bind fun q30 =>
  (jloop (f_X5_clearColumn_L62 a0 a1) jF (0 : Int32) q30.2).bind fun q45 =>
  some ((), q45.2)

def f_X5_layEquations_L12 (a0 : Nat) (a1 : Int32) (a2 : Int32) (z : Int32) (h : JH) : Option ((Int32 ⊕ Int32) × JH) :=
  (jgI h a0 3 4).bind fun v3 =>
  if v3 ≤ z then
    some (.inr z, h)
  else
    (jgR h a0 3 2).bind fun v5 =>
    (jaR h v5 a2).bind fun v7 =>
    (jgR h a0 3 1).bind fun v9 =>
    (jaR h v9 z).bind fun v11 =>
    (jaI h v11 a2).bind fun v13 =>
    if z = a2 then
      (jgI h a0 3 5).bind fun v21 =>
      (f_X4_of ((v13 - a1).toInt64) v21 h).bind fun q23 =>
      (jsI q23.2 v7 (z - (1 : Int32)) q23.1).bind fun h25 =>
      some (.inl (z + (1 : Int32)), h25)
    else
      (jgI h a0 3 5).bind fun v15 =>
      (f_X4_of ((v13 - (0 : Int32)).toInt64) v15 h).bind fun q17 =>
      (jsI q17.2 v7 (z - (1 : Int32)) q17.1).bind fun h19 =>
      some (.inl (z + (1 : Int32)), h19)

def f_X5_layEquations_L2 (a0 : Nat) (a1 : Int32) (z : Int32) (h : JH) : Option ((Int32 ⊕ Int32) × JH) :=
  (jgI h a0 3 4).bind fun v1 =>
  if v1 ≤ z then
    some (.inr z, h)
  else
    (jloop (f_X5_layEquations_L12 a0 a1 z) jF (1 : Int32) h).bind fun q3 =>
    (jgR q3.2 a0 3 2).bind fun v5 =>
    (jaR q3.2 v5 z).bind fun v7 =>
    (jgI q3.2 a0 3 4).bind fun v9 =>
    if z = (0 : Int32) then
      (jgR q3.2 a0 3 1).bind fun v23 =>
      (jaR q3.2 v23 (0 : Int32)).bind fun v25 =>
      (jaI q3.2 v25 z).bind fun v27 =>
      (jgI q3.2 a0 3 5).bind fun v29 =>
      (f_X4_of ((a1 - v27).toInt64) v29 q3.2).bind fun q31 =>
      (jsI q31.2 v7 (v9 - (1 : Int32)) q31.1).bind fun h33 =>
      some (.inl (z + (1 : Int32)), h33)
    else
      (jgR q3.2 a0 3 1).bind fun v11 =>
      (jaR q3.2 v11 (0 : Int32)).bind fun v13 =>
      (jaI q3.2 v13 z).bind fun v15 =>
      (jgI q3.2 a0 3 5).bind fun v17 =>
      (f_X4_of (((0 : Int32) - v15).toInt64) v17 q3.2).bind fun q19 =>
      (jsI q19.2 v7 (v9 - (1 : Int32)) q19.1).bind fun h21 =>
      some (.inl (z + (1 : Int32)), h21)

def f_X5_layEquations (a0 : Nat) (a1 : Int32) (h : JH) : Option (Unit × JH) :=
  (jloop (f_X5_layEquations_L2 a0 a1) jF (0 : Int32) h).bind fun q37 =>
  some ((), q37.2)

def f_X5_exchange_L2 (a0 : Nat) (a1 : Nat) (a2 : Nat) (z : Int32) (h : JH) : Option ((Int32 ⊕ Int32) × JH) :=
  (jgI h a0 3 4).bind fun v1 =>
  if v1 ≤ z then
    some (.inr z, h)
  else
    (jaI h a1 z).bind fun v3 =>
    (jaI h a2 z).bind fun v5 =>
    (jsI h a1 z v5).bind fun h7 =>
    (jsI h7 a2 z v3).bind fun h9 =>
    some (.inl (z + (1 : Int32)), h9)

def f_X5_exchange (a0 : Nat) (a1 : Nat) (a2 : Nat) (h : JH) : Option (Unit × JH) :=
  (jloop (f_X5_exchange_L2 a0 a1 a2) jF (0 : Int32) h).bind fun q12 =>
  some ((), q12.2)

def f_X5_liftPivot_L2 (a0 : Nat) (a1 : Int32) (z : Int32) (h : JH) : Option ((Int32 ⊕ (Int32 ⊕ Int32)) × JH) :=
  (jgI h a0 3 4).bind fun v1 =>
  if v1 ≤ z then
    some (.inr (.inr z), h)
  else
    (jgR h a0 3 2).bind fun v3 =>
    (jaR h v3 z).bind fun v5 =>
    (jaI h v5 a1).bind fun v7 =>
    if v7 = (0 : Int32) then
      some (.inl (z + (1 : Int32)), h)
    else
      (jgR h a0 3 2).bind fun v9 =>
      (jaR h v9 z).bind fun v11 =>
      (jgR h a0 3 2).bind fun v13 =>
      (jaR h v13 a1).bind fun v15 =>
      (jrecv h a0 3).bind fun u19 =>
      (f_X5_exchange a0 v11 v15 h).bind fun q17 =>
      some (.inr (.inl (1 : Int32)), q17.2)

def f_X5_liftPivot (a0 : Nat) (a1 : Int32) (h : JH) : Option (Int32 × JH) :=
  (jloop (f_X5_liftPivot_L2 a0 a1) jF a1 h).bind fun q23 =>
  Sum.elim (fun r26 => some (r26, q23.2)) (fun t25 =>
    some ((0 : Int32), q23.2)) q23.1

def f_X5_findOwn_L15 (a0 : Nat) (a2 : Nat) (a3 : Int32) (z : Int32) (h : JH) : Option ((Int32 ⊕ (Int32 ⊕ Int32)) × JH) :=
  if a3 ≤ z then
    some (.inr (.inr z), h)
  else
    (jrecv h a0 3).bind fun u11 =>
    (f_X5_liftPivot a0 z h).bind fun q5 =>
    if q5.1 = (0 : Int32) then
      some (.inr (.inl (0 : Int32)), q5.2)
    else
      (jrecv q5.2 a0 3).bind fun u9 =>
      (f_X5_clearColumn a0 z q5.2).bind fun q7 =>
      some (.inl (z + (1 : Int32)), q7.2)

def f_X5_findOwn_L68 (a0 : Nat) (a2 : Nat) (a3 : Int32) (z : Int32) (h : JH) : Option ((Int32 ⊕ Int32) × JH) :=
  if a3 ≤ z then
    some (.inr z, h)
  else
    (jgR h a0 3 2).bind fun v27 =>
    (jaR h v27 z).bind fun v29 =>
    (jaI h v29 a3).bind fun v31 =>
    (jsI h a2 (z + (2 : Int32)) v31).bind fun h33 =>
    some (.inl (z + (1 : Int32)), h33)

def f_X5_findOwn (a0 : Nat) (a1 : Int32) (a2 : Nat) (h : JH) : Option (Int32 × JH) :=
  (jrecv h a0 3).bind fun u38 =>
  (f_X5_layEquations a0 a1 h).bind fun q1 =>
  (jgI q1.2 a0 3 4).bind fun v3 =>
  (jloop (f_X5_findOwn_L15 a0 a2 (v3 - (1 : Int32))) jF (0 : Int32) q1.2).bind fun q15 =>
  Sum.elim (fun r18 => some (r18, q15.2)) (fun t17 =>
    if (v3 - (1 : Int32)) < (0 : Int32) then
      some ((0 : Int32), q15.2)
    else
      (jgR q15.2 a0 3 2).bind fun v19 =>
      (jaR q15.2 v19 (v3 - (1 : Int32))).bind fun v21 =>
      (jaI q15.2 v21 (v3 - (1 : Int32))).bind fun v23 =>
      if v23 = (0 : Int32) then
        (jsI q15.2 a2 (1 : Int32) (1 : Int32)).bind fun h25 =>
        (jloop (f_X5_findOwn_L68 a0 a2 (v3 - (1 : Int32))) jF (0 : Int32) h25).bind fun q36 =>
        some ((1 : Int32), q36.2)
      else
        some ((0 : Int32), q15.2)) q15.1

def f_X6_numbersInRow (a0 : Nat) (h : JH) : Option (Int32 × JH) :=
  (jgI h a0 4 0).bind fun v1 =>
  if v1 = (0 : Int32) then
    some ((13 : Int32), h)
  else
    some ((12 : Int32), h)

def f_X6_empty_L2 (a0 : Nat) (z : Int32) (h : JH) : Option ((Int32 ⊕ Int32) × JH) :=
  if (4 : Int32) ≤ z then
    some (.inr z, h)
  else
    (jgR h a0 4 1).bind fun v1 =>
    (jsB h v1 z (0 : Int32)).bind fun h3 =>
    some (.inl (z + (1 : Int32)), h3)

def f_X6_empty (a0 : Nat) (h : JH) : Option (Unit × JH) :=
  (jloop (f_X6_empty_L2 a0) jF (0 : Int32) h).bind fun q6 =>
  some ((), q6.2)

def f_X7_init (a0 : Nat) (a1 : Int32) (h : JH) : Option (Unit × JH) :=
  (jnM h .int (0 : Int32) (0 : Int32)).bind fun q1 =>
  (jput q1.2 a0 5 2 (.ref q1.1)).bind fun h3 =>
  (jnA h3 .int (6 : Int32)).bind fun q5 =>
  (jput q5.2 a0 5 5 (.ref q5.1)).bind fun h7 =>
  (jput h7 a0 5 0 (.int a1)).bind fun h9 =>
  (f_X11_lengthOf a1 h9).bind fun q11 =>
  (jput q11.2 a0 5 1 (.int q11.1)).bind fun h13 =>
  some ((), h13)

def f_X7_isReady (a0 : Nat) (a1 : Int32) (a2 : Int32) (h : JH) : Option (Int32 × JH) :=
  (jgI h a0 5 3).bind fun v1 =>
  if v1 = a1 then
    (jgI h a0 5 4).bind fun v3 =>
    if v3 < a2 then
      some ((0 : Int32), h)
    else
      some ((1 : Int32), h)
  else
    some ((0 : Int32), h)

def f_X7_begin (a0 : Nat) (a1 : Int32) (a2 : Int32) (h : JH) : Option (Unit × JH) :=
  (jput h a0 5 3 (.int a1)).bind fun h1 =>
  (jput h1 a0 5 4 (.int a2)).bind fun h3 =>
  (jgR h3 a0 5 2).bind fun v5 =>
  (jal h3 v5).bind fun v7 =>
  (jgI h3 a0 5 1).bind fun v9 =>
  if v7 = v9 then
    some ((), h3)
  else
    (jgI h3 a0 5 1).bind fun v11 =>
    (jnM h3 .int v11 (181 : Int32)).bind fun q13 =>
    (jput q13.2 a0 5 2 (.ref q13.1)).bind fun h15 =>
    some ((), h15)

def f_X7_factorOfSums (a0 : Nat) (h : JH) : Option (Int32 × JH) :=
  (jgI h a0 5 0).bind fun v1 =>
  if v1 = (0 : Int32) then
    some ((0 : Int32), h)
  else if v1 = (4 : Int32) then
    some ((240 : Int32), h)
  else if v1 = (6 : Int32) then
    some ((-504 : Int32), h)
  else if v1 = (8 : Int32) then
    some ((480 : Int32), h)
  else if v1 = (10 : Int32) then
    some ((-264 : Int32), h)
  else 
    some ((-24 : Int32), h)

def f_X7_makeAlone_L65 (a0 : Nat) (a3 : Nat) (a4 : Int32) (a5 : Int32) (a6 : Int32) (z : Int32) (h : JH) : Option ((Int32 ⊕ Int32) × JH) :=
  (jgI h a0 5 4).bind fun v23 =>
  if v23 < z then
    some (.inr z, h)
  else
    (jaI h a3 z).bind fun v25 =>
    (jsI h a3 z (v25 + a6)).bind fun h27 =>
    some (.inl (z + a5), h27)

def f_X7_makeAlone_L35 (a0 : Nat) (a3 : Nat) (a4 : Int32) (z : Int32) (h : JH) : Option ((Int32 ⊕ Int32) × JH) :=
  (jgI h a0 5 4).bind fun v15 =>
  if v15 < z then
    some (.inr z, h)
  else
    (jgI h a0 5 0).bind fun v17 =>
    (jgI h a0 5 3).bind fun v19 =>
    (f_X4_power z (v17 - (1 : Int32)) v19 h).bind fun q21 =>
    (jloop (f_X7_makeAlone_L65 a0 a3 a4 z q21.1) jF z q21.2).bind fun q23 =>
    some (.inl (z + (1 : Int32)), q23.2)

def f_X7_makeAlone_L102 (a0 : Nat) (a3 : Nat) (a4 : Int32) (z : Int32) (h : JH) : Option ((Int32 ⊕ Int32) × JH) :=
  (jgI h a0 5 4).bind fun v28 =>
  if v28 < z then
    some (.inr z, h)
  else
    (jaI h a3 z).bind fun v30 =>
    (jgI h a0 5 3).bind fun v32 =>
    (f_X4_of (v30.toInt64 * a4.toInt64) v32 h).bind fun q34 =>
    (jsI q34.2 a3 z q34.1).bind fun h36 =>
    some (.inl (z + (1 : Int32)), h36)

def f_X7_makeAlone (a0 : Nat) (a1 : Int32) (a2 : Int32) (h : JH) : Option (Unit × JH) :=
  (jrecv h a0 5).bind fun u45 =>
  (f_X7_begin a0 a1 a2 h).bind fun q1 =>
  (jgR q1.2 a0 5 2).bind fun v3 =>
  (jaR q1.2 v3 (0 : Int32)).bind fun v5 =>
  (f_J7_fill_53178 v5 (0 : Int32) q1.2).bind fun q7 =>
  (jrecv q7.2 a0 5).bind fun u43 =>
  (f_X7_factorOfSums a0 q7.2).bind fun q9 =>
  (jgI q9.2 a0 5 3).bind fun v11 =>
  (f_X4_of q9.1.toInt64 v11 q9.2).bind fun q13 =>
  (jloop (f_X7_makeAlone_L35 a0 v5 q13.1) jF (1 : Int32) q13.2).bind fun q26 =>
  (jloop (f_X7_makeAlone_L102 a0 v5 q13.1) jF (1 : Int32) q26.2).bind fun q39 =>
  (jsI q39.2 v5 (0 : Int32) (1 : Int32)).bind fun h41 =>
  some ((), h41)

def f_X7_multiply_L18 (a0 : Nat) (a1 : Nat) (a2 : Nat) (a3 : Nat) (a4 : Int32) (z : (Int64 × Int32)) (h : JH) : Option (((Int64 × Int32) ⊕ (Int64 × Int32)) × JH) :=
  if a4 < z.2 then
    some (.inr (z.1, z.2), h)
  else
    (jaI h a2 z.2).bind fun v3 =>
    (jaI h a3 (a4 - z.2)).bind fun v5 =>
    some (.inl (z.1 + (v3.toInt64 * v5.toInt64), z.2 + (1 : Int32)), h)

def f_X7_multiply_L3 (a0 : Nat) (a1 : Nat) (a2 : Nat) (a3 : Nat) (z : Int32) (h : JH) : Option ((Int32 ⊕ Int32) × JH) :=
  (jgI h a0 5 4).bind fun v1 =>
  if v1 < z then
    some (.inr z, h)
  else
    (jloop (f_X7_multiply_L18 a0 a1 a2 a3 z) jF ((0 : Int64), (0 : Int32)) h).bind fun q3 =>
    (jgI q3.2 a0 5 3).bind fun v5 =>
    (f_X4_of q3.1.1 v5 q3.2).bind fun q7 =>
    (jsI q7.2 a1 z q7.1).bind fun h9 =>
    some (.inl (z + (1 : Int32)), h9)

def f_X7_multiply (a0 : Nat) (a1 : Nat) (a2 : Nat) (a3 : Nat) (h : JH) : Option (Unit × JH) :=
  (jloop (f_X7_multiply_L3 a0 a1 a2 a3) jF (0 : Int32) h).bind fun q12 =>
  some ((), q12.2)

def f_X7_subtract_L3 (a0 : Nat) (a1 : Nat) (a2 : Nat) (a3 : Int32) (z : Int32) (h : JH) : Option ((Int32 ⊕ Int32) × JH) :=
  (jgI h a0 5 4).bind fun v1 =>
  if v1 < z then
    some (.inr z, h)
  else
    (jaI h a1 z).bind fun v3 =>
    (jaI h a2 z).bind fun v5 =>
    (jgI h a0 5 3).bind fun v7 =>
    (f_X4_of (v3.toInt64 - (a3.toInt64 * v5.toInt64)) v7 h).bind fun q9 =>
    (jsI q9.2 a1 z q9.1).bind fun h11 =>
    some (.inl (z + (1 : Int32)), h11)

def f_X7_subtract (a0 : Nat) (a1 : Nat) (a2 : Nat) (a3 : Int32) (h : JH) : Option (Unit × JH) :=
  (jloop (f_X7_subtract_L3 a0 a1 a2 a3) jF (0 : Int32) h).bind fun q14 =>
  some ((), q14.2)

def f_X7_reduce_L15 (a0 : Nat) (a1 : Int32) (z : Int32) (h : JH) : Option ((Int32 ⊕ Int32) × JH) :=
  (jgI h a0 5 1).bind fun v3 =>
  if v3 ≤ z then
    some (.inr z, h)
  else
    (jgR h a0 5 2).bind fun v5 =>
    (jaR h v5 a1).bind fun v7 =>
    (jgR h a0 5 2).bind fun v9 =>
    (jaR h v9 z).bind fun v11 =>
    (jgR h a0 5 2).bind fun v13 =>
    (jaR h v13 a1).bind fun v15 =>
    (jaI h v15 z).bind fun v17 =>
    (jrecv h a0 5).bind fun u21 =>
    (f_X7_subtract a0 v7 v11 v17 h).bind fun q19 =>
    some (.inl (z + (1 : Int32)), q19.2)

def f_X7_reduce_L7 (a0 : Nat) (z : Int32) (h : JH) : Option ((Int32 ⊕ Int32) × JH) :=
  if z < (0 : Int32) then
    some (.inr z, h)
  else
    (jloop (f_X7_reduce_L15 a0 z) jF (z + (1 : Int32)) h).bind fun q3 =>
    some (.inl (z + (-1 : Int32)), q3.2)

def f_X7_reduce (a0 : Nat) (h : JH) : Option (Unit × JH) :=
  (jgI h a0 5 1).bind fun v1 =>
  (jloop (f_X7_reduce_L7 a0) jF (v1 - (2 : Int32)) h).bind fun q6 =>
  some ((), q6.2)

def f_X7_makeTwelve_L78 (a0 : Nat) (a5 : Nat) (a6 : Nat) (a7 : Int32) (z : Int32) (h : JH) : Option ((Int32 ⊕ Int32) × JH) :=
  (jgI h a0 5 4).bind fun v37 =>
  if v37 < z then
    some (.inr z, h)
  else
    (jaI h a5 z).bind fun v39 =>
    (jaI h a6 z).bind fun v41 =>
    (jgI h a0 5 3).bind fun v43 =>
    (f_X4_of (((v39 - v41).toInt64) * a7.toInt64) v43 h).bind fun q45 =>
    (jsI q45.2 a6 z q45.1).bind fun h47 =>
    some (.inl (z + (1 : Int32)), h47)

def f_X7_makeTwelve (a0 : Nat) (a1 : Nat) (a2 : Nat) (a3 : Nat) (a4 : Int32) (h : JH) : Option (Unit × JH) :=
  (jgI h a1 5 3).bind fun v1 =>
  (jrecv h a0 5).bind fun u60 =>
  (f_X7_begin a0 v1 a4 h).bind fun q3 =>
  (jgR q3.2 a0 5 2).bind fun v5 =>
  (jaR q3.2 v5 (0 : Int32)).bind fun v7 =>
  (jgR q3.2 a0 5 2).bind fun v9 =>
  (jaR q3.2 v9 (1 : Int32)).bind fun v11 =>
  (jgR q3.2 a1 5 2).bind fun v13 =>
  (jaR q3.2 v13 (0 : Int32)).bind fun v15 =>
  (jgR q3.2 a3 5 2).bind fun v17 =>
  (jaR q3.2 v17 (0 : Int32)).bind fun v19 =>
  (jrecv q3.2 a0 5).bind fun u58 =>
  (f_X7_multiply a0 v7 v15 v19 q3.2).bind fun q21 =>
  (jgR q21.2 a2 5 2).bind fun v23 =>
  (jaR q21.2 v23 (0 : Int32)).bind fun v25 =>
  (jgR q21.2 a2 5 2).bind fun v27 =>
  (jaR q21.2 v27 (0 : Int32)).bind fun v29 =>
  (jrecv q21.2 a0 5).bind fun u56 =>
  (f_X7_multiply a0 v11 v25 v29 q21.2).bind fun q31 =>
  (jgI q31.2 a0 5 3).bind fun v33 =>
  (f_X4_divide (1 : Int32) (1728 : Int32) v33 q31.2).bind fun q35 =>
  (jloop (f_X7_makeTwelve_L78 a0 v7 v11 q35.1) jF (0 : Int32) q35.2).bind fun q50 =>
  (jrecv q50.2 a0 5).bind fun u54 =>
  (f_X7_reduce a0 q50.2).bind fun q52 =>
  some ((), q52.2)

def f_X7_makeFrom_L34 (a0 : Nat) (a1 : Nat) (a2 : Nat) (z : Int32) (h : JH) : Option ((Int32 ⊕ Int32) × JH) :=
  (jgI h a0 5 1).bind fun v19 =>
  if v19 ≤ z then
    some (.inr z, h)
  else
    (jgR h a0 5 2).bind fun v21 =>
    (jaR h v21 z).bind fun v23 =>
    (jgR h a1 5 2).bind fun v25 =>
    (jaR h v25 (z - (1 : Int32))).bind fun v27 =>
    (jgR h a2 5 2).bind fun v29 =>
    (jaR h v29 (1 : Int32)).bind fun v31 =>
    (jrecv h a0 5).bind fun u35 =>
    (f_X7_multiply a0 v23 v27 v31 h).bind fun q33 =>
    some (.inl (z + (1 : Int32)), q33.2)

def f_X7_makeFrom (a0 : Nat) (a1 : Nat) (a2 : Nat) (a3 : Int32) (h : JH) : Option (Unit × JH) :=
  (jgI h a2 5 3).bind fun v1 =>
  (jrecv h a0 5).bind fun u46 =>
  (f_X7_begin a0 v1 a3 h).bind fun q3 =>
  (jgR q3.2 a0 5 2).bind fun v5 =>
  (jaR q3.2 v5 (0 : Int32)).bind fun v7 =>
  (jgR q3.2 a1 5 2).bind fun v9 =>
  (jaR q3.2 v9 (0 : Int32)).bind fun v11 =>
  (jgR q3.2 a2 5 2).bind fun v13 =>
  (jaR q3.2 v13 (0 : Int32)).bind fun v15 =>
  (jrecv q3.2 a0 5).bind fun u44 =>
  (f_X7_multiply a0 v7 v11 v15 q3.2).bind fun q17 =>
  (jloop (f_X7_makeFrom_L34 a0 a1 a2) jF (1 : Int32) q17.2).bind fun q38 =>
  (jrecv q38.2 a0 5).bind fun u42 =>
  (f_X7_reduce a0 q38.2).bind fun q40 =>
  some ((), q40.2)

def f_X7_complete_L13 (a0 : Nat) (a1 : Nat) (z : Int32) (h : JH) : Option ((Int32 ⊕ Int32) × JH) :=
  if (6 : Int32) ≤ z then
    some (.inr z, h)
  else
    (jgR h a1 1 1).bind fun v7 =>
    (jgR h a1 1 1).bind fun v9 =>
    (jrecv h a0 5).bind fun u15 =>
    (f_X7_expand a0 v9 z h).bind fun q11 =>
    (jsI q11.2 v7 z q11.1).bind fun h13 =>
    some (.inl (z + (1 : Int32)), h13)

def f_X7_complete (a0 : Nat) (a1 : Nat) (h : JH) : Option (Unit × JH) :=
  (jgI h a0 5 0).bind fun v1 =>
  (jput h a1 1 0 (.int v1)).bind fun h3 =>
  (jgI h3 a0 5 1).bind fun v5 =>
  (jloop (f_X7_complete_L13 a0 a1) jF v5 h3).bind fun q18 =>
  some ((), q18.2)

def f_X8_init_L15 (a0 : Nat) (z : Int32) (h : JH) : Option ((Int32 ⊕ Int32) × JH) :=
  (jgR h a0 6 0).bind fun v5 =>
  (jal h v5).bind fun v7 =>
  if v7 ≤ z then
    some (.inr z, h)
  else
    (jgR h a0 6 0).bind fun v9 =>
    (jnO h 5 [.int 0, .int 0, .null, .int 0, .int 0, .null, .int 0, .int 0]).bind fun q11 =>
    (f_X7_init q11.1 ((2 : Int32) * z) q11.2).bind fun q13 =>
    (jsR q13.2 v9 z q11.1 5).bind fun h15 =>
    some (.inl (z + (1 : Int32)), h15)

def f_X8_init (a0 : Nat) (h : JH) : Option (Unit × JH) :=
  (jnA h (.object "HeckeSeries$Space") (31 : Int32)).bind fun q1 =>
  (jput q1.2 a0 6 0 (.ref q1.1)).bind fun h3 =>
  (jloop (f_X8_init_L15 a0) jF (0 : Int32) h3).bind fun q18 =>
  some ((), q18.2)

def f_X8_makeAlone (a0 : Nat) (a1 : Int32) (a2 : Int32) (a3 : Int32) (h : JH) : Option (Unit × JH) :=
  (jgR h a0 6 0).bind fun v1 =>
  (jaR h v1 (a1 / (2 : Int32))).bind fun v3 =>
  (jrecv h v3 5).bind fun u15 =>
  (f_X7_isReady v3 a2 a3 h).bind fun q5 =>
  if q5.1 = (0 : Int32) then
    (jgR q5.2 a0 6 0).bind fun v7 =>
    (jaR q5.2 v7 (a1 / (2 : Int32))).bind fun v9 =>
    (jrecv q5.2 v9 5).bind fun u13 =>
    (f_X7_makeAlone v9 a2 a3 q5.2).bind fun q11 =>
    some ((), q11.2)
  else
    some ((), q5.2)

def f_X8_makeTwelve (a0 : Nat) (a1 : Int32) (a2 : Int32) (h : JH) : Option (Unit × JH) :=
  (jgR h a0 6 0).bind fun v1 =>
  (jaR h v1 (6 : Int32)).bind fun v3 =>
  (jrecv h v3 5).bind fun u39 =>
  (f_X7_isReady v3 a1 a2 h).bind fun q5 =>
  if q5.1 = (0 : Int32) then
    (jrecv q5.2 a0 6).bind fun u37 =>
    (f_X8_makeAlone a0 (4 : Int32) a1 a2 q5.2).bind fun q7 =>
    (jrecv q7.2 a0 6).bind fun u35 =>
    (f_X8_makeAlone a0 (6 : Int32) a1 a2 q7.2).bind fun q9 =>
    (jrecv q9.2 a0 6).bind fun u33 =>
    (f_X8_makeAlone a0 (8 : Int32) a1 a2 q9.2).bind fun q11 =>
    (jgR q11.2 a0 6 0).bind fun v13 =>
    (jaR q11.2 v13 (6 : Int32)).bind fun v15 =>
    (jgR q11.2 a0 6 0).bind fun v17 =>
    (jaR q11.2 v17 (2 : Int32)).bind fun v19 =>
    (jgR q11.2 a0 6 0).bind fun v21 =>
    (jaR q11.2 v21 (3 : Int32)).bind fun v23 =>
    (jgR q11.2 a0 6 0).bind fun v25 =>
    (jaR q11.2 v25 (4 : Int32)).bind fun v27 =>
    (jrecv q11.2 v15 5).bind fun u31 =>
    (f_X7_makeTwelve v15 v19 v23 v27 a2 q11.2).bind fun q29 =>
    some ((), q29.2)
  else
    some ((), q5.2)

def f_X8_ready_L94 (a0 : Nat) (a1 : Int32) (a2 : Int32) (a4 : Nat) (a5 : Int32) (z : Int32) (h : JH) : Option ((Int32 ⊕ Int32) × JH) :=
  if a1 < z then
    some (.inr z, h)
  else
    (jgR h a0 6 0).bind fun v7 =>
    (jaR h v7 (z / (2 : Int32))).bind fun v9 =>
    (jrecv h v9 5).bind fun u29 =>
    (f_X7_isReady v9 a2 a5 h).bind fun q11 =>
    if q11.1 = (0 : Int32) then
      (jgR q11.2 a0 6 0).bind fun v13 =>
      (jaR q11.2 v13 (z / (2 : Int32))).bind fun v15 =>
      (jgR q11.2 a0 6 0).bind fun v17 =>
      (jaR q11.2 v17 ((z - (12 : Int32)) / (2 : Int32))).bind fun v19 =>
      (jgR q11.2 a0 6 0).bind fun v21 =>
      (jaR q11.2 v21 (6 : Int32)).bind fun v23 =>
      (jrecv q11.2 v15 5).bind fun u27 =>
      (f_X7_makeFrom v15 v19 v23 a5 q11.2).bind fun q25 =>
      some (.inl (z + (12 : Int32)), q25.2)
    else
      some (.inl (z + (12 : Int32)), q11.2)

def f_X8_ready (a0 : Nat) (a1 : Int32) (a2 : Int32) (a3 : Int32) (h : JH) : Option (Nat × JH) :=
  (jgR h a0 6 0).bind fun v1 =>
  (jaR h v1 (a1 / (2 : Int32))).bind fun v3 =>
  if (36 : Int32) < a3 then
    (jrecv h v3 5).bind fun u73 =>
    (f_X7_isReady v3 a2 (180 : Int32) h).bind fun q5 =>
    if q5.1 = (0 : Int32) then
      if (jrem a1 (12 : Int32)) = (2 : Int32) then
        if a1 < (14 : Int32) then
          if a1 ≤ (14 : Int32) then
            (jloop (f_X8_ready_L94 a0 a1 a2 v3 (180 : Int32)) jF ((14 : Int32) + (12 : Int32)) q5.2).bind fun q53 =>
            some (v3, q53.2)
          else
            (jrecv q5.2 a0 6).bind fun u59 =>
            (f_X8_makeTwelve a0 a2 (180 : Int32) q5.2).bind fun q55 =>
            (jloop (f_X8_ready_L94 a0 a1 a2 v3 (180 : Int32)) jF ((14 : Int32) + (12 : Int32)) q55.2).bind fun q57 =>
            some (v3, q57.2)
        else
          (jrecv q5.2 a0 6).bind fun u71 =>
          (f_X8_makeAlone a0 (14 : Int32) a2 (180 : Int32) q5.2).bind fun q61 =>
          if a1 ≤ (14 : Int32) then
            (jloop (f_X8_ready_L94 a0 a1 a2 v3 (180 : Int32)) jF ((14 : Int32) + (12 : Int32)) q61.2).bind fun q63 =>
            some (v3, q63.2)
          else
            (jrecv q61.2 a0 6).bind fun u69 =>
            (f_X8_makeTwelve a0 a2 (180 : Int32) q61.2).bind fun q65 =>
            (jloop (f_X8_ready_L94 a0 a1 a2 v3 (180 : Int32)) jF ((14 : Int32) + (12 : Int32)) q65.2).bind fun q67 =>
            some (v3, q67.2)
      else
        if a1 < (jrem a1 (12 : Int32)) then
          if a1 ≤ (jrem a1 (12 : Int32)) then
            (jloop (f_X8_ready_L94 a0 a1 a2 v3 (180 : Int32)) jF ((jrem a1 (12 : Int32)) + (12 : Int32)) q5.2).bind fun q33 =>
            some (v3, q33.2)
          else
            (jrecv q5.2 a0 6).bind fun u39 =>
            (f_X8_makeTwelve a0 a2 (180 : Int32) q5.2).bind fun q35 =>
            (jloop (f_X8_ready_L94 a0 a1 a2 v3 (180 : Int32)) jF ((jrem a1 (12 : Int32)) + (12 : Int32)) q35.2).bind fun q37 =>
            some (v3, q37.2)
        else
          (jrecv q5.2 a0 6).bind fun u51 =>
          (f_X8_makeAlone a0 (jrem a1 (12 : Int32)) a2 (180 : Int32) q5.2).bind fun q41 =>
          if a1 ≤ (jrem a1 (12 : Int32)) then
            (jloop (f_X8_ready_L94 a0 a1 a2 v3 (180 : Int32)) jF ((jrem a1 (12 : Int32)) + (12 : Int32)) q41.2).bind fun q43 =>
            some (v3, q43.2)
          else
            (jrecv q41.2 a0 6).bind fun u49 =>
            (f_X8_makeTwelve a0 a2 (180 : Int32) q41.2).bind fun q45 =>
            (jloop (f_X8_ready_L94 a0 a1 a2 v3 (180 : Int32)) jF ((jrem a1 (12 : Int32)) + (12 : Int32)) q45.2).bind fun q47 =>
            some (v3, q47.2)
    else
      some (v3, q5.2)
  else
    (jrecv h v3 5).bind fun u117 =>
    (f_X7_isReady v3 a2 (36 : Int32) h).bind fun q75 =>
    if q75.1 = (0 : Int32) then
      if (jrem a1 (12 : Int32)) = (2 : Int32) then
        if a1 < (14 : Int32) then
          if a1 ≤ (14 : Int32) then
            (jloop (f_X8_ready_L94 a0 a1 a2 v3 (36 : Int32)) jF ((14 : Int32) + (12 : Int32)) q75.2).bind fun q97 =>
            some (v3, q97.2)
          else
            (jrecv q75.2 a0 6).bind fun u103 =>
            (f_X8_makeTwelve a0 a2 (36 : Int32) q75.2).bind fun q99 =>
            (jloop (f_X8_ready_L94 a0 a1 a2 v3 (36 : Int32)) jF ((14 : Int32) + (12 : Int32)) q99.2).bind fun q101 =>
            some (v3, q101.2)
        else
          (jrecv q75.2 a0 6).bind fun u115 =>
          (f_X8_makeAlone a0 (14 : Int32) a2 (36 : Int32) q75.2).bind fun q105 =>
          if a1 ≤ (14 : Int32) then
            (jloop (f_X8_ready_L94 a0 a1 a2 v3 (36 : Int32)) jF ((14 : Int32) + (12 : Int32)) q105.2).bind fun q107 =>
            some (v3, q107.2)
          else
            (jrecv q105.2 a0 6).bind fun u113 =>
            (f_X8_makeTwelve a0 a2 (36 : Int32) q105.2).bind fun q109 =>
            (jloop (f_X8_ready_L94 a0 a1 a2 v3 (36 : Int32)) jF ((14 : Int32) + (12 : Int32)) q109.2).bind fun q111 =>
            some (v3, q111.2)
      else
        if a1 < (jrem a1 (12 : Int32)) then
          if a1 ≤ (jrem a1 (12 : Int32)) then
            (jloop (f_X8_ready_L94 a0 a1 a2 v3 (36 : Int32)) jF ((jrem a1 (12 : Int32)) + (12 : Int32)) q75.2).bind fun q77 =>
            some (v3, q77.2)
          else
            (jrecv q75.2 a0 6).bind fun u83 =>
            (f_X8_makeTwelve a0 a2 (36 : Int32) q75.2).bind fun q79 =>
            (jloop (f_X8_ready_L94 a0 a1 a2 v3 (36 : Int32)) jF ((jrem a1 (12 : Int32)) + (12 : Int32)) q79.2).bind fun q81 =>
            some (v3, q81.2)
        else
          (jrecv q75.2 a0 6).bind fun u95 =>
          (f_X8_makeAlone a0 (jrem a1 (12 : Int32)) a2 (36 : Int32) q75.2).bind fun q85 =>
          if a1 ≤ (jrem a1 (12 : Int32)) then
            (jloop (f_X8_ready_L94 a0 a1 a2 v3 (36 : Int32)) jF ((jrem a1 (12 : Int32)) + (12 : Int32)) q85.2).bind fun q87 =>
            some (v3, q87.2)
          else
            (jrecv q85.2 a0 6).bind fun u93 =>
            (f_X8_makeTwelve a0 a2 (36 : Int32) q85.2).bind fun q89 =>
            (jloop (f_X8_ready_L94 a0 a1 a2 v3 (36 : Int32)) jF ((jrem a1 (12 : Int32)) + (12 : Int32)) q89.2).bind fun q91 =>
            some (v3, q91.2)
    else
      some (v3, q75.2)

def f_X11_isWeight (a0 : Int32) (h : JH) : Option (Int32 × JH) :=
  if a0 < (0 : Int32) then
    some ((0 : Int32), h)
  else
    if (60 : Int32) < a0 then
      some ((0 : Int32), h)
    else
      if (jrem a0 (2 : Int32)) = (0 : Int32) then
        some ((1 : Int32), h)
      else
        some ((0 : Int32), h)

def f_X10_isAsked (a0 : Int32) (a1 : Int32) (h : JH) : Option (Int32 × JH) :=
  (f_X11_isWeight a0 h).bind fun q1 =>
  if q1.1 = (0 : Int32) then
    some ((0 : Int32), q1.2)
  else
    if a0 < (4 : Int32) then
      some ((0 : Int32), q1.2)
    else
      if a1 < (1 : Int32) then
        some ((0 : Int32), q1.2)
      else
        if (60 : Int32) < a1 then
          some ((0 : Int32), q1.2)
        else
          some ((1 : Int32), q1.2)

def f_X10_add (a0 : Int64) (a2 : Int64) (h : JH) : Option (Int64 × JH) :=
  if (lg_cmp a0 (-9223372036854775808 : Int64)) = (0 : Int32) then
    some ((-9223372036854775808 : Int64), h)
  else
    if (lg_cmp a2 (-9223372036854775808 : Int64)) = (0 : Int32) then
      some ((-9223372036854775808 : Int64), h)
    else
      if (0 : Int32) < (lg_cmp (a0 + a2) (4611686018427387904 : Int64)) then
        some ((-9223372036854775808 : Int64), h)
      else
        if (0 : Int32) ≤ (lg_cmp (a0 + a2) (-4611686018427387904 : Int64)) then
          some (a0 + a2, h)
        else
          some ((-9223372036854775808 : Int64), h)

def f_X10_multiply (a0 : Int64) (a2 : Int64) (h : JH) : Option (Int64 × JH) :=
  if (lg_cmp a0 (-9223372036854775808 : Int64)) = (0 : Int32) then
    some ((-9223372036854775808 : Int64), h)
  else
    if (lg_cmp a2 (-9223372036854775808 : Int64)) = (0 : Int32) then
      some ((-9223372036854775808 : Int64), h)
    else
      if (lg_cmp a2 (0 : Int64)) = (0 : Int32) then
        some ((0 : Int64), h)
      else
        (jnzL (if 0 < a2 then a2 else -a2)).bind fun u1 =>
        if (lg_cmp (if 0 < a0 then a0 else -a0) ((4611686018427387904 : Int64) / (if 0 < a2 then a2 else -a2))) ≤ (0 : Int32) then
          some (a0 * a2, h)
        else
          some ((-9223372036854775808 : Int64), h)

def f_X10_exactPower_L5 (a0 : Int32) (a1 : Int32) (z : (Int64 × Int32)) (h : JH) : Option (((Int64 × Int32) ⊕ (Int64 × Int32)) × JH) :=
  if a1 ≤ z.2 then
    some (.inr (z.1, z.2), h)
  else
    (f_X10_multiply z.1 a0.toInt64 h).bind fun q1 =>
    some (.inl (q1.1, z.2 + (1 : Int32)), q1.2)

def f_X10_exactPower (a0 : Int32) (a1 : Int32) (h : JH) : Option (Int64 × JH) :=
  (jloop (f_X10_exactPower_L5 a0 a1) jF ((1 : Int64), (0 : Int32)) h).bind fun q4 =>
  some (q4.1.1, q4.2)

def f_X10_exactQ_L9 (a0 : Int32) (a1 : Int32) (a2 : Int32) (z : (Int64 × Int64 × Int32)) (h : JH) : Option (((Int64 × Int64 × Int32) ⊕ (Int64 × Int64 × Int32)) × JH) :=
  if a0 < z.2.2 then
    some (.inr (z.1, z.2.1, z.2.2), h)
  else
    (f_X10_multiply a1.toInt64 z.2.1 h).bind fun q1 =>
    (f_X10_multiply ((-a2).toInt64) z.1 q1.2).bind fun q3 =>
    (f_X10_add q1.1 q3.1 q3.2).bind fun q5 =>
    some (.inl (z.2.1, q5.1, z.2.2 + (1 : Int32)), q5.2)

def f_X10_exactQ (a0 : Int32) (a1 : Int32) (a2 : Int32) (h : JH) : Option (Int64 × JH) :=
  (jloop (f_X10_exactQ_L9 a0 a1 a2) jF ((1 : Int64), a1.toInt64, (4 : Int32)) h).bind fun q8 =>
  some (q8.1.2.1, q8.2)

def f_X10_reachOf_L4 (a0 : Int32) (z : (Int32 × Int32)) (h : JH) : Option (((Int32 × Int32) ⊕ (Int32 × Int32)) × JH) :=
  if ((4 : Int32) * a0) < (z.2 * z.2) then
    some (.inr (z.1, z.2), h)
  else
    some (.inl (z.2, z.2 + (1 : Int32)), h)

def f_X10_reachOf (a0 : Int32) (h : JH) : Option (Int32 × JH) :=
  (jloop (f_X10_reachOf_L4 a0) jF ((0 : Int32), (1 : Int32)) h).bind fun q2 =>
  some (q2.1.1, q2.2)

def f_X10_exact_L13 (a0 : Int32) (a1 : Int32) (a4 : Int32) (z : (Int64 × Int32)) (h : JH) : Option (((Int64 × Int32) ⊕ (Int64 × Int32)) × JH) :=
  if a4 < z.2 then
    some (.inr (z.1, z.2), h)
  else
    (f_X1_inTwelfths (((4 : Int32) * a1) - (z.2 * z.2)) h).bind fun q3 =>
    (f_X10_exactQ a0 z.2 a1 q3.2).bind fun q5 =>
    (f_X10_multiply q5.1 q3.1.toInt64 q5.2).bind fun q7 =>
    (f_X10_add z.1 q7.1 q7.2).bind fun q9 =>
    some (.inl (q9.1, z.2 + (1 : Int32)), q9.2)

def f_X10_exact_L61 (a0 : Int32) (a1 : Int32) (z : (Int64 × Int32)) (h : JH) : Option (((Int64 × Int32) ⊕ (Int64 × Int32)) × JH) :=
  if a1 < z.2 then
    some (.inr (z.1, z.2), h)
  else
    (jnz z.2).bind fun u14 =>
    if (jrem a1 z.2) = (0 : Int32) then
      (jnz z.2).bind fun u16 =>
      (f_X10_exactPower (if (a1 / z.2) < z.2 then (a1 / z.2) else z.2) (a0 - (1 : Int32)) h).bind fun q18 =>
      (f_X10_multiply q18.1 (12 : Int64) q18.2).bind fun q20 =>
      (f_X10_add z.1 q20.1 q20.2).bind fun q22 =>
      some (.inl (q22.1, z.2 + (1 : Int32)), q22.2)
    else
      some (.inl (z.1, z.2 + (1 : Int32)), h)

def f_X10_exact (a0 : Int32) (a1 : Int32) (h : JH) : Option (Int64 × JH) :=
  (f_X10_reachOf a1 h).bind fun q1 =>
  (jloop (f_X10_exact_L13 a0 a1 q1.1) jF ((0 : Int64), -q1.1) q1.2).bind fun q12 =>
  (jloop (f_X10_exact_L61 a0 a1) jF (q12.1.1, (1 : Int32)) q12.2).bind fun q26 =>
  if (lg_cmp q26.1.1 (-9223372036854775808 : Int64)) = (0 : Int32) then
    some ((-9223372036854775808 : Int64), q26.2)
  else
    some ((-q26.1.1) / (24 : Int64), q26.2)

def f_X10_leftQ_L14 (a0 : Int32) (a1 : Int32) (a2 : Int32) (a3 : Int32) (z : (Int32 × Int32 × Int32)) (h : JH) : Option (((Int32 × Int32 × Int32) ⊕ (Int32 × Int32 × Int32)) × JH) :=
  if a0 < z.2.2 then
    some (.inr (z.1, z.2.1, z.2.2), h)
  else
    (f_X4_of ((a1.toInt64 * z.2.1.toInt64) - (a2.toInt64 * z.1.toInt64)) a3 h).bind fun q3 =>
    some (.inl (z.2.1, q3.1, z.2.2 + (1 : Int32)), q3.2)

def f_X10_leftQ (a0 : Int32) (a1 : Int32) (a2 : Int32) (a3 : Int32) (h : JH) : Option (Int32 × JH) :=
  (f_X4_of a1.toInt64 a3 h).bind fun q1 =>
  (jloop (f_X10_leftQ_L14 a0 a1 a2 a3) jF ((1 : Int32), q1.1, (4 : Int32)) q1.2).bind fun q6 =>
  some (q6.1.2.1, q6.2)

def f_X10_left_L13 (a0 : Int32) (a1 : Int32) (a2 : Int32) (a5 : Int32) (z : (Int64 × Int32)) (h : JH) : Option (((Int64 × Int32) ⊕ (Int64 × Int32)) × JH) :=
  if a5 < z.2 then
    some (.inr (z.1, z.2), h)
  else
    (f_X10_leftQ a0 z.2 a1 a2 h).bind fun q3 =>
    (f_X1_inTwelfths (((4 : Int32) * a1) - (z.2 * z.2)) q3.2).bind fun q5 =>
    some (.inl (z.1 + (q3.1.toInt64 * q5.1.toInt64), z.2 + (1 : Int32)), q5.2)

def f_X10_left_L55 (a0 : Int32) (a1 : Int32) (a2 : Int32) (z : (Int64 × Int32)) (h : JH) : Option (((Int64 × Int32) ⊕ (Int64 × Int32)) × JH) :=
  if a1 < z.2 then
    some (.inr (z.1, z.2), h)
  else
    (jnz z.2).bind fun u10 =>
    if (jrem a1 z.2) = (0 : Int32) then
      (jnz z.2).bind fun u12 =>
      (f_X4_power (if (a1 / z.2) < z.2 then (a1 / z.2) else z.2) (a0 - (1 : Int32)) a2 h).bind fun q14 =>
      some (.inl (z.1 + ((12 : Int64) * q14.1.toInt64), z.2 + (1 : Int32)), q14.2)
    else
      some (.inl (z.1, z.2 + (1 : Int32)), h)

def f_X10_left (a0 : Int32) (a1 : Int32) (a2 : Int32) (h : JH) : Option (Int32 × JH) :=
  (f_X10_reachOf a1 h).bind fun q1 =>
  (jloop (f_X10_left_L13 a0 a1 a2 q1.1) jF ((0 : Int64), -q1.1) q1.2).bind fun q8 =>
  (jloop (f_X10_left_L55 a0 a1 a2) jF (q8.1.1, (1 : Int32)) q8.2).bind fun q18 =>
  (f_X4_of (-q18.1.1) a2 q18.2).bind fun q20 =>
  (f_X4_divide q20.1 (24 : Int32) a2 q20.2).bind fun q22 =>
  some (q22.1, q22.2)

def f_X10_shareOf_L19 (a0 : Int64) (a2 : Int32) (a3 : Int32) (a4 : Int32) (z : (UInt32 × Int32)) (h : JH) : Option (((UInt32 × Int32) ⊕ (UInt32 × Int32)) × JH) :=
  if ((a2 - (2 : Int32)) / (2 : Int32)) ≤ z.2 then
    some (.inr (z.1, z.2), h)
  else
    (jnn (FP.fmul z.1 (FP.i2f a3))).bind fun u3 =>
    some (.inl (FP.fmul z.1 (FP.i2f a3), z.2 + (1 : Int32)), h)

def f_X10_shareOf_L49 (a0 : Int64) (a3 : Int32) (a4 : Int32) (a5 : UInt32) (z : (UInt32 × Int32)) (h : JH) : Option (((UInt32 × Int32) ⊕ (UInt32 × Int32)) × JH) :=
  if (20 : Int32) ≤ z.2 then
    some (.inr (z.1, z.2), h)
  else
    (jnn (FP.fdiv (FP.i2f a3) z.1)).bind fun u8 =>
    (jnn (FP.fadd z.1 (FP.fdiv (FP.i2f a3) z.1))).bind fun u10 =>
    (jnn (FP.fdiv (FP.fadd z.1 (FP.fdiv (FP.i2f a3) z.1)) FP.fconst2)).bind fun u12 =>
    some (.inl (FP.fdiv (FP.fadd z.1 (FP.fdiv (FP.i2f a3) z.1)) FP.fconst2, z.2 + (1 : Int32)), h)

def f_X10_shareOf (a0 : Int64) (a2 : Int32) (a3 : Int32) (h : JH) : Option (UInt32 × JH) :=
  (f_X11_cuspsOf a2 h).bind fun q1 =>
  if q1.1 = (0 : Int32) then
    some (FP.fconst0, q1.2)
  else
    (jloop (f_X10_shareOf_L19 a0 a2 a3 q1.1) jF (FP.fconst1, (0 : Int32)) q1.2).bind fun q6 =>
    (jloop (f_X10_shareOf_L49 a0 a3 q1.1 q6.1.1) jF (FP.i2f a3, (0 : Int32)) q6.2).bind fun q15 =>
    (jnn (FP.fmul q6.1.1 q15.1.1)).bind fun u17 =>
    (jnn (FP.fmul FP.fconst2 (FP.fmul q6.1.1 q15.1.1))).bind fun u19 =>
    (jnn (FP.fmul (FP.fmul FP.fconst2 (FP.fmul q6.1.1 q15.1.1)) (FP.i2f q1.1))).bind fun u21 =>
    (jnn (FP.fdiv (FP.l2f a0) (FP.fmul (FP.fmul FP.fconst2 (FP.fmul q6.1.1 q15.1.1)) (FP.i2f q1.1)))).bind fun u23 =>
    some (FP.fdiv (FP.l2f a0) (FP.fmul (FP.fmul FP.fconst2 (FP.fmul q6.1.1 q15.1.1)) (FP.i2f q1.1)), q15.2)

def f_X10_bitsOf_L27 (a0 : UInt32) (z : (UInt32 × Int32 × Int32)) (h : JH) : Option (((UInt32 × Int32 × Int32) ⊕ (UInt32 × Int32 × Int32)) × JH) :=
  if (150 : Int32) ≤ z.2.2 then
    some (.inr (z.1, z.2.1, z.2.2), h)
  else
    if (0 : Int32) ≤ (Op.cmpValue (FP.fcmp z.1 (1258291200 : UInt32)) .g) then
      some (.inr (z.1, z.2.1, z.2.2), h)
    else
      (jnn (FP.fmul z.1 FP.fconst2)).bind fun u1 =>
      some (.inl (FP.fmul z.1 FP.fconst2, z.2.1 + (-1 : Int32), z.2.2 + (1 : Int32)), h)

def f_X10_bitsOf (a0 : UInt32) (h : JH) : Option (Int32 × JH) :=
  if (Op.cmpValue (FP.fcmp a0 FP.fconst0) .l) = (0 : Int32) then
    some ((0 : Int32), h)
  else
    if (0 : Int32) ≤ (Op.cmpValue (FP.fcmp a0 FP.fconst0) .g) then
      (jloop (f_X10_bitsOf_L27 a0) jF (a0, (150 : Int32), (0 : Int32)) h).bind fun q5 =>
      if (0 : Int32) ≤ (Op.cmpValue (FP.fcmp a0 FP.fconst0) .g) then
        some (((0 : Int32) ||| (q5.1.2.1 <<< ((23 : Int32) &&& 31))) ||| ((FP.f2i q5.1.1) - (8388608 : Int32)), q5.2)
      else
        some (((-2147483648 : Int32) ||| (q5.1.2.1 <<< ((23 : Int32) &&& 31))) ||| ((FP.f2i q5.1.1) - (8388608 : Int32)), q5.2)
    else
      (jloop (f_X10_bitsOf_L27 a0) jF (FP.fneg a0, (150 : Int32), (0 : Int32)) h).bind fun q7 =>
      if (0 : Int32) ≤ (Op.cmpValue (FP.fcmp a0 FP.fconst0) .g) then
        some (((0 : Int32) ||| (q7.1.2.1 <<< ((23 : Int32) &&& 31))) ||| ((FP.f2i q7.1.1) - (8388608 : Int32)), q7.2)
      else
        some (((-2147483648 : Int32) ||| (q7.1.2.1 <<< ((23 : Int32) &&& 31))) ||| ((FP.f2i q7.1.1) - (8388608 : Int32)), q7.2)

def f_X11_forget_L2 (a0 : Nat) (z : Int32) (h : JH) : Option ((Int32 ⊕ Int32) × JH) :=
  if (4 : Int32) ≤ z then
    some (.inr z, h)
  else
    (jgR h a0 8 5).bind fun v1 =>
    (jaR h v1 z).bind fun v3 =>
    (jrecv h v3 1).bind fun u7 =>
    (f_X2_setNumber v3 (1 : Int32) h).bind fun q5 =>
    some (.inl (z + (1 : Int32)), q5.2)

def f_X11_forget_L25 (a0 : Nat) (z : Int32) (h : JH) : Option ((Int32 ⊕ Int32) × JH) :=
  if (2 : Int32) ≤ z then
    some (.inr z, h)
  else
    (jgR h a0 8 6).bind fun v12 =>
    (jaR h v12 z).bind fun v14 =>
    (jrecv h v14 4).bind fun u18 =>
    (f_X6_empty v14 h).bind fun q16 =>
    some (.inl (z + (1 : Int32)), q16.2)

def f_X11_forget_L47 (a0 : Nat) (z : Int32) (h : JH) : Option ((Int32 ⊕ Int32) × JH) :=
  if (2 : Int32) ≤ z then
    some (.inr z, h)
  else
    (jgR h a0 8 7).bind fun v23 =>
    (jaR h v23 z).bind fun v25 =>
    (jput h v25 2 0 (.int (0 : Int32))).bind fun h27 =>
    some (.inl (z + (1 : Int32)), h27)

def f_X11_forget (a0 : Nat) (h : JH) : Option (Unit × JH) :=
  (jloop (f_X11_forget_L2 a0) jF (0 : Int32) h).bind fun q10 =>
  (jloop (f_X11_forget_L25 a0) jF (0 : Int32) q10.2).bind fun q21 =>
  (jloop (f_X11_forget_L47 a0) jF (0 : Int32) q21.2).bind fun q30 =>
  some ((), q30.2)

def f_X11_init_L106 (a0 : Nat) (z : Int32) (h : JH) : Option ((Int32 ⊕ Int32) × JH) :=
  if (2 : Int32) ≤ z then
    some (.inr z, h)
  else
    (jgR h a0 8 7).bind fun v51 =>
    (jnO h 2 [.int 0, .null, .null]).bind fun q53 =>
    (f_X3_init q53.1 q53.2).bind fun q55 =>
    (jsR q55.2 v51 z q53.1 2).bind fun h57 =>
    some (.inl (z + (1 : Int32)), h57)

def f_X11_init (a0 : Nat) (h : JH) : Option (Unit × JH) :=
  (jnA h .byte (600 : Int32)).bind fun q1 =>
  (jput q1.2 a0 8 0 (.ref q1.1)).bind fun h3 =>
  (jput h3 a0 8 2 (.int (1009 : Int32))).bind fun h5 =>
  (f_X11_newForms (6 : Int32) h5).bind fun q7 =>
  (jput q7.2 a0 8 4 (.ref q7.1)).bind fun h9 =>
  (f_X11_newForms (4 : Int32) h9).bind fun q11 =>
  (jput q11.2 a0 8 5 (.ref q11.1)).bind fun h13 =>
  (f_X11_newShelves h13).bind fun q15 =>
  (jput q15.2 a0 8 6 (.ref q15.1)).bind fun h17 =>
  (jnA h17 (.object "HeckeSeries$Image") (2 : Int32)).bind fun q19 =>
  (jput q19.2 a0 8 7 (.ref q19.1)).bind fun h21 =>
  (jnO h21 6 [.null]).bind fun q23 =>
  (f_X8_init q23.1 q23.2).bind fun q25 =>
  (jput q25.2 a0 8 8 (.ref q23.1)).bind fun h27 =>
  (jnO h27 3 [.null, .null, .null, .null, .int 0, .int 0]).bind fun q29 =>
  (f_X5_init q29.1 q29.2).bind fun q31 =>
  (jput q31.2 a0 8 9 (.ref q29.1)).bind fun h33 =>
  (jnO h33 0 [.int 0, .int 0, .int 0, .null, .null, .null, .int 0, .null, .null, .null, .null]).bind fun q35 =>
  (f_X0_init q35.1 q35.2).bind fun q37 =>
  (jput q37.2 a0 8 10 (.ref q35.1)).bind fun h39 =>
  (jnO h39 1 [.int 0, .null]).bind fun q41 =>
  (f_X2_init q41.1 q41.2).bind fun q43 =>
  (jput q43.2 a0 8 11 (.ref q41.1)).bind fun h45 =>
  (jnA h45 .long (12 : Int32)).bind fun q47 =>
  (jput q47.2 a0 8 12 (.ref q47.1)).bind fun h49 =>
  (jloop (f_X11_init_L106 a0) jF (0 : Int32) h49).bind fun q60 =>
  (jgR q60.2 a0 8 6).bind fun v62 =>
  (jaR q60.2 v62 (1 : Int32)).bind fun v64 =>
  (jput q60.2 v64 4 0 (.int (1 : Int32))).bind fun h66 =>
  (jrecv h66 a0 8).bind fun u70 =>
  (f_X11_forget a0 h66).bind fun q68 =>
  some ((), q68.2)

def f_X11_feedFour_L3 (a0 : Nat) (a1 : Int32) (z : Int32) (h : JH) : Option ((Int32 ⊕ Int32) × JH) :=
  if z < (0 : Int32) then
    some (.inr z, h)
  else
    (jgI h a0 8 1).bind fun v1 =>
    if (600 : Int32) ≤ v1 then
      some (.inr z, h)
    else
      (jgR h a0 8 0).bind fun v3 =>
      (jgI h a0 8 1).bind fun v5 =>
      (jsB h v3 v5 ((a1 >>> (z &&& 31)).toInt8.toInt32)).bind fun h7 =>
      (jgI h7 a0 8 1).bind fun v9 =>
      (jput h7 a0 8 1 (.int (v9 + (1 : Int32)))).bind fun h11 =>
      some (.inl (z + (-8 : Int32)), h11)

def f_X11_feedFour (a0 : Nat) (a1 : Int32) (h : JH) : Option (Unit × JH) :=
  (jloop (f_X11_feedFour_L3 a0 a1) jF (24 : Int32) h).bind fun q15 =>
  some ((), q15.2)

def f_X11_feed (a0 : Nat) (a1 : Int32) (a2 : Int32) (a3 : Int32) (a4 : Int32) (a5 : Int32) (h : JH) : Option (Int32 × JH) :=
  (jgI h a0 8 1).bind fun v1 =>
  if (v1 + (20 : Int32)) ≤ (600 : Int32) then
    (jrecv h a0 8).bind fun u23 =>
    (f_X11_feedFour a0 a1 h).bind fun q3 =>
    (jrecv q3.2 a0 8).bind fun u21 =>
    (f_X11_feedFour a0 a2 q3.2).bind fun q5 =>
    (jrecv q5.2 a0 8).bind fun u19 =>
    (f_X11_feedFour a0 a3 q5.2).bind fun q7 =>
    (jrecv q7.2 a0 8).bind fun u17 =>
    (f_X11_feedFour a0 a4 q7.2).bind fun q9 =>
    (jrecv q9.2 a0 8).bind fun u15 =>
    (f_X11_feedFour a0 a5 q9.2).bind fun q11 =>
    (jgI q11.2 a0 8 1).bind fun v13 =>
    some (v13, q11.2)
  else
    some ((-1 : Int32), h)

def f_X11_book_L86 (a0 : Nat) (z : Int32) (h : JH) : Option ((Int32 ⊕ Int32) × JH) :=
  (jgI h a0 8 3).bind fun v35 =>
  if v35 ≤ z then
    some (.inr z, h)
  else
    (jgR h a0 8 4).bind fun v37 =>
    (jaR h v37 z).bind fun v39 =>
    (jgR h a0 8 10).bind fun v41 =>
    (jgR h v41 0 3).bind fun v43 =>
    (jaR h v43 z).bind fun v45 =>
    (jrecv h v39 1).bind fun u49 =>
    (f_X2_copyFrom v39 v45 h).bind fun q47 =>
    some (.inl (z + (1 : Int32)), q47.2)

def f_X11_book (a0 : Nat) (a1 : Int32) (h : JH) : Option (Int32 × JH) :=
  if a1 < (0 : Int32) then
    some ((-1 : Int32), h)
  else
    (jgI h a0 8 1).bind fun v1 =>
    if a1 ≤ v1 then
      (jput h a0 8 1 (.int (0 : Int32))).bind fun h3 =>
      (jgR h3 a0 8 10).bind fun v5 =>
      (jgR h3 a0 8 0).bind fun v7 =>
      (jrecv h3 v5 0).bind fun u68 =>
      (f_X0_open v5 v7 a1 h3).bind fun q9 =>
      (jgR q9.2 a0 8 10).bind fun v11 =>
      (jrecv q9.2 v11 0).bind fun u66 =>
      (f_X0_readPrime v11 q9.2).bind fun q13 =>
      if q13.1 = (0 : Int32) then
        (jgR q13.2 a0 8 10).bind fun v15 =>
        (jgI q13.2 v15 0 0).bind fun v17 =>
        some ((-2 : Int32) - v17, q13.2)
      else
        (jgR q13.2 a0 8 10).bind fun v19 =>
        (jrecv q13.2 v19 0).bind fun u64 =>
        (f_X0_readLets v19 q13.2).bind fun q21 =>
        if q21.1 = (0 : Int32) then
          (jgR q21.2 a0 8 10).bind fun v60 =>
          (jgI q21.2 v60 0 0).bind fun v62 =>
          some ((-2 : Int32) - v62, q21.2)
        else
          (jgR q21.2 a0 8 10).bind fun v23 =>
          (jgI q21.2 v23 0 1).bind fun v25 =>
          (jput q21.2 a0 8 2 (.int v25)).bind fun h27 =>
          (jgR h27 a0 8 10).bind fun v29 =>
          (jgI h27 v29 0 2).bind fun v31 =>
          (jput h27 a0 8 3 (.int v31)).bind fun h33 =>
          (jloop (f_X11_book_L86 a0) jF (0 : Int32) h33).bind fun q52 =>
          (jrecv q52.2 a0 8).bind fun u58 =>
          (f_X11_forget a0 q52.2).bind fun q54 =>
          (jgI q54.2 a0 8 3).bind fun v56 =>
          some (v56, q54.2)
    else
      some ((-1 : Int32), h)

def f_X11_laidImages_L4 (a0 : Nat) (z : (Int32 × Int32)) (h : JH) : Option (((Int32 × Int32) ⊕ (Int32 × Int32)) × JH) :=
  if (2 : Int32) ≤ z.2 then
    some (.inr (z.1, z.2), h)
  else
    (jgR h a0 8 7).bind fun v1 =>
    (jaR h v1 z.2).bind fun v3 =>
    (jgI h v3 2 0).bind fun v5 =>
    if v5 = (0 : Int32) then
      some (.inl (z.1, z.2 + (1 : Int32)), h)
    else
      some (.inl (z.1 + (1 : Int32), z.2 + (1 : Int32)), h)

def f_X11_laidImages (a0 : Nat) (h : JH) : Option (Int32 × JH) :=
  (jloop (f_X11_laidImages_L4 a0) jF ((0 : Int32), (0 : Int32)) h).bind fun q9 =>
  some (q9.1.1, q9.2)

def f_X11_count (a0 : Nat) (a1 : Int32) (h : JH) : Option (Int32 × JH) :=
  if a1 = (0 : Int32) then
    (jgI h a0 8 2).bind fun v1 =>
    some (v1, h)
  else if a1 = (1 : Int32) then
    (jgI h a0 8 3).bind fun v3 =>
    some (v3, h)
  else if a1 = (2 : Int32) then
    (jgI h a0 8 1).bind fun v5 =>
    some (v5, h)
  else if a1 = (3 : Int32) then
    (jrecv h a0 8).bind fun u9 =>
    (f_X11_laidImages a0 h).bind fun q7 =>
    some (q7.1, q7.2)
  else 
    some ((-1 : Int32), h)

def f_X11_isLet (a0 : Nat) (a1 : Int32) (h : JH) : Option (Int32 × JH) :=
  if a1 < (0 : Int32) then
    some ((0 : Int32), h)
  else
    (jgI h a0 8 3).bind fun v1 =>
    if v1 ≤ a1 then
      some ((0 : Int32), h)
    else
      some ((1 : Int32), h)

def f_X11_let (a0 : Nat) (a1 : Int32) (a2 : Int32) (h : JH) : Option (Int32 × JH) :=
  (jrecv h a0 8).bind fun u17 =>
  (f_X11_isLet a0 a1 h).bind fun q1 =>
  if q1.1 = (0 : Int32) then
    some ((-1 : Int32), q1.2)
  else
    (jgR q1.2 a0 8 4).bind fun v3 =>
    (jaR q1.2 v3 a1).bind fun v5 =>
    if a2 = (0 : Int32) then
      (jgI q1.2 v5 1 0).bind fun v7 =>
      some (v7, q1.2)
    else if a2 = (1 : Int32) then
      (jgI q1.2 v5 1 0).bind fun v9 =>
      (f_X11_lengthOf v9 q1.2).bind fun q11 =>
      some (q11.1, q11.2)
    else if a2 = (2 : Int32) then
      (jgR q1.2 v5 1 1).bind fun v13 =>
      (jaI q1.2 v13 (0 : Int32)).bind fun v15 =>
      if v15 = (0 : Int32) then
        some ((1 : Int32), q1.2)
      else
        some ((0 : Int32), q1.2)
    else 
      some ((-1 : Int32), q1.2)

def f_X11_coefficientOf (a0 : Nat) (a1 : Nat) (a2 : Int32) (h : JH) : Option (Int32 × JH) :=
  if (6 : Int32) ≤ a2 then
    (jgR h a0 8 8).bind fun v1 =>
    (jgI h a1 1 0).bind fun v3 =>
    (jgI h a0 8 2).bind fun v5 =>
    (jrecv h v1 6).bind fun u15 =>
    (f_X8_ready v1 v3 v5 a2 h).bind fun q7 =>
    (jgR q7.2 a1 1 1).bind fun v9 =>
    (jrecv q7.2 q7.1 5).bind fun u13 =>
    (f_X7_expand q7.1 v9 a2 q7.2).bind fun q11 =>
    some (q11.1, q11.2)
  else
    (jgR h a1 1 1).bind fun v17 =>
    (jaI h v17 a2).bind fun v19 =>
    some (v19, h)

def f_X11_isRegister (a0 : Int32) (h : JH) : Option (Int32 × JH) :=
  if a0 < (0 : Int32) then
    some ((0 : Int32), h)
  else
    if (4 : Int32) ≤ a0 then
      some ((0 : Int32), h)
    else
      some ((1 : Int32), h)

def f_X11_coefficient (a0 : Nat) (a1 : Int32) (a2 : Int32) (h : JH) : Option (Int32 × JH) :=
  (f_X11_isRegister a1 h).bind fun q1 =>
  if q1.1 = (0 : Int32) then
    some ((-1 : Int32), q1.2)
  else
    if a2 < (0 : Int32) then
      some ((-1 : Int32), q1.2)
    else
      if a2 ≤ (180 : Int32) then
        (jgR q1.2 a0 8 5).bind fun v3 =>
        (jaR q1.2 v3 a1).bind fun v5 =>
        (jrecv q1.2 a0 8).bind fun u9 =>
        (f_X11_coefficientOf a0 v5 a2 q1.2).bind fun q7 =>
        some (q7.1, q7.2)
      else
        some ((-1 : Int32), q1.2)

def f_X11_weight (a0 : Nat) (a1 : Int32) (h : JH) : Option (Int32 × JH) :=
  (f_X11_isRegister a1 h).bind fun q1 =>
  if q1.1 = (0 : Int32) then
    some ((-1 : Int32), q1.2)
  else
    (jgR q1.2 a0 8 5).bind fun v3 =>
    (jaR q1.2 v3 a1).bind fun v5 =>
    (jgI q1.2 v5 1 0).bind fun v7 =>
    some (v7, q1.2)

def f_X11_makes (a0 : Nat) (a1 : Int32) (a2 : Int32) (h : JH) : Option (Int32 × JH) :=
  (f_X11_isWeight a1 h).bind fun q1 =>
  if q1.1 = (0 : Int32) then
    some ((-1 : Int32), q1.2)
  else
    if a2 = (0 : Int32) then
      (f_X11_lengthOf a1 q1.2).bind fun q3 =>
      some (q3.1, q3.2)
    else
      (f_X11_cuspsOf a1 q1.2).bind fun q5 =>
      some (q5.1, q5.2)

def f_X11_whole (a0 : Nat) (a1 : Int32) (h : JH) : Option ((Option Int32) × JH) :=
  if a1 ≤ (2000 : Int32) then
    (f_X1_inTwelfths a1 h).bind fun q1 =>
    some (some q1.1, q1.2)
  else
    some (none, jexc h)

def f_X11_small (a0 : Nat) (a1 : Int32) (h : JH) : Option (Int32 × JH) :=
  (f_X1_ofNothingInCommon a1 h).bind fun q1 =>
  some (q1.1, q1.2)

def f_X11_trace (a0 : Nat) (a1 : Int32) (a2 : Int32) (h : JH) : Option (Int64 × JH) :=
  (f_X10_isAsked a1 a2 h).bind fun q1 =>
  if q1.1 = (0 : Int32) then
    some ((-9223372036854775807 : Int64), q1.2)
  else
    (f_X10_exact a1 a2 q1.2).bind fun q3 =>
    some (q3.1, q3.2)

def f_X11_traceLeft (a0 : Nat) (a1 : Int32) (a2 : Int32) (h : JH) : Option (Int32 × JH) :=
  (f_X10_isAsked a1 a2 h).bind fun q1 =>
  if q1.1 = (0 : Int32) then
    some ((-1 : Int32), q1.2)
  else
    (jgI q1.2 a0 8 2).bind fun v3 =>
    (f_X10_left a1 a2 v3 q1.2).bind fun q5 =>
    some (q5.1, q5.2)

def f_X11_share (a0 : Nat) (a1 : Int32) (a2 : Int32) (h : JH) : Option (Int32 × JH) :=
  (f_X10_isAsked a1 a2 h).bind fun q1 =>
  if q1.1 = (0 : Int32) then
    some ((-2147483648 : Int32), q1.2)
  else
    (f_X10_exact a1 a2 q1.2).bind fun q3 =>
    if (lg_cmp q3.1 (-9223372036854775808 : Int64)) = (0 : Int32) then
      some ((-2147483648 : Int32), q3.2)
    else
      (f_X10_shareOf q3.1 a1 a2 q3.2).bind fun q5 =>
      (f_X10_bitsOf q5.1 q5.2).bind fun q7 =>
      some (q7.1, q7.2)

def f_X11_take (a0 : Nat) (a1 : Int32) (a2 : Int32) (h : JH) : Option (Int32 × JH) :=
  (f_X11_isRegister a1 h).bind fun q1 =>
  if q1.1 = (0 : Int32) then
    some ((-1 : Int32), q1.2)
  else
    (jrecv q1.2 a0 8).bind fun u23 =>
    (f_X11_isLet a0 a2 q1.2).bind fun q3 =>
    if q3.1 = (0 : Int32) then
      some ((-1 : Int32), q3.2)
    else
      (jgR q3.2 a0 8 5).bind fun v5 =>
      (jaR q3.2 v5 a1).bind fun v7 =>
      (jgR q3.2 a0 8 4).bind fun v9 =>
      (jaR q3.2 v9 a2).bind fun v11 =>
      (jrecv q3.2 v7 1).bind fun u21 =>
      (f_X2_copyFrom v7 v11 q3.2).bind fun q13 =>
      (jgR q13.2 a0 8 5).bind fun v15 =>
      (jaR q13.2 v15 a1).bind fun v17 =>
      (jgI q13.2 v17 1 0).bind fun v19 =>
      some (v19, q13.2)

def f_X11_plus (a0 : Nat) (a1 : Int32) (a2 : Int32) (a3 : Int32) (h : JH) : Option (Int32 × JH) :=
  (f_X11_isRegister a1 h).bind fun q1 =>
  if q1.1 = (0 : Int32) then
    some ((0 : Int32), q1.2)
  else
    (f_X11_isRegister a2 q1.2).bind fun q3 =>
    if q3.1 = (0 : Int32) then
      some ((0 : Int32), q3.2)
    else
      (jgR q3.2 a0 8 5).bind fun v5 =>
      (jaR q3.2 v5 a1).bind fun v7 =>
      (jgI q3.2 v7 1 0).bind fun v9 =>
      (jgR q3.2 a0 8 5).bind fun v11 =>
      (jaR q3.2 v11 a2).bind fun v13 =>
      (jgI q3.2 v13 1 0).bind fun v15 =>
      if v9 = v15 then
        (jgR q3.2 a0 8 5).bind fun v17 =>
        (jaR q3.2 v17 a1).bind fun v19 =>
        (jgR q3.2 a0 8 5).bind fun v21 =>
        (jaR q3.2 v21 a2).bind fun v23 =>
        (jgI q3.2 a0 8 2).bind fun v25 =>
        (f_X4_of a3.toInt64 v25 q3.2).bind fun q27 =>
        (jgI q27.2 a0 8 2).bind fun v29 =>
        (jrecv q27.2 v19 1).bind fun u33 =>
        (f_X2_add v19 v23 q27.1 v29 q27.2).bind fun q31 =>
        some ((1 : Int32), q31.2)
      else
        some ((0 : Int32), q3.2)

def f_X11_times (a0 : Nat) (a1 : Int32) (a2 : Int32) (h : JH) : Option (Int32 × JH) :=
  (f_X11_isRegister a1 h).bind fun q1 =>
  if q1.1 = (0 : Int32) then
    some ((-1 : Int32), q1.2)
  else
    (f_X11_isRegister a2 q1.2).bind fun q3 =>
    if q3.1 = (0 : Int32) then
      some ((-1 : Int32), q3.2)
    else
      (jgR q3.2 a0 8 5).bind fun v5 =>
      (jaR q3.2 v5 a1).bind fun v7 =>
      (jgI q3.2 v7 1 0).bind fun v9 =>
      (jgR q3.2 a0 8 5).bind fun v11 =>
      (jaR q3.2 v11 a2).bind fun v13 =>
      (jgI q3.2 v13 1 0).bind fun v15 =>
      if (v9 + v15) ≤ (60 : Int32) then
        (jgR q3.2 a0 8 5).bind fun v17 =>
        (jaR q3.2 v17 a1).bind fun v19 =>
        (jgR q3.2 a0 8 5).bind fun v21 =>
        (jaR q3.2 v21 a2).bind fun v23 =>
        (jgI q3.2 a0 8 2).bind fun v25 =>
        (jrecv q3.2 v19 1).bind fun u35 =>
        (f_X2_multiplyBy v19 v23 v25 q3.2).bind fun q27 =>
        (jgR q27.2 a0 8 5).bind fun v29 =>
        (jaR q27.2 v29 a1).bind fun v31 =>
        (jgI q27.2 v31 1 0).bind fun v33 =>
        some (v33, q27.2)
      else
        some ((-1 : Int32), q3.2)

def f_X11_readyForHecke (a0 : Nat) (a1 : Int32) (a2 : Int32) (h : JH) : Option (Nat × JH) :=
  (jgR h a0 8 8).bind fun v1 =>
  (jgI h a0 8 2).bind fun v3 =>
  (f_X11_cuspsOf a1 h).bind fun q5 =>
  (jrecv q5.2 v1 6).bind fun u9 =>
  (f_X8_ready v1 a1 v3 (q5.1 * a2) q5.2).bind fun q7 =>
  some (q7.1, q7.2)

def f_X11_isHecke (a0 : Int32) (h : JH) : Option (Int32 × JH) :=
  if a0 < (1 : Int32) then
    some ((0 : Int32), h)
  else
    if (30 : Int32) < a0 then
      some ((0 : Int32), h)
    else
      some ((1 : Int32), h)

def f_X11_hecke_L37 (a0 : Nat) (a2 : Int32) (a3 : Nat) (a4 : Nat) (z : Int32) (h : JH) : Option ((Int32 ⊕ Int32) × JH) :=
  (jgI h a4 5 1).bind fun v13 =>
  if v13 ≤ z then
    some (.inr z, h)
  else
    (jgR h a0 8 11).bind fun v15 =>
    (jgR h v15 1 1).bind fun v17 =>
    (jgR h a3 1 1).bind fun v19 =>
    (jrecv h a4 5).bind fun u25 =>
    (f_X7_heckeAt a4 v19 a2 z h).bind fun q21 =>
    (jsI q21.2 v17 z q21.1).bind fun h23 =>
    some (.inl (z + (1 : Int32)), h23)

def f_X11_hecke (a0 : Nat) (a1 : Int32) (a2 : Int32) (h : JH) : Option (Int32 × JH) :=
  (f_X11_isRegister a1 h).bind fun q1 =>
  if q1.1 = (0 : Int32) then
    some ((0 : Int32), q1.2)
  else
    (f_X11_isHecke a2 q1.2).bind fun q3 =>
    if q3.1 = (0 : Int32) then
      some ((0 : Int32), q3.2)
    else
      (jgR q3.2 a0 8 5).bind fun v5 =>
      (jaR q3.2 v5 a1).bind fun v7 =>
      (jgI q3.2 v7 1 0).bind fun v9 =>
      (jrecv q3.2 a0 8).bind fun u42 =>
      (f_X11_readyForHecke a0 v9 a2 q3.2).bind fun q11 =>
      (jloop (f_X11_hecke_L37 a0 a2 v7 q11.1) jF (0 : Int32) q11.2).bind fun q28 =>
      (jgR q28.2 a0 8 11).bind fun v30 =>
      (jrecv q28.2 q11.1 5).bind fun u40 =>
      (f_X7_complete q11.1 v30 q28.2).bind fun q32 =>
      (jgR q32.2 a0 8 11).bind fun v34 =>
      (jrecv q32.2 v7 1).bind fun u38 =>
      (f_X2_copyFrom v7 v34 q32.2).bind fun q36 =>
      some ((1 : Int32), q36.2)

def f_X11_multiplies_L86 (a0 : Nat) (a2 : Int32) (a3 : Nat) (a5 : Nat) (a6 : Int32) (z : Int32) (h : JH) : Option ((Int32 ⊕ (Int32 ⊕ Int32)) × JH) :=
  (jgI h a5 5 1).bind fun v33 =>
  if v33 ≤ z then
    some (.inr (.inr z), h)
  else
    (jrecv h a5 5).bind fun u43 =>
    (f_X7_heckeAt a5 a3 a2 z h).bind fun q35 =>
    (jaI q35.2 a3 z).bind fun v37 =>
    (jgI q35.2 a0 8 2).bind fun v39 =>
    (f_X4_of (a6.toInt64 * v37.toInt64) v39 q35.2).bind fun q41 =>
    if q35.1 = q41.1 then
      some (.inl (z + (1 : Int32)), q41.2)
    else
      some (.inr (.inl (-2 : Int32)), q41.2)

def f_X11_multiplies (a0 : Nat) (a1 : Int32) (a2 : Int32) (h : JH) : Option (Int32 × JH) :=
  (f_X11_isRegister a1 h).bind fun q1 =>
  if q1.1 = (0 : Int32) then
    some ((-1 : Int32), q1.2)
  else
    (f_X11_isHecke a2 q1.2).bind fun q3 =>
    if q3.1 = (0 : Int32) then
      some ((-1 : Int32), q3.2)
    else
      (jgR q3.2 a0 8 5).bind fun v5 =>
      (jaR q3.2 v5 a1).bind fun v7 =>
      (jgR q3.2 v7 1 1).bind fun v9 =>
      (jgR q3.2 a0 8 5).bind fun v11 =>
      (jaR q3.2 v11 a1).bind fun v13 =>
      (jrecv q3.2 v13 1).bind fun u55 =>
      (f_X2_firstNotZero v13 q3.2).bind fun q15 =>
      if (0 : Int32) ≤ q15.1 then
        (jgR q15.2 a0 8 5).bind fun v17 =>
        (jaR q15.2 v17 a1).bind fun v19 =>
        (jgI q15.2 v19 1 0).bind fun v21 =>
        (jrecv q15.2 a0 8).bind fun u53 =>
        (f_X11_readyForHecke a0 v21 a2 q15.2).bind fun q23 =>
        (jrecv q23.2 q23.1 5).bind fun u51 =>
        (f_X7_heckeAt q23.1 v9 a2 q15.1 q23.2).bind fun q25 =>
        (jaI q25.2 v9 q15.1).bind fun v27 =>
        (jgI q25.2 a0 8 2).bind fun v29 =>
        (f_X4_divide q25.1 v27 v29 q25.2).bind fun q31 =>
        (jloop (f_X11_multiplies_L86 a0 a2 v9 q23.1 q31.1) jF (0 : Int32) q31.2).bind fun q47 =>
        Sum.elim (fun r50 => some (r50, q47.2)) (fun t49 =>
          some (q31.1, q47.2)) q47.1
      else
        some ((-2 : Int32), q15.2)

def f_X11_partingPlace_L2 (a0 : Nat) (a1 : Nat) (z : Int32) (h : JH) : Option ((Int32 ⊕ (Int32 ⊕ Int32)) × JH) :=
  if (6 : Int32) ≤ z then
    some (.inr (.inr z), h)
  else
    (jgR h a0 1 1).bind fun v1 =>
    (jaI h v1 z).bind fun v3 =>
    (jgR h a1 1 1).bind fun v5 =>
    (jaI h v5 z).bind fun v7 =>
    if v3 = v7 then
      some (.inl (z + (1 : Int32)), h)
    else
      some (.inr (.inl z), h)

def f_X11_partingPlace (a0 : Nat) (a1 : Nat) (h : JH) : Option (Int32 × JH) :=
  (jloop (f_X11_partingPlace_L2 a0 a1) jF (0 : Int32) h).bind fun q11 =>
  Sum.elim (fun r14 => some (r14, q11.2)) (fun t13 =>
    some ((-2 : Int32), q11.2)) q11.1

def f_X11_alike (a0 : Nat) (a1 : Int32) (a2 : Int32) (a3 : Int32) (h : JH) : Option (Int32 × JH) :=
  (f_X11_isRegister a1 h).bind fun q1 =>
  if q1.1 = (0 : Int32) then
    some ((-1 : Int32), q1.2)
  else
    (f_X11_isRegister a2 q1.2).bind fun q3 =>
    if q3.1 = (0 : Int32) then
      some ((-1 : Int32), q3.2)
    else
      if a3 < (0 : Int32) then
        some ((-1 : Int32), q3.2)
      else
        if a3 ≤ (180 : Int32) then
          (jgR q3.2 a0 8 5).bind fun v5 =>
          (jaR q3.2 v5 a1).bind fun v7 =>
          (jgI q3.2 v7 1 0).bind fun v9 =>
          (jgR q3.2 a0 8 5).bind fun v11 =>
          (jaR q3.2 v11 a2).bind fun v13 =>
          (jgI q3.2 v13 1 0).bind fun v15 =>
          if v9 = v15 then
            (jgR q3.2 a0 8 5).bind fun v17 =>
            (jaR q3.2 v17 a1).bind fun v19 =>
            (jgR q3.2 a0 8 5).bind fun v21 =>
            (jaR q3.2 v21 a2).bind fun v23 =>
            (f_X11_partingPlace v19 v23 q3.2).bind fun q25 =>
            if q25.1 < (0 : Int32) then
              some ((1 : Int32), q25.2)
            else
              if q25.1 ≤ a3 then
                some ((0 : Int32), q25.2)
              else
                some ((1 : Int32), q25.2)
          else
            some ((0 : Int32), q3.2)
        else
          some ((-1 : Int32), q3.2)

def f_X11_parts (a0 : Nat) (a1 : Int32) (a2 : Int32) (h : JH) : Option (Int32 × JH) :=
  (f_X11_isRegister a1 h).bind fun q1 =>
  if q1.1 = (0 : Int32) then
    some ((-1 : Int32), q1.2)
  else
    (f_X11_isRegister a2 q1.2).bind fun q3 =>
    if q3.1 = (0 : Int32) then
      some ((-1 : Int32), q3.2)
    else
      (jgR q3.2 a0 8 5).bind fun v5 =>
      (jaR q3.2 v5 a1).bind fun v7 =>
      (jgI q3.2 v7 1 0).bind fun v9 =>
      (jgR q3.2 a0 8 5).bind fun v11 =>
      (jaR q3.2 v11 a2).bind fun v13 =>
      (jgI q3.2 v13 1 0).bind fun v15 =>
      if v9 = v15 then
        (jgR q3.2 a0 8 5).bind fun v17 =>
        (jaR q3.2 v17 a1).bind fun v19 =>
        (jgR q3.2 a0 8 5).bind fun v21 =>
        (jaR q3.2 v21 a2).bind fun v23 =>
        (f_X11_partingPlace v19 v23 q3.2).bind fun q25 =>
        some (q25.1, q25.2)
      else
        some ((-1 : Int32), q3.2)

def f_X11_table (a0 : Nat) (a1 : Int32) (a2 : Int32) (a3 : Int32) (a4 : Int32) (h : JH) : Option (Int32 × JH) :=
  (f_X11_isWeight a1 h).bind fun q1 =>
  if q1.1 = (0 : Int32) then
    some ((-1 : Int32), q1.2)
  else
    (f_X11_isHecke a2 q1.2).bind fun q3 =>
    if q3.1 = (0 : Int32) then
      some ((-1 : Int32), q3.2)
    else
      (f_X11_cuspsOf a1 q3.2).bind fun q5 =>
      if a3 < (1 : Int32) then
        some ((-1 : Int32), q5.2)
      else
        if q5.1 < a3 then
          some ((-1 : Int32), q5.2)
        else
          if a4 < (1 : Int32) then
            some ((-1 : Int32), q5.2)
          else
            if a4 ≤ q5.1 then
              (jrecv q5.2 a0 8).bind fun u17 =>
              (f_X11_readyForHecke a0 a1 a2 q5.2).bind fun q7 =>
              (jgR q7.2 q7.1 5 2).bind fun v9 =>
              (jaR q7.2 v9 a3).bind fun v11 =>
              (jrecv q7.2 q7.1 5).bind fun u15 =>
              (f_X7_heckeAt q7.1 v11 a2 a4 q7.2).bind fun q13 =>
              some (q13.1, q13.2)
            else
              some ((-1 : Int32), q5.2)

def f_X11_polynomial (a0 : Nat) (a1 : Int32) (a2 : Int32) (a3 : Int32) (h : JH) : Option (Int32 × JH) :=
  (f_X11_isWeight a1 h).bind fun q1 =>
  if q1.1 = (0 : Int32) then
    some ((-1 : Int32), q1.2)
  else
    (f_X11_isHecke a2 q1.2).bind fun q3 =>
    if q3.1 = (0 : Int32) then
      some ((-1 : Int32), q3.2)
    else
      if a3 < (0 : Int32) then
        some ((-1 : Int32), q3.2)
      else
        (f_X11_cuspsOf a1 q3.2).bind fun q5 =>
        if a3 ≤ q5.1 then
          (jgR q5.2 a0 8 9).bind fun v7 =>
          (jrecv q5.2 a0 8).bind fun u27 =>
          (f_X11_readyForHecke a0 a1 a2 q5.2).bind fun q9 =>
          (jrecv q9.2 v7 3).bind fun u25 =>
          (f_X5_load v7 q9.1 a2 q9.2).bind fun q11 =>
          (jgR q11.2 a0 8 9).bind fun v13 =>
          (jrecv q11.2 v13 3).bind fun u23 =>
          (f_X5_findPolynomial v13 q11.2).bind fun q15 =>
          (jgR q15.2 a0 8 9).bind fun v17 =>
          (jgR q15.2 v17 3 0).bind fun v19 =>
          (jaI q15.2 v19 a3).bind fun v21 =>
          some (v21, q15.2)
        else
          some ((-1 : Int32), q5.2)

def f_X11_spaceWithRoots (a0 : Nat) (a1 : Int32) (h : JH) : Option (Nat × JH) :=
  (jgR h a0 8 8).bind fun v1 =>
  (jgI h a0 8 2).bind fun v3 =>
  (f_X11_cuspsOf a1 h).bind fun q5 =>
  (jrecv q5.2 v1 6).bind fun u39 =>
  (f_X8_ready v1 a1 v3 (q5.1 * (2 : Int32)) q5.2).bind fun q7 =>
  (jgI q7.2 q7.1 5 7).bind fun v9 =>
  (jgI q7.2 a0 8 2).bind fun v11 =>
  if v9 = v11 then
    some (q7.1, q7.2)
  else
    (jgR q7.2 a0 8 9).bind fun v13 =>
    (jrecv q7.2 v13 3).bind fun u37 =>
    (f_X5_load v13 q7.1 (2 : Int32) q7.2).bind fun q15 =>
    (jgR q15.2 a0 8 9).bind fun v17 =>
    (jrecv q15.2 v17 3).bind fun u35 =>
    (f_X5_findPolynomial v17 q15.2).bind fun q19 =>
    (jgR q19.2 a0 8 9).bind fun v21 =>
    (jgR q19.2 q7.1 5 5).bind fun v23 =>
    (jrecv q19.2 v21 3).bind fun u33 =>
    (f_X5_findRoots v21 v23 q19.2).bind fun q25 =>
    (jput q25.2 q7.1 5 6 (.int q25.1)).bind fun h27 =>
    (jgI h27 a0 8 2).bind fun v29 =>
    (jput h27 q7.1 5 7 (.int v29)).bind fun h31 =>
    some (q7.1, h31)

def f_X11_root (a0 : Nat) (a1 : Int32) (a2 : Int32) (h : JH) : Option (Int32 × JH) :=
  (f_X11_isWeight a1 h).bind fun q1 =>
  if q1.1 = (0 : Int32) then
    some ((-1 : Int32), q1.2)
  else
    (jrecv q1.2 a0 8).bind fun u13 =>
    (f_X11_spaceWithRoots a0 a1 q1.2).bind fun q3 =>
    if a2 = (-1 : Int32) then
      (jgI q3.2 q3.1 5 6).bind fun v11 =>
      some (v11, q3.2)
    else
      if a2 < (0 : Int32) then
        some ((-1 : Int32), q3.2)
      else
        (jgI q3.2 q3.1 5 6).bind fun v5 =>
        if v5 ≤ a2 then
          some ((-1 : Int32), q3.2)
        else
          (jgR q3.2 q3.1 5 5).bind fun v7 =>
          (jaI q3.2 v7 a2).bind fun v9 =>
          some (v9, q3.2)

def f_X11_own (a0 : Nat) (a1 : Int32) (a2 : Int32) (a3 : Int32) (h : JH) : Option (Int32 × JH) :=
  (f_X11_isRegister a1 h).bind fun q1 =>
  if q1.1 = (0 : Int32) then
    some ((-1 : Int32), q1.2)
  else
    (f_X11_isWeight a2 q1.2).bind fun q3 =>
    if q3.1 = (0 : Int32) then
      some ((-1 : Int32), q3.2)
    else
      (jrecv q3.2 a0 8).bind fun u55 =>
      (f_X11_spaceWithRoots a0 a2 q3.2).bind fun q5 =>
      if a3 < (0 : Int32) then
        some ((-1 : Int32), q5.2)
      else
        (jgI q5.2 q5.1 5 6).bind fun v7 =>
        if a3 < v7 then
          (jgR q5.2 a0 8 9).bind fun v9 =>
          (jrecv q5.2 v9 3).bind fun u53 =>
          (f_X5_load v9 q5.1 (2 : Int32) q5.2).bind fun q11 =>
          (jgR q11.2 a0 8 11).bind fun v13 =>
          (jrecv q11.2 v13 1).bind fun u51 =>
          (f_X2_setNumber v13 (0 : Int32) q11.2).bind fun q15 =>
          (jgR q15.2 a0 8 9).bind fun v17 =>
          (jgR q15.2 q5.1 5 5).bind fun v19 =>
          (jaI q15.2 v19 a3).bind fun v21 =>
          (jgR q15.2 a0 8 11).bind fun v23 =>
          (jgR q15.2 v23 1 1).bind fun v25 =>
          (jrecv q15.2 v17 3).bind fun u49 =>
          (f_X5_findOwn v17 v21 v25 q15.2).bind fun q27 =>
          if q27.1 = (0 : Int32) then
            some ((-2 : Int32), q27.2)
          else
            (jgR q27.2 a0 8 11).bind fun v29 =>
            (jrecv q27.2 q5.1 5).bind fun u47 =>
            (f_X7_complete q5.1 v29 q27.2).bind fun q31 =>
            (jgR q31.2 a0 8 5).bind fun v33 =>
            (jaR q31.2 v33 a1).bind fun v35 =>
            (jgR q31.2 a0 8 11).bind fun v37 =>
            (jrecv q31.2 v35 1).bind fun u45 =>
            (f_X2_copyFrom v35 v37 q31.2).bind fun q39 =>
            (jgR q39.2 q5.1 5 5).bind fun v41 =>
            (jaI q39.2 v41 a3).bind fun v43 =>
            some (v43, q39.2)
        else
          some ((-1 : Int32), q5.2)

def f_X11_findFreshTraces_L2 (a0 : Nat) (a1 : Int32) (z : Int32) (h : JH) : Option ((Int32 ⊕ (Int32 ⊕ Int32)) × JH) :=
  if (12 : Int32) < z then
    some (.inr (.inr z), h)
  else
    (jgR h a0 8 12).bind fun v1 =>
    (f_X10_exact a1 z h).bind fun q3 =>
    (jsJ q3.2 v1 (z - (1 : Int32)) q3.1).bind fun h5 =>
    (jgR h5 a0 8 12).bind fun v7 =>
    (jaJ h5 v7 (z - (1 : Int32))).bind fun v9 =>
    if (lg_cmp v9 (-9223372036854775808 : Int64)) = (0 : Int32) then
      some (.inr (.inl (0 : Int32)), h5)
    else
      some (.inl (z + (1 : Int32)), h5)

def f_X11_findFreshTraces (a0 : Nat) (a1 : Int32) (h : JH) : Option (Int32 × JH) :=
  (jloop (f_X11_findFreshTraces_L2 a0 a1) jF (1 : Int32) h).bind fun q13 =>
  Sum.elim (fun r16 => some (r16, q13.2)) (fun t15 =>
    some ((1 : Int32), q13.2)) q13.1

def f_X11_isRow (a0 : Int32) (a1 : Int32) (h : JH) : Option (Int32 × JH) :=
  if a0 < (0 : Int32) then
    some ((0 : Int32), h)
  else
    if (2 : Int32) ≤ a0 then
      some ((0 : Int32), h)
    else
      if a1 < (0 : Int32) then
        some ((0 : Int32), h)
      else
        if (4 : Int32) ≤ a1 then
          some ((0 : Int32), h)
        else
          some ((1 : Int32), h)

def f_X11_put_L83 (a0 : Nat) (a1 : Int32) (a2 : Int32) (a5 : Nat) (z : Int32) (h : JH) : Option ((Int32 ⊕ Int32) × JH) :=
  if (13 : Int32) ≤ z then
    some (.inr z, h)
  else
    (jgR h a0 8 5).bind fun v17 =>
    (jaR h v17 (0 : Int32)).bind fun v19 =>
    (jrecv h a0 8).bind fun u25 =>
    (f_X11_coefficientOf a0 v19 z h).bind fun q21 =>
    (jsJ q21.2 a5 z q21.1.toInt64).bind fun h23 =>
    some (.inl (z + (1 : Int32)), h23)

def f_X11_put (a0 : Nat) (a1 : Int32) (a2 : Int32) (a3 : Int32) (a4 : Int32) (h : JH) : Option (Int32 × JH) :=
  (f_X11_isRow a1 a2 h).bind fun q1 =>
  if q1.1 = (0 : Int32) then
    some ((0 : Int32), q1.2)
  else
    if a3 = (0 : Int32) then
      (jgR q1.2 a0 8 6).bind fun v3 =>
      (jaR q1.2 v3 a1).bind fun v5 =>
      (jgI q1.2 v5 4 0).bind fun v7 =>
      if v7 = a3 then
        (jgR q1.2 a0 8 6).bind fun v9 =>
        (jaR q1.2 v9 a1).bind fun v11 =>
        (jgR q1.2 v11 4 2).bind fun v13 =>
        (jaR q1.2 v13 a2).bind fun v15 =>
        if a3 = (0 : Int32) then
          (jloop (f_X11_put_L83 a0 a1 a2 v15) jF (0 : Int32) q1.2).bind fun q28 =>
          (jgR q28.2 a0 8 6).bind fun v30 =>
          (jaR q28.2 v30 a1).bind fun v32 =>
          (jgR q28.2 v32 4 1).bind fun v34 =>
          (jsB q28.2 v34 a2 (1 : Int32)).bind fun h36 =>
          some ((1 : Int32), h36)
        else
          (jrecv q1.2 a0 8).bind fun u52 =>
          (f_X11_findFreshTraces a0 a4 q1.2).bind fun q38 =>
          if q38.1 = (0 : Int32) then
            some ((0 : Int32), q38.2)
          else
            (jgR q38.2 a0 8 12).bind fun v40 =>
            (jcJ q38.2 v40 (0 : Int32) v15 (0 : Int32) (12 : Int32)).bind fun h42 =>
            (jgR h42 a0 8 6).bind fun v44 =>
            (jaR h42 v44 a1).bind fun v46 =>
            (jgR h42 v46 4 1).bind fun v48 =>
            (jsB h42 v48 a2 (1 : Int32)).bind fun h50 =>
            some ((1 : Int32), h50)
      else
        some ((0 : Int32), q1.2)
    else
      (f_X10_isAsked a4 (1 : Int32) q1.2).bind fun q54 =>
      if q54.1 = (0 : Int32) then
        some ((0 : Int32), q54.2)
      else
        (jgR q54.2 a0 8 6).bind fun v56 =>
        (jaR q54.2 v56 a1).bind fun v58 =>
        (jgI q54.2 v58 4 0).bind fun v60 =>
        if v60 = a3 then
          (jgR q54.2 a0 8 6).bind fun v62 =>
          (jaR q54.2 v62 a1).bind fun v64 =>
          (jgR q54.2 v64 4 2).bind fun v66 =>
          (jaR q54.2 v66 a2).bind fun v68 =>
          if a3 = (0 : Int32) then
            (jloop (f_X11_put_L83 a0 a1 a2 v68) jF (0 : Int32) q54.2).bind fun q70 =>
            (jgR q70.2 a0 8 6).bind fun v72 =>
            (jaR q70.2 v72 a1).bind fun v74 =>
            (jgR q70.2 v74 4 1).bind fun v76 =>
            (jsB q70.2 v76 a2 (1 : Int32)).bind fun h78 =>
            some ((1 : Int32), h78)
          else
            (jrecv q54.2 a0 8).bind fun u94 =>
            (f_X11_findFreshTraces a0 a4 q54.2).bind fun q80 =>
            if q80.1 = (0 : Int32) then
              some ((0 : Int32), q80.2)
            else
              (jgR q80.2 a0 8 12).bind fun v82 =>
              (jcJ q80.2 v82 (0 : Int32) v68 (0 : Int32) (12 : Int32)).bind fun h84 =>
              (jgR h84 a0 8 6).bind fun v86 =>
              (jaR h84 v86 a1).bind fun v88 =>
              (jgR h84 v88 4 1).bind fun v90 =>
              (jsB h84 v90 a2 (1 : Int32)).bind fun h92 =>
              some ((1 : Int32), h92)
        else
          some ((0 : Int32), q54.2)

def f_X11_row (a0 : Nat) (a1 : Int32) (a2 : Int32) (a3 : Int32) (h : JH) : Option ((Option Int64) × JH) :=
  (f_X11_isRow a1 a2 h).bind fun q1 =>
  if q1.1 = (0 : Int32) then
    some (none, jexc q1.2)
  else
    (jgR q1.2 a0 8 6).bind fun v3 =>
    (jaR q1.2 v3 a1).bind fun v5 =>
    (jgR q1.2 v5 4 1).bind fun v7 =>
    (jaB q1.2 v7 a2).bind fun v9 =>
    if v9 = (0 : Int32) then
      some (none, jexc q1.2)
    else
      if a3 < (0 : Int32) then
        some (none, jexc q1.2)
      else
        (jgR q1.2 a0 8 6).bind fun v11 =>
        (jaR q1.2 v11 a1).bind fun v13 =>
        (jrecv q1.2 v13 4).bind fun u27 =>
        (f_X6_numbersInRow v13 q1.2).bind fun q15 =>
        if a3 < q15.1 then
          (jgR q15.2 a0 8 6).bind fun v17 =>
          (jaR q15.2 v17 a1).bind fun v19 =>
          (jgR q15.2 v19 4 2).bind fun v21 =>
          (jaR q15.2 v21 a2).bind fun v23 =>
          (jaJ q15.2 v23 a3).bind fun v25 =>
          some (some v25, q15.2)
        else
          some (none, jexc q15.2)

def f_X11_swap_L2 (a0 : Nat) (z : Int32) (h : JH) : Option ((Int32 ⊕ Int32) × JH) :=
  if (2 : Int32) ≤ z then
    some (.inr z, h)
  else
    (jgR h a0 8 6).bind fun v1 =>
    (jaR h v1 z).bind fun v3 =>
    (jgR h a0 8 6).bind fun v5 =>
    (jaR h v5 z).bind fun v7 =>
    (jgI h v7 4 0).bind fun v9 =>
    if v9 = (0 : Int32) then
      (jput h v3 4 0 (.int (1 : Int32))).bind fun h21 =>
      (jgR h21 a0 8 6).bind fun v23 =>
      (jaR h21 v23 z).bind fun v25 =>
      (jrecv h21 v25 4).bind fun u29 =>
      (f_X6_empty v25 h21).bind fun q27 =>
      some (.inl (z + (1 : Int32)), q27.2)
    else
      (jput h v3 4 0 (.int (0 : Int32))).bind fun h11 =>
      (jgR h11 a0 8 6).bind fun v13 =>
      (jaR h11 v13 z).bind fun v15 =>
      (jrecv h11 v15 4).bind fun u19 =>
      (f_X6_empty v15 h11).bind fun q17 =>
      some (.inl (z + (1 : Int32)), q17.2)

def f_X11_swap (a0 : Nat) (h : JH) : Option (Int32 × JH) :=
  (jloop (f_X11_swap_L2 a0) jF (0 : Int32) h).bind fun q33 =>
  (jgR q33.2 a0 8 6).bind fun v35 =>
  (jaR q33.2 v35 (0 : Int32)).bind fun v37 =>
  (jgI q33.2 v37 4 0).bind fun v39 =>
  if v39 = (0 : Int32) then
    some ((0 : Int32), q33.2)
  else
    some ((1 : Int32), q33.2)

def f_X11_image (a0 : Nat) (a1 : Int32) (a2 : Int32) (h : JH) : Option (Int32 × JH) :=
  if a1 < (0 : Int32) then
    some ((0 : Int32), h)
  else
    if a1 < (2 : Int32) then
      if a2 = (0 : Int32) then
        (jgR h a0 8 7).bind fun v15 =>
        (jaR h v15 a1).bind fun v17 =>
        (jgR h a0 8 5).bind fun v19 =>
        (jgR h a0 8 6).bind fun v21 =>
        (jrecv h v17 2).bind fun u25 =>
        (f_X3_lay v17 v19 v21 h).bind fun q23 =>
        some ((1 : Int32), q23.2)
      else
        (jgR h a0 8 7).bind fun v1 =>
        (jaR h v1 a1).bind fun v3 =>
        (jgR h a0 8 5).bind fun v5 =>
        (jgR h a0 8 6).bind fun v7 =>
        (jrecv h v3 2).bind fun u13 =>
        (f_X3_bringBack v3 v5 v7 h).bind fun q9 =>
        (jzb q9.1).bind fun u11 =>
        some (q9.1, q9.2)
    else
      some ((0 : Int32), h)

def f_X12_thrown (a0 : Nat) (h : JH) : Option (Int32 × JH) :=
  (jgI h a0 9 0).bind fun v1 =>
  some (v1, h)

def f_X12_within (a0 : Int32) (a1 : Int32) (a2 : Int32) (h : JH) : Option (Int32 × JH) :=
  if a0 < a1 then
    some ((0 : Int32), h)
  else
    if a2 < a0 then
      some ((0 : Int32), h)
    else
      some ((1 : Int32), h)

def f_X12_left (a0 : Nat) (a1 : Int64) (h : JH) : Option (Int32 × JH) :=
  (jgI h a0 9 1).bind fun v1 =>
  (jnzL v1.toInt64).bind fun u3 =>
  if (0 : Int32) ≤ (lg_cmp (jremL a1 v1.toInt64) (0 : Int64)) then
    some ((jremL a1 v1.toInt64).toInt32, h)
  else
    (jgI h a0 9 1).bind fun v5 =>
    some (((jremL a1 v1.toInt64) + v5.toInt64).toInt32, h)

def f_X12_power_L5 (a0 : Nat) (a1 : Int32) (a2 : Int32) (z : (Int64 × Int32)) (h : JH) : Option (((Int64 × Int32) ⊕ (Int64 × Int32)) × JH) :=
  if a2 ≤ z.2 then
    some (.inr (z.1, z.2), h)
  else
    (jgI h a0 9 1).bind fun v1 =>
    (jnzL v1.toInt64).bind fun u3 =>
    some (.inl (jremL (z.1 * a1.toInt64) v1.toInt64, z.2 + (1 : Int32)), h)

def f_X12_power (a0 : Nat) (a1 : Int32) (a2 : Int32) (h : JH) : Option (Int32 × JH) :=
  (jloop (f_X12_power_L5 a0 a1 a2) jF ((1 : Int64), (0 : Int32)) h).bind fun q6 =>
  some (q6.1.1.toInt32, q6.2)

def f_X12_inverse_L14 (a0 : Nat) (z : (Int64 × Int64 × Int32)) (h : JH) : Option (((Int64 × Int64 × Int32) ⊕ (Int64 × Int64 × Int32)) × JH) :=
  if z.2.2 ≤ (0 : Int32) then
    some (.inr (z.1, z.2.1, z.2.2), h)
  else
    if (jrem z.2.2 (2 : Int32)) = (1 : Int32) then
      (jgI h a0 9 1).bind fun v7 =>
      (jnzL v7.toInt64).bind fun u9 =>
      (jgI h a0 9 1).bind fun v11 =>
      (jnzL v11.toInt64).bind fun u13 =>
      some (.inl (jremL (z.1 * z.2.1) v7.toInt64, jremL (z.2.1 * z.2.1) v11.toInt64, z.2.2 / (2 : Int32)), h)
    else
      (jgI h a0 9 1).bind fun v3 =>
      (jnzL v3.toInt64).bind fun u5 =>
      some (.inl (z.1, jremL (z.2.1 * z.2.1) v3.toInt64, z.2.2 / (2 : Int32)), h)

def f_X12_inverse (a0 : Nat) (a1 : Int32) (h : JH) : Option (Int32 × JH) :=
  (jgI h a0 9 1).bind fun v1 =>
  (jloop (f_X12_inverse_L14 a0) jF ((1 : Int64), a1.toInt64, v1 - (2 : Int32)) h).bind fun q17 =>
  some (q17.1.1.toInt32, q17.2)

def f_X12_isPrime_L4 (a0 : Int32) (z : (Int32 × Int32)) (h : JH) : Option (((Int32 × Int32) ⊕ (Int32 × Int32)) × JH) :=
  if a0 < (z.2 * z.2) then
    some (.inr (z.1, z.2), h)
  else
    if z.1 = (0 : Int32) then
      some (.inr (z.1, z.2), h)
    else
      (jnz z.2).bind fun u1 =>
      if (jrem a0 z.2) = (0 : Int32) then
        some (.inl ((0 : Int32), z.2 + (1 : Int32)), h)
      else
        some (.inl ((1 : Int32), z.2 + (1 : Int32)), h)

def f_X12_isPrime (a0 : Int32) (h : JH) : Option (Int32 × JH) :=
  (jloop (f_X12_isPrime_L4 a0) jF ((1 : Int32), (2 : Int32)) h).bind fun q6 =>
  (jzb q6.1.1).bind fun u8 =>
  some (q6.1.1, q6.2)

def f_X12_copies_L3 (a0 : Nat) (a1 : Int32) (a2 : Nat) (a3 : Int32) (z : Int32) (h : JH) : Option ((Int32 ⊕ Int32) × JH) :=
  if (181 : Int32) ≤ z then
    some (.inr z, h)
  else
    (jaI h a0 (a1 + z)).bind fun v1 =>
    (jsI h a2 (a3 + z) v1).bind fun h3 =>
    some (.inl (z + (1 : Int32)), h3)

def f_X12_copies (a0 : Nat) (a1 : Int32) (a2 : Nat) (a3 : Int32) (h : JH) : Option (Unit × JH) :=
  (jloop (f_X12_copies_L3 a0 a1 a2 a3) jF (0 : Int32) h).bind fun q6 =>
  some ((), q6.2)

def f_X12_multiplies_L17 (a0 : Nat) (a1 : Nat) (a2 : Int32) (a3 : Nat) (a4 : Int32) (a5 : Nat) (a6 : Int32) (z : (Int64 × Int32)) (h : JH) : Option (((Int64 × Int32) ⊕ (Int64 × Int32)) × JH) :=
  if a6 < z.2 then
    some (.inr (z.1, z.2), h)
  else
    (jaI h a1 (a2 + z.2)).bind fun v1 =>
    (jaI h a3 ((a4 + a6) - z.2)).bind fun v3 =>
    some (.inl (z.1 + (v1.toInt64 * v3.toInt64), z.2 + (1 : Int32)), h)

def f_X12_multiplies_L3 (a0 : Nat) (a1 : Nat) (a2 : Int32) (a3 : Nat) (a4 : Int32) (a5 : Nat) (z : Int32) (h : JH) : Option ((Int32 ⊕ Int32) × JH) :=
  if (181 : Int32) ≤ z then
    some (.inr z, h)
  else
    (jloop (f_X12_multiplies_L17 a0 a1 a2 a3 a4 a5 z) jF ((0 : Int64), (0 : Int32)) h).bind fun q1 =>
    (jrecv q1.2 a0 9).bind fun u7 =>
    (f_X12_left a0 q1.1.1 q1.2).bind fun q3 =>
    (jsI q3.2 a5 z q3.1).bind fun h5 =>
    some (.inl (z + (1 : Int32)), h5)

def f_X12_multiplies (a0 : Nat) (a1 : Nat) (a2 : Int32) (a3 : Nat) (a4 : Int32) (a5 : Nat) (h : JH) : Option (Unit × JH) :=
  (jloop (f_X12_multiplies_L3 a0 a1 a2 a3 a4 a5) jF (0 : Int32) h).bind fun q10 =>
  some ((), q10.2)

def f_X12_laysBasic_L17 (a0 : Nat) (a1 : Int32) (z : (Int64 × Int64 × Int32)) (h : JH) : Option (((Int64 × Int64 × Int32) ⊕ (Int64 × Int64 × Int32)) × JH) :=
  if a1 < z.2.2 then
    some (.inr (z.1, z.2.1, z.2.2), h)
  else
    (jnz z.2.2).bind fun u1 =>
    if (jrem a1 z.2.2) = (0 : Int32) then
      (jgI h a0 9 1).bind fun v3 =>
      (jnz v3).bind fun u5 =>
      (jrecv h a0 9).bind fun u17 =>
      (f_X12_power a0 (jrem z.2.2 v3) (3 : Int32) h).bind fun q7 =>
      (jgI q7.2 a0 9 1).bind fun v9 =>
      (jnz v9).bind fun u11 =>
      (jrecv q7.2 a0 9).bind fun u15 =>
      (f_X12_power a0 (jrem z.2.2 v9) (5 : Int32) q7.2).bind fun q13 =>
      some (.inl (z.1 + q7.1.toInt64, z.2.1 + q13.1.toInt64, z.2.2 + (1 : Int32)), q13.2)
    else
      some (.inl (z.1, z.2.1, z.2.2 + (1 : Int32)), h)

def f_X12_laysBasic_L2 (a0 : Nat) (z : Int32) (h : JH) : Option ((Int32 ⊕ Int32) × JH) :=
  if (181 : Int32) ≤ z then
    some (.inr z, h)
  else
    (jloop (f_X12_laysBasic_L17 a0 z) jF ((0 : Int64), (0 : Int64), (1 : Int32)) h).bind fun q1 =>
    (jgR q1.2 a0 9 2).bind fun v3 =>
    if z = (0 : Int32) then
      (jsI q1.2 v3 z (1 : Int32)).bind fun h21 =>
      (jgR h21 a0 9 3).bind fun v23 =>
      if z = (0 : Int32) then
        (jsI h21 v23 z (1 : Int32)).bind fun h31 =>
        some (.inl (z + (1 : Int32)), h31)
      else
        (jrecv h21 a0 9).bind fun u29 =>
        (f_X12_left a0 ((-504 : Int64) * q1.1.2.1) h21).bind fun q25 =>
        (jsI q25.2 v23 z q25.1).bind fun h27 =>
        some (.inl (z + (1 : Int32)), h27)
    else
      (jrecv q1.2 a0 9).bind fun u19 =>
      (f_X12_left a0 ((240 : Int64) * q1.1.1) q1.2).bind fun q5 =>
      (jsI q5.2 v3 z q5.1).bind fun h7 =>
      (jgR h7 a0 9 3).bind fun v9 =>
      if z = (0 : Int32) then
        (jsI h7 v9 z (1 : Int32)).bind fun h17 =>
        some (.inl (z + (1 : Int32)), h17)
      else
        (jrecv h7 a0 9).bind fun u15 =>
        (f_X12_left a0 ((-504 : Int64) * q1.1.2.1) h7).bind fun q11 =>
        (jsI q11.2 v9 z q11.1).bind fun h13 =>
        some (.inl (z + (1 : Int32)), h13)

def f_X12_laysBasic_L191 (a0 : Nat) (a1 : Int32) (z : Int32) (h : JH) : Option ((Int32 ⊕ Int32) × JH) :=
  if (181 : Int32) ≤ z then
    some (.inr z, h)
  else
    (jgR h a0 9 4).bind fun v67 =>
    (jgR h a0 9 4).bind fun v69 =>
    (jaI h v69 z).bind fun v71 =>
    (jgR h a0 9 5).bind fun v73 =>
    (jaI h v73 z).bind fun v75 =>
    (jrecv h a0 9).bind fun u81 =>
    (f_X12_left a0 (((v71 - v75).toInt64) * a1.toInt64) h).bind fun q77 =>
    (jsI q77.2 v67 z q77.1).bind fun h79 =>
    some (.inl (z + (1 : Int32)), h79)

def f_X12_laysBasic (a0 : Nat) (h : JH) : Option (Unit × JH) :=
  (jloop (f_X12_laysBasic_L2 a0) jF (0 : Int32) h).bind fun q37 =>
  (jgR q37.2 a0 9 2).bind fun v39 =>
  (jgR q37.2 a0 9 2).bind fun v41 =>
  (jgR q37.2 a0 9 5).bind fun v43 =>
  (jrecv q37.2 a0 9).bind fun u94 =>
  (f_X12_multiplies a0 v39 (0 : Int32) v41 (0 : Int32) v43 q37.2).bind fun q45 =>
  (jgR q45.2 a0 9 5).bind fun v47 =>
  (jgR q45.2 a0 9 2).bind fun v49 =>
  (jgR q45.2 a0 9 4).bind fun v51 =>
  (jrecv q45.2 a0 9).bind fun u92 =>
  (f_X12_multiplies a0 v47 (0 : Int32) v49 (0 : Int32) v51 q45.2).bind fun q53 =>
  (jgR q53.2 a0 9 3).bind fun v55 =>
  (jgR q53.2 a0 9 3).bind fun v57 =>
  (jgR q53.2 a0 9 5).bind fun v59 =>
  (jrecv q53.2 a0 9).bind fun u90 =>
  (f_X12_multiplies a0 v55 (0 : Int32) v57 (0 : Int32) v59 q53.2).bind fun q61 =>
  (jrecv q61.2 a0 9).bind fun u88 =>
  (f_X12_left a0 (1728 : Int64) q61.2).bind fun q63 =>
  (jrecv q63.2 a0 9).bind fun u86 =>
  (f_X12_inverse a0 q63.1 q63.2).bind fun q65 =>
  (jloop (f_X12_laysBasic_L191 a0 q65.1) jF (0 : Int32) q65.2).bind fun q84 =>
  some ((), q84.2)

def f_X12_longOf (a0 : Int32) (h : JH) : Option (Int32 × JH) :=
  if (jrem a0 (12 : Int32)) = (2 : Int32) then
    some ((a0 / (12 : Int32)) + (0 : Int32), h)
  else
    some ((a0 / (12 : Int32)) + (1 : Int32), h)

def f_X12_isWeight (a0 : Int32) (h : JH) : Option (Int32 × JH) :=
  (f_X12_within a0 (0 : Int32) (60 : Int32) h).bind fun q1 =>
  if q1.1 = (0 : Int32) then
    some ((0 : Int32), q1.2)
  else
    if (jrem a0 (2 : Int32)) = (0 : Int32) then
      some ((1 : Int32), q1.2)
    else
      some ((0 : Int32), q1.2)

def f_X12_laysRows_L52 (a0 : Nat) (a1 : Int32) (a2 : Int32) (a4 : Int32) (a5 : Int32) (z : Int32) (h : JH) : Option ((Int32 ⊕ Int32) × JH) :=
  if (181 : Int32) ≤ z then
    some (.inr z, h)
  else
    (jgR h a0 9 5).bind fun v7 =>
    if z = (0 : Int32) then
      (jsI h v7 z (1 : Int32)).bind fun h11 =>
      some (.inl (z + (1 : Int32)), h11)
    else
      (jsI h v7 z (0 : Int32)).bind fun h9 =>
      some (.inl (z + (1 : Int32)), h9)

def f_X12_laysRows_L86 (a0 : Nat) (a1 : Int32) (a2 : Int32) (a4 : Int32) (a5 : Int32) (z : Int32) (h : JH) : Option ((Int32 ⊕ Int32) × JH) :=
  if ((a5 + a4) + a2) ≤ z then
    some (.inr z, h)
  else
    (jgR h a0 9 5).bind fun v17 =>
    if a5 ≤ z then
      if (a5 + a4) ≤ z then
        (jgR h a0 9 4).bind fun v19 =>
        (jgR h a0 9 6).bind fun v21 =>
        (jrecv h a0 9).bind fun u31 =>
        (f_X12_multiplies a0 v17 (0 : Int32) v19 (0 : Int32) v21 h).bind fun q23 =>
        (jgR q23.2 a0 9 6).bind fun v25 =>
        (jgR q23.2 a0 9 5).bind fun v27 =>
        (f_X12_copies v25 (0 : Int32) v27 (0 : Int32) q23.2).bind fun q29 =>
        some (.inl (z + (1 : Int32)), q29.2)
      else
        (jgR h a0 9 3).bind fun v33 =>
        (jgR h a0 9 6).bind fun v35 =>
        (jrecv h a0 9).bind fun u45 =>
        (f_X12_multiplies a0 v17 (0 : Int32) v33 (0 : Int32) v35 h).bind fun q37 =>
        (jgR q37.2 a0 9 6).bind fun v39 =>
        (jgR q37.2 a0 9 5).bind fun v41 =>
        (f_X12_copies v39 (0 : Int32) v41 (0 : Int32) q37.2).bind fun q43 =>
        some (.inl (z + (1 : Int32)), q43.2)
    else
      (jgR h a0 9 2).bind fun v47 =>
      (jgR h a0 9 6).bind fun v49 =>
      (jrecv h a0 9).bind fun u59 =>
      (f_X12_multiplies a0 v17 (0 : Int32) v47 (0 : Int32) v49 h).bind fun q51 =>
      (jgR q51.2 a0 9 6).bind fun v53 =>
      (jgR q51.2 a0 9 5).bind fun v55 =>
      (f_X12_copies v53 (0 : Int32) v55 (0 : Int32) q51.2).bind fun q57 =>
      some (.inl (z + (1 : Int32)), q57.2)

def f_X12_laysRows_L16 (a0 : Nat) (a1 : Int32) (z : Int32) (h : JH) : Option ((Int32 ⊕ Int32) × JH) :=
  (f_X12_longOf a1 h).bind fun q5 =>
  if q5.1 ≤ z then
    some (.inr z, q5.2)
  else
    (jloop (f_X12_laysRows_L52 a0 a1 z ((jrem (a1 - ((12 : Int32) * z)) (4 : Int32)) / (2 : Int32)) (((a1 - ((12 : Int32) * z)) - ((6 : Int32) * ((jrem (a1 - ((12 : Int32) * z)) (4 : Int32)) / (2 : Int32)))) / (4 : Int32))) jF (0 : Int32) q5.2).bind fun q7 =>
    (jloop (f_X12_laysRows_L86 a0 a1 z ((jrem (a1 - ((12 : Int32) * z)) (4 : Int32)) / (2 : Int32)) (((a1 - ((12 : Int32) * z)) - ((6 : Int32) * ((jrem (a1 - ((12 : Int32) * z)) (4 : Int32)) / (2 : Int32)))) / (4 : Int32))) jF (0 : Int32) q7.2).bind fun q9 =>
    (jgR q9.2 a0 9 5).bind fun v11 =>
    (jgR q9.2 a0 9 8).bind fun v13 =>
    (f_X12_copies v11 (0 : Int32) v13 ((181 : Int32) * z) q9.2).bind fun q15 =>
    some (.inl (z + (1 : Int32)), q15.2)

def f_X12_laysRows (a0 : Nat) (a1 : Int32) (h : JH) : Option (Unit × JH) :=
  (jgI h a0 9 7).bind fun v1 =>
  if v1 = a1 then
    some ((), h)
  else
    (jput h a0 9 7 (.int a1)).bind fun h3 =>
    (jloop (f_X12_laysRows_L16 a0 a1) jF (0 : Int32) h3).bind fun q18 =>
    some ((), q18.2)

def f_X12_builds_L7 (a0 : Nat) (a1 : Int32) (z : Int32) (h : JH) : Option ((Int32 ⊕ Int32) × JH) :=
  if (181 : Int32) ≤ z then
    some (.inr z, h)
  else
    (jgR h a0 9 10).bind fun v3 =>
    (jsI h v3 z (0 : Int32)).bind fun h5 =>
    some (.inl (z + (1 : Int32)), h5)

def f_X12_builds_L59 (a0 : Nat) (a1 : Int32) (a2 : Int32) (a3 : Int32) (z : Int32) (h : JH) : Option ((Int32 ⊕ Int32) × JH) :=
  if (181 : Int32) ≤ z then
    some (.inr z, h)
  else
    (jgR h a0 9 10).bind fun v22 =>
    (jgR h a0 9 10).bind fun v24 =>
    (jaI h v24 z).bind fun v26 =>
    (jgR h a0 9 8).bind fun v28 =>
    (jaI h v28 (((181 : Int32) * a2) + z)).bind fun v30 =>
    (jrecv h a0 9).bind fun u36 =>
    (f_X12_left a0 (v26.toInt64 + (a3.toInt64 * v30.toInt64)) h).bind fun q32 =>
    (jsI q32.2 v22 z q32.1).bind fun h34 =>
    some (.inl (z + (1 : Int32)), h34)

def f_X12_builds_L29 (a0 : Nat) (a1 : Int32) (z : Int32) (h : JH) : Option ((Int32 ⊕ Int32) × JH) :=
  (f_X12_longOf a1 h).bind fun q10 =>
  if q10.1 ≤ z then
    some (.inr z, q10.2)
  else
    (jgR q10.2 a0 9 9).bind fun v12 =>
    (jaI q10.2 v12 z).bind fun v14 =>
    (jgR q10.2 a0 9 10).bind fun v16 =>
    (jaI q10.2 v16 z).bind fun v18 =>
    (jrecv q10.2 a0 9).bind fun u24 =>
    (f_X12_left a0 ((v14 - v18).toInt64) q10.2).bind fun q20 =>
    (jloop (f_X12_builds_L59 a0 a1 z q20.1) jF z q20.2).bind fun q22 =>
    some (.inl (z + (1 : Int32)), q22.2)

def f_X12_builds (a0 : Nat) (a1 : Int32) (h : JH) : Option (Unit × JH) :=
  (jrecv h a0 9).bind fun u29 =>
  (f_X12_laysRows a0 a1 h).bind fun q1 =>
  (jloop (f_X12_builds_L7 a0 a1) jF (0 : Int32) q1.2).bind fun q8 =>
  (jloop (f_X12_builds_L29 a0 a1) jF (0 : Int32) q8.2).bind fun q27 =>
  some ((), q27.2)

def f_X12_heckeAt_L13 (a0 : Nat) (a1 : Nat) (a2 : Int32) (a3 : Int32) (a4 : Int32) (a5 : Int32) (z : (Int64 × Int32)) (h : JH) : Option (((Int64 × Int32) ⊕ (Int64 × Int32)) × JH) :=
  if a4 < z.2 then
    some (.inr (z.1, z.2), h)
  else
    (jnz z.2).bind fun u1 =>
    if (jrem a4 z.2) = (0 : Int32) then
      (jnz z.2).bind fun u3 =>
      if (jrem a5 z.2) = (0 : Int32) then
        (jrecv h a0 9).bind fun u11 =>
        (f_X12_power a0 z.2 (a3 - (1 : Int32)) h).bind fun q5 =>
        (jnz (z.2 * z.2)).bind fun u7 =>
        (jaI q5.2 a1 (a2 + ((a5 * a4) / (z.2 * z.2)))).bind fun v9 =>
        some (.inl (z.1 + (q5.1.toInt64 * v9.toInt64), z.2 + (1 : Int32)), q5.2)
      else
        some (.inl (z.1, z.2 + (1 : Int32)), h)
    else
      some (.inl (z.1, z.2 + (1 : Int32)), h)

def f_X12_heckeAt (a0 : Nat) (a1 : Nat) (a2 : Int32) (a3 : Int32) (a4 : Int32) (a5 : Int32) (h : JH) : Option (Int32 × JH) :=
  if (2 : Int32) < a3 then
    (jloop (f_X12_heckeAt_L13 a0 a1 a2 a3 a4 a5) jF ((0 : Int64), (1 : Int32)) h).bind fun q16 =>
    (jrecv q16.2 a0 9).bind fun u20 =>
    (f_X12_left a0 q16.1.1 q16.2).bind fun q18 =>
    some (q18.1, q18.2)
  else
    some ((0 : Int32), h)

def f_X12_puts_L3 (a0 : Nat) (a1 : Int32) (z : Int32) (h : JH) : Option ((Int32 ⊕ Int32) × JH) :=
  if z < (0 : Int32) then
    some (.inr z, h)
  else
    (jgR h a0 9 11).bind fun v1 =>
    (jgI h a0 9 12).bind fun v3 =>
    (jsB h v1 v3 ((a1 >>> (z &&& 31)).toInt8.toInt32)).bind fun h5 =>
    (jgI h5 a0 9 12).bind fun v7 =>
    (jput h5 a0 9 12 (.int (v7 + (1 : Int32)))).bind fun h9 =>
    some (.inl (z + (-8 : Int32)), h9)

def f_X12_puts (a0 : Nat) (a1 : Int32) (h : JH) : Option (Unit × JH) :=
  (jloop (f_X12_puts_L3 a0 a1) jF (24 : Int32) h).bind fun q12 =>
  some ((), q12.2)

def f_X12_feed (a0 : Nat) (a1 : Int32) (a2 : Int32) (a3 : Int32) (a4 : Int32) (a5 : Int32) (h : JH) : Option (Int32 × JH) :=
  (jput h a0 9 0 (.int (0 : Int32))).bind fun h1 =>
  (jgI h1 a0 9 12).bind fun v3 =>
  if (v3 + (20 : Int32)) ≤ (600 : Int32) then
    (jrecv h1 a0 9).bind fun u25 =>
    (f_X12_puts a0 a1 h1).bind fun q5 =>
    (jrecv q5.2 a0 9).bind fun u23 =>
    (f_X12_puts a0 a2 q5.2).bind fun q7 =>
    (jrecv q7.2 a0 9).bind fun u21 =>
    (f_X12_puts a0 a3 q7.2).bind fun q9 =>
    (jrecv q9.2 a0 9).bind fun u19 =>
    (f_X12_puts a0 a4 q9.2).bind fun q11 =>
    (jrecv q11.2 a0 9).bind fun u17 =>
    (f_X12_puts a0 a5 q11.2).bind fun q13 =>
    (jgI q13.2 a0 9 12).bind fun v15 =>
    some (v15, q13.2)
  else
    some ((-1 : Int32), h1)

def f_X12_byteAt (a0 : Nat) (a1 : Int32) (h : JH) : Option (Int32 × JH) :=
  (jgI h a0 9 13).bind fun v1 =>
  if v1 ≤ a1 then
    some ((-1 : Int32), h)
  else
    (jgR h a0 9 11).bind fun v3 =>
    (jaB h v3 a1).bind fun v5 =>
    some (v5 &&& (255 : Int32), h)

def f_X12_isSign (a0 : Int32) (h : JH) : Option (Int32 × JH) :=
  if a0 = (59 : Int32) then
    some ((1 : Int32), h)
  else
    if a0 = (43 : Int32) then
      some ((1 : Int32), h)
    else
      if a0 = (45 : Int32) then
        some ((1 : Int32), h)
      else
        if a0 = (42 : Int32) then
          some ((1 : Int32), h)
        else
          if a0 = (94 : Int32) then
            some ((1 : Int32), h)
          else
            if a0 = (40 : Int32) then
              some ((1 : Int32), h)
            else
              if a0 = (41 : Int32) then
                some ((1 : Int32), h)
              else
                some ((0 : Int32), h)

def f_X12_go_L0 (a0 : Nat) (z : Unit) (h : JH) : Option ((Unit ⊕ Unit) × JH) :=
  (jgI h a0 9 15).bind fun v1 =>
  (jrecv h a0 9).bind fun u19 =>
  (f_X12_byteAt a0 v1 h).bind fun q3 =>
  if q3.1 = (32 : Int32) then
    (jgI q3.2 a0 9 15).bind fun v5 =>
    (jput q3.2 a0 9 15 (.int (v5 + (1 : Int32)))).bind fun h7 =>
    some (.inl (), h7)
  else
    (jgI q3.2 a0 9 15).bind fun v9 =>
    (jrecv q3.2 a0 9).bind fun u17 =>
    (f_X12_byteAt a0 v9 q3.2).bind fun q11 =>
    if q11.1 = (10 : Int32) then
      (jgI q11.2 a0 9 15).bind fun v13 =>
      (jput q11.2 a0 9 15 (.int (v13 + (1 : Int32)))).bind fun h15 =>
      some (.inl (), h15)
    else
      some (.inr (), q11.2)

def f_X12_go_L134 (a0 : Nat) (z : Unit) (h : JH) : Option ((Unit ⊕ Unit) × JH) :=
  (jgI h a0 9 15).bind fun v51 =>
  (jrecv h a0 9).bind fun u81 =>
  (f_X12_byteAt a0 v51 h).bind fun q53 =>
  (f_X12_within q53.1 (48 : Int32) (57 : Int32) q53.2).bind fun q55 =>
  if q55.1 = (0 : Int32) then
    some (.inr (), q55.2)
  else
    (jgI q55.2 a0 9 15).bind fun v57 =>
    (jgI q55.2 a0 9 14).bind fun v59 =>
    if (4 : Int32) ≤ (v57 - v59) then
      (jput q55.2 a0 9 17 (.int (99999 : Int32))).bind fun h61 =>
      (jgI h61 a0 9 15).bind fun v63 =>
      (jput h61 a0 9 15 (.int (v63 + (1 : Int32)))).bind fun h65 =>
      some (.inl (), h65)
    else
      (jgI q55.2 a0 9 17).bind fun v67 =>
      (jgI q55.2 a0 9 15).bind fun v69 =>
      (jrecv q55.2 a0 9).bind fun u79 =>
      (f_X12_byteAt a0 v69 q55.2).bind fun q71 =>
      (jput q71.2 a0 9 17 (.int ((((10 : Int32) * v67) + q71.1) - (48 : Int32)))).bind fun h73 =>
      (jgI h73 a0 9 15).bind fun v75 =>
      (jput h73 a0 9 15 (.int (v75 + (1 : Int32)))).bind fun h77 =>
      some (.inl (), h77)

def f_X12_go_L79 (a0 : Nat) (z : Unit) (h : JH) : Option ((Unit ⊕ Unit) × JH) :=
  (jgI h a0 9 15).bind fun v89 =>
  (jrecv h a0 9).bind fun u99 =>
  (f_X12_byteAt a0 v89 h).bind fun q91 =>
  (f_X12_within q91.1 (97 : Int32) (122 : Int32) q91.2).bind fun q93 =>
  if q93.1 = (0 : Int32) then
    some (.inr (), q93.2)
  else
    (jgI q93.2 a0 9 15).bind fun v95 =>
    (jput q93.2 a0 9 15 (.int (v95 + (1 : Int32)))).bind fun h97 =>
    some (.inl (), h97)

def f_X12_go (a0 : Nat) (h : JH) : Option (Unit × JH) :=
  (jloop (f_X12_go_L0 a0) jF () h).bind fun q23 =>
  (jgI q23.2 a0 9 15).bind fun v25 =>
  (jput q23.2 a0 9 14 (.int v25)).bind fun h27 =>
  (jgI h27 a0 9 15).bind fun v29 =>
  (jrecv h27 a0 9).bind fun u108 =>
  (f_X12_byteAt a0 v29 h27).bind fun q31 =>
  if (0 : Int32) ≤ q31.1 then
    (f_X12_within q31.1 (97 : Int32) (122 : Int32) q31.2).bind fun q33 =>
    if q33.1 = (0 : Int32) then
      (f_X12_within q31.1 (48 : Int32) (57 : Int32) q33.2).bind fun q35 =>
      if q35.1 = (0 : Int32) then
        (jgI q35.2 a0 9 15).bind fun v37 =>
        (jput q35.2 a0 9 15 (.int (v37 + (1 : Int32)))).bind fun h39 =>
        (jput h39 a0 9 17 (.int q31.1)).bind fun h41 =>
        (f_X12_isSign q31.1 h41).bind fun q43 =>
        if q43.1 = (0 : Int32) then
          (jput q43.2 a0 9 16 (.int (4 : Int32))).bind fun h45 =>
          some ((), h45)
        else
          (jput q43.2 a0 9 16 (.int (3 : Int32))).bind fun h47 =>
          some ((), h47)
      else
        (jput q35.2 a0 9 17 (.int (0 : Int32))).bind fun h49 =>
        (jloop (f_X12_go_L134 a0) jF () h49).bind fun q85 =>
        (jput q85.2 a0 9 16 (.int (2 : Int32))).bind fun h87 =>
        some ((), h87)
    else
      (jloop (f_X12_go_L79 a0) jF () q33.2).bind fun q102 =>
      (jput q102.2 a0 9 16 (.int (1 : Int32))).bind fun h104 =>
      some ((), h104)
  else
    (jput q31.2 a0 9 16 (.int (0 : Int32))).bind fun h106 =>
    some ((), h106)

def f_X12_badAt (a0 : Nat) (a1 : Int32) (a2 : Int32) (h : JH) : Option (Int32 × JH) :=
  (jgI h a0 9 18).bind fun v1 =>
  if v1 = (0 : Int32) then
    (jput h a0 9 18 (.int (((8 : Int32) * a1) + a2))).bind fun h7 =>
    some ((0 : Int32), h7)
  else
    (jgI h a0 9 18).bind fun v3 =>
    (jput h a0 9 18 (.int v3)).bind fun h5 =>
    some ((0 : Int32), h5)

def f_X12_bad (a0 : Nat) (a1 : Int32) (h : JH) : Option (Int32 × JH) :=
  (jgI h a0 9 14).bind fun v1 =>
  (jrecv h a0 9).bind fun u7 =>
  (f_X12_badAt a0 v1 a1 h).bind fun q3 =>
  (jzb q3.1).bind fun u5 =>
  some (q3.1, q3.2)

def f_X12_is (a0 : Nat) (a1 : Int32) (h : JH) : Option (Int32 × JH) :=
  (jgI h a0 9 16).bind fun v1 =>
  if v1 = (3 : Int32) then
    (jgI h a0 9 17).bind fun v3 =>
    if v3 = a1 then
      some ((1 : Int32), h)
    else
      some ((0 : Int32), h)
  else
    some ((0 : Int32), h)

def f_X12_sign (a0 : Nat) (a1 : Int32) (h : JH) : Option (Int32 × JH) :=
  (jrecv h a0 9).bind fun u13 =>
  (f_X12_is a0 a1 h).bind fun q1 =>
  if q1.1 = (0 : Int32) then
    (jrecv q1.2 a0 9).bind fun u11 =>
    (f_X12_bad a0 (1 : Int32) q1.2).bind fun q7 =>
    (jzb q7.1).bind fun u9 =>
    some (q7.1, q7.2)
  else
    (jrecv q1.2 a0 9).bind fun u5 =>
    (f_X12_go a0 q1.2).bind fun q3 =>
    some ((1 : Int32), q3.2)

def f_X12_isWord_J162 (b0 : Int32) (h : JH) : Option (Int32 × JH) :=
  (jzb b0).bind fun u7 =>
  some (b0, h)

def f_X12_isWord_J161  (h : JH) : Option (Int32 × JH) :=
  f_X12_isWord_J162  (0 : Int32) h

def f_X12_isWord_J145 (a5 : Int32) (a6 : Int32) (b0 : Int32) (h : JH) : Option (Int32 × JH) :=
  if b0 = a5 then
    if (6 : Int32) ≤ a6 then
      f_X12_isWord_J161   h
    else
      f_X12_isWord_J162  (1 : Int32) h
  else
    f_X12_isWord_J161   h

def f_X12_isWord_J120 (a0 : Nat) (a4 : Int32) (a5 : Int32) (a6 : Int32) (b0 : Int32) (h : JH) : Option (Int32 × JH) :=
  if b0 = a4 then
    if a6 ≤ (4 : Int32) then
      f_X12_isWord_J145 a5 a6 (0 : Int32) h
    else
      (jgI h a0 9 14).bind fun v11 =>
      (jrecv h a0 9).bind fun u15 =>
      (f_X12_byteAt a0 (v11 + (4 : Int32)) h).bind fun q13 =>
      f_X12_isWord_J145 a5 a6 q13.1 q13.2
  else
    f_X12_isWord_J161   h

def f_X12_isWord_J93 (a0 : Nat) (a4 : Int32) (a5 : Int32) (a6 : Int32) (b0 : Int32) (h : JH) : Option (Int32 × JH) :=
  if b0 = (0 : Int32) then
    f_X12_isWord_J161   h
  else
    if a6 ≤ (3 : Int32) then
      f_X12_isWord_J120 a0 a4 a5 a6 (0 : Int32) h
    else
      (jgI h a0 9 14).bind fun v19 =>
      (jrecv h a0 9).bind fun u23 =>
      (f_X12_byteAt a0 (v19 + (3 : Int32)) h).bind fun q21 =>
      f_X12_isWord_J120 a0 a4 a5 a6 q21.1 q21.2

def f_X12_isWord_J92 (a0 : Nat) (a4 : Int32) (a5 : Int32) (a6 : Int32) (h : JH) : Option (Int32 × JH) :=
  f_X12_isWord_J93 a0 a4 a5 a6 (0 : Int32) h

def f_X12_isWord_J84 (a0 : Nat) (a3 : Int32) (a4 : Int32) (a5 : Int32) (a6 : Int32) (b0 : Int32) (h : JH) : Option (Int32 × JH) :=
  if b0 = a3 then
    f_X12_isWord_J93 a0 a4 a5 a6 (1 : Int32) h
  else
    f_X12_isWord_J92 a0 a4 a5 a6  h

def f_X12_isWord_J60 (a0 : Nat) (a2 : Int32) (a3 : Int32) (a4 : Int32) (a5 : Int32) (a6 : Int32) (b0 : Int32) (h : JH) : Option (Int32 × JH) :=
  if b0 = a2 then
    if a6 ≤ (2 : Int32) then
      f_X12_isWord_J84 a0 a3 a4 a5 a6 (0 : Int32) h
    else
      (jgI h a0 9 14).bind fun v28 =>
      (jrecv h a0 9).bind fun u32 =>
      (f_X12_byteAt a0 (v28 + (2 : Int32)) h).bind fun q30 =>
      f_X12_isWord_J84 a0 a3 a4 a5 a6 q30.1 q30.2
  else
    f_X12_isWord_J92 a0 a4 a5 a6  h

def f_X12_isWord_J36 (a0 : Nat) (a1 : Int32) (a2 : Int32) (a3 : Int32) (a4 : Int32) (a5 : Int32) (a6 : Int32) (b0 : Int32) (h : JH) : Option (Int32 × JH) :=
  if b0 = a1 then
    if a6 ≤ (1 : Int32) then
      f_X12_isWord_J60 a0 a2 a3 a4 a5 a6 (0 : Int32) h
    else
      (jgI h a0 9 14).bind fun v36 =>
      (jrecv h a0 9).bind fun u40 =>
      (f_X12_byteAt a0 (v36 + (1 : Int32)) h).bind fun q38 =>
      f_X12_isWord_J60 a0 a2 a3 a4 a5 a6 q38.1 q38.2
  else
    f_X12_isWord_J92 a0 a4 a5 a6  h

def f_X12_isWord (a0 : Nat) (a1 : Int32) (a2 : Int32) (a3 : Int32) (a4 : Int32) (a5 : Int32) (h : JH) : Option (Int32 × JH) :=
  (jgI h a0 9 15).bind fun v1 =>
  (jgI h a0 9 14).bind fun v3 =>
  (jgI h a0 9 16).bind fun v5 =>
  if v5 = (1 : Int32) then
    if (v1 - v3) ≤ (0 : Int32) then
      f_X12_isWord_J36 a0 a1 a2 a3 a4 a5 (v1 - v3) (0 : Int32) h
    else
      (jgI h a0 9 14).bind fun v44 =>
      (jrecv h a0 9).bind fun u48 =>
      (f_X12_byteAt a0 v44 h).bind fun q46 =>
      f_X12_isWord_J36 a0 a1 a2 a3 a4 a5 (v1 - v3) q46.1 q46.2
  else
    f_X12_isWord_J92 a0 a4 a5 (v1 - v3)  h

def f_X12_isOwn (a0 : Nat) (h : JH) : Option (Int32 × JH) :=
  (jrecv h a0 9).bind fun u23 =>
  (f_X12_isWord a0 (112 : Int32) (114 : Int32) (105 : Int32) (109 : Int32) (101 : Int32) h).bind fun q1 =>
  if q1.1 = (0 : Int32) then
    (jrecv q1.2 a0 9).bind fun u21 =>
    (f_X12_isWord a0 (108 : Int32) (101 : Int32) (116 : Int32) (0 : Int32) (0 : Int32) q1.2).bind fun q3 =>
    if q3.1 = (0 : Int32) then
      (jrecv q3.2 a0 9).bind fun u19 =>
      (f_X12_isWord a0 (98 : Int32) (101 : Int32) (0 : Int32) (0 : Int32) (0 : Int32) q3.2).bind fun q5 =>
      if q5.1 = (0 : Int32) then
        (jrecv q5.2 a0 9).bind fun u17 =>
        (f_X12_isWord a0 (102 : Int32) (111 : Int32) (117 : Int32) (114 : Int32) (0 : Int32) q5.2).bind fun q7 =>
        if q7.1 = (0 : Int32) then
          (jrecv q7.2 a0 9).bind fun u15 =>
          (f_X12_isWord a0 (115 : Int32) (105 : Int32) (120 : Int32) (0 : Int32) (0 : Int32) q7.2).bind fun q9 =>
          if q9.1 = (0 : Int32) then
            (jrecv q9.2 a0 9).bind fun u13 =>
            (f_X12_isWord a0 (100 : Int32) (101 : Int32) (108 : Int32) (116 : Int32) (97 : Int32) q9.2).bind fun q11 =>
            if q11.1 = (0 : Int32) then
              some ((0 : Int32), q11.2)
            else
              some ((1 : Int32), q11.2)
          else
            some ((1 : Int32), q9.2)
        else
          some ((1 : Int32), q7.2)
      else
        some ((1 : Int32), q5.2)
    else
      some ((1 : Int32), q3.2)
  else
    some ((1 : Int32), q1.2)

def f_X12_named_L36 (a0 : Nat) (a1 : Int32) (z : (Int32 × Int32)) (h : JH) : Option (((Int32 × Int32) ⊕ (Int32 × Int32)) × JH) :=
  (jgR h a0 9 23).bind fun v11 =>
  (jaI h v11 a1).bind fun v13 =>
  if v13 ≤ z.2 then
    some (.inr (z.1, z.2), h)
  else
    if z.1 = (0 : Int32) then
      some (.inr (z.1, z.2), h)
    else
      (jgR h a0 9 24).bind fun v15 =>
      (jaI h v15 (((6 : Int32) * a1) + z.2)).bind fun v17 =>
      (jgI h a0 9 14).bind fun v19 =>
      (jrecv h a0 9).bind fun u23 =>
      (f_X12_byteAt a0 (v19 + z.2) h).bind fun q21 =>
      if v17 = q21.1 then
        some (.inl ((1 : Int32), z.2 + (1 : Int32)), q21.2)
      else
        some (.inl ((0 : Int32), z.2 + (1 : Int32)), q21.2)

def f_X12_named_L2 (a0 : Nat) (z : Int32) (h : JH) : Option ((Int32 ⊕ (Int32 ⊕ Int32)) × JH) :=
  (jgI h a0 9 22).bind fun v1 =>
  if v1 ≤ z then
    some (.inr (.inr z), h)
  else
    (jgR h a0 9 23).bind fun v3 =>
    (jaI h v3 z).bind fun v5 =>
    (jgI h a0 9 15).bind fun v7 =>
    (jgI h a0 9 14).bind fun v9 =>
    if v5 = (v7 - v9) then
      (jloop (f_X12_named_L36 a0 z) jF ((1 : Int32), (0 : Int32)) h).bind fun q30 =>
      if q30.1.1 = (0 : Int32) then
        some (.inl (z + (1 : Int32)), q30.2)
      else
        some (.inr (.inl z), q30.2)
    else
      (jloop (f_X12_named_L36 a0 z) jF ((0 : Int32), (0 : Int32)) h).bind fun q28 =>
      if q28.1.1 = (0 : Int32) then
        some (.inl (z + (1 : Int32)), q28.2)
      else
        some (.inr (.inl z), q28.2)

def f_X12_named (a0 : Nat) (h : JH) : Option (Int32 × JH) :=
  (jloop (f_X12_named_L2 a0) jF (0 : Int32) h).bind fun q36 =>
  Sum.elim (fun r39 => some (r39, q36.2)) (fun t38 =>
    some ((-1 : Int32), q36.2)) q36.1

def f_X12_isName (a0 : Nat) (h : JH) : Option (Int32 × JH) :=
  (jgI h a0 9 16).bind fun v1 =>
  if v1 = (1 : Int32) then
    (jgI h a0 9 15).bind fun v3 =>
    (jgI h a0 9 14).bind fun v5 =>
    if (6 : Int32) < (v3 - v5) then
      some ((0 : Int32), h)
    else
      (jrecv h a0 9).bind fun u9 =>
      (f_X12_isOwn a0 h).bind fun q7 =>
      if q7.1 = (0 : Int32) then
        some ((1 : Int32), q7.2)
      else
        some ((0 : Int32), q7.2)
  else
    some ((0 : Int32), h)

def f_X12_pushes (a0 : Nat) (a1 : Int32) (a2 : Nat) (a3 : Int32) (h : JH) : Option (Unit × JH) :=
  (jgR h a0 9 28).bind fun v1 =>
  (jgI h a0 9 27).bind fun v3 =>
  (jsI h v1 v3 a1).bind fun h5 =>
  (jgR h5 a0 9 29).bind fun v7 =>
  (jgI h5 a0 9 27).bind fun v9 =>
  (f_X12_copies a2 a3 v7 ((181 : Int32) * v9) h5).bind fun q11 =>
  (jgI q11.2 a0 9 27).bind fun v13 =>
  (jput q11.2 a0 9 27 (.int (v13 + (1 : Int32)))).bind fun h15 =>
  some ((), h15)

def f_X12_pushesNumber_L2 (a0 : Nat) (a1 : Int32) (z : Int32) (h : JH) : Option ((Int32 ⊕ Int32) × JH) :=
  if (181 : Int32) ≤ z then
    some (.inr z, h)
  else
    (jgR h a0 9 5).bind fun v1 =>
    if z = (0 : Int32) then
      (jrecv h a0 9).bind fun u9 =>
      (f_X12_left a0 a1.toInt64 h).bind fun q5 =>
      (jsI q5.2 v1 z q5.1).bind fun h7 =>
      some (.inl (z + (1 : Int32)), h7)
    else
      (jsI h v1 z (0 : Int32)).bind fun h3 =>
      some (.inl (z + (1 : Int32)), h3)

def f_X12_pushesNumber (a0 : Nat) (a1 : Int32) (h : JH) : Option (Unit × JH) :=
  (jloop (f_X12_pushesNumber_L2 a0 a1) jF (0 : Int32) h).bind fun q13 =>
  (jgR q13.2 a0 9 5).bind fun v15 =>
  (jrecv q13.2 a0 9).bind fun u19 =>
  (f_X12_pushes a0 (0 : Int32) v15 (0 : Int32) q13.2).bind fun q17 =>
  some ((), q17.2)

def f_X12_atom (rec : Nat → JH → Option (Int32 × JH)) (a0 : Nat) (h : JH) : Option (Int32 × JH) :=
  (jgI h a0 9 16).bind fun v1 =>
  if v1 = (2 : Int32) then
    (jgI h a0 9 15).bind fun v127 =>
    (jgI h a0 9 14).bind fun v129 =>
    if (v127 - v129) ≤ (4 : Int32) then
      (jgI h a0 9 17).bind fun v131 =>
      (jrecv h a0 9).bind fun u139 =>
      (f_X12_pushesNumber a0 v131 h).bind fun q133 =>
      (jrecv q133.2 a0 9).bind fun u137 =>
      (f_X12_go a0 q133.2).bind fun q135 =>
      some ((1 : Int32), q135.2)
    else
      (jrecv h a0 9).bind fun u145 =>
      (f_X12_bad a0 (4 : Int32) h).bind fun q141 =>
      (jzb q141.1).bind fun u143 =>
      some (q141.1, q141.2)
  else
    (jrecv h a0 9).bind fun u125 =>
    (f_X12_is a0 (40 : Int32) h).bind fun q3 =>
    if q3.1 = (0 : Int32) then
      (jrecv q3.2 a0 9).bind fun u87 =>
      (f_X12_isWord a0 (102 : Int32) (111 : Int32) (117 : Int32) (114 : Int32) (0 : Int32) q3.2).bind fun q5 =>
      if q5.1 = (0 : Int32) then
        (jrecv q5.2 a0 9).bind fun u75 =>
        (f_X12_isWord a0 (115 : Int32) (105 : Int32) (120 : Int32) (0 : Int32) (0 : Int32) q5.2).bind fun q7 =>
        if q7.1 = (0 : Int32) then
          (jrecv q7.2 a0 9).bind fun u63 =>
          (f_X12_isWord a0 (100 : Int32) (101 : Int32) (108 : Int32) (116 : Int32) (97 : Int32) q7.2).bind fun q9 =>
          if q9.1 = (0 : Int32) then
            (jrecv q9.2 a0 9).bind fun u51 =>
            (f_X12_isName a0 q9.2).bind fun q11 =>
            if q11.1 = (0 : Int32) then
              (jrecv q11.2 a0 9).bind fun u49 =>
              (f_X12_bad a0 (1 : Int32) q11.2).bind fun q45 =>
              (jzb q45.1).bind fun u47 =>
              some (q45.1, q45.2)
            else
              (jrecv q11.2 a0 9).bind fun u43 =>
              (f_X12_named a0 q11.2).bind fun q13 =>
              if q13.1 = (-1 : Int32) then
                (jrecv q13.2 a0 9).bind fun u41 =>
                (f_X12_bad a0 (3 : Int32) q13.2).bind fun q37 =>
                (jzb q37.1).bind fun u39 =>
                some (q37.1, q37.2)
              else
                (jgR q13.2 a0 9 25).bind fun v15 =>
                (jrecv q13.2 a0 9).bind fun u35 =>
                (f_X12_named a0 q13.2).bind fun q17 =>
                (jaI q17.2 v15 q17.1).bind fun v19 =>
                (jgR q17.2 a0 9 26).bind fun v21 =>
                (jrecv q17.2 a0 9).bind fun u33 =>
                (f_X12_named a0 q17.2).bind fun q23 =>
                (jrecv q23.2 a0 9).bind fun u31 =>
                (f_X12_pushes a0 v19 v21 ((181 : Int32) * q23.1) q23.2).bind fun q25 =>
                (jrecv q25.2 a0 9).bind fun u29 =>
                (f_X12_go a0 q25.2).bind fun q27 =>
                some ((1 : Int32), q27.2)
          else
            (jgR q9.2 a0 9 4).bind fun v53 =>
            (jrecv q9.2 a0 9).bind fun u61 =>
            (f_X12_pushes a0 (12 : Int32) v53 (0 : Int32) q9.2).bind fun q55 =>
            (jrecv q55.2 a0 9).bind fun u59 =>
            (f_X12_go a0 q55.2).bind fun q57 =>
            some ((1 : Int32), q57.2)
        else
          (jgR q7.2 a0 9 3).bind fun v65 =>
          (jrecv q7.2 a0 9).bind fun u73 =>
          (f_X12_pushes a0 (6 : Int32) v65 (0 : Int32) q7.2).bind fun q67 =>
          (jrecv q67.2 a0 9).bind fun u71 =>
          (f_X12_go a0 q67.2).bind fun q69 =>
          some ((1 : Int32), q69.2)
      else
        (jgR q5.2 a0 9 2).bind fun v77 =>
        (jrecv q5.2 a0 9).bind fun u85 =>
        (f_X12_pushes a0 (4 : Int32) v77 (0 : Int32) q5.2).bind fun q79 =>
        (jrecv q79.2 a0 9).bind fun u83 =>
        (f_X12_go a0 q79.2).bind fun q81 =>
        some ((1 : Int32), q81.2)
    else
      (jgI q3.2 a0 9 30).bind fun v89 =>
      if v89 = (8 : Int32) then
        (jrecv q3.2 a0 9).bind fun u123 =>
        (f_X12_bad a0 (5 : Int32) q3.2).bind fun q119 =>
        (jzb q119.1).bind fun u121 =>
        some (q119.1, q119.2)
      else
        (jgI q3.2 a0 9 30).bind fun v91 =>
        (jput q3.2 a0 9 30 (.int (v91 + (1 : Int32)))).bind fun h93 =>
        (jrecv h93 a0 9).bind fun u117 =>
        (f_X12_go a0 h93).bind fun q95 =>
        (jrecv q95.2 a0 9).bind fun u115 =>
        (rec a0 q95.2).bind fun q97 =>
        if q97.1 = (0 : Int32) then
          (jgI q97.2 a0 9 30).bind fun v99 =>
          (jput q97.2 a0 9 30 (.int (v99 - (1 : Int32)))).bind fun h101 =>
          some ((0 : Int32), h101)
        else
          (jrecv q97.2 a0 9).bind fun u113 =>
          (f_X12_sign a0 (41 : Int32) q97.2).bind fun q103 =>
          if q103.1 = (0 : Int32) then
            (jgI q103.2 a0 9 30).bind fun v105 =>
            (jput q103.2 a0 9 30 (.int (v105 - (1 : Int32)))).bind fun h107 =>
            some ((0 : Int32), h107)
          else
            (jgI q103.2 a0 9 30).bind fun v109 =>
            (jput q103.2 a0 9 30 (.int (v109 - (1 : Int32)))).bind fun h111 =>
            some ((1 : Int32), h111)

def f_X12_joins (a0 : Nat) (h : JH) : Option (Unit × JH) :=
  (jgR h a0 9 29).bind fun v1 =>
  (jgI h a0 9 27).bind fun v3 =>
  (jgR h a0 9 29).bind fun v5 =>
  (jgI h a0 9 27).bind fun v7 =>
  (jgR h a0 9 6).bind fun v9 =>
  (jrecv h a0 9).bind fun u39 =>
  (f_X12_multiplies a0 v1 ((181 : Int32) * (v3 - (2 : Int32))) v5 ((181 : Int32) * (v7 - (1 : Int32))) v9 h).bind fun q11 =>
  (jgR q11.2 a0 9 6).bind fun v13 =>
  (jgR q11.2 a0 9 29).bind fun v15 =>
  (jgI q11.2 a0 9 27).bind fun v17 =>
  (f_X12_copies v13 (0 : Int32) v15 ((181 : Int32) * (v17 - (2 : Int32))) q11.2).bind fun q19 =>
  (jgR q19.2 a0 9 28).bind fun v21 =>
  (jgI q19.2 a0 9 27).bind fun v23 =>
  (jaI q19.2 v21 (v23 - (2 : Int32))).bind fun v25 =>
  (jgR q19.2 a0 9 28).bind fun v27 =>
  (jgI q19.2 a0 9 27).bind fun v29 =>
  (jaI q19.2 v27 (v29 - (1 : Int32))).bind fun v31 =>
  (jsI q19.2 v21 (v23 - (2 : Int32)) (v25 + v31)).bind fun h33 =>
  (jgI h33 a0 9 27).bind fun v35 =>
  (jput h33 a0 9 27 (.int (v35 - (1 : Int32)))).bind fun h37 =>
  some ((), h37)

def f_X12_power__L108 (rec : Nat → JH → Option (Int32 × JH)) (a0 : Nat) (a2 : Int32) (a3 : Int32) (z : Int32) (h : JH) : Option ((Int32 ⊕ Int32) × JH) :=
  if a2 ≤ z then
    some (.inr z, h)
  else
    (jgR h a0 9 29).bind fun v27 =>
    (jgR h a0 9 29).bind fun v29 =>
    (jgI h a0 9 27).bind fun v31 =>
    (jgR h a0 9 6).bind fun v33 =>
    (jrecv h a0 9).bind fun u45 =>
    (f_X12_multiplies a0 v27 ((181 : Int32) * a3) v29 ((181 : Int32) * (v31 - (1 : Int32))) v33 h).bind fun q35 =>
    (jgR q35.2 a0 9 6).bind fun v37 =>
    (jgR q35.2 a0 9 29).bind fun v39 =>
    (jgI q35.2 a0 9 27).bind fun v41 =>
    (f_X12_copies v37 (0 : Int32) v39 ((181 : Int32) * (v41 - (1 : Int32))) q35.2).bind fun q43 =>
    some (.inl (z + (1 : Int32)), q43.2)

def f_X12_power_ (rec : Nat → JH → Option (Int32 × JH)) (a0 : Nat) (h : JH) : Option (Int32 × JH) :=
  (jgI h a0 9 14).bind fun v1 =>
  (jrecv h a0 9).bind fun u94 =>
  (f_X12_atom rec a0 h).bind fun q3 =>
  if q3.1 = (0 : Int32) then
    some ((0 : Int32), q3.2)
  else
    (jrecv q3.2 a0 9).bind fun u92 =>
    (f_X12_is a0 (94 : Int32) q3.2).bind fun q5 =>
    if q5.1 = (0 : Int32) then
      some ((1 : Int32), q5.2)
    else
      (jrecv q5.2 a0 9).bind fun u90 =>
      (f_X12_go a0 q5.2).bind fun q7 =>
      (jgI q7.2 a0 9 16).bind fun v9 =>
      if v9 = (2 : Int32) then
        (jgI q7.2 a0 9 17).bind fun v11 =>
        if v11 ≤ (15 : Int32) then
          (jgI q7.2 a0 9 17).bind fun v13 =>
          (jrecv q7.2 a0 9).bind fun u76 =>
          (f_X12_go a0 q7.2).bind fun q15 =>
          (jgR q15.2 a0 9 28).bind fun v17 =>
          (jgI q15.2 a0 9 27).bind fun v19 =>
          (jaI q15.2 v17 (v19 - (1 : Int32))).bind fun v21 =>
          if (v21 * v13) ≤ (60 : Int32) then
            (jgI q15.2 a0 9 27).bind fun v23 =>
            (jrecv q15.2 a0 9).bind fun u68 =>
            (f_X12_pushesNumber a0 (1 : Int32) q15.2).bind fun q25 =>
            (jloop (f_X12_power__L108 rec a0 v13 (v23 - (1 : Int32))) jF (0 : Int32) q25.2).bind fun q48 =>
            (jgR q48.2 a0 9 29).bind fun v50 =>
            (jgI q48.2 a0 9 27).bind fun v52 =>
            (jgR q48.2 a0 9 29).bind fun v54 =>
            (f_X12_copies v50 ((181 : Int32) * (v52 - (1 : Int32))) v54 ((181 : Int32) * (v23 - (1 : Int32))) q48.2).bind fun q56 =>
            (jgR q56.2 a0 9 28).bind fun v58 =>
            (jaI q56.2 v58 (v23 - (1 : Int32))).bind fun v60 =>
            (jsI q56.2 v58 (v23 - (1 : Int32)) (v60 * v13)).bind fun h62 =>
            (jgI h62 a0 9 27).bind fun v64 =>
            (jput h62 a0 9 27 (.int (v64 - (1 : Int32)))).bind fun h66 =>
            some ((1 : Int32), h66)
          else
            (jrecv q15.2 a0 9).bind fun u74 =>
            (f_X12_badAt a0 v1 (7 : Int32) q15.2).bind fun q70 =>
            (jzb q70.1).bind fun u72 =>
            some (q70.1, q70.2)
        else
          (jrecv q7.2 a0 9).bind fun u82 =>
          (f_X12_bad a0 (4 : Int32) q7.2).bind fun q78 =>
          (jzb q78.1).bind fun u80 =>
          some (q78.1, q78.2)
      else
        (jrecv q7.2 a0 9).bind fun u88 =>
        (f_X12_bad a0 (1 : Int32) q7.2).bind fun q84 =>
        (jzb q84.1).bind fun u86 =>
        some (q84.1, q84.2)

def f_X12_product_L5 (rec : Nat → JH → Option (Int32 × JH)) (a0 : Nat) (z : Int32) (h : JH) : Option ((Int32 ⊕ Int32) × JH) :=
  if z = (0 : Int32) then
    some (.inr z, h)
  else
    (jrecv h a0 9).bind fun u43 =>
    (f_X12_is a0 (42 : Int32) h).bind fun q3 =>
    if q3.1 = (0 : Int32) then
      some (.inr z, q3.2)
    else
      (jrecv q3.2 a0 9).bind fun u41 =>
      (f_X12_go a0 q3.2).bind fun q5 =>
      (jgI q5.2 a0 9 14).bind fun v7 =>
      (jrecv q5.2 a0 9).bind fun u39 =>
      (f_X12_power_ rec a0 q5.2).bind fun q9 =>
      if q9.1 = (0 : Int32) then
        if q9.1 = (0 : Int32) then
          some (.inl q9.1, q9.2)
        else
          (jrecv q9.2 a0 9).bind fun u13 =>
          (f_X12_joins a0 q9.2).bind fun q11 =>
          some (.inl q9.1, q11.2)
      else
        (jgR q9.2 a0 9 28).bind fun v15 =>
        (jgI q9.2 a0 9 27).bind fun v17 =>
        (jaI q9.2 v15 (v17 - (2 : Int32))).bind fun v19 =>
        (jgR q9.2 a0 9 28).bind fun v21 =>
        (jgI q9.2 a0 9 27).bind fun v23 =>
        (jaI q9.2 v21 (v23 - (1 : Int32))).bind fun v25 =>
        if (v19 + v25) ≤ (60 : Int32) then
          if q9.1 = (0 : Int32) then
            some (.inl q9.1, q9.2)
          else
            (jrecv q9.2 a0 9).bind fun u29 =>
            (f_X12_joins a0 q9.2).bind fun q27 =>
            some (.inl q9.1, q27.2)
        else
          (jrecv q9.2 a0 9).bind fun u37 =>
          (f_X12_badAt a0 v7 (7 : Int32) q9.2).bind fun q31 =>
          if q31.1 = (0 : Int32) then
            some (.inl q31.1, q31.2)
          else
            (jrecv q31.2 a0 9).bind fun u35 =>
            (f_X12_joins a0 q31.2).bind fun q33 =>
            some (.inl q31.1, q33.2)

def f_X12_product (rec : Nat → JH → Option (Int32 × JH)) (a0 : Nat) (h : JH) : Option (Int32 × JH) :=
  (jrecv h a0 9).bind fun u56 =>
  (f_X12_power_ rec a0 h).bind fun q1 =>
  (jloop (f_X12_product_L5 rec a0) jF q1.1 q1.2).bind fun q52 =>
  (jzb q52.1).bind fun u54 =>
  some (q52.1, q52.2)

def f_X12_sum_L100 (rec : Nat → JH → Option (Int32 × JH)) (a0 : Nat) (a1 : Int32) (a2 : Int32) (z : Int32) (h : JH) : Option ((Int32 ⊕ Int32) × JH) :=
  if (181 : Int32) ≤ z then
    some (.inr z, h)
  else
    (jgR h a0 9 29).bind fun v13 =>
    (jgI h a0 9 27).bind fun v15 =>
    (jgR h a0 9 29).bind fun v17 =>
    (jgI h a0 9 27).bind fun v19 =>
    (jaI h v17 (((181 : Int32) * (v19 - (2 : Int32))) + z)).bind fun v21 =>
    (jgR h a0 9 29).bind fun v23 =>
    (jgI h a0 9 27).bind fun v25 =>
    (jaI h v23 (((181 : Int32) * (v25 - (1 : Int32))) + z)).bind fun v27 =>
    (jrecv h a0 9).bind fun u33 =>
    (f_X12_left a0 ((v21 + (a2 * v27)).toInt64) h).bind fun q29 =>
    (jsI q29.2 v13 (((181 : Int32) * (v15 - (2 : Int32))) + z) q29.1).bind fun h31 =>
    some (.inl (z + (1 : Int32)), h31)

def f_X12_sum_L5 (rec : Nat → JH → Option (Int32 × JH)) (a0 : Nat) (z : Int32) (h : JH) : Option ((Int32 ⊕ Int32) × JH) :=
  if z = (0 : Int32) then
    some (.inr z, h)
  else
    (jrecv h a0 9).bind fun u193 =>
    (f_X12_is a0 (43 : Int32) h).bind fun q3 =>
    if q3.1 = (0 : Int32) then
      (jrecv q3.2 a0 9).bind fun u191 =>
      (f_X12_is a0 (45 : Int32) q3.2).bind fun q97 =>
      if q97.1 = (0 : Int32) then
        some (.inr z, q97.2)
      else
        (jrecv q97.2 a0 9).bind fun u189 =>
        (f_X12_is a0 (43 : Int32) q97.2).bind fun q99 =>
        if q99.1 = (0 : Int32) then
          (jrecv q99.2 a0 9).bind fun u143 =>
          (f_X12_go a0 q99.2).bind fun q101 =>
          (jgI q101.2 a0 9 14).bind fun v103 =>
          (jrecv q101.2 a0 9).bind fun u141 =>
          (f_X12_product rec a0 q101.2).bind fun q105 =>
          if q105.1 = (0 : Int32) then
            if q105.1 = (0 : Int32) then
              some (.inl q105.1, q105.2)
            else
              (jloop (f_X12_sum_L100 rec a0 q105.1 (-1 : Int32)) jF (0 : Int32) q105.2).bind fun q107 =>
              (jgI q107.2 a0 9 27).bind fun v109 =>
              (jput q107.2 a0 9 27 (.int (v109 - (1 : Int32)))).bind fun h111 =>
              some (.inl q105.1, h111)
          else
            (jgR q105.2 a0 9 28).bind fun v113 =>
            (jgI q105.2 a0 9 27).bind fun v115 =>
            (jaI q105.2 v113 (v115 - (2 : Int32))).bind fun v117 =>
            (jgR q105.2 a0 9 28).bind fun v119 =>
            (jgI q105.2 a0 9 27).bind fun v121 =>
            (jaI q105.2 v119 (v121 - (1 : Int32))).bind fun v123 =>
            if v117 = v123 then
              if q105.1 = (0 : Int32) then
                some (.inl q105.1, q105.2)
              else
                (jloop (f_X12_sum_L100 rec a0 q105.1 (-1 : Int32)) jF (0 : Int32) q105.2).bind fun q125 =>
                (jgI q125.2 a0 9 27).bind fun v127 =>
                (jput q125.2 a0 9 27 (.int (v127 - (1 : Int32)))).bind fun h129 =>
                some (.inl q105.1, h129)
            else
              (jrecv q105.2 a0 9).bind fun u139 =>
              (f_X12_badAt a0 v103 (6 : Int32) q105.2).bind fun q131 =>
              if q131.1 = (0 : Int32) then
                some (.inl q131.1, q131.2)
              else
                (jloop (f_X12_sum_L100 rec a0 q131.1 (-1 : Int32)) jF (0 : Int32) q131.2).bind fun q133 =>
                (jgI q133.2 a0 9 27).bind fun v135 =>
                (jput q133.2 a0 9 27 (.int (v135 - (1 : Int32)))).bind fun h137 =>
                some (.inl q131.1, h137)
        else
          (jrecv q99.2 a0 9).bind fun u187 =>
          (f_X12_go a0 q99.2).bind fun q145 =>
          (jgI q145.2 a0 9 14).bind fun v147 =>
          (jrecv q145.2 a0 9).bind fun u185 =>
          (f_X12_product rec a0 q145.2).bind fun q149 =>
          if q149.1 = (0 : Int32) then
            if q149.1 = (0 : Int32) then
              some (.inl q149.1, q149.2)
            else
              (jloop (f_X12_sum_L100 rec a0 q149.1 (1 : Int32)) jF (0 : Int32) q149.2).bind fun q151 =>
              (jgI q151.2 a0 9 27).bind fun v153 =>
              (jput q151.2 a0 9 27 (.int (v153 - (1 : Int32)))).bind fun h155 =>
              some (.inl q149.1, h155)
          else
            (jgR q149.2 a0 9 28).bind fun v157 =>
            (jgI q149.2 a0 9 27).bind fun v159 =>
            (jaI q149.2 v157 (v159 - (2 : Int32))).bind fun v161 =>
            (jgR q149.2 a0 9 28).bind fun v163 =>
            (jgI q149.2 a0 9 27).bind fun v165 =>
            (jaI q149.2 v163 (v165 - (1 : Int32))).bind fun v167 =>
            if v161 = v167 then
              if q149.1 = (0 : Int32) then
                some (.inl q149.1, q149.2)
              else
                (jloop (f_X12_sum_L100 rec a0 q149.1 (1 : Int32)) jF (0 : Int32) q149.2).bind fun q169 =>
                (jgI q169.2 a0 9 27).bind fun v171 =>
                (jput q169.2 a0 9 27 (.int (v171 - (1 : Int32)))).bind fun h173 =>
                some (.inl q149.1, h173)
            else
              (jrecv q149.2 a0 9).bind fun u183 =>
              (f_X12_badAt a0 v147 (6 : Int32) q149.2).bind fun q175 =>
              if q175.1 = (0 : Int32) then
                some (.inl q175.1, q175.2)
              else
                (jloop (f_X12_sum_L100 rec a0 q175.1 (1 : Int32)) jF (0 : Int32) q175.2).bind fun q177 =>
                (jgI q177.2 a0 9 27).bind fun v179 =>
                (jput q177.2 a0 9 27 (.int (v179 - (1 : Int32)))).bind fun h181 =>
                some (.inl q175.1, h181)
    else
      (jrecv q3.2 a0 9).bind fun u95 =>
      (f_X12_is a0 (43 : Int32) q3.2).bind fun q5 =>
      if q5.1 = (0 : Int32) then
        (jrecv q5.2 a0 9).bind fun u49 =>
        (f_X12_go a0 q5.2).bind fun q7 =>
        (jgI q7.2 a0 9 14).bind fun v9 =>
        (jrecv q7.2 a0 9).bind fun u47 =>
        (f_X12_product rec a0 q7.2).bind fun q11 =>
        if q11.1 = (0 : Int32) then
          if q11.1 = (0 : Int32) then
            some (.inl q11.1, q11.2)
          else
            (jloop (f_X12_sum_L100 rec a0 q11.1 (-1 : Int32)) jF (0 : Int32) q11.2).bind fun q13 =>
            (jgI q13.2 a0 9 27).bind fun v15 =>
            (jput q13.2 a0 9 27 (.int (v15 - (1 : Int32)))).bind fun h17 =>
            some (.inl q11.1, h17)
        else
          (jgR q11.2 a0 9 28).bind fun v19 =>
          (jgI q11.2 a0 9 27).bind fun v21 =>
          (jaI q11.2 v19 (v21 - (2 : Int32))).bind fun v23 =>
          (jgR q11.2 a0 9 28).bind fun v25 =>
          (jgI q11.2 a0 9 27).bind fun v27 =>
          (jaI q11.2 v25 (v27 - (1 : Int32))).bind fun v29 =>
          if v23 = v29 then
            if q11.1 = (0 : Int32) then
              some (.inl q11.1, q11.2)
            else
              (jloop (f_X12_sum_L100 rec a0 q11.1 (-1 : Int32)) jF (0 : Int32) q11.2).bind fun q31 =>
              (jgI q31.2 a0 9 27).bind fun v33 =>
              (jput q31.2 a0 9 27 (.int (v33 - (1 : Int32)))).bind fun h35 =>
              some (.inl q11.1, h35)
          else
            (jrecv q11.2 a0 9).bind fun u45 =>
            (f_X12_badAt a0 v9 (6 : Int32) q11.2).bind fun q37 =>
            if q37.1 = (0 : Int32) then
              some (.inl q37.1, q37.2)
            else
              (jloop (f_X12_sum_L100 rec a0 q37.1 (-1 : Int32)) jF (0 : Int32) q37.2).bind fun q39 =>
              (jgI q39.2 a0 9 27).bind fun v41 =>
              (jput q39.2 a0 9 27 (.int (v41 - (1 : Int32)))).bind fun h43 =>
              some (.inl q37.1, h43)
      else
        (jrecv q5.2 a0 9).bind fun u93 =>
        (f_X12_go a0 q5.2).bind fun q51 =>
        (jgI q51.2 a0 9 14).bind fun v53 =>
        (jrecv q51.2 a0 9).bind fun u91 =>
        (f_X12_product rec a0 q51.2).bind fun q55 =>
        if q55.1 = (0 : Int32) then
          if q55.1 = (0 : Int32) then
            some (.inl q55.1, q55.2)
          else
            (jloop (f_X12_sum_L100 rec a0 q55.1 (1 : Int32)) jF (0 : Int32) q55.2).bind fun q57 =>
            (jgI q57.2 a0 9 27).bind fun v59 =>
            (jput q57.2 a0 9 27 (.int (v59 - (1 : Int32)))).bind fun h61 =>
            some (.inl q55.1, h61)
        else
          (jgR q55.2 a0 9 28).bind fun v63 =>
          (jgI q55.2 a0 9 27).bind fun v65 =>
          (jaI q55.2 v63 (v65 - (2 : Int32))).bind fun v67 =>
          (jgR q55.2 a0 9 28).bind fun v69 =>
          (jgI q55.2 a0 9 27).bind fun v71 =>
          (jaI q55.2 v69 (v71 - (1 : Int32))).bind fun v73 =>
          if v67 = v73 then
            if q55.1 = (0 : Int32) then
              some (.inl q55.1, q55.2)
            else
              (jloop (f_X12_sum_L100 rec a0 q55.1 (1 : Int32)) jF (0 : Int32) q55.2).bind fun q75 =>
              (jgI q75.2 a0 9 27).bind fun v77 =>
              (jput q75.2 a0 9 27 (.int (v77 - (1 : Int32)))).bind fun h79 =>
              some (.inl q55.1, h79)
          else
            (jrecv q55.2 a0 9).bind fun u89 =>
            (f_X12_badAt a0 v53 (6 : Int32) q55.2).bind fun q81 =>
            if q81.1 = (0 : Int32) then
              some (.inl q81.1, q81.2)
            else
              (jloop (f_X12_sum_L100 rec a0 q81.1 (1 : Int32)) jF (0 : Int32) q81.2).bind fun q83 =>
              (jgI q83.2 a0 9 27).bind fun v85 =>
              (jput q83.2 a0 9 27 (.int (v85 - (1 : Int32)))).bind fun h87 =>
              some (.inl q81.1, h87)

def f_X12_sum (rec : Nat → JH → Option (Int32 × JH)) (a0 : Nat) (h : JH) : Option (Int32 × JH) :=
  (jrecv h a0 9).bind fun u224 =>
  (f_X12_product rec a0 h).bind fun q1 =>
  (jloop (f_X12_sum_L5 rec a0) jF q1.1 q1.2).bind fun q220 =>
  (jzb q220.1).bind fun u222 =>
  some (q220.1, q220.2)

def n_X12_sum : Nat → Nat → JH → Option (Int32 × JH)
  | 0 => fun _ _ => none
  | n + 1 => f_X12_sum (n_X12_sum n)

def f_X12_letLine_L87 (a0 : Nat) (z : Int32) (h : JH) : Option ((Int32 ⊕ Int32) × JH) :=
  (jgR h a0 9 23).bind fun v21 =>
  (jgI h a0 9 22).bind fun v23 =>
  (jaI h v21 v23).bind fun v25 =>
  if v25 ≤ z then
    some (.inr z, h)
  else
    (jgR h a0 9 24).bind fun v27 =>
    (jgI h a0 9 22).bind fun v29 =>
    (jgI h a0 9 14).bind fun v31 =>
    (jrecv h a0 9).bind fun u37 =>
    (f_X12_byteAt a0 (v31 + z) h).bind fun q33 =>
    (jsI q33.2 v27 (((6 : Int32) * v29) + z) q33.1).bind fun h35 =>
    some (.inl (z + (1 : Int32)), h35)

def f_X12_letLine (a0 : Nat) (h : JH) : Option (Int32 × JH) :=
  (jrecv h a0 9).bind fun u124 =>
  (f_X12_isWord a0 (108 : Int32) (101 : Int32) (116 : Int32) (0 : Int32) (0 : Int32) h).bind fun q1 =>
  if q1.1 = (0 : Int32) then
    (jrecv q1.2 a0 9).bind fun u122 =>
    (f_X12_bad a0 (1 : Int32) q1.2).bind fun q118 =>
    (jzb q118.1).bind fun u120 =>
    some (q118.1, q118.2)
  else
    (jgI q1.2 a0 9 22).bind fun v3 =>
    if v3 = (6 : Int32) then
      (jrecv q1.2 a0 9).bind fun u116 =>
      (f_X12_bad a0 (5 : Int32) q1.2).bind fun q112 =>
      (jzb q112.1).bind fun u114 =>
      some (q112.1, q112.2)
    else
      (jrecv q1.2 a0 9).bind fun u110 =>
      (f_X12_go a0 q1.2).bind fun q5 =>
      (jrecv q5.2 a0 9).bind fun u108 =>
      (f_X12_isName a0 q5.2).bind fun q7 =>
      if q7.1 = (0 : Int32) then
        (jrecv q7.2 a0 9).bind fun u106 =>
        (f_X12_bad a0 (1 : Int32) q7.2).bind fun q102 =>
        (jzb q102.1).bind fun u104 =>
        some (q102.1, q102.2)
      else
        (jrecv q7.2 a0 9).bind fun u100 =>
        (f_X12_named a0 q7.2).bind fun q9 =>
        if q9.1 = (-1 : Int32) then
          (jgR q9.2 a0 9 23).bind fun v11 =>
          (jgI q9.2 a0 9 22).bind fun v13 =>
          (jgI q9.2 a0 9 15).bind fun v15 =>
          (jgI q9.2 a0 9 14).bind fun v17 =>
          (jsI q9.2 v11 v13 (v15 - v17)).bind fun h19 =>
          (jloop (f_X12_letLine_L87 a0) jF (0 : Int32) h19).bind fun q40 =>
          (jrecv q40.2 a0 9).bind fun u92 =>
          (f_X12_go a0 q40.2).bind fun q42 =>
          (jrecv q42.2 a0 9).bind fun u90 =>
          (f_X12_isWord a0 (98 : Int32) (101 : Int32) (0 : Int32) (0 : Int32) (0 : Int32) q42.2).bind fun q44 =>
          if q44.1 = (0 : Int32) then
            (jrecv q44.2 a0 9).bind fun u88 =>
            (f_X12_bad a0 (1 : Int32) q44.2).bind fun q84 =>
            (jzb q84.1).bind fun u86 =>
            some (q84.1, q84.2)
          else
            (jrecv q44.2 a0 9).bind fun u82 =>
            (f_X12_go a0 q44.2).bind fun q46 =>
            (jput q46.2 a0 9 27 (.int (0 : Int32))).bind fun h48 =>
            (jrecv h48 a0 9).bind fun u80 =>
            (n_X12_sum 10 a0 h48).bind fun q50 =>
            if q50.1 = (0 : Int32) then
              some ((0 : Int32), q50.2)
            else
              (jgR q50.2 a0 9 25).bind fun v52 =>
              (jgI q50.2 a0 9 22).bind fun v54 =>
              (jgR q50.2 a0 9 28).bind fun v56 =>
              (jaI q50.2 v56 (0 : Int32)).bind fun v58 =>
              (jsI q50.2 v52 v54 v58).bind fun h60 =>
              (jgR h60 a0 9 29).bind fun v62 =>
              (jgR h60 a0 9 26).bind fun v64 =>
              (jgI h60 a0 9 22).bind fun v66 =>
              (f_X12_copies v62 (0 : Int32) v64 ((181 : Int32) * v66) h60).bind fun q68 =>
              (jgI q68.2 a0 9 22).bind fun v70 =>
              (jput q68.2 a0 9 22 (.int (v70 + (1 : Int32)))).bind fun h72 =>
              (jrecv h72 a0 9).bind fun u78 =>
              (f_X12_sign a0 (59 : Int32) h72).bind fun q74 =>
              (jzb q74.1).bind fun u76 =>
              some (q74.1, q74.2)
        else
          (jrecv q9.2 a0 9).bind fun u98 =>
          (f_X12_bad a0 (2 : Int32) q9.2).bind fun q94 =>
          (jzb q94.1).bind fun u96 =>
          some (q94.1, q94.2)

def f_X12_primeLine (a0 : Nat) (h : JH) : Option (Int32 × JH) :=
  (jrecv h a0 9).bind fun u49 =>
  (f_X12_go a0 h).bind fun q1 =>
  (jgI q1.2 a0 9 16).bind fun v3 =>
  if v3 = (2 : Int32) then
    (jgI q1.2 a0 9 17).bind fun v5 =>
    (f_X12_within v5 (101 : Int32) (9973 : Int32) q1.2).bind fun q7 =>
    if q7.1 = (0 : Int32) then
      (jrecv q7.2 a0 9).bind fun u13 =>
      (f_X12_bad a0 (4 : Int32) q7.2).bind fun q9 =>
      (jzb q9.1).bind fun u11 =>
      some (q9.1, q9.2)
    else
      (jgI q7.2 a0 9 17).bind fun v15 =>
      (f_X12_isPrime v15 q7.2).bind fun q17 =>
      if q17.1 = (0 : Int32) then
        (jrecv q17.2 a0 9).bind fun u41 =>
        (f_X12_bad a0 (4 : Int32) q17.2).bind fun q37 =>
        (jzb q37.1).bind fun u39 =>
        some (q37.1, q37.2)
      else
        (jgI q17.2 a0 9 17).bind fun v19 =>
        (jput q17.2 a0 9 1 (.int v19)).bind fun h21 =>
        (jrecv h21 a0 9).bind fun u35 =>
        (f_X12_laysBasic a0 h21).bind fun q23 =>
        (jrecv q23.2 a0 9).bind fun u33 =>
        (f_X12_go a0 q23.2).bind fun q25 =>
        (jrecv q25.2 a0 9).bind fun u31 =>
        (f_X12_sign a0 (59 : Int32) q25.2).bind fun q27 =>
        (jzb q27.1).bind fun u29 =>
        some (q27.1, q27.2)
  else
    (jrecv q1.2 a0 9).bind fun u47 =>
    (f_X12_bad a0 (1 : Int32) q1.2).bind fun q43 =>
    (jzb q43.1).bind fun u45 =>
    some (q43.1, q43.2)

def f_X12_takes_L15 (a0 : Nat) (z : Int32) (h : JH) : Option ((Int32 ⊕ Int32) × JH) :=
  if (6 : Int32) ≤ z then
    some (.inr z, h)
  else
    (jgR h a0 9 20).bind fun v7 =>
    (jgR h a0 9 25).bind fun v9 =>
    (jaI h v9 z).bind fun v11 =>
    (jsI h v7 z v11).bind fun h13 =>
    some (.inl (z + (1 : Int32)), h13)

def f_X12_takes_L41 (a0 : Nat) (z : Int32) (h : JH) : Option ((Int32 ⊕ Int32) × JH) :=
  if (1086 : Int32) ≤ z then
    some (.inr z, h)
  else
    (jgR h a0 9 21).bind fun v18 =>
    (jgR h a0 9 26).bind fun v20 =>
    (jaI h v20 z).bind fun v22 =>
    (jsI h v18 z v22).bind fun h24 =>
    some (.inl (z + (1 : Int32)), h24)

def f_X12_takes_L82 (a0 : Nat) (a1 : Int32) (z : Int32) (h : JH) : Option ((Int32 ⊕ Int32) × JH) :=
  if (181 : Int32) ≤ z then
    some (.inr z, h)
  else
    (jgR h a0 9 32).bind fun v33 =>
    if z = (0 : Int32) then
      (jsI h v33 (((181 : Int32) * a1) + z) (1 : Int32)).bind fun h37 =>
      some (.inl (z + (1 : Int32)), h37)
    else
      (jsI h v33 (((181 : Int32) * a1) + z) (0 : Int32)).bind fun h35 =>
      some (.inl (z + (1 : Int32)), h35)

def f_X12_takes_L68 (a0 : Nat) (z : Int32) (h : JH) : Option ((Int32 ⊕ Int32) × JH) :=
  if (4 : Int32) ≤ z then
    some (.inr z, h)
  else
    (jgR h a0 9 31).bind fun v29 =>
    (jsI h v29 z (0 : Int32)).bind fun h31 =>
    (jloop (f_X12_takes_L82 a0 z) jF (0 : Int32) h31).bind fun q33 =>
    some (.inl (z + (1 : Int32)), q33.2)

def f_X12_takes_L124 (a0 : Nat) (z : Int32) (h : JH) : Option ((Int32 ⊕ Int32) × JH) :=
  if (8 : Int32) ≤ z then
    some (.inr z, h)
  else
    (jgR h a0 9 43).bind fun v38 =>
    (jsB h v38 z (0 : Int32)).bind fun h40 =>
    some (.inl (z + (1 : Int32)), h40)

def f_X12_takes_L145 (a0 : Nat) (z : Int32) (h : JH) : Option ((Int32 ⊕ Int32) × JH) :=
  if (2 : Int32) ≤ z then
    some (.inr z, h)
  else
    (jgR h a0 9 45).bind fun v45 =>
    (jsB h v45 z (0 : Int32)).bind fun h47 =>
    some (.inl (z + (1 : Int32)), h47)

def f_X12_takes (a0 : Nat) (h : JH) : Option (Unit × JH) :=
  (jput h a0 9 7 (.int (-1 : Int32))).bind fun h1 =>
  (jgI h1 a0 9 22).bind fun v3 =>
  (jput h1 a0 9 19 (.int v3)).bind fun h5 =>
  (jloop (f_X12_takes_L15 a0) jF (0 : Int32) h5).bind fun q16 =>
  (jloop (f_X12_takes_L41 a0) jF (0 : Int32) q16.2).bind fun q27 =>
  (jloop (f_X12_takes_L68 a0) jF (0 : Int32) q27.2).bind fun q36 =>
  (jloop (f_X12_takes_L124 a0) jF (0 : Int32) q36.2).bind fun q43 =>
  (jloop (f_X12_takes_L145 a0) jF (0 : Int32) q43.2).bind fun q50 =>
  some ((), q50.2)

def f_X12_book_L99 (a0 : Nat) (a2 : Int32) (z : Int32) (h : JH) : Option ((Int32 ⊕ Int32) × JH) :=
  if z = (0 : Int32) then
    some (.inr z, h)
  else
    (jgI h a0 9 16).bind fun v29 =>
    if v29 = (0 : Int32) then
      some (.inr z, h)
    else
      (jrecv h a0 9).bind fun u33 =>
      (f_X12_letLine a0 h).bind fun q31 =>
      some (.inl q31.1, q31.2)

def f_X12_book (a0 : Nat) (a1 : Int32) (h : JH) : Option (Int32 × JH) :=
  (jput h a0 9 0 (.int (0 : Int32))).bind fun h1 =>
  (jgI h1 a0 9 12).bind fun v3 =>
  (f_X12_within a1 (0 : Int32) v3 h1).bind fun q5 =>
  if q5.1 = (0 : Int32) then
    some ((-1 : Int32), q5.2)
  else
    (jput q5.2 a0 9 13 (.int a1)).bind fun h7 =>
    (jput h7 a0 9 12 (.int (0 : Int32))).bind fun h9 =>
    (jput h9 a0 9 15 (.int (0 : Int32))).bind fun h11 =>
    (jput h11 a0 9 18 (.int (0 : Int32))).bind fun h13 =>
    (jput h13 a0 9 22 (.int (0 : Int32))).bind fun h15 =>
    (jput h15 a0 9 30 (.int (0 : Int32))).bind fun h17 =>
    (jgI h17 a0 9 1).bind fun v19 =>
    (jput h17 a0 9 1 (.int (1009 : Int32))).bind fun h21 =>
    (jrecv h21 a0 9).bind fun u93 =>
    (f_X12_laysBasic a0 h21).bind fun q23 =>
    (jrecv q23.2 a0 9).bind fun u91 =>
    (f_X12_go a0 q23.2).bind fun q25 =>
    (jrecv q25.2 a0 9).bind fun u89 =>
    (f_X12_isWord a0 (112 : Int32) (114 : Int32) (105 : Int32) (109 : Int32) (101 : Int32) q25.2).bind fun q27 =>
    if q27.1 = (0 : Int32) then
      (jloop (f_X12_book_L99 a0 v19) jF (1 : Int32) q27.2).bind fun q37 =>
      if q37.1 = (0 : Int32) then
        (jput q37.2 a0 9 1 (.int v19)).bind fun h45 =>
        (jrecv h45 a0 9).bind fun u51 =>
        (f_X12_laysBasic a0 h45).bind fun q47 =>
        (jgI q47.2 a0 9 18).bind fun v49 =>
        some ((-2 : Int32) - v49, q47.2)
      else
        (jrecv q37.2 a0 9).bind fun u43 =>
        (f_X12_takes a0 q37.2).bind fun q39 =>
        (jgI q39.2 a0 9 19).bind fun v41 =>
        some (v41, q39.2)
    else
      (jrecv q27.2 a0 9).bind fun u87 =>
      (f_X12_primeLine a0 q27.2).bind fun q53 =>
      if q53.1 = (0 : Int32) then
        (jloop (f_X12_book_L99 a0 v19) jF (0 : Int32) q53.2).bind fun q55 =>
        if q55.1 = (0 : Int32) then
          (jput q55.2 a0 9 1 (.int v19)).bind fun h63 =>
          (jrecv h63 a0 9).bind fun u69 =>
          (f_X12_laysBasic a0 h63).bind fun q65 =>
          (jgI q65.2 a0 9 18).bind fun v67 =>
          some ((-2 : Int32) - v67, q65.2)
        else
          (jrecv q55.2 a0 9).bind fun u61 =>
          (f_X12_takes a0 q55.2).bind fun q57 =>
          (jgI q57.2 a0 9 19).bind fun v59 =>
          some (v59, q57.2)
      else
        (jloop (f_X12_book_L99 a0 v19) jF (1 : Int32) q53.2).bind fun q71 =>
        if q71.1 = (0 : Int32) then
          (jput q71.2 a0 9 1 (.int v19)).bind fun h79 =>
          (jrecv h79 a0 9).bind fun u85 =>
          (f_X12_laysBasic a0 h79).bind fun q81 =>
          (jgI q81.2 a0 9 18).bind fun v83 =>
          some ((-2 : Int32) - v83, q81.2)
        else
          (jrecv q71.2 a0 9).bind fun u77 =>
          (f_X12_takes a0 q71.2).bind fun q73 =>
          (jgI q73.2 a0 9 19).bind fun v75 =>
          some (v75, q73.2)

def f_X12_init (a0 : Nat) (h : JH) : Option (Unit × JH) :=
  (jput h a0 9 1 (.int (1009 : Int32))).bind fun h1 =>
  (jnA h1 .int (181 : Int32)).bind fun q3 =>
  (jput q3.2 a0 9 2 (.ref q3.1)).bind fun h5 =>
  (jnA h5 .int (181 : Int32)).bind fun q7 =>
  (jput q7.2 a0 9 3 (.ref q7.1)).bind fun h9 =>
  (jnA h9 .int (181 : Int32)).bind fun q11 =>
  (jput q11.2 a0 9 4 (.ref q11.1)).bind fun h13 =>
  (jnA h13 .int (181 : Int32)).bind fun q15 =>
  (jput q15.2 a0 9 5 (.ref q15.1)).bind fun h17 =>
  (jnA h17 .int (181 : Int32)).bind fun q19 =>
  (jput q19.2 a0 9 6 (.ref q19.1)).bind fun h21 =>
  (jput h21 a0 9 7 (.int (-1 : Int32))).bind fun h23 =>
  (jnA h23 .int (1086 : Int32)).bind fun q25 =>
  (jput q25.2 a0 9 8 (.ref q25.1)).bind fun h27 =>
  (jnA h27 .int (6 : Int32)).bind fun q29 =>
  (jput q29.2 a0 9 9 (.ref q29.1)).bind fun h31 =>
  (jnA h31 .int (181 : Int32)).bind fun q33 =>
  (jput q33.2 a0 9 10 (.ref q33.1)).bind fun h35 =>
  (jnA h35 .byte (600 : Int32)).bind fun q37 =>
  (jput q37.2 a0 9 11 (.ref q37.1)).bind fun h39 =>
  (jnA h39 .int (6 : Int32)).bind fun q41 =>
  (jput q41.2 a0 9 20 (.ref q41.1)).bind fun h43 =>
  (jnA h43 .int (1086 : Int32)).bind fun q45 =>
  (jput q45.2 a0 9 21 (.ref q45.1)).bind fun h47 =>
  (jnA h47 .int (6 : Int32)).bind fun q49 =>
  (jput q49.2 a0 9 23 (.ref q49.1)).bind fun h51 =>
  (jnA h51 .int (36 : Int32)).bind fun q53 =>
  (jput q53.2 a0 9 24 (.ref q53.1)).bind fun h55 =>
  (jnA h55 .int (6 : Int32)).bind fun q57 =>
  (jput q57.2 a0 9 25 (.ref q57.1)).bind fun h59 =>
  (jnA h59 .int (1086 : Int32)).bind fun q61 =>
  (jput q61.2 a0 9 26 (.ref q61.1)).bind fun h63 =>
  (jnA h63 .int (30 : Int32)).bind fun q65 =>
  (jput q65.2 a0 9 28 (.ref q65.1)).bind fun h67 =>
  (jnA h67 .int (5430 : Int32)).bind fun q69 =>
  (jput q69.2 a0 9 29 (.ref q69.1)).bind fun h71 =>
  (jnA h71 .int (4 : Int32)).bind fun q73 =>
  (jput q73.2 a0 9 31 (.ref q73.1)).bind fun h75 =>
  (jnA h75 .int (724 : Int32)).bind fun q77 =>
  (jput q77.2 a0 9 32 (.ref q77.1)).bind fun h79 =>
  (jnA h79 .int (36 : Int32)).bind fun q81 =>
  (jput q81.2 a0 9 34 (.ref q81.1)).bind fun h83 =>
  (jnA h83 .int (7 : Int32)).bind fun q85 =>
  (jput q85.2 a0 9 36 (.ref q85.1)).bind fun h87 =>
  (jnA h87 .int (36 : Int32)).bind fun q89 =>
  (jput q89.2 a0 9 37 (.ref q89.1)).bind fun h91 =>
  (jnA h91 .int (36 : Int32)).bind fun q93 =>
  (jput q93.2 a0 9 38 (.ref q93.1)).bind fun h95 =>
  (jnA h95 .int (6 : Int32)).bind fun q97 =>
  (jput q97.2 a0 9 40 (.ref q97.1)).bind fun h99 =>
  (jnA h99 .int (36 : Int32)).bind fun q101 =>
  (jput q101.2 a0 9 41 (.ref q101.1)).bind fun h103 =>
  (jnA h103 .boolean (8 : Int32)).bind fun q105 =>
  (jput q105.2 a0 9 43 (.ref q105.1)).bind fun h107 =>
  (jnA h107 .long (104 : Int32)).bind fun q109 =>
  (jput q109.2 a0 9 44 (.ref q109.1)).bind fun h111 =>
  (jnA h111 .boolean (2 : Int32)).bind fun q113 =>
  (jput q113.2 a0 9 45 (.ref q113.1)).bind fun h115 =>
  (jnA h115 .int (2 : Int32)).bind fun q117 =>
  (jput q117.2 a0 9 46 (.ref q117.1)).bind fun h119 =>
  (jnA h119 .int (8 : Int32)).bind fun q121 =>
  (jput q121.2 a0 9 47 (.ref q121.1)).bind fun h123 =>
  (jnA h123 .int (1448 : Int32)).bind fun q125 =>
  (jput q125.2 a0 9 48 (.ref q125.1)).bind fun h127 =>
  (jnA h127 .boolean (16 : Int32)).bind fun q129 =>
  (jput q129.2 a0 9 49 (.ref q129.1)).bind fun h131 =>
  (jnA h131 .long (208 : Int32)).bind fun q133 =>
  (jput q133.2 a0 9 50 (.ref q133.1)).bind fun h135 =>
  (jrecv h135 a0 9).bind fun u143 =>
  (f_X12_laysBasic a0 h135).bind fun q137 =>
  (jrecv q137.2 a0 9).bind fun u141 =>
  (f_X12_takes a0 q137.2).bind fun q139 =>
  some ((), q139.2)

def f_X12_count (a0 : Nat) (a1 : Int32) (h : JH) : Option (Int32 × JH) :=
  (jput h a0 9 0 (.int (0 : Int32))).bind fun h1 =>
  if a1 = (0 : Int32) then
    (jgI h1 a0 9 1).bind fun v3 =>
    some (v3, h1)
  else if a1 = (1 : Int32) then
    (jgI h1 a0 9 19).bind fun v5 =>
    some (v5, h1)
  else if a1 = (2 : Int32) then
    (jgI h1 a0 9 12).bind fun v7 =>
    some (v7, h1)
  else if a1 = (3 : Int32) then
    (jgR h1 a0 9 45).bind fun v9 =>
    (jaB h1 v9 (0 : Int32)).bind fun v11 =>
    if v11 = (0 : Int32) then
      (jgR h1 a0 9 45).bind fun v13 =>
      (jaB h1 v13 (1 : Int32)).bind fun v15 =>
      if v15 = (0 : Int32) then
        some ((0 : Int32) + (0 : Int32), h1)
      else
        some ((0 : Int32) + (1 : Int32), h1)
    else
      (jgR h1 a0 9 45).bind fun v17 =>
      (jaB h1 v17 (1 : Int32)).bind fun v19 =>
      if v19 = (0 : Int32) then
        some ((1 : Int32) + (0 : Int32), h1)
      else
        some ((1 : Int32) + (1 : Int32), h1)
  else 
    some ((-1 : Int32), h1)

def f_X12_let (a0 : Nat) (a1 : Int32) (a2 : Int32) (h : JH) : Option (Int32 × JH) :=
  (jput h a0 9 0 (.int (0 : Int32))).bind fun h1 =>
  (jgI h1 a0 9 19).bind fun v3 =>
  (f_X12_within a1 (0 : Int32) (v3 - (1 : Int32)) h1).bind fun q5 =>
  if q5.1 = (0 : Int32) then
    some ((-1 : Int32), q5.2)
  else
    if a2 = (0 : Int32) then
      (jgR q5.2 a0 9 20).bind fun v7 =>
      (jaI q5.2 v7 a1).bind fun v9 =>
      some (v9, q5.2)
    else if a2 = (1 : Int32) then
      (jgR q5.2 a0 9 20).bind fun v11 =>
      (jaI q5.2 v11 a1).bind fun v13 =>
      (f_X12_longOf v13 q5.2).bind fun q15 =>
      some (q15.1, q15.2)
    else if a2 = (2 : Int32) then
      (jgR q5.2 a0 9 21).bind fun v17 =>
      (jaI q5.2 v17 ((181 : Int32) * a1)).bind fun v19 =>
      if v19 = (0 : Int32) then
        some ((1 : Int32), q5.2)
      else
        some ((0 : Int32), q5.2)
    else 
      some ((-1 : Int32), q5.2)

def f_X12_isRegister (a0 : Nat) (a1 : Int32) (h : JH) : Option (Int32 × JH) :=
  (f_X12_within a1 (0 : Int32) (3 : Int32) h).bind fun q1 =>
  (jzb q1.1).bind fun u3 =>
  some (q1.1, q1.2)

def f_X12_coefficient (a0 : Nat) (a1 : Int32) (a2 : Int32) (h : JH) : Option (Int32 × JH) :=
  (jput h a0 9 0 (.int (0 : Int32))).bind fun h1 =>
  (jrecv h1 a0 9).bind fun u11 =>
  (f_X12_isRegister a0 a1 h1).bind fun q3 =>
  if q3.1 = (0 : Int32) then
    some ((-1 : Int32), q3.2)
  else
    (f_X12_within a2 (0 : Int32) (180 : Int32) q3.2).bind fun q5 =>
    if q5.1 = (0 : Int32) then
      some ((-1 : Int32), q5.2)
    else
      (jgR q5.2 a0 9 32).bind fun v7 =>
      (jaI q5.2 v7 (((181 : Int32) * a1) + a2)).bind fun v9 =>
      some (v9, q5.2)

def f_X12_weight (a0 : Nat) (a1 : Int32) (h : JH) : Option (Int32 × JH) :=
  (jput h a0 9 0 (.int (0 : Int32))).bind fun h1 =>
  (jrecv h1 a0 9).bind fun u9 =>
  (f_X12_isRegister a0 a1 h1).bind fun q3 =>
  if q3.1 = (0 : Int32) then
    some ((-1 : Int32), q3.2)
  else
    (jgR q3.2 a0 9 31).bind fun v5 =>
    (jaI q3.2 v5 a1).bind fun v7 =>
    some (v7, q3.2)

def f_X12_cuspsOf (a0 : Int32) (h : JH) : Option (Int32 × JH) :=
  (f_X12_longOf a0 h).bind fun q1 =>
  if q1.1 = (0 : Int32) then
    some ((0 : Int32), q1.2)
  else
    (f_X12_longOf a0 q1.2).bind fun q3 =>
    some (q3.1 - (1 : Int32), q3.2)

def f_X12_makes (a0 : Nat) (a1 : Int32) (a2 : Int32) (h : JH) : Option (Int32 × JH) :=
  (jput h a0 9 0 (.int (0 : Int32))).bind fun h1 =>
  (f_X12_isWeight a1 h1).bind fun q3 =>
  if q3.1 = (0 : Int32) then
    some ((-1 : Int32), q3.2)
  else
    if a2 = (0 : Int32) then
      (f_X12_longOf a1 q3.2).bind fun q5 =>
      some (q5.1, q5.2)
    else
      (f_X12_cuspsOf a1 q3.2).bind fun q7 =>
      some (q7.1, q7.2)

def f_X12_divisor_L22  (z : (Int32 × Int32)) (h : JH) : Option (((Int32 × Int32) ⊕ (Int32 × Int32)) × JH) :=
  if z.2 = (0 : Int32) then
    some (.inr (z.1, z.2), h)
  else
    (jnz z.2).bind fun u1 =>
    some (.inl (z.2, jrem z.1 z.2), h)

def f_X12_divisor (a0 : Int32) (a1 : Int32) (h : JH) : Option (Int32 × JH) :=
  if (0 : Int32) ≤ a0 then
    if (0 : Int32) ≤ a1 then
      (jloop (f_X12_divisor_L22) jF (a0, a1) h).bind fun q4 =>
      some (q4.1.1, q4.2)
    else
      (jloop (f_X12_divisor_L22) jF (a0, -a1) h).bind fun q6 =>
      some (q6.1.1, q6.2)
  else
    if (0 : Int32) ≤ a1 then
      (jloop (f_X12_divisor_L22) jF (-a0, a1) h).bind fun q8 =>
      some (q8.1.1, q8.2)
    else
      (jloop (f_X12_divisor_L22) jF (-a0, -a1) h).bind fun q10 =>
      some (q10.1.1, q10.2)

def f_X12_isDisc (a0 : Int32) (h : JH) : Option (Int32 × JH) :=
  (f_X12_within a0 (1 : Int32) (2000 : Int32) h).bind fun q1 =>
  if q1.1 = (0 : Int32) then
    some ((0 : Int32), q1.2)
  else
    if (jrem a0 (4 : Int32)) = (0 : Int32) then
      some ((1 : Int32), q1.2)
    else
      if (jrem a0 (4 : Int32)) = (3 : Int32) then
        some ((1 : Int32), q1.2)
      else
        some ((0 : Int32), q1.2)

def f_X12_counts_L18 (a0 : Int32) (a1 : Int32) (a3 : Int32) (z : (Int32 × Int32)) (h : JH) : Option (((Int32 × Int32) ⊕ (Int32 × Int32)) × JH) :=
  if a3 < z.2 then
    some (.inr (z.1, z.2), h)
  else
    (jnz ((4 : Int32) * a3)).bind fun u1 =>
    (jnz ((4 : Int32) * a3)).bind fun u3 =>
    if (jrem (a0 + (z.2 * z.2)) ((4 : Int32) * a3)) = (0 : Int32) then
      if ((a0 + (z.2 * z.2)) / ((4 : Int32) * a3)) < a3 then
        if (0 : Int32) = (0 : Int32) then
          if (0 : Int32) = (0 : Int32) then
            some (.inl (z.1, z.2 + (1 : Int32)), h)
          else
            (f_X12_divisor a3 z.2 h).bind fun q13 =>
            (f_X12_divisor q13.1 ((a0 + (z.2 * z.2)) / ((4 : Int32) * a3)) q13.2).bind fun q15 =>
            if q15.1 = (1 : Int32) then
              some (.inl (z.1 + (1 : Int32), z.2 + (1 : Int32)), q15.2)
            else
              some (.inl (z.1, z.2 + (1 : Int32)), q15.2)
        else
          if a1 = (0 : Int32) then
            if (0 : Int32) = (0 : Int32) then
              some (.inl (z.1, z.2 + (1 : Int32)), h)
            else
              (f_X12_divisor a3 z.2 h).bind fun q17 =>
              (f_X12_divisor q17.1 ((a0 + (z.2 * z.2)) / ((4 : Int32) * a3)) q17.2).bind fun q19 =>
              if q19.1 = (1 : Int32) then
                some (.inl (z.1 + (1 : Int32), z.2 + (1 : Int32)), q19.2)
              else
                some (.inl (z.1, z.2 + (1 : Int32)), q19.2)
          else
            if a3 = ((a0 + (z.2 * z.2)) / ((4 : Int32) * a3)) then
              if z.2 = (0 : Int32) then
                some (.inl (z.1 + (6 : Int32), z.2 + (1 : Int32)), h)
              else
                if a3 = z.2 then
                  if a3 = ((a0 + (z.2 * z.2)) / ((4 : Int32) * a3)) then
                    some (.inl (z.1 + (4 : Int32), z.2 + (1 : Int32)), h)
                  else
                    some (.inl (z.1 + (12 : Int32), z.2 + (1 : Int32)), h)
                else
                  some (.inl (z.1 + (12 : Int32), z.2 + (1 : Int32)), h)
            else
              if a3 = z.2 then
                if a3 = ((a0 + (z.2 * z.2)) / ((4 : Int32) * a3)) then
                  some (.inl (z.1 + (4 : Int32), z.2 + (1 : Int32)), h)
                else
                  some (.inl (z.1 + (12 : Int32), z.2 + (1 : Int32)), h)
              else
                some (.inl (z.1 + (12 : Int32), z.2 + (1 : Int32)), h)
      else
        if a3 < ((a0 + (z.2 * z.2)) / ((4 : Int32) * a3)) then
          if (1 : Int32) = (0 : Int32) then
            if (1 : Int32) = (0 : Int32) then
              some (.inl (z.1, z.2 + (1 : Int32)), h)
            else
              (f_X12_divisor a3 z.2 h).bind fun q21 =>
              (f_X12_divisor q21.1 ((a0 + (z.2 * z.2)) / ((4 : Int32) * a3)) q21.2).bind fun q23 =>
              if q23.1 = (1 : Int32) then
                some (.inl (z.1 + (1 : Int32), z.2 + (1 : Int32)), q23.2)
              else
                some (.inl (z.1, z.2 + (1 : Int32)), q23.2)
          else
            if a1 = (0 : Int32) then
              if (1 : Int32) = (0 : Int32) then
                some (.inl (z.1, z.2 + (1 : Int32)), h)
              else
                (f_X12_divisor a3 z.2 h).bind fun q25 =>
                (f_X12_divisor q25.1 ((a0 + (z.2 * z.2)) / ((4 : Int32) * a3)) q25.2).bind fun q27 =>
                if q27.1 = (1 : Int32) then
                  some (.inl (z.1 + (1 : Int32), z.2 + (1 : Int32)), q27.2)
                else
                  some (.inl (z.1, z.2 + (1 : Int32)), q27.2)
            else
              if a3 = ((a0 + (z.2 * z.2)) / ((4 : Int32) * a3)) then
                if z.2 = (0 : Int32) then
                  some (.inl (z.1 + (6 : Int32), z.2 + (1 : Int32)), h)
                else
                  if a3 = z.2 then
                    if a3 = ((a0 + (z.2 * z.2)) / ((4 : Int32) * a3)) then
                      some (.inl (z.1 + (4 : Int32), z.2 + (1 : Int32)), h)
                    else
                      some (.inl (z.1 + (12 : Int32), z.2 + (1 : Int32)), h)
                  else
                    some (.inl (z.1 + (12 : Int32), z.2 + (1 : Int32)), h)
              else
                if a3 = z.2 then
                  if a3 = ((a0 + (z.2 * z.2)) / ((4 : Int32) * a3)) then
                    some (.inl (z.1 + (4 : Int32), z.2 + (1 : Int32)), h)
                  else
                    some (.inl (z.1 + (12 : Int32), z.2 + (1 : Int32)), h)
                else
                  some (.inl (z.1 + (12 : Int32), z.2 + (1 : Int32)), h)
        else
          if z.2 < (0 : Int32) then
            if (0 : Int32) = (0 : Int32) then
              if (0 : Int32) = (0 : Int32) then
                some (.inl (z.1, z.2 + (1 : Int32)), h)
              else
                (f_X12_divisor a3 z.2 h).bind fun q29 =>
                (f_X12_divisor q29.1 ((a0 + (z.2 * z.2)) / ((4 : Int32) * a3)) q29.2).bind fun q31 =>
                if q31.1 = (1 : Int32) then
                  some (.inl (z.1 + (1 : Int32), z.2 + (1 : Int32)), q31.2)
                else
                  some (.inl (z.1, z.2 + (1 : Int32)), q31.2)
            else
              if a1 = (0 : Int32) then
                if (0 : Int32) = (0 : Int32) then
                  some (.inl (z.1, z.2 + (1 : Int32)), h)
                else
                  (f_X12_divisor a3 z.2 h).bind fun q33 =>
                  (f_X12_divisor q33.1 ((a0 + (z.2 * z.2)) / ((4 : Int32) * a3)) q33.2).bind fun q35 =>
                  if q35.1 = (1 : Int32) then
                    some (.inl (z.1 + (1 : Int32), z.2 + (1 : Int32)), q35.2)
                  else
                    some (.inl (z.1, z.2 + (1 : Int32)), q35.2)
              else
                if a3 = ((a0 + (z.2 * z.2)) / ((4 : Int32) * a3)) then
                  if z.2 = (0 : Int32) then
                    some (.inl (z.1 + (6 : Int32), z.2 + (1 : Int32)), h)
                  else
                    if a3 = z.2 then
                      if a3 = ((a0 + (z.2 * z.2)) / ((4 : Int32) * a3)) then
                        some (.inl (z.1 + (4 : Int32), z.2 + (1 : Int32)), h)
                      else
                        some (.inl (z.1 + (12 : Int32), z.2 + (1 : Int32)), h)
                    else
                      some (.inl (z.1 + (12 : Int32), z.2 + (1 : Int32)), h)
                else
                  if a3 = z.2 then
                    if a3 = ((a0 + (z.2 * z.2)) / ((4 : Int32) * a3)) then
                      some (.inl (z.1 + (4 : Int32), z.2 + (1 : Int32)), h)
                    else
                      some (.inl (z.1 + (12 : Int32), z.2 + (1 : Int32)), h)
                  else
                    some (.inl (z.1 + (12 : Int32), z.2 + (1 : Int32)), h)
          else
            if (1 : Int32) = (0 : Int32) then
              if (1 : Int32) = (0 : Int32) then
                some (.inl (z.1, z.2 + (1 : Int32)), h)
              else
                (f_X12_divisor a3 z.2 h).bind fun q37 =>
                (f_X12_divisor q37.1 ((a0 + (z.2 * z.2)) / ((4 : Int32) * a3)) q37.2).bind fun q39 =>
                if q39.1 = (1 : Int32) then
                  some (.inl (z.1 + (1 : Int32), z.2 + (1 : Int32)), q39.2)
                else
                  some (.inl (z.1, z.2 + (1 : Int32)), q39.2)
            else
              if a1 = (0 : Int32) then
                if (1 : Int32) = (0 : Int32) then
                  some (.inl (z.1, z.2 + (1 : Int32)), h)
                else
                  (f_X12_divisor a3 z.2 h).bind fun q41 =>
                  (f_X12_divisor q41.1 ((a0 + (z.2 * z.2)) / ((4 : Int32) * a3)) q41.2).bind fun q43 =>
                  if q43.1 = (1 : Int32) then
                    some (.inl (z.1 + (1 : Int32), z.2 + (1 : Int32)), q43.2)
                  else
                    some (.inl (z.1, z.2 + (1 : Int32)), q43.2)
              else
                if a3 = ((a0 + (z.2 * z.2)) / ((4 : Int32) * a3)) then
                  if z.2 = (0 : Int32) then
                    some (.inl (z.1 + (6 : Int32), z.2 + (1 : Int32)), h)
                  else
                    if a3 = z.2 then
                      if a3 = ((a0 + (z.2 * z.2)) / ((4 : Int32) * a3)) then
                        some (.inl (z.1 + (4 : Int32), z.2 + (1 : Int32)), h)
                      else
                        some (.inl (z.1 + (12 : Int32), z.2 + (1 : Int32)), h)
                    else
                      some (.inl (z.1 + (12 : Int32), z.2 + (1 : Int32)), h)
                else
                  if a3 = z.2 then
                    if a3 = ((a0 + (z.2 * z.2)) / ((4 : Int32) * a3)) then
                      some (.inl (z.1 + (4 : Int32), z.2 + (1 : Int32)), h)
                    else
                      some (.inl (z.1 + (12 : Int32), z.2 + (1 : Int32)), h)
                  else
                    some (.inl (z.1 + (12 : Int32), z.2 + (1 : Int32)), h)
    else
      if (0 : Int32) = (0 : Int32) then
        if (0 : Int32) = (0 : Int32) then
          some (.inl (z.1, z.2 + (1 : Int32)), h)
        else
          (f_X12_divisor a3 z.2 h).bind fun q5 =>
          (f_X12_divisor q5.1 ((a0 + (z.2 * z.2)) / ((4 : Int32) * a3)) q5.2).bind fun q7 =>
          if q7.1 = (1 : Int32) then
            some (.inl (z.1 + (1 : Int32), z.2 + (1 : Int32)), q7.2)
          else
            some (.inl (z.1, z.2 + (1 : Int32)), q7.2)
      else
        if a1 = (0 : Int32) then
          if (0 : Int32) = (0 : Int32) then
            some (.inl (z.1, z.2 + (1 : Int32)), h)
          else
            (f_X12_divisor a3 z.2 h).bind fun q9 =>
            (f_X12_divisor q9.1 ((a0 + (z.2 * z.2)) / ((4 : Int32) * a3)) q9.2).bind fun q11 =>
            if q11.1 = (1 : Int32) then
              some (.inl (z.1 + (1 : Int32), z.2 + (1 : Int32)), q11.2)
            else
              some (.inl (z.1, z.2 + (1 : Int32)), q11.2)
        else
          if a3 = ((a0 + (z.2 * z.2)) / ((4 : Int32) * a3)) then
            if z.2 = (0 : Int32) then
              some (.inl (z.1 + (6 : Int32), z.2 + (1 : Int32)), h)
            else
              if a3 = z.2 then
                if a3 = ((a0 + (z.2 * z.2)) / ((4 : Int32) * a3)) then
                  some (.inl (z.1 + (4 : Int32), z.2 + (1 : Int32)), h)
                else
                  some (.inl (z.1 + (12 : Int32), z.2 + (1 : Int32)), h)
              else
                some (.inl (z.1 + (12 : Int32), z.2 + (1 : Int32)), h)
          else
            if a3 = z.2 then
              if a3 = ((a0 + (z.2 * z.2)) / ((4 : Int32) * a3)) then
                some (.inl (z.1 + (4 : Int32), z.2 + (1 : Int32)), h)
              else
                some (.inl (z.1 + (12 : Int32), z.2 + (1 : Int32)), h)
            else
              some (.inl (z.1 + (12 : Int32), z.2 + (1 : Int32)), h)

def f_X12_counts_L4 (a0 : Int32) (a1 : Int32) (z : (Int32 × Int32)) (h : JH) : Option (((Int32 × Int32) ⊕ (Int32 × Int32)) × JH) :=
  if a0 < (((3 : Int32) * z.2) * z.2) then
    some (.inr (z.1, z.2), h)
  else
    (jloop (f_X12_counts_L18 a0 a1 z.2) jF (z.1, (1 : Int32) - z.2) h).bind fun q1 =>
    some (.inl (q1.1.1, z.2 + (1 : Int32)), q1.2)

def f_X12_counts (a0 : Int32) (a1 : Int32) (h : JH) : Option (Int32 × JH) :=
  (jloop (f_X12_counts_L4 a0 a1) jF ((0 : Int32), (1 : Int32)) h).bind fun q4 =>
  some (q4.1.1, q4.2)

def f_X12_wholeOf (a0 : Int32) (h : JH) : Option (Int32 × JH) :=
  if a0 = (0 : Int32) then
    some ((-1 : Int32), h)
  else
    (f_X12_isDisc a0 h).bind fun q1 =>
    if q1.1 = (0 : Int32) then
      some ((0 : Int32), q1.2)
    else
      (f_X12_counts a0 (1 : Int32) q1.2).bind fun q3 =>
      some (q3.1, q3.2)

def f_X12_whole (a0 : Nat) (a1 : Int32) (h : JH) : Option (Int32 × JH) :=
  if a1 ≤ (2000 : Int32) then
    (jput h a0 9 0 (.int (0 : Int32))).bind fun h1 =>
    (jgI h1 a0 9 0).bind fun v3 =>
    if v3 ≤ (0 : Int32) then
      (f_X12_wholeOf a1 h1).bind fun q5 =>
      some (q5.1, q5.2)
    else
      some ((0 : Int32), h1)
  else
    (jput h a0 9 0 (.int (1 : Int32))).bind fun h7 =>
    (jgI h7 a0 9 0).bind fun v9 =>
    if v9 ≤ (0 : Int32) then
      (f_X12_wholeOf a1 h7).bind fun q11 =>
      some (q11.1, q11.2)
    else
      some ((0 : Int32), h7)

def f_X12_small (a0 : Nat) (a1 : Int32) (h : JH) : Option (Int32 × JH) :=
  (jput h a0 9 0 (.int (0 : Int32))).bind fun h1 =>
  (f_X12_isDisc a1 h1).bind fun q3 =>
  if q3.1 = (0 : Int32) then
    some ((0 : Int32), q3.2)
  else
    (f_X12_counts a1 (0 : Int32) q3.2).bind fun q5 =>
    some (q5.1, q5.2)

def f_X12_times (a0 : Nat) (a1 : Int64) (a3 : Int64) (h : JH) : Option (Int64 × JH) :=
  if (lg_cmp a1 (0 : Int64)) = (0 : Int32) then
    (jgI h a0 9 33).bind fun v29 =>
    if v29 = (0 : Int32) then
      if (lg_cmp a1 (0 : Int64)) = (0 : Int32) then
        (jput h a0 9 33 (.int (0 : Int32))).bind fun h33 =>
        some (a1 * a3, h33)
      else
        if (0 : Int32) < (lg_cmp a3 (0 : Int64)) then
          (jput h a0 9 33 (.int (1 : Int32))).bind fun h35 =>
          some (a1 * a3, h35)
        else
          if (0 : Int32) ≤ (lg_cmp a3 (-(0 : Int64))) then
            (jput h a0 9 33 (.int (0 : Int32))).bind fun h37 =>
            some (a1 * a3, h37)
          else
            (jput h a0 9 33 (.int (1 : Int32))).bind fun h39 =>
            some (a1 * a3, h39)
    else
      (jput h a0 9 33 (.int (1 : Int32))).bind fun h31 =>
      some (a1 * a3, h31)
  else
    if (0 : Int32) ≤ (lg_cmp a1 (0 : Int64)) then
      (jnzL a1).bind fun u1 =>
      (jgI h a0 9 33).bind fun v3 =>
      if v3 = (0 : Int32) then
        if (lg_cmp a1 (0 : Int64)) = (0 : Int32) then
          (jput h a0 9 33 (.int (0 : Int32))).bind fun h7 =>
          some (a1 * a3, h7)
        else
          if (0 : Int32) < (lg_cmp a3 ((4611686018427387904 : Int64) / a1)) then
            (jput h a0 9 33 (.int (1 : Int32))).bind fun h9 =>
            some (a1 * a3, h9)
          else
            if (0 : Int32) ≤ (lg_cmp a3 (-((4611686018427387904 : Int64) / a1))) then
              (jput h a0 9 33 (.int (0 : Int32))).bind fun h11 =>
              some (a1 * a3, h11)
            else
              (jput h a0 9 33 (.int (1 : Int32))).bind fun h13 =>
              some (a1 * a3, h13)
      else
        (jput h a0 9 33 (.int (1 : Int32))).bind fun h5 =>
        some (a1 * a3, h5)
    else
      (jnzL (-a1)).bind fun u15 =>
      (jgI h a0 9 33).bind fun v17 =>
      if v17 = (0 : Int32) then
        if (lg_cmp a1 (0 : Int64)) = (0 : Int32) then
          (jput h a0 9 33 (.int (0 : Int32))).bind fun h21 =>
          some (a1 * a3, h21)
        else
          if (0 : Int32) < (lg_cmp a3 ((4611686018427387904 : Int64) / (-a1))) then
            (jput h a0 9 33 (.int (1 : Int32))).bind fun h23 =>
            some (a1 * a3, h23)
          else
            if (0 : Int32) ≤ (lg_cmp a3 (-((4611686018427387904 : Int64) / (-a1)))) then
              (jput h a0 9 33 (.int (0 : Int32))).bind fun h25 =>
              some (a1 * a3, h25)
            else
              (jput h a0 9 33 (.int (1 : Int32))).bind fun h27 =>
              some (a1 * a3, h27)
      else
        (jput h a0 9 33 (.int (1 : Int32))).bind fun h19 =>
        some (a1 * a3, h19)

def f_X12_plus (a0 : Nat) (a1 : Int64) (a3 : Int64) (h : JH) : Option (Int64 × JH) :=
  (jgI h a0 9 33).bind fun v1 =>
  if v1 = (0 : Int32) then
    if (0 : Int32) < (lg_cmp (a1 + a3) (4611686018427387904 : Int64)) then
      (jput h a0 9 33 (.int (1 : Int32))).bind fun h5 =>
      some (a1 + a3, h5)
    else
      if (0 : Int32) ≤ (lg_cmp (a1 + a3) (-4611686018427387904 : Int64)) then
        (jput h a0 9 33 (.int (0 : Int32))).bind fun h7 =>
        some (a1 + a3, h7)
      else
        (jput h a0 9 33 (.int (1 : Int32))).bind fun h9 =>
        some (a1 + a3, h9)
  else
    (jput h a0 9 33 (.int (1 : Int32))).bind fun h3 =>
    some (a1 + a3, h3)

def f_X12_traceOf_L10 (a0 : Nat) (a1 : Int32) (a2 : Int32) (a3 : Int64) (z : Int32) (h : JH) : Option ((Int32 ⊕ Int32) × JH) :=
  if ((4 : Int32) * a2) < ((z + (1 : Int32)) * (z + (1 : Int32))) then
    some (.inr z, h)
  else
    some (.inl (z + (1 : Int32)), h)

def f_X12_traceOf_L61 (a0 : Nat) (a1 : Int32) (a2 : Int32) (a3 : Int64) (a5 : Int32) (a6 : Int32) (z : (Int64 × Int64 × Int32)) (h : JH) : Option (((Int64 × Int64 × Int32) ⊕ (Int64 × Int64 × Int32)) × JH) :=
  if a1 < z.2.2 then
    some (.inr (z.1, z.2.1, z.2.2), h)
  else
    (jgI h a0 9 33).bind fun v8 =>
    if v8 = (0 : Int32) then
      (jrecv h a0 9).bind fun u20 =>
      (f_X12_times a0 a6.toInt64 z.2.1 h).bind fun q10 =>
      (jrecv q10.2 a0 9).bind fun u18 =>
      (f_X12_times a0 a2.toInt64 z.1 q10.2).bind fun q12 =>
      (jrecv q12.2 a0 9).bind fun u16 =>
      (f_X12_plus a0 q10.1 (-q12.1) q12.2).bind fun q14 =>
      some (.inl (z.2.1, q14.1, z.2.2 + (1 : Int32)), q14.2)
    else
      some (.inr (z.1, z.2.1, z.2.2), h)

def f_X12_traceOf_L36 (a0 : Nat) (a1 : Int32) (a2 : Int32) (a5 : Int32) (z : (Int64 × Int32)) (h : JH) : Option (((Int64 × Int32) ⊕ (Int64 × Int32)) × JH) :=
  if a5 < z.2 then
    some (.inr (z.1, z.2), h)
  else
    (jgI h a0 9 33).bind fun v6 =>
    if v6 = (0 : Int32) then
      (jloop (f_X12_traceOf_L61 a0 a1 a2 z.1 a5 z.2) jF ((1 : Int64), z.2.toInt64, (4 : Int32)) h).bind fun q8 =>
      (jgI q8.2 a0 9 33).bind fun v10 =>
      if v10 = (0 : Int32) then
        (f_X12_wholeOf (((4 : Int32) * a2) - (z.2 * z.2)) q8.2).bind fun q12 =>
        (jrecv q12.2 a0 9).bind fun u20 =>
        (f_X12_times a0 q8.1.2.1 q12.1.toInt64 q12.2).bind fun q14 =>
        (jrecv q14.2 a0 9).bind fun u18 =>
        (f_X12_plus a0 z.1 q14.1 q14.2).bind fun q16 =>
        some (.inl (q16.1, z.2 + (1 : Int32)), q16.2)
      else
        some (.inl (z.1, z.2 + (1 : Int32)), q8.2)
    else
      some (.inr (z.1, z.2), h)

def f_X12_traceOf_L203 (a0 : Nat) (a1 : Int32) (a2 : Int32) (a3 : Int64) (a6 : Int32) (a7 : Int32) (z : (Int64 × Int32)) (h : JH) : Option (((Int64 × Int32) ⊕ (Int64 × Int32)) × JH) :=
  if a1 ≤ z.2 then
    some (.inr (z.1, z.2), h)
  else
    (jgI h a0 9 33).bind fun v35 =>
    if v35 = (0 : Int32) then
      (jrecv h a0 9).bind fun u39 =>
      (f_X12_times a0 z.1 a7.toInt64 h).bind fun q37 =>
      some (.inl (q37.1, z.2 + (1 : Int32)), q37.2)
    else
      some (.inr (z.1, z.2), h)

def f_X12_traceOf_L157 (a0 : Nat) (a1 : Int32) (a2 : Int32) (z : (Int64 × Int32)) (h : JH) : Option (((Int64 × Int32) ⊕ (Int64 × Int32)) × JH) :=
  if a2 < z.2 then
    some (.inr (z.1, z.2), h)
  else
    (jgI h a0 9 33).bind fun v27 =>
    if v27 = (0 : Int32) then
      (jnz z.2).bind fun u29 =>
      if (jrem a2 z.2) = (0 : Int32) then
        (jnz z.2).bind fun u31 =>
        if (a2 / z.2) ≤ z.2 then
          (jnz z.2).bind fun u33 =>
          (jloop (f_X12_traceOf_L203 a0 a1 a2 z.1 z.2 (a2 / z.2)) jF ((1 : Int64), (1 : Int32)) h).bind fun q35 =>
          (jgI q35.2 a0 9 33).bind fun v37 =>
          if v37 = (0 : Int32) then
            (jrecv q35.2 a0 9).bind fun u47 =>
            (f_X12_times a0 q35.1.1 (12 : Int64) q35.2).bind fun q39 =>
            (jgI q39.2 a0 9 33).bind fun v41 =>
            if v41 = (0 : Int32) then
              (jrecv q39.2 a0 9).bind fun u45 =>
              (f_X12_plus a0 z.1 q39.1 q39.2).bind fun q43 =>
              some (.inl (q43.1, z.2 + (1 : Int32)), q43.2)
            else
              some (.inl (z.1, z.2 + (1 : Int32)), q39.2)
          else
            (jgI q35.2 a0 9 33).bind fun v49 =>
            if v49 = (0 : Int32) then
              (jrecv q35.2 a0 9).bind fun u53 =>
              (f_X12_plus a0 z.1 q35.1.1 q35.2).bind fun q51 =>
              some (.inl (q51.1, z.2 + (1 : Int32)), q51.2)
            else
              some (.inl (z.1, z.2 + (1 : Int32)), q35.2)
        else
          (jloop (f_X12_traceOf_L203 a0 a1 a2 z.1 z.2 z.2) jF ((1 : Int64), (1 : Int32)) h).bind fun q55 =>
          (jgI q55.2 a0 9 33).bind fun v57 =>
          if v57 = (0 : Int32) then
            (jrecv q55.2 a0 9).bind fun u67 =>
            (f_X12_times a0 q55.1.1 (12 : Int64) q55.2).bind fun q59 =>
            (jgI q59.2 a0 9 33).bind fun v61 =>
            if v61 = (0 : Int32) then
              (jrecv q59.2 a0 9).bind fun u65 =>
              (f_X12_plus a0 z.1 q59.1 q59.2).bind fun q63 =>
              some (.inl (q63.1, z.2 + (1 : Int32)), q63.2)
            else
              some (.inl (z.1, z.2 + (1 : Int32)), q59.2)
          else
            (jgI q55.2 a0 9 33).bind fun v69 =>
            if v69 = (0 : Int32) then
              (jrecv q55.2 a0 9).bind fun u73 =>
              (f_X12_plus a0 z.1 q55.1.1 q55.2).bind fun q71 =>
              some (.inl (q71.1, z.2 + (1 : Int32)), q71.2)
            else
              some (.inl (z.1, z.2 + (1 : Int32)), q55.2)
      else
        some (.inl (z.1, z.2 + (1 : Int32)), h)
    else
      some (.inr (z.1, z.2), h)

def f_X12_traceOf (a0 : Nat) (a1 : Int32) (a2 : Int32) (h : JH) : Option (Int64 × JH) :=
  (jput h a0 9 33 (.int (0 : Int32))).bind fun h1 =>
  (jloop (f_X12_traceOf_L10 a0 a1 a2 (0 : Int64)) jF (0 : Int32) h1).bind fun q4 =>
  (jloop (f_X12_traceOf_L36 a0 a1 a2 q4.1) jF ((0 : Int64), -q4.1) q4.2).bind fun q25 =>
  (jloop (f_X12_traceOf_L157 a0 a1 a2) jF (q25.1.1, (1 : Int32)) q25.2).bind fun q85 =>
  some ((-q85.1.1) / (24 : Int64), q85.2)

def f_X12_isTraced (a0 : Int32) (a1 : Int32) (h : JH) : Option (Int32 × JH) :=
  (f_X12_within a0 (4 : Int32) (60 : Int32) h).bind fun q1 =>
  if q1.1 = (0 : Int32) then
    some ((0 : Int32), q1.2)
  else
    if (jrem a0 (2 : Int32)) = (0 : Int32) then
      (f_X12_within a1 (1 : Int32) (60 : Int32) q1.2).bind fun q3 =>
      if q3.1 = (0 : Int32) then
        some ((0 : Int32), q3.2)
      else
        some ((1 : Int32), q3.2)
    else
      some ((0 : Int32), q1.2)

def f_X12_trace (a0 : Nat) (a1 : Int32) (a2 : Int32) (h : JH) : Option (Int64 × JH) :=
  (jput h a0 9 0 (.int (0 : Int32))).bind fun h1 =>
  (f_X12_isTraced a1 a2 h1).bind fun q3 =>
  if q3.1 = (0 : Int32) then
    some ((-9223372036854775807 : Int64), q3.2)
  else
    (jrecv q3.2 a0 9).bind fun u9 =>
    (f_X12_traceOf a0 a1 a2 q3.2).bind fun q5 =>
    (jgI q5.2 a0 9 33).bind fun v7 =>
    if v7 = (0 : Int32) then
      some (q5.1, q5.2)
    else
      some ((-9223372036854775808 : Int64), q5.2)

def f_X12_traceLeft_L58 (a0 : Nat) (a1 : Int32) (a2 : Int32) (a3 : Int64) (a5 : Int32) (z : (Int64 × Int64 × Int32)) (h : JH) : Option (((Int64 × Int64 × Int32) ⊕ (Int64 × Int64 × Int32)) × JH) :=
  if a1 < z.2.2 then
    some (.inr (z.1, z.2.1, z.2.2), h)
  else
    (jrecv h a0 9).bind fun u13 =>
    (f_X12_left a0 a5.toInt64 h).bind fun q7 =>
    (jrecv q7.2 a0 9).bind fun u11 =>
    (f_X12_left a0 ((q7.1.toInt64 * z.2.1) - (a2.toInt64 * z.1)) q7.2).bind fun q9 =>
    some (.inl (z.2.1, q9.1.toInt64, z.2.2 + (1 : Int32)), q9.2)

def f_X12_traceLeft_L23 (a0 : Nat) (a1 : Int32) (a2 : Int32) (z : (Int64 × Int32)) (h : JH) : Option (((Int64 × Int32) ⊕ (Int64 × Int32)) × JH) :=
  if ((2 : Int32) * a2) < z.2 then
    some (.inr (z.1, z.2), h)
  else
    if ((4 : Int32) * a2) < (z.2 * z.2) then
      some (.inl (z.1, z.2 + (1 : Int32)), h)
    else
      (jrecv h a0 9).bind fun u15 =>
      (f_X12_left a0 z.2.toInt64 h).bind fun q5 =>
      (jloop (f_X12_traceLeft_L58 a0 a1 a2 z.1 z.2) jF ((1 : Int64), q5.1.toInt64, (4 : Int32)) q5.2).bind fun q7 =>
      (f_X12_wholeOf (((4 : Int32) * a2) - (z.2 * z.2)) q7.2).bind fun q9 =>
      (jrecv q9.2 a0 9).bind fun u13 =>
      (f_X12_left a0 (z.1 + (q7.1.2.1 * q9.1.toInt64)) q9.2).bind fun q11 =>
      some (.inl (q11.1.toInt64, z.2 + (1 : Int32)), q11.2)

def f_X12_traceLeft_L135 (a0 : Nat) (a1 : Int32) (a2 : Int32) (z : (Int64 × Int32)) (h : JH) : Option (((Int64 × Int32) ⊕ (Int64 × Int32)) × JH) :=
  if a2 < z.2 then
    some (.inr (z.1, z.2), h)
  else
    (jnz z.2).bind fun u21 =>
    if (jrem a2 z.2) = (0 : Int32) then
      (jnz z.2).bind fun u23 =>
      if (a2 / z.2) ≤ z.2 then
        (jnz z.2).bind fun u25 =>
        (jrecv h a0 9).bind fun u33 =>
        (f_X12_power a0 (a2 / z.2) (a1 - (1 : Int32)) h).bind fun q27 =>
        (jrecv q27.2 a0 9).bind fun u31 =>
        (f_X12_left a0 (z.1 + ((12 : Int64) * q27.1.toInt64)) q27.2).bind fun q29 =>
        some (.inl (q29.1.toInt64, z.2 + (1 : Int32)), q29.2)
      else
        (jrecv h a0 9).bind fun u41 =>
        (f_X12_power a0 z.2 (a1 - (1 : Int32)) h).bind fun q35 =>
        (jrecv q35.2 a0 9).bind fun u39 =>
        (f_X12_left a0 (z.1 + ((12 : Int64) * q35.1.toInt64)) q35.2).bind fun q37 =>
        some (.inl (q37.1.toInt64, z.2 + (1 : Int32)), q37.2)
    else
      some (.inl (z.1, z.2 + (1 : Int32)), h)

def f_X12_traceLeft (a0 : Nat) (a1 : Int32) (a2 : Int32) (h : JH) : Option (Int32 × JH) :=
  (jput h a0 9 0 (.int (0 : Int32))).bind fun h1 =>
  (f_X12_isTraced a1 a2 h1).bind fun q3 =>
  if q3.1 = (0 : Int32) then
    some ((-1 : Int32), q3.2)
  else
    (jloop (f_X12_traceLeft_L23 a0 a1 a2) jF ((0 : Int64), (-2 : Int32) * a2) q3.2).bind fun q19 =>
    (jloop (f_X12_traceLeft_L135 a0 a1 a2) jF (q19.1.1, (1 : Int32)) q19.2).bind fun q46 =>
    (jrecv q46.2 a0 9).bind fun u54 =>
    (f_X12_inverse a0 (24 : Int32) q46.2).bind fun q48 =>
    (jrecv q48.2 a0 9).bind fun u52 =>
    (f_X12_left a0 ((-q46.1.1) * q48.1.toInt64) q48.2).bind fun q50 =>
    some (q50.1, q50.2)

def f_Jxf58ca_isNaN_12338 (a0 : UInt32) (h : JH) : Option (Int32 × JH) :=
  if (Op.cmpValue (FP.fcmp a0 a0) .l) = (0 : Int32) then
    some ((0 : Int32), h)
  else
    some ((1 : Int32), h)

def f_Jxf58ca_floatToIntBits_5c35a (a0 : UInt32) (h : JH) : Option (Int32 × JH) :=
  (f_Jxf58ca_isNaN_12338 a0 h).bind fun q1 =>
  if q1.1 = (0 : Int32) then
    some (a0.toInt32, q1.2)
  else
    some ((2143289344 : Int32), q1.2)

def f_X12_share_L51 (a1 : Int32) (a2 : Int32) (a3 : Int64) (z : (UInt32 × Int32)) (h : JH) : Option (((UInt32 × Int32) ⊕ (UInt32 × Int32)) × JH) :=
  if (20 : Int32) ≤ z.2 then
    some (.inr (z.1, z.2), h)
  else
    (jnn (FP.fdiv (FP.i2f a2) z.1)).bind fun u11 =>
    (jnn (FP.fadd z.1 (FP.fdiv (FP.i2f a2) z.1))).bind fun u13 =>
    (jnn (FP.fdiv (FP.fadd z.1 (FP.fdiv (FP.i2f a2) z.1)) FP.fconst2)).bind fun u15 =>
    some (.inl (FP.fdiv (FP.fadd z.1 (FP.fdiv (FP.i2f a2) z.1)) FP.fconst2, z.2 + (1 : Int32)), h)

def f_X12_share_L82 (a1 : Int32) (a2 : Int32) (a3 : Int64) (a5 : UInt32) (z : (UInt32 × Int32)) (h : JH) : Option (((UInt32 × Int32) ⊕ (UInt32 × Int32)) × JH) :=
  if ((a1 - (2 : Int32)) / (2 : Int32)) ≤ z.2 then
    some (.inr (z.1, z.2), h)
  else
    (jnn (FP.fmul z.1 (FP.i2f a2))).bind fun u20 =>
    some (.inl (FP.fmul z.1 (FP.i2f a2), z.2 + (1 : Int32)), h)

def f_X12_share (a0 : Nat) (a1 : Int32) (a2 : Int32) (h : JH) : Option (Int32 × JH) :=
  (jput h a0 9 0 (.int (0 : Int32))).bind fun h1 =>
  (f_X12_isTraced a1 a2 h1).bind fun q3 =>
  if q3.1 = (0 : Int32) then
    some ((-2147483648 : Int32), q3.2)
  else
    (jrecv q3.2 a0 9).bind fun u37 =>
    (f_X12_traceOf a0 a1 a2 q3.2).bind fun q5 =>
    (jgI q5.2 a0 9 33).bind fun v7 =>
    if v7 = (0 : Int32) then
      (f_X12_cuspsOf a1 q5.2).bind fun q9 =>
      if q9.1 = (0 : Int32) then
        some ((0 : Int32), q9.2)
      else
        (jloop (f_X12_share_L51 a1 a2 q5.1) jF (FP.i2f a2, (0 : Int32)) q9.2).bind fun q18 =>
        (jloop (f_X12_share_L82 a1 a2 q5.1 q18.1.1) jF (FP.fconst1, (0 : Int32)) q18.2).bind fun q23 =>
        (jnn (FP.fmul q23.1.1 q18.1.1)).bind fun u25 =>
        (jnn (FP.fmul FP.fconst2 (FP.fmul q23.1.1 q18.1.1))).bind fun u27 =>
        (f_X12_cuspsOf a1 q23.2).bind fun q29 =>
        (jnn (FP.fmul (FP.fmul FP.fconst2 (FP.fmul q23.1.1 q18.1.1)) (FP.i2f q29.1))).bind fun u31 =>
        (jnn (FP.fdiv (FP.l2f q5.1) (FP.fmul (FP.fmul FP.fconst2 (FP.fmul q23.1.1 q18.1.1)) (FP.i2f q29.1)))).bind fun u33 =>
        (f_Jxf58ca_floatToIntBits_5c35a (FP.fdiv (FP.l2f q5.1) (FP.fmul (FP.fmul FP.fconst2 (FP.fmul q23.1.1 q18.1.1)) (FP.i2f q29.1))) q29.2).bind fun q35 =>
        some (q35.1, q35.2)
    else
      some ((-2147483648 : Int32), q5.2)

def f_X12_take (a0 : Nat) (a1 : Int32) (a2 : Int32) (h : JH) : Option (Int32 × JH) :=
  (jput h a0 9 0 (.int (0 : Int32))).bind fun h1 =>
  (jrecv h1 a0 9).bind fun u27 =>
  (f_X12_isRegister a0 a1 h1).bind fun q3 =>
  if q3.1 = (0 : Int32) then
    some ((-1 : Int32), q3.2)
  else
    (jgI q3.2 a0 9 19).bind fun v5 =>
    (f_X12_within a2 (0 : Int32) (v5 - (1 : Int32)) q3.2).bind fun q7 =>
    if q7.1 = (0 : Int32) then
      some ((-1 : Int32), q7.2)
    else
      (jgR q7.2 a0 9 31).bind fun v9 =>
      (jgR q7.2 a0 9 20).bind fun v11 =>
      (jaI q7.2 v11 a2).bind fun v13 =>
      (jsI q7.2 v9 a1 v13).bind fun h15 =>
      (jgR h15 a0 9 21).bind fun v17 =>
      (jgR h15 a0 9 32).bind fun v19 =>
      (f_X12_copies v17 ((181 : Int32) * a2) v19 ((181 : Int32) * a1) h15).bind fun q21 =>
      (jgR q21.2 a0 9 31).bind fun v23 =>
      (jaI q21.2 v23 a1).bind fun v25 =>
      some (v25, q21.2)

def f_X12_plus__L50 (a0 : Nat) (a1 : Int32) (a2 : Int32) (a4 : Int64) (z : Int32) (h : JH) : Option ((Int32 ⊕ Int32) × JH) :=
  if (181 : Int32) ≤ z then
    some (.inr z, h)
  else
    (jgR h a0 9 5).bind fun v17 =>
    (jgR h a0 9 32).bind fun v19 =>
    (jaI h v19 (((181 : Int32) * a1) + z)).bind fun v21 =>
    (jgR h a0 9 32).bind fun v23 =>
    (jaI h v23 (((181 : Int32) * a2) + z)).bind fun v25 =>
    (jrecv h a0 9).bind fun u31 =>
    (f_X12_left a0 (v21.toInt64 + (a4 * v25.toInt64)) h).bind fun q27 =>
    (jsI q27.2 v17 z q27.1).bind fun h29 =>
    some (.inl (z + (1 : Int32)), h29)

def f_X12_plus_ (a0 : Nat) (a1 : Int32) (a2 : Int32) (a3 : Int32) (h : JH) : Option (Int32 × JH) :=
  (jput h a0 9 0 (.int (0 : Int32))).bind fun h1 =>
  (jrecv h1 a0 9).bind fun u46 =>
  (f_X12_isRegister a0 a1 h1).bind fun q3 =>
  if q3.1 = (0 : Int32) then
    some ((0 : Int32), q3.2)
  else
    (jrecv q3.2 a0 9).bind fun u44 =>
    (f_X12_isRegister a0 a2 q3.2).bind fun q5 =>
    if q5.1 = (0 : Int32) then
      some ((0 : Int32), q5.2)
    else
      (jgR q5.2 a0 9 31).bind fun v7 =>
      (jaI q5.2 v7 a1).bind fun v9 =>
      (jgR q5.2 a0 9 31).bind fun v11 =>
      (jaI q5.2 v11 a2).bind fun v13 =>
      if v9 = v13 then
        (jrecv q5.2 a0 9).bind fun u42 =>
        (f_X12_left a0 a3.toInt64 q5.2).bind fun q15 =>
        (jloop (f_X12_plus__L50 a0 a1 a2 q15.1.toInt64) jF (0 : Int32) q15.2).bind fun q34 =>
        (jgR q34.2 a0 9 5).bind fun v36 =>
        (jgR q34.2 a0 9 32).bind fun v38 =>
        (f_X12_copies v36 (0 : Int32) v38 ((181 : Int32) * a1) q34.2).bind fun q40 =>
        some ((1 : Int32), q40.2)
      else
        some ((0 : Int32), q5.2)

def f_X12_times_ (a0 : Nat) (a1 : Int32) (a2 : Int32) (h : JH) : Option (Int32 × JH) :=
  (jput h a0 9 0 (.int (0 : Int32))).bind fun h1 =>
  (jrecv h1 a0 9).bind fun u47 =>
  (f_X12_isRegister a0 a1 h1).bind fun q3 =>
  if q3.1 = (0 : Int32) then
    some ((-1 : Int32), q3.2)
  else
    (jrecv q3.2 a0 9).bind fun u45 =>
    (f_X12_isRegister a0 a2 q3.2).bind fun q5 =>
    if q5.1 = (0 : Int32) then
      some ((-1 : Int32), q5.2)
    else
      (jgR q5.2 a0 9 31).bind fun v7 =>
      (jaI q5.2 v7 a1).bind fun v9 =>
      (jgR q5.2 a0 9 31).bind fun v11 =>
      (jaI q5.2 v11 a2).bind fun v13 =>
      if (v9 + v13) ≤ (60 : Int32) then
        (jgR q5.2 a0 9 32).bind fun v15 =>
        (jgR q5.2 a0 9 32).bind fun v17 =>
        (jgR q5.2 a0 9 6).bind fun v19 =>
        (jrecv q5.2 a0 9).bind fun u43 =>
        (f_X12_multiplies a0 v15 ((181 : Int32) * a1) v17 ((181 : Int32) * a2) v19 q5.2).bind fun q21 =>
        (jgR q21.2 a0 9 6).bind fun v23 =>
        (jgR q21.2 a0 9 32).bind fun v25 =>
        (f_X12_copies v23 (0 : Int32) v25 ((181 : Int32) * a1) q21.2).bind fun q27 =>
        (jgR q27.2 a0 9 31).bind fun v29 =>
        (jaI q27.2 v29 a1).bind fun v31 =>
        (jgR q27.2 a0 9 31).bind fun v33 =>
        (jaI q27.2 v33 a2).bind fun v35 =>
        (jsI q27.2 v29 a1 (v31 + v35)).bind fun h37 =>
        (jgR h37 a0 9 31).bind fun v39 =>
        (jaI h37 v39 a1).bind fun v41 =>
        some (v41, h37)
      else
        some ((-1 : Int32), q5.2)

def f_X12_isOperator (a0 : Int32) (h : JH) : Option (Int32 × JH) :=
  (f_X12_within a0 (1 : Int32) (30 : Int32) h).bind fun q1 =>
  (jzb q1.1).bind fun u3 =>
  some (q1.1, q1.2)

def f_X12_hecke_L32 (a0 : Nat) (a1 : Int32) (a2 : Int32) (a3 : Int32) (z : Int32) (h : JH) : Option ((Int32 ⊕ Int32) × JH) :=
  (f_X12_longOf a3 h).bind fun q11 =>
  if q11.1 ≤ z then
    some (.inr z, q11.2)
  else
    (jgR q11.2 a0 9 9).bind fun v13 =>
    (jgR q11.2 a0 9 32).bind fun v15 =>
    (jrecv q11.2 a0 9).bind fun u21 =>
    (f_X12_heckeAt a0 v15 ((181 : Int32) * a1) a3 a2 z q11.2).bind fun q17 =>
    (jsI q17.2 v13 z q17.1).bind fun h19 =>
    some (.inl (z + (1 : Int32)), h19)

def f_X12_hecke (a0 : Nat) (a1 : Int32) (a2 : Int32) (h : JH) : Option (Int32 × JH) :=
  (jput h a0 9 0 (.int (0 : Int32))).bind fun h1 =>
  (jrecv h1 a0 9).bind fun u36 =>
  (f_X12_isRegister a0 a1 h1).bind fun q3 =>
  if q3.1 = (0 : Int32) then
    some ((0 : Int32), q3.2)
  else
    (f_X12_isOperator a2 q3.2).bind fun q5 =>
    if q5.1 = (0 : Int32) then
      some ((0 : Int32), q5.2)
    else
      (jgR q5.2 a0 9 31).bind fun v7 =>
      (jaI q5.2 v7 a1).bind fun v9 =>
      (jloop (f_X12_hecke_L32 a0 a1 a2 v9) jF (0 : Int32) q5.2).bind fun q24 =>
      (jrecv q24.2 a0 9).bind fun u34 =>
      (f_X12_builds a0 v9 q24.2).bind fun q26 =>
      (jgR q26.2 a0 9 10).bind fun v28 =>
      (jgR q26.2 a0 9 32).bind fun v30 =>
      (f_X12_copies v28 (0 : Int32) v30 ((181 : Int32) * a1) q26.2).bind fun q32 =>
      some ((1 : Int32), q32.2)

def f_X12_multiplies__L43 (a0 : Nat) (a2 : Int32) (a3 : Int32) (a4 : Int32) (z : (Int32 × Int32)) (h : JH) : Option (((Int32 × Int32) ⊕ (Int32 × Int32)) × JH) :=
  (f_X12_longOf a3 h).bind fun q11 =>
  if q11.1 ≤ z.2 then
    some (.inr (z.1, z.2), q11.2)
  else
    if z.1 = (-2 : Int32) then
      (jgR q11.2 a0 9 32).bind fun v13 =>
      (jaI q11.2 v13 (a4 + z.2)).bind fun v15 =>
      if v15 = (0 : Int32) then
        some (.inl ((-2 : Int32), z.2 + (1 : Int32)), q11.2)
      else
        (jgR q11.2 a0 9 32).bind fun v17 =>
        (jrecv q11.2 a0 9).bind fun u33 =>
        (f_X12_heckeAt a0 v17 a4 a3 a2 z.2 q11.2).bind fun q19 =>
        (jgR q19.2 a0 9 32).bind fun v21 =>
        (jaI q19.2 v21 (a4 + z.2)).bind fun v23 =>
        (jrecv q19.2 a0 9).bind fun u31 =>
        (f_X12_inverse a0 v23 q19.2).bind fun q25 =>
        (jrecv q25.2 a0 9).bind fun u29 =>
        (f_X12_left a0 (q19.1.toInt64 * q25.1.toInt64) q25.2).bind fun q27 =>
        some (.inl (q27.1, z.2 + (1 : Int32)), q27.2)
    else
      some (.inr (z.1, z.2), q11.2)

def f_X12_multiplies__L137 (a0 : Nat) (a2 : Int32) (a3 : Int32) (a4 : Int32) (a5 : Int32) (z : (Int32 × Int32)) (h : JH) : Option (((Int32 × Int32) ⊕ (Int32 × Int32)) × JH) :=
  (f_X12_longOf a3 h).bind fun q40 =>
  if q40.1 ≤ z.2 then
    some (.inr (z.1, z.2), q40.2)
  else
    if z.1 = (0 : Int32) then
      some (.inr (z.1, z.2), q40.2)
    else
      (jgR q40.2 a0 9 32).bind fun v42 =>
      (jrecv q40.2 a0 9).bind fun u54 =>
      (f_X12_heckeAt a0 v42 a4 a3 a2 z.2 q40.2).bind fun q44 =>
      (jgR q44.2 a0 9 32).bind fun v46 =>
      (jaI q44.2 v46 (a4 + z.2)).bind fun v48 =>
      (jrecv q44.2 a0 9).bind fun u52 =>
      (f_X12_left a0 (a5.toInt64 * v48.toInt64) q44.2).bind fun q50 =>
      if q44.1 = q50.1 then
        some (.inl ((1 : Int32), z.2 + (1 : Int32)), q50.2)
      else
        some (.inl ((0 : Int32), z.2 + (1 : Int32)), q50.2)

def f_X12_multiplies_ (a0 : Nat) (a1 : Int32) (a2 : Int32) (h : JH) : Option (Int32 × JH) :=
  (jput h a0 9 0 (.int (0 : Int32))).bind fun h1 =>
  (jrecv h1 a0 9).bind fun u63 =>
  (f_X12_isRegister a0 a1 h1).bind fun q3 =>
  if q3.1 = (0 : Int32) then
    some ((-1 : Int32), q3.2)
  else
    (f_X12_isOperator a2 q3.2).bind fun q5 =>
    if q5.1 = (0 : Int32) then
      some ((-1 : Int32), q5.2)
    else
      (jgR q5.2 a0 9 31).bind fun v7 =>
      (jaI q5.2 v7 a1).bind fun v9 =>
      (jloop (f_X12_multiplies__L43 a0 a2 v9 ((181 : Int32) * a1)) jF ((-2 : Int32), (0 : Int32)) q5.2).bind fun q38 =>
      if q38.1.1 = (-2 : Int32) then
        (jloop (f_X12_multiplies__L137 a0 a2 v9 ((181 : Int32) * a1) q38.1.1) jF ((0 : Int32), (0 : Int32)) q38.2).bind fun q59 =>
        if q59.1.1 = (0 : Int32) then
          some ((-2 : Int32), q59.2)
        else
          some (q38.1.1, q59.2)
      else
        (jloop (f_X12_multiplies__L137 a0 a2 v9 ((181 : Int32) * a1) q38.1.1) jF ((1 : Int32), (0 : Int32)) q38.2).bind fun q61 =>
        if q61.1.1 = (0 : Int32) then
          some ((-2 : Int32), q61.2)
        else
          some (q38.1.1, q61.2)

def f_X12_alike_L59 (a0 : Nat) (a1 : Int32) (a2 : Int32) (a3 : Int32) (z : (Int32 × Int32)) (h : JH) : Option (((Int32 × Int32) ⊕ (Int32 × Int32)) × JH) :=
  if a3 < z.2 then
    some (.inr (z.1, z.2), h)
  else
    if z.1 = (0 : Int32) then
      some (.inr (z.1, z.2), h)
    else
      (jgR h a0 9 32).bind fun v17 =>
      (jaI h v17 (((181 : Int32) * a1) + z.2)).bind fun v19 =>
      (jgR h a0 9 32).bind fun v21 =>
      (jaI h v21 (((181 : Int32) * a2) + z.2)).bind fun v23 =>
      if v19 = v23 then
        some (.inl ((1 : Int32), z.2 + (1 : Int32)), h)
      else
        some (.inl ((0 : Int32), z.2 + (1 : Int32)), h)

def f_X12_alike (a0 : Nat) (a1 : Int32) (a2 : Int32) (a3 : Int32) (h : JH) : Option (Int32 × JH) :=
  (jput h a0 9 0 (.int (0 : Int32))).bind fun h1 =>
  (jrecv h1 a0 9).bind fun u34 =>
  (f_X12_isRegister a0 a1 h1).bind fun q3 =>
  if q3.1 = (0 : Int32) then
    some ((-1 : Int32), q3.2)
  else
    (jrecv q3.2 a0 9).bind fun u32 =>
    (f_X12_isRegister a0 a2 q3.2).bind fun q5 =>
    if q5.1 = (0 : Int32) then
      some ((-1 : Int32), q5.2)
    else
      (f_X12_within a3 (0 : Int32) (180 : Int32) q5.2).bind fun q7 =>
      if q7.1 = (0 : Int32) then
        some ((-1 : Int32), q7.2)
      else
        (jgR q7.2 a0 9 31).bind fun v9 =>
        (jaI q7.2 v9 a1).bind fun v11 =>
        (jgR q7.2 a0 9 31).bind fun v13 =>
        (jaI q7.2 v13 a2).bind fun v15 =>
        if v11 = v15 then
          (jloop (f_X12_alike_L59 a0 a1 a2 a3) jF ((1 : Int32), (0 : Int32)) q7.2).bind fun q30 =>
          if q30.1.1 = (0 : Int32) then
            some ((0 : Int32), q30.2)
          else
            some ((1 : Int32), q30.2)
        else
          (jloop (f_X12_alike_L59 a0 a1 a2 a3) jF ((0 : Int32), (0 : Int32)) q7.2).bind fun q28 =>
          if q28.1.1 = (0 : Int32) then
            some ((0 : Int32), q28.2)
          else
            some ((1 : Int32), q28.2)

def f_X12_parts_L40 (a0 : Nat) (a1 : Int32) (a2 : Int32) (z : Int32) (h : JH) : Option ((Int32 ⊕ (Int32 ⊕ Int32)) × JH) :=
  (jgR h a0 9 31).bind fun v15 =>
  (jaI h v15 a1).bind fun v17 =>
  if (v17 / (12 : Int32)) < z then
    some (.inr (.inr z), h)
  else
    (jgR h a0 9 32).bind fun v19 =>
    (jaI h v19 (((181 : Int32) * a1) + z)).bind fun v21 =>
    (jgR h a0 9 32).bind fun v23 =>
    (jaI h v23 (((181 : Int32) * a2) + z)).bind fun v25 =>
    if v21 = v25 then
      some (.inl (z + (1 : Int32)), h)
    else
      some (.inr (.inl z), h)

def f_X12_parts (a0 : Nat) (a1 : Int32) (a2 : Int32) (h : JH) : Option (Int32 × JH) :=
  (jput h a0 9 0 (.int (0 : Int32))).bind fun h1 =>
  (jrecv h1 a0 9).bind fun u35 =>
  (f_X12_isRegister a0 a1 h1).bind fun q3 =>
  if q3.1 = (0 : Int32) then
    some ((-1 : Int32), q3.2)
  else
    (jrecv q3.2 a0 9).bind fun u33 =>
    (f_X12_isRegister a0 a2 q3.2).bind fun q5 =>
    if q5.1 = (0 : Int32) then
      some ((-1 : Int32), q5.2)
    else
      (jgR q5.2 a0 9 31).bind fun v7 =>
      (jaI q5.2 v7 a1).bind fun v9 =>
      (jgR q5.2 a0 9 31).bind fun v11 =>
      (jaI q5.2 v11 a2).bind fun v13 =>
      if v9 = v13 then
        (jloop (f_X12_parts_L40 a0 a1 a2) jF (0 : Int32) q5.2).bind fun q29 =>
        Sum.elim (fun r32 => some (r32, q29.2)) (fun t31 =>
          some ((-2 : Int32), q29.2)) q29.1
      else
        some ((-1 : Int32), q5.2)

def f_X12_laysTable_L21 (a0 : Nat) (a1 : Int32) (a2 : Int32) (a3 : Int32) (z : Int32) (h : JH) : Option ((Int32 ⊕ Int32) × JH) :=
  if (6 : Int32) ≤ z then
    some (.inr z, h)
  else
    (jgR h a0 9 9).bind fun v7 =>
    if z = (a3 + (1 : Int32)) then
      (jsI h v7 z (1 : Int32)).bind fun h11 =>
      some (.inl (z + (1 : Int32)), h11)
    else
      (jsI h v7 z (0 : Int32)).bind fun h9 =>
      some (.inl (z + (1 : Int32)), h9)

def f_X12_laysTable_L62 (a0 : Nat) (a1 : Int32) (a2 : Int32) (a3 : Int32) (z : Int32) (h : JH) : Option ((Int32 ⊕ Int32) × JH) :=
  (jgI h a0 9 35).bind fun v19 =>
  if v19 ≤ z then
    some (.inr z, h)
  else
    (jgR h a0 9 34).bind fun v21 =>
    (jgR h a0 9 10).bind fun v23 =>
    (jrecv h a0 9).bind fun u29 =>
    (f_X12_heckeAt a0 v23 (0 : Int32) a1 a2 (z + (1 : Int32)) h).bind fun q25 =>
    (jsI q25.2 v21 (((6 : Int32) * a3) + z) q25.1).bind fun h27 =>
    some (.inl (z + (1 : Int32)), h27)

def f_X12_laysTable_L10 (a0 : Nat) (a1 : Int32) (a2 : Int32) (z : Int32) (h : JH) : Option ((Int32 ⊕ Int32) × JH) :=
  (jgI h a0 9 35).bind fun v5 =>
  if v5 ≤ z then
    some (.inr z, h)
  else
    (jloop (f_X12_laysTable_L21 a0 a1 a2 z) jF (0 : Int32) h).bind fun q7 =>
    (jrecv q7.2 a0 9).bind fun u13 =>
    (f_X12_builds a0 a1 q7.2).bind fun q9 =>
    (jloop (f_X12_laysTable_L62 a0 a1 a2 z) jF (0 : Int32) q9.2).bind fun q11 =>
    some (.inl (z + (1 : Int32)), q11.2)

def f_X12_laysTable (a0 : Nat) (a1 : Int32) (a2 : Int32) (h : JH) : Option (Unit × JH) :=
  (f_X12_cuspsOf a1 h).bind fun q1 =>
  (jput q1.2 a0 9 35 (.int q1.1)).bind fun h3 =>
  (jloop (f_X12_laysTable_L10 a0 a1 a2) jF (0 : Int32) h3).bind fun q16 =>
  some ((), q16.2)

def f_X12_table (a0 : Nat) (a1 : Int32) (a2 : Int32) (a3 : Int32) (a4 : Int32) (h : JH) : Option (Int32 × JH) :=
  (jput h a0 9 0 (.int (0 : Int32))).bind fun h1 =>
  (f_X12_isWeight a1 h1).bind fun q3 =>
  if q3.1 = (0 : Int32) then
    some ((-1 : Int32), q3.2)
  else
    (f_X12_isOperator a2 q3.2).bind fun q5 =>
    if q5.1 = (0 : Int32) then
      some ((-1 : Int32), q5.2)
    else
      (f_X12_cuspsOf a1 q5.2).bind fun q7 =>
      (f_X12_within a3 (1 : Int32) q7.1 q7.2).bind fun q9 =>
      if q9.1 = (0 : Int32) then
        some ((-1 : Int32), q9.2)
      else
        (f_X12_cuspsOf a1 q9.2).bind fun q11 =>
        (f_X12_within a4 (1 : Int32) q11.1 q11.2).bind fun q13 =>
        if q13.1 = (0 : Int32) then
          some ((-1 : Int32), q13.2)
        else
          (jrecv q13.2 a0 9).bind fun u21 =>
          (f_X12_laysTable a0 a1 a2 q13.2).bind fun q15 =>
          (jgR q15.2 a0 9 34).bind fun v17 =>
          (jaI q15.2 v17 ((((6 : Int32) * a3) + a4) - (7 : Int32))).bind fun v19 =>
          some (v19, q15.2)

def f_X12_laysPolynomial_L12 (a0 : Nat) (z : Int32) (h : JH) : Option ((Int32 ⊕ Int32) × JH) :=
  if (36 : Int32) ≤ z then
    some (.inr z, h)
  else
    (jgR h a0 9 37).bind fun v7 =>
    (jsI h v7 z (0 : Int32)).bind fun h9 =>
    some (.inl (z + (1 : Int32)), h9)

def f_X12_laysPolynomial_L43 (a0 : Nat) (a1 : Int32) (z : Int32) (h : JH) : Option ((Int32 ⊕ Int32) × JH) :=
  (jgI h a0 9 35).bind fun v16 =>
  if v16 ≤ z then
    some (.inr z, h)
  else
    (jgR h a0 9 37).bind fun v18 =>
    (jgR h a0 9 37).bind fun v20 =>
    (jaI h v20 ((7 : Int32) * z)).bind fun v22 =>
    (jgR h a0 9 36).bind fun v24 =>
    (jgI h a0 9 35).bind fun v26 =>
    (jaI h v24 ((v26 - a1) + (1 : Int32))).bind fun v28 =>
    (jrecv h a0 9).bind fun u34 =>
    (f_X12_left a0 ((v22 + v28).toInt64) h).bind fun q30 =>
    (jsI q30.2 v18 ((7 : Int32) * z) q30.1).bind fun h32 =>
    some (.inl (z + (1 : Int32)), h32)

def f_X12_laysPolynomial_L120 (a0 : Nat) (a1 : Int32) (a2 : Int32) (a3 : Int32) (z : (Int64 × Int32)) (h : JH) : Option (((Int64 × Int32) ⊕ (Int64 × Int32)) × JH) :=
  (jgI h a0 9 35).bind fun v43 =>
  if v43 ≤ z.2 then
    some (.inr (z.1, z.2), h)
  else
    (jgR h a0 9 34).bind fun v45 =>
    (jaI h v45 (((6 : Int32) * a2) + z.2)).bind fun v47 =>
    (jgR h a0 9 37).bind fun v49 =>
    (jaI h v49 (((6 : Int32) * z.2) + a3)).bind fun v51 =>
    some (.inl (z.1 + (v47.toInt64 * v51.toInt64), z.2 + (1 : Int32)), h)

def f_X12_laysPolynomial_L106 (a0 : Nat) (a1 : Int32) (a2 : Int32) (z : Int32) (h : JH) : Option ((Int32 ⊕ Int32) × JH) :=
  (jgI h a0 9 35).bind fun v41 =>
  if v41 ≤ z then
    some (.inr z, h)
  else
    (jloop (f_X12_laysPolynomial_L120 a0 a1 a2 z) jF ((0 : Int64), (0 : Int32)) h).bind fun q43 =>
    (jgR q43.2 a0 9 38).bind fun v45 =>
    (jrecv q43.2 a0 9).bind fun u51 =>
    (f_X12_left a0 q43.1.1 q43.2).bind fun q47 =>
    (jsI q47.2 v45 (((6 : Int32) * a2) + z) q47.1).bind fun h49 =>
    some (.inl (z + (1 : Int32)), h49)

def f_X12_laysPolynomial_L96 (a0 : Nat) (a1 : Int32) (z : Int32) (h : JH) : Option ((Int32 ⊕ Int32) × JH) :=
  (jgI h a0 9 35).bind fun v39 =>
  if v39 ≤ z then
    some (.inr z, h)
  else
    (jloop (f_X12_laysPolynomial_L106 a0 a1 z) jF (0 : Int32) h).bind fun q41 =>
    some (.inl (z + (1 : Int32)), q41.2)

def f_X12_laysPolynomial_L201 (a0 : Nat) (a1 : Int32) (a2 : Int64) (z : Int32) (h : JH) : Option ((Int32 ⊕ Int32) × JH) :=
  if (36 : Int32) ≤ z then
    some (.inr z, h)
  else
    (jgR h a0 9 37).bind fun v46 =>
    (jgR h a0 9 38).bind fun v48 =>
    (jaI h v48 z).bind fun v50 =>
    (jsI h v46 z v50).bind fun h52 =>
    some (.inl (z + (1 : Int32)), h52)

def f_X12_laysPolynomial_L231 (a0 : Nat) (a1 : Int32) (z : (Int64 × Int32)) (h : JH) : Option (((Int64 × Int32) ⊕ (Int64 × Int32)) × JH) :=
  (jgI h a0 9 35).bind fun v57 =>
  if v57 ≤ z.2 then
    some (.inr (z.1, z.2), h)
  else
    (jgR h a0 9 37).bind fun v59 =>
    (jaI h v59 ((7 : Int32) * z.2)).bind fun v61 =>
    some (.inl (z.1 + v61.toInt64, z.2 + (1 : Int32)), h)

def f_X12_laysPolynomial_L33 (a0 : Nat) (z : Int32) (h : JH) : Option ((Int32 ⊕ Int32) × JH) :=
  (jgI h a0 9 35).bind fun v14 =>
  if v14 < z then
    some (.inr z, h)
  else
    (jloop (f_X12_laysPolynomial_L43 a0 z) jF (0 : Int32) h).bind fun q16 =>
    (jloop (f_X12_laysPolynomial_L96 a0 z) jF (0 : Int32) q16.2).bind fun q18 =>
    (jloop (f_X12_laysPolynomial_L201 a0 z (0 : Int64)) jF (0 : Int32) q18.2).bind fun q20 =>
    (jloop (f_X12_laysPolynomial_L231 a0 z) jF ((0 : Int64), (0 : Int32)) q20.2).bind fun q22 =>
    (jgR q22.2 a0 9 36).bind fun v24 =>
    (jgI q22.2 a0 9 35).bind fun v26 =>
    (jgI q22.2 a0 9 1).bind fun v28 =>
    (jnzL v28.toInt64).bind fun u30 =>
    (jrecv q22.2 a0 9).bind fun u40 =>
    (f_X12_inverse a0 z q22.2).bind fun q32 =>
    (jrecv q32.2 a0 9).bind fun u38 =>
    (f_X12_left a0 ((jremL (-q22.1.1) v28.toInt64) * q32.1.toInt64) q32.2).bind fun q34 =>
    (jsI q34.2 v24 (v26 - z) q34.1).bind fun h36 =>
    some (.inl (z + (1 : Int32)), h36)

def f_X12_laysPolynomial (a0 : Nat) (h : JH) : Option (Unit × JH) :=
  (jgR h a0 9 36).bind fun v1 =>
  (jgI h a0 9 35).bind fun v3 =>
  (jsI h v1 v3 (1 : Int32)).bind fun h5 =>
  (jloop (f_X12_laysPolynomial_L12 a0) jF (0 : Int32) h5).bind fun q12 =>
  (jloop (f_X12_laysPolynomial_L33 a0) jF (1 : Int32) q12.2).bind fun q43 =>
  some ((), q43.2)

def f_X12_polynomial (a0 : Nat) (a1 : Int32) (a2 : Int32) (a3 : Int32) (h : JH) : Option (Int32 × JH) :=
  (jput h a0 9 0 (.int (0 : Int32))).bind fun h1 =>
  (f_X12_isWeight a1 h1).bind fun q3 =>
  if q3.1 = (0 : Int32) then
    some ((-1 : Int32), q3.2)
  else
    (f_X12_isOperator a2 q3.2).bind fun q5 =>
    if q5.1 = (0 : Int32) then
      some ((-1 : Int32), q5.2)
    else
      (f_X12_cuspsOf a1 q5.2).bind fun q7 =>
      (f_X12_within a3 (0 : Int32) q7.1 q7.2).bind fun q9 =>
      if q9.1 = (0 : Int32) then
        some ((-1 : Int32), q9.2)
      else
        (jrecv q9.2 a0 9).bind fun u21 =>
        (f_X12_laysTable a0 a1 a2 q9.2).bind fun q11 =>
        (jrecv q11.2 a0 9).bind fun u19 =>
        (f_X12_laysPolynomial a0 q11.2).bind fun q13 =>
        (jgR q13.2 a0 9 36).bind fun v15 =>
        (jaI q13.2 v15 a3).bind fun v17 =>
        some (v17, q13.2)

def f_X12_laysRoots_L40 (a0 : Nat) (a2 : Int32) (z : (Int64 × Int32)) (h : JH) : Option (((Int64 × Int32) ⊕ (Int64 × Int32)) × JH) :=
  if z.2 < (0 : Int32) then
    some (.inr (z.1, z.2), h)
  else
    (jgR h a0 9 36).bind fun v13 =>
    (jaI h v13 z.2).bind fun v15 =>
    (jgI h a0 9 1).bind fun v17 =>
    (jnzL v17.toInt64).bind fun u19 =>
    some (.inl (jremL ((z.1 * a2.toInt64) + v15.toInt64) v17.toInt64, z.2 + (-1 : Int32)), h)

def f_X12_laysRoots_L17 (a0 : Nat) (z : Int32) (h : JH) : Option ((Int32 ⊕ Int32) × JH) :=
  (jgI h a0 9 1).bind fun v7 =>
  if v7 ≤ z then
    some (.inr z, h)
  else
    (jgI h a0 9 35).bind fun v9 =>
    if v9 ≤ (0 : Int32) then
      some (.inr z, h)
    else
      (jgI h a0 9 35).bind fun v11 =>
      (jloop (f_X12_laysRoots_L40 a0 z) jF ((0 : Int64), v11) h).bind fun q13 =>
      if (lg_cmp q13.1.1 (0 : Int64)) = (0 : Int32) then
        (jgR q13.2 a0 9 40).bind fun v15 =>
        (jgI q13.2 a0 9 39).bind fun v17 =>
        (jsI q13.2 v15 v17 z).bind fun h19 =>
        (jgI h19 a0 9 39).bind fun v21 =>
        (jput h19 a0 9 39 (.int (v21 + (1 : Int32)))).bind fun h23 =>
        some (.inl (z + (1 : Int32)), h23)
      else
        some (.inl (z + (1 : Int32)), q13.2)

def f_X12_laysRoots (a0 : Nat) (a1 : Int32) (h : JH) : Option (Unit × JH) :=
  (jrecv h a0 9).bind fun u32 =>
  (f_X12_laysTable a0 a1 (2 : Int32) h).bind fun q1 =>
  (jrecv q1.2 a0 9).bind fun u30 =>
  (f_X12_laysPolynomial a0 q1.2).bind fun q3 =>
  (jput q3.2 a0 9 39 (.int (0 : Int32))).bind fun h5 =>
  (jloop (f_X12_laysRoots_L17 a0) jF (0 : Int32) h5).bind fun q28 =>
  some ((), q28.2)

def f_X12_root (a0 : Nat) (a1 : Int32) (a2 : Int32) (h : JH) : Option (Int32 × JH) :=
  (jput h a0 9 0 (.int (0 : Int32))).bind fun h1 =>
  (f_X12_isWeight a1 h1).bind fun q3 =>
  if q3.1 = (0 : Int32) then
    some ((-1 : Int32), q3.2)
  else
    (jrecv q3.2 a0 9).bind fun u17 =>
    (f_X12_laysRoots a0 a1 q3.2).bind fun q5 =>
    if a2 = (-1 : Int32) then
      (jgI q5.2 a0 9 39).bind fun v15 =>
      some (v15, q5.2)
    else
      (jgI q5.2 a0 9 39).bind fun v7 =>
      (f_X12_within a2 (0 : Int32) (v7 - (1 : Int32)) q5.2).bind fun q9 =>
      if q9.1 = (0 : Int32) then
        some ((-1 : Int32), q9.2)
      else
        (jgR q9.2 a0 9 40).bind fun v11 =>
        (jaI q9.2 v11 a2).bind fun v13 =>
        some (v13, q9.2)

def f_X12_takesStep_L20 (a0 : Nat) (a1 : Int32) (a2 : Int32) (a3 : Int32) (a4 : Int32) (z : Int32) (h : JH) : Option ((Int32 ⊕ Int32) × JH) :=
  (jgI h a0 9 35).bind fun v7 =>
  if v7 ≤ z then
    some (.inr z, h)
  else
    (jgR h a0 9 41).bind fun v9 =>
    (jaI h v9 (((6 : Int32) * a2) + z)).bind fun v11 =>
    (jgR h a0 9 41).bind fun v13 =>
    (jgR h a0 9 41).bind fun v15 =>
    (jaI h v15 (((6 : Int32) * a1) + z)).bind fun v17 =>
    (jsI h v13 (((6 : Int32) * a2) + z) v17).bind fun h19 =>
    (jgR h19 a0 9 41).bind fun v21 =>
    (jrecv h19 a0 9).bind fun u27 =>
    (f_X12_left a0 (v11.toInt64 * a4.toInt64) h19).bind fun q23 =>
    (jsI q23.2 v21 (((6 : Int32) * a1) + z) q23.1).bind fun h25 =>
    some (.inl (z + (1 : Int32)), h25)

def f_X12_takesStep_L126 (a0 : Nat) (a1 : Int32) (a3 : Int32) (a5 : Int32) (a6 : Int64) (z : Int32) (h : JH) : Option ((Int32 ⊕ Int32) × JH) :=
  (jgI h a0 9 35).bind fun v38 =>
  if v38 ≤ z then
    some (.inr z, h)
  else
    if a5 = a1 then
      some (.inr z, h)
    else
      (jgR h a0 9 41).bind fun v40 =>
      (jgR h a0 9 41).bind fun v42 =>
      (jaI h v42 (((6 : Int32) * a5) + z)).bind fun v44 =>
      (jgR h a0 9 41).bind fun v46 =>
      (jaI h v46 (((6 : Int32) * a1) + z)).bind fun v48 =>
      (jrecv h a0 9).bind fun u54 =>
      (f_X12_left a0 (v44.toInt64 - (a6 * v48.toInt64)) h).bind fun q50 =>
      (jsI q50.2 v40 (((6 : Int32) * a5) + z) q50.1).bind fun h52 =>
      some (.inl (z + (1 : Int32)), h52)

def f_X12_takesStep_L99 (a0 : Nat) (a1 : Int32) (a3 : Int32) (z : Int32) (h : JH) : Option ((Int32 ⊕ Int32) × JH) :=
  (jgI h a0 9 35).bind fun v32 =>
  if v32 ≤ z then
    some (.inr z, h)
  else
    (jgR h a0 9 41).bind fun v34 =>
    (jaI h v34 (((6 : Int32) * z) + a3)).bind fun v36 =>
    (jloop (f_X12_takesStep_L126 a0 a1 a3 z v36.toInt64) jF (0 : Int32) h).bind fun q38 =>
    some (.inl (z + (1 : Int32)), q38.2)

def f_X12_takesStep (a0 : Nat) (a1 : Int32) (a2 : Int32) (a3 : Int32) (h : JH) : Option (Unit × JH) :=
  (jgR h a0 9 41).bind fun v1 =>
  (jaI h v1 (((6 : Int32) * a2) + a3)).bind fun v3 =>
  (jrecv h a0 9).bind fun u43 =>
  (f_X12_inverse a0 v3 h).bind fun q5 =>
  (jloop (f_X12_takesStep_L20 a0 a1 a2 a3 q5.1) jF (0 : Int32) q5.2).bind fun q30 =>
  (jloop (f_X12_takesStep_L99 a0 a1 a3) jF (0 : Int32) q30.2).bind fun q41 =>
  some ((), q41.2)

def f_X12_solves_L12 (a0 : Nat) (a1 : Int32) (a2 : Int32) (z : Int32) (h : JH) : Option ((Int32 ⊕ Int32) × JH) :=
  (jgI h a0 9 35).bind fun v3 =>
  if v3 ≤ z then
    some (.inr z, h)
  else
    (jgR h a0 9 41).bind fun v5 =>
    (jgR h a0 9 34).bind fun v7 =>
    (jaI h v7 (((6 : Int32) * z) + a2)).bind fun v9 =>
    if z = a2 then
      (jrecv h a0 9).bind fun u21 =>
      (f_X12_left a0 ((v9 - a1).toInt64) h).bind fun q17 =>
      (jsI q17.2 v5 (((6 : Int32) * a2) + z) q17.1).bind fun h19 =>
      some (.inl (z + (1 : Int32)), h19)
    else
      (jrecv h a0 9).bind fun u15 =>
      (f_X12_left a0 ((v9 - (0 : Int32)).toInt64) h).bind fun q11 =>
      (jsI q11.2 v5 (((6 : Int32) * a2) + z) q11.1).bind fun h13 =>
      some (.inl (z + (1 : Int32)), h13)

def f_X12_solves_L2 (a0 : Nat) (a1 : Int32) (z : Int32) (h : JH) : Option ((Int32 ⊕ Int32) × JH) :=
  (jgI h a0 9 35).bind fun v1 =>
  if v1 ≤ z then
    some (.inr z, h)
  else
    (jloop (f_X12_solves_L12 a0 a1 z) jF (0 : Int32) h).bind fun q3 =>
    some (.inl (z + (1 : Int32)), q3.2)

def f_X12_solves_L85 (a0 : Nat) (a2 : Int32) (a3 : Int32) (z : Int32) (h : JH) : Option ((Int32 ⊕ Int32) × JH) :=
  (jgI h a0 9 35).bind fun v10 =>
  if v10 ≤ z then
    some (.inr z, h)
  else
    (jgR h a0 9 41).bind fun v12 =>
    (jaI h v12 (((6 : Int32) * z) + a3)).bind fun v14 =>
    if v14 = (0 : Int32) then
      some (.inl (z + (1 : Int32)), h)
    else
      some (.inr z, h)

def f_X12_solves_L74 (a0 : Nat) (z : (Int32 × Int32)) (h : JH) : Option (((Int32 × Int32) ⊕ (Int32 ⊕ (Int32 × Int32))) × JH) :=
  (jgI h a0 9 35).bind fun v8 =>
  if v8 ≤ z.2 then
    some (.inr (.inr (z.1, z.2)), h)
  else
    (jloop (f_X12_solves_L85 a0 z.1 z.2) jF z.1 h).bind fun q18 =>
    (jgI q18.2 a0 9 35).bind fun v20 =>
    if q18.1 = v20 then
      some (.inr (.inl (0 : Int32)), q18.2)
    else
      (jrecv q18.2 a0 9).bind fun u24 =>
      (f_X12_takesStep a0 z.1 q18.1 z.2 q18.2).bind fun q22 =>
      some (.inl (z.1 + (1 : Int32), z.2 + (1 : Int32)), q22.2)

def f_X12_solves_L145 (a0 : Nat) (z : Int32) (h : JH) : Option ((Int32 ⊕ (Int32 ⊕ Int32)) × JH) :=
  (jgI h a0 9 35).bind fun v32 =>
  if v32 ≤ z then
    some (.inr (.inr z), h)
  else
    (jgR h a0 9 41).bind fun v34 =>
    (jaI h v34 ((6 : Int32) * z)).bind fun v36 =>
    if v36 = (0 : Int32) then
      some (.inl (z + (1 : Int32)), h)
    else
      some (.inr (.inl (0 : Int32)), h)

def f_X12_solves_L189 (a0 : Nat) (z : Int32) (h : JH) : Option ((Int32 ⊕ Int32) × JH) :=
  (jgI h a0 9 35).bind fun v52 =>
  if v52 ≤ z then
    some (.inr z, h)
  else
    (jgR h a0 9 9).bind fun v54 =>
    (jgR h a0 9 41).bind fun v56 =>
    (jaI h v56 ((6 : Int32) * (z - (1 : Int32)))).bind fun v58 =>
    (jrecv h a0 9).bind fun u64 =>
    (f_X12_left a0 ((-v58).toInt64) h).bind fun q60 =>
    (jsI q60.2 v54 (z + (1 : Int32)) q60.1).bind fun h62 =>
    some (.inl (z + (1 : Int32)), h62)

def f_X12_solves (a0 : Nat) (a1 : Int32) (h : JH) : Option (Int32 × JH) :=
  (jloop (f_X12_solves_L2 a0 a1) jF (0 : Int32) h).bind fun q6 =>
  (jloop (f_X12_solves_L74 a0) jF ((0 : Int32), (1 : Int32)) q6.2).bind fun q28 =>
  Sum.elim (fun r31 => some (r31, q28.2)) (fun t30 =>
    (jloop (f_X12_solves_L145 a0) jF t30.1 q28.2).bind fun q40 =>
    Sum.elim (fun r43 => some (r43, q40.2)) (fun t42 =>
      (jgR q40.2 a0 9 9).bind fun v44 =>
      (jsI q40.2 v44 (0 : Int32) (0 : Int32)).bind fun h46 =>
      (jgR h46 a0 9 9).bind fun v48 =>
      (jsI h46 v48 (1 : Int32) (1 : Int32)).bind fun h50 =>
      (jloop (f_X12_solves_L189 a0) jF (1 : Int32) h50).bind fun q67 =>
      some ((1 : Int32), q67.2)) q40.1) q28.1

def f_X12_own (a0 : Nat) (a1 : Int32) (a2 : Int32) (a3 : Int32) (h : JH) : Option (Int32 × JH) :=
  (jput h a0 9 0 (.int (0 : Int32))).bind fun h1 =>
  (jrecv h1 a0 9).bind fun u41 =>
  (f_X12_isRegister a0 a1 h1).bind fun q3 =>
  if q3.1 = (0 : Int32) then
    some ((-1 : Int32), q3.2)
  else
    (f_X12_isWeight a2 q3.2).bind fun q5 =>
    if q5.1 = (0 : Int32) then
      some ((-1 : Int32), q5.2)
    else
      (jrecv q5.2 a0 9).bind fun u39 =>
      (f_X12_laysRoots a0 a2 q5.2).bind fun q7 =>
      (jgI q7.2 a0 9 39).bind fun v9 =>
      (f_X12_within a3 (0 : Int32) (v9 - (1 : Int32)) q7.2).bind fun q11 =>
      if q11.1 = (0 : Int32) then
        some ((-1 : Int32), q11.2)
      else
        (jgR q11.2 a0 9 40).bind fun v13 =>
        (jaI q11.2 v13 a3).bind fun v15 =>
        (jrecv q11.2 a0 9).bind fun u37 =>
        (f_X12_solves a0 v15 q11.2).bind fun q17 =>
        if q17.1 = (0 : Int32) then
          some ((-2 : Int32), q17.2)
        else
          (jrecv q17.2 a0 9).bind fun u35 =>
          (f_X12_builds a0 a2 q17.2).bind fun q19 =>
          (jgR q19.2 a0 9 10).bind fun v21 =>
          (jgR q19.2 a0 9 32).bind fun v23 =>
          (f_X12_copies v21 (0 : Int32) v23 ((181 : Int32) * a1) q19.2).bind fun q25 =>
          (jgR q25.2 a0 9 31).bind fun v27 =>
          (jsI q25.2 v27 a1 a2).bind fun h29 =>
          (jgR h29 a0 9 40).bind fun v31 =>
          (jaI h29 v31 a3).bind fun v33 =>
          some (v33, h29)

def f_X12_sortOf (a0 : Nat) (a1 : Int32) (h : JH) : Option (Int32 × JH) :=
  if a1 = (0 : Int32) then
    (jgI h a0 9 42).bind fun v3 =>
    some (v3, h)
  else
    (jgI h a0 9 42).bind fun v1 =>
    some ((1 : Int32) - v1, h)

def f_X12_put_L129 (a0 : Nat) (a3 : Int32) (a4 : Int32) (a5 : Int32) (a6 : Int32) (z : Int32) (h : JH) : Option ((Int32 ⊕ Int32) × JH) :=
  if (13 : Int32) ≤ z then
    some (.inr z, h)
  else
    if a5 = (0 : Int32) then
      some (.inr z, h)
    else
      (jgR h a0 9 44).bind fun v9 =>
      if a3 = (0 : Int32) then
        (jgR h a0 9 32).bind fun v19 =>
        (jaI h v19 z).bind fun v21 =>
        (jsJ h v9 (((13 : Int32) * a6) + z) v21.toInt64).bind fun h23 =>
        some (.inl (z + (1 : Int32)), h23)
      else
        if (12 : Int32) ≤ z then
          (jsJ h v9 (((13 : Int32) * a6) + z) (0 : Int64)).bind fun h11 =>
          some (.inl (z + (1 : Int32)), h11)
        else
          (jrecv h a0 9).bind fun u17 =>
          (f_X12_traceOf a0 a4 (z + (1 : Int32)) h).bind fun q13 =>
          (jsJ q13.2 v9 (((13 : Int32) * a6) + z) q13.1).bind fun h15 =>
          some (.inl (z + (1 : Int32)), h15)

def f_X12_put_L77 (a0 : Nat) (a1 : Int32) (a2 : Int32) (a3 : Int32) (a4 : Int32) (z : (Int32 × Int32)) (h : JH) : Option (((Int32 × Int32) ⊕ (Int32 × Int32)) × JH) :=
  if (12 : Int32) < z.2 then
    some (.inr (z.1, z.2), h)
  else
    if z.1 = (0 : Int32) then
      some (.inr (z.1, z.2), h)
    else
      (jrecv h a0 9).bind fun u53 =>
      (f_X12_traceOf a0 a4 z.2 h).bind fun q49 =>
      (jgI q49.2 a0 9 33).bind fun v51 =>
      if v51 = (0 : Int32) then
        some (.inl ((1 : Int32), z.2 + (1 : Int32)), q49.2)
      else
        some (.inl ((0 : Int32), z.2 + (1 : Int32)), q49.2)

def f_X12_put (a0 : Nat) (a1 : Int32) (a2 : Int32) (a3 : Int32) (a4 : Int32) (h : JH) : Option (Int32 × JH) :=
  (jput h a0 9 0 (.int (0 : Int32))).bind fun h1 =>
  (f_X12_within a1 (0 : Int32) (1 : Int32) h1).bind fun q3 =>
  if q3.1 = (0 : Int32) then
    some ((0 : Int32), q3.2)
  else
    (f_X12_within a2 (0 : Int32) (3 : Int32) q3.2).bind fun q5 =>
    if q5.1 = (0 : Int32) then
      some ((0 : Int32), q5.2)
    else
      (jrecv q5.2 a0 9).bind fun u390 =>
      (f_X12_sortOf a0 a1 q5.2).bind fun q7 =>
      if a3 = (0 : Int32) then
        if q7.1 = (0 : Int32) then
          if a3 = (0 : Int32) then
            (jloop (f_X12_put_L129 a0 a3 a4 (1 : Int32) (((4 : Int32) * a1) + a2)) jF (0 : Int32) q7.2).bind fun q126 =>
            (jgR q126.2 a0 9 43).bind fun v128 =>
            (jgR q126.2 a0 9 43).bind fun v130 =>
            (jaB q126.2 v130 (((4 : Int32) * a1) + a2)).bind fun v132 =>
            if v132 = (0 : Int32) then
              if (1 : Int32) = (0 : Int32) then
                (jsB q126.2 v128 (((4 : Int32) * a1) + a2) (0 : Int32)).bind fun h138 =>
                (jzb (1 : Int32)).bind fun u140 =>
                some ((1 : Int32), h138)
              else
                (jsB q126.2 v128 (((4 : Int32) * a1) + a2) (1 : Int32)).bind fun h142 =>
                (jzb (1 : Int32)).bind fun u144 =>
                some ((1 : Int32), h142)
            else
              (jsB q126.2 v128 (((4 : Int32) * a1) + a2) (1 : Int32)).bind fun h134 =>
              (jzb (1 : Int32)).bind fun u136 =>
              some ((1 : Int32), h134)
          else
            if (1 : Int32) = (0 : Int32) then
              (jloop (f_X12_put_L77 a0 a1 a2 a3 a4) jF ((0 : Int32), (1 : Int32)) q7.2).bind fun q146 =>
              (jloop (f_X12_put_L129 a0 a3 a4 q146.1.1 (((4 : Int32) * a1) + a2)) jF (0 : Int32) q146.2).bind fun q148 =>
              (jgR q148.2 a0 9 43).bind fun v150 =>
              (jgR q148.2 a0 9 43).bind fun v152 =>
              (jaB q148.2 v152 (((4 : Int32) * a1) + a2)).bind fun v154 =>
              if v154 = (0 : Int32) then
                if q146.1.1 = (0 : Int32) then
                  (jsB q148.2 v150 (((4 : Int32) * a1) + a2) (0 : Int32)).bind fun h160 =>
                  (jzb q146.1.1).bind fun u162 =>
                  some (q146.1.1, h160)
                else
                  (jsB q148.2 v150 (((4 : Int32) * a1) + a2) (1 : Int32)).bind fun h164 =>
                  (jzb q146.1.1).bind fun u166 =>
                  some (q146.1.1, h164)
              else
                (jsB q148.2 v150 (((4 : Int32) * a1) + a2) (1 : Int32)).bind fun h156 =>
                (jzb q146.1.1).bind fun u158 =>
                some (q146.1.1, h156)
            else
              (f_X12_isTraced a4 (1 : Int32) q7.2).bind fun q168 =>
              if q168.1 = (0 : Int32) then
                (jloop (f_X12_put_L77 a0 a1 a2 a3 a4) jF ((0 : Int32), (1 : Int32)) q168.2).bind fun q170 =>
                (jloop (f_X12_put_L129 a0 a3 a4 q170.1.1 (((4 : Int32) * a1) + a2)) jF (0 : Int32) q170.2).bind fun q172 =>
                (jgR q172.2 a0 9 43).bind fun v174 =>
                (jgR q172.2 a0 9 43).bind fun v176 =>
                (jaB q172.2 v176 (((4 : Int32) * a1) + a2)).bind fun v178 =>
                if v178 = (0 : Int32) then
                  if q170.1.1 = (0 : Int32) then
                    (jsB q172.2 v174 (((4 : Int32) * a1) + a2) (0 : Int32)).bind fun h184 =>
                    (jzb q170.1.1).bind fun u186 =>
                    some (q170.1.1, h184)
                  else
                    (jsB q172.2 v174 (((4 : Int32) * a1) + a2) (1 : Int32)).bind fun h188 =>
                    (jzb q170.1.1).bind fun u190 =>
                    some (q170.1.1, h188)
                else
                  (jsB q172.2 v174 (((4 : Int32) * a1) + a2) (1 : Int32)).bind fun h180 =>
                  (jzb q170.1.1).bind fun u182 =>
                  some (q170.1.1, h180)
              else
                (jloop (f_X12_put_L77 a0 a1 a2 a3 a4) jF ((1 : Int32), (1 : Int32)) q168.2).bind fun q192 =>
                (jloop (f_X12_put_L129 a0 a3 a4 q192.1.1 (((4 : Int32) * a1) + a2)) jF (0 : Int32) q192.2).bind fun q194 =>
                (jgR q194.2 a0 9 43).bind fun v196 =>
                (jgR q194.2 a0 9 43).bind fun v198 =>
                (jaB q194.2 v198 (((4 : Int32) * a1) + a2)).bind fun v200 =>
                if v200 = (0 : Int32) then
                  if q192.1.1 = (0 : Int32) then
                    (jsB q194.2 v196 (((4 : Int32) * a1) + a2) (0 : Int32)).bind fun h206 =>
                    (jzb q192.1.1).bind fun u208 =>
                    some (q192.1.1, h206)
                  else
                    (jsB q194.2 v196 (((4 : Int32) * a1) + a2) (1 : Int32)).bind fun h210 =>
                    (jzb q192.1.1).bind fun u212 =>
                    some (q192.1.1, h210)
                else
                  (jsB q194.2 v196 (((4 : Int32) * a1) + a2) (1 : Int32)).bind fun h202 =>
                  (jzb q192.1.1).bind fun u204 =>
                  some (q192.1.1, h202)
        else
          if a3 = (0 : Int32) then
            (jloop (f_X12_put_L129 a0 a3 a4 (0 : Int32) (((4 : Int32) * a1) + a2)) jF (0 : Int32) q7.2).bind fun q29 =>
            (jgR q29.2 a0 9 43).bind fun v31 =>
            (jgR q29.2 a0 9 43).bind fun v33 =>
            (jaB q29.2 v33 (((4 : Int32) * a1) + a2)).bind fun v35 =>
            if v35 = (0 : Int32) then
              if (0 : Int32) = (0 : Int32) then
                (jsB q29.2 v31 (((4 : Int32) * a1) + a2) (0 : Int32)).bind fun h41 =>
                (jzb (0 : Int32)).bind fun u43 =>
                some ((0 : Int32), h41)
              else
                (jsB q29.2 v31 (((4 : Int32) * a1) + a2) (1 : Int32)).bind fun h45 =>
                (jzb (0 : Int32)).bind fun u47 =>
                some ((0 : Int32), h45)
            else
              (jsB q29.2 v31 (((4 : Int32) * a1) + a2) (1 : Int32)).bind fun h37 =>
              (jzb (0 : Int32)).bind fun u39 =>
              some ((0 : Int32), h37)
          else
            if (0 : Int32) = (0 : Int32) then
              (jloop (f_X12_put_L77 a0 a1 a2 a3 a4) jF ((0 : Int32), (1 : Int32)) q7.2).bind fun q58 =>
              (jloop (f_X12_put_L129 a0 a3 a4 q58.1.1 (((4 : Int32) * a1) + a2)) jF (0 : Int32) q58.2).bind fun q60 =>
              (jgR q60.2 a0 9 43).bind fun v62 =>
              (jgR q60.2 a0 9 43).bind fun v64 =>
              (jaB q60.2 v64 (((4 : Int32) * a1) + a2)).bind fun v66 =>
              if v66 = (0 : Int32) then
                if q58.1.1 = (0 : Int32) then
                  (jsB q60.2 v62 (((4 : Int32) * a1) + a2) (0 : Int32)).bind fun h72 =>
                  (jzb q58.1.1).bind fun u74 =>
                  some (q58.1.1, h72)
                else
                  (jsB q60.2 v62 (((4 : Int32) * a1) + a2) (1 : Int32)).bind fun h76 =>
                  (jzb q58.1.1).bind fun u78 =>
                  some (q58.1.1, h76)
              else
                (jsB q60.2 v62 (((4 : Int32) * a1) + a2) (1 : Int32)).bind fun h68 =>
                (jzb q58.1.1).bind fun u70 =>
                some (q58.1.1, h68)
            else
              (f_X12_isTraced a4 (1 : Int32) q7.2).bind fun q80 =>
              if q80.1 = (0 : Int32) then
                (jloop (f_X12_put_L77 a0 a1 a2 a3 a4) jF ((0 : Int32), (1 : Int32)) q80.2).bind fun q82 =>
                (jloop (f_X12_put_L129 a0 a3 a4 q82.1.1 (((4 : Int32) * a1) + a2)) jF (0 : Int32) q82.2).bind fun q84 =>
                (jgR q84.2 a0 9 43).bind fun v86 =>
                (jgR q84.2 a0 9 43).bind fun v88 =>
                (jaB q84.2 v88 (((4 : Int32) * a1) + a2)).bind fun v90 =>
                if v90 = (0 : Int32) then
                  if q82.1.1 = (0 : Int32) then
                    (jsB q84.2 v86 (((4 : Int32) * a1) + a2) (0 : Int32)).bind fun h96 =>
                    (jzb q82.1.1).bind fun u98 =>
                    some (q82.1.1, h96)
                  else
                    (jsB q84.2 v86 (((4 : Int32) * a1) + a2) (1 : Int32)).bind fun h100 =>
                    (jzb q82.1.1).bind fun u102 =>
                    some (q82.1.1, h100)
                else
                  (jsB q84.2 v86 (((4 : Int32) * a1) + a2) (1 : Int32)).bind fun h92 =>
                  (jzb q82.1.1).bind fun u94 =>
                  some (q82.1.1, h92)
              else
                (jloop (f_X12_put_L77 a0 a1 a2 a3 a4) jF ((1 : Int32), (1 : Int32)) q80.2).bind fun q104 =>
                (jloop (f_X12_put_L129 a0 a3 a4 q104.1.1 (((4 : Int32) * a1) + a2)) jF (0 : Int32) q104.2).bind fun q106 =>
                (jgR q106.2 a0 9 43).bind fun v108 =>
                (jgR q106.2 a0 9 43).bind fun v110 =>
                (jaB q106.2 v110 (((4 : Int32) * a1) + a2)).bind fun v112 =>
                if v112 = (0 : Int32) then
                  if q104.1.1 = (0 : Int32) then
                    (jsB q106.2 v108 (((4 : Int32) * a1) + a2) (0 : Int32)).bind fun h118 =>
                    (jzb q104.1.1).bind fun u120 =>
                    some (q104.1.1, h118)
                  else
                    (jsB q106.2 v108 (((4 : Int32) * a1) + a2) (1 : Int32)).bind fun h122 =>
                    (jzb q104.1.1).bind fun u124 =>
                    some (q104.1.1, h122)
                else
                  (jsB q106.2 v108 (((4 : Int32) * a1) + a2) (1 : Int32)).bind fun h114 =>
                  (jzb q104.1.1).bind fun u116 =>
                  some (q104.1.1, h114)
      else
        if q7.1 = (1 : Int32) then
          if a3 = (0 : Int32) then
            (jloop (f_X12_put_L129 a0 a3 a4 (1 : Int32) (((4 : Int32) * a1) + a2)) jF (0 : Int32) q7.2).bind fun q302 =>
            (jgR q302.2 a0 9 43).bind fun v304 =>
            (jgR q302.2 a0 9 43).bind fun v306 =>
            (jaB q302.2 v306 (((4 : Int32) * a1) + a2)).bind fun v308 =>
            if v308 = (0 : Int32) then
              if (1 : Int32) = (0 : Int32) then
                (jsB q302.2 v304 (((4 : Int32) * a1) + a2) (0 : Int32)).bind fun h314 =>
                (jzb (1 : Int32)).bind fun u316 =>
                some ((1 : Int32), h314)
              else
                (jsB q302.2 v304 (((4 : Int32) * a1) + a2) (1 : Int32)).bind fun h318 =>
                (jzb (1 : Int32)).bind fun u320 =>
                some ((1 : Int32), h318)
            else
              (jsB q302.2 v304 (((4 : Int32) * a1) + a2) (1 : Int32)).bind fun h310 =>
              (jzb (1 : Int32)).bind fun u312 =>
              some ((1 : Int32), h310)
          else
            if (1 : Int32) = (0 : Int32) then
              (jloop (f_X12_put_L77 a0 a1 a2 a3 a4) jF ((0 : Int32), (1 : Int32)) q7.2).bind fun q322 =>
              (jloop (f_X12_put_L129 a0 a3 a4 q322.1.1 (((4 : Int32) * a1) + a2)) jF (0 : Int32) q322.2).bind fun q324 =>
              (jgR q324.2 a0 9 43).bind fun v326 =>
              (jgR q324.2 a0 9 43).bind fun v328 =>
              (jaB q324.2 v328 (((4 : Int32) * a1) + a2)).bind fun v330 =>
              if v330 = (0 : Int32) then
                if q322.1.1 = (0 : Int32) then
                  (jsB q324.2 v326 (((4 : Int32) * a1) + a2) (0 : Int32)).bind fun h336 =>
                  (jzb q322.1.1).bind fun u338 =>
                  some (q322.1.1, h336)
                else
                  (jsB q324.2 v326 (((4 : Int32) * a1) + a2) (1 : Int32)).bind fun h340 =>
                  (jzb q322.1.1).bind fun u342 =>
                  some (q322.1.1, h340)
              else
                (jsB q324.2 v326 (((4 : Int32) * a1) + a2) (1 : Int32)).bind fun h332 =>
                (jzb q322.1.1).bind fun u334 =>
                some (q322.1.1, h332)
            else
              (f_X12_isTraced a4 (1 : Int32) q7.2).bind fun q344 =>
              if q344.1 = (0 : Int32) then
                (jloop (f_X12_put_L77 a0 a1 a2 a3 a4) jF ((0 : Int32), (1 : Int32)) q344.2).bind fun q346 =>
                (jloop (f_X12_put_L129 a0 a3 a4 q346.1.1 (((4 : Int32) * a1) + a2)) jF (0 : Int32) q346.2).bind fun q348 =>
                (jgR q348.2 a0 9 43).bind fun v350 =>
                (jgR q348.2 a0 9 43).bind fun v352 =>
                (jaB q348.2 v352 (((4 : Int32) * a1) + a2)).bind fun v354 =>
                if v354 = (0 : Int32) then
                  if q346.1.1 = (0 : Int32) then
                    (jsB q348.2 v350 (((4 : Int32) * a1) + a2) (0 : Int32)).bind fun h360 =>
                    (jzb q346.1.1).bind fun u362 =>
                    some (q346.1.1, h360)
                  else
                    (jsB q348.2 v350 (((4 : Int32) * a1) + a2) (1 : Int32)).bind fun h364 =>
                    (jzb q346.1.1).bind fun u366 =>
                    some (q346.1.1, h364)
                else
                  (jsB q348.2 v350 (((4 : Int32) * a1) + a2) (1 : Int32)).bind fun h356 =>
                  (jzb q346.1.1).bind fun u358 =>
                  some (q346.1.1, h356)
              else
                (jloop (f_X12_put_L77 a0 a1 a2 a3 a4) jF ((1 : Int32), (1 : Int32)) q344.2).bind fun q368 =>
                (jloop (f_X12_put_L129 a0 a3 a4 q368.1.1 (((4 : Int32) * a1) + a2)) jF (0 : Int32) q368.2).bind fun q370 =>
                (jgR q370.2 a0 9 43).bind fun v372 =>
                (jgR q370.2 a0 9 43).bind fun v374 =>
                (jaB q370.2 v374 (((4 : Int32) * a1) + a2)).bind fun v376 =>
                if v376 = (0 : Int32) then
                  if q368.1.1 = (0 : Int32) then
                    (jsB q370.2 v372 (((4 : Int32) * a1) + a2) (0 : Int32)).bind fun h382 =>
                    (jzb q368.1.1).bind fun u384 =>
                    some (q368.1.1, h382)
                  else
                    (jsB q370.2 v372 (((4 : Int32) * a1) + a2) (1 : Int32)).bind fun h386 =>
                    (jzb q368.1.1).bind fun u388 =>
                    some (q368.1.1, h386)
                else
                  (jsB q370.2 v372 (((4 : Int32) * a1) + a2) (1 : Int32)).bind fun h378 =>
                  (jzb q368.1.1).bind fun u380 =>
                  some (q368.1.1, h378)
        else
          if a3 = (0 : Int32) then
            (jloop (f_X12_put_L129 a0 a3 a4 (0 : Int32) (((4 : Int32) * a1) + a2)) jF (0 : Int32) q7.2).bind fun q214 =>
            (jgR q214.2 a0 9 43).bind fun v216 =>
            (jgR q214.2 a0 9 43).bind fun v218 =>
            (jaB q214.2 v218 (((4 : Int32) * a1) + a2)).bind fun v220 =>
            if v220 = (0 : Int32) then
              if (0 : Int32) = (0 : Int32) then
                (jsB q214.2 v216 (((4 : Int32) * a1) + a2) (0 : Int32)).bind fun h226 =>
                (jzb (0 : Int32)).bind fun u228 =>
                some ((0 : Int32), h226)
              else
                (jsB q214.2 v216 (((4 : Int32) * a1) + a2) (1 : Int32)).bind fun h230 =>
                (jzb (0 : Int32)).bind fun u232 =>
                some ((0 : Int32), h230)
            else
              (jsB q214.2 v216 (((4 : Int32) * a1) + a2) (1 : Int32)).bind fun h222 =>
              (jzb (0 : Int32)).bind fun u224 =>
              some ((0 : Int32), h222)
          else
            if (0 : Int32) = (0 : Int32) then
              (jloop (f_X12_put_L77 a0 a1 a2 a3 a4) jF ((0 : Int32), (1 : Int32)) q7.2).bind fun q234 =>
              (jloop (f_X12_put_L129 a0 a3 a4 q234.1.1 (((4 : Int32) * a1) + a2)) jF (0 : Int32) q234.2).bind fun q236 =>
              (jgR q236.2 a0 9 43).bind fun v238 =>
              (jgR q236.2 a0 9 43).bind fun v240 =>
              (jaB q236.2 v240 (((4 : Int32) * a1) + a2)).bind fun v242 =>
              if v242 = (0 : Int32) then
                if q234.1.1 = (0 : Int32) then
                  (jsB q236.2 v238 (((4 : Int32) * a1) + a2) (0 : Int32)).bind fun h248 =>
                  (jzb q234.1.1).bind fun u250 =>
                  some (q234.1.1, h248)
                else
                  (jsB q236.2 v238 (((4 : Int32) * a1) + a2) (1 : Int32)).bind fun h252 =>
                  (jzb q234.1.1).bind fun u254 =>
                  some (q234.1.1, h252)
              else
                (jsB q236.2 v238 (((4 : Int32) * a1) + a2) (1 : Int32)).bind fun h244 =>
                (jzb q234.1.1).bind fun u246 =>
                some (q234.1.1, h244)
            else
              (f_X12_isTraced a4 (1 : Int32) q7.2).bind fun q256 =>
              if q256.1 = (0 : Int32) then
                (jloop (f_X12_put_L77 a0 a1 a2 a3 a4) jF ((0 : Int32), (1 : Int32)) q256.2).bind fun q258 =>
                (jloop (f_X12_put_L129 a0 a3 a4 q258.1.1 (((4 : Int32) * a1) + a2)) jF (0 : Int32) q258.2).bind fun q260 =>
                (jgR q260.2 a0 9 43).bind fun v262 =>
                (jgR q260.2 a0 9 43).bind fun v264 =>
                (jaB q260.2 v264 (((4 : Int32) * a1) + a2)).bind fun v266 =>
                if v266 = (0 : Int32) then
                  if q258.1.1 = (0 : Int32) then
                    (jsB q260.2 v262 (((4 : Int32) * a1) + a2) (0 : Int32)).bind fun h272 =>
                    (jzb q258.1.1).bind fun u274 =>
                    some (q258.1.1, h272)
                  else
                    (jsB q260.2 v262 (((4 : Int32) * a1) + a2) (1 : Int32)).bind fun h276 =>
                    (jzb q258.1.1).bind fun u278 =>
                    some (q258.1.1, h276)
                else
                  (jsB q260.2 v262 (((4 : Int32) * a1) + a2) (1 : Int32)).bind fun h268 =>
                  (jzb q258.1.1).bind fun u270 =>
                  some (q258.1.1, h268)
              else
                (jloop (f_X12_put_L77 a0 a1 a2 a3 a4) jF ((1 : Int32), (1 : Int32)) q256.2).bind fun q280 =>
                (jloop (f_X12_put_L129 a0 a3 a4 q280.1.1 (((4 : Int32) * a1) + a2)) jF (0 : Int32) q280.2).bind fun q282 =>
                (jgR q282.2 a0 9 43).bind fun v284 =>
                (jgR q282.2 a0 9 43).bind fun v286 =>
                (jaB q282.2 v286 (((4 : Int32) * a1) + a2)).bind fun v288 =>
                if v288 = (0 : Int32) then
                  if q280.1.1 = (0 : Int32) then
                    (jsB q282.2 v284 (((4 : Int32) * a1) + a2) (0 : Int32)).bind fun h294 =>
                    (jzb q280.1.1).bind fun u296 =>
                    some (q280.1.1, h294)
                  else
                    (jsB q282.2 v284 (((4 : Int32) * a1) + a2) (1 : Int32)).bind fun h298 =>
                    (jzb q280.1.1).bind fun u300 =>
                    some (q280.1.1, h298)
                else
                  (jsB q282.2 v284 (((4 : Int32) * a1) + a2) (1 : Int32)).bind fun h290 =>
                  (jzb q280.1.1).bind fun u292 =>
                  some (q280.1.1, h290)

def f_X12_row (a0 : Nat) (a1 : Int32) (a2 : Int32) (a3 : Int32) (h : JH) : Option (Int64 × JH) :=
  (jput h a0 9 0 (.int (1 : Int32))).bind fun h1 =>
  (f_X12_within a1 (0 : Int32) (1 : Int32) h1).bind fun q3 =>
  if q3.1 = (0 : Int32) then
    some ((0 : Int64), q3.2)
  else
    (f_X12_within a2 (0 : Int32) (3 : Int32) q3.2).bind fun q5 =>
    if q5.1 = (0 : Int32) then
      some ((0 : Int64), q5.2)
    else
      (jgR q5.2 a0 9 43).bind fun v7 =>
      (jaB q5.2 v7 (((4 : Int32) * a1) + a2)).bind fun v9 =>
      if v9 = (0 : Int32) then
        some ((0 : Int64), q5.2)
      else
        (jrecv q5.2 a0 9).bind fun u29 =>
        (f_X12_sortOf a0 a1 q5.2).bind fun q11 =>
        if q11.1 = (0 : Int32) then
          (f_X12_within a3 (0 : Int32) (12 : Int32) q11.2).bind fun q21 =>
          if q21.1 = (0 : Int32) then
            some ((0 : Int64), q21.2)
          else
            (jput q21.2 a0 9 0 (.int (0 : Int32))).bind fun h23 =>
            (jgR h23 a0 9 44).bind fun v25 =>
            (jaJ h23 v25 (((13 : Int32) * (((4 : Int32) * a1) + a2)) + a3)).bind fun v27 =>
            some (v27, h23)
        else
          (f_X12_within a3 (0 : Int32) (11 : Int32) q11.2).bind fun q13 =>
          if q13.1 = (0 : Int32) then
            some ((0 : Int64), q13.2)
          else
            (jput q13.2 a0 9 0 (.int (0 : Int32))).bind fun h15 =>
            (jgR h15 a0 9 44).bind fun v17 =>
            (jaJ h15 v17 (((13 : Int32) * (((4 : Int32) * a1) + a2)) + a3)).bind fun v19 =>
            some (v19, h15)

def f_X12_swap_L17 (a0 : Nat) (z : Int32) (h : JH) : Option ((Int32 ⊕ Int32) × JH) :=
  if (8 : Int32) ≤ z then
    some (.inr z, h)
  else
    (jgR h a0 9 43).bind fun v7 =>
    (jsB h v7 z (0 : Int32)).bind fun h9 =>
    some (.inl (z + (1 : Int32)), h9)

def f_X12_swap (a0 : Nat) (h : JH) : Option (Int32 × JH) :=
  (jput h a0 9 0 (.int (0 : Int32))).bind fun h1 =>
  (jgI h1 a0 9 42).bind fun v3 =>
  (jput h1 a0 9 42 (.int ((1 : Int32) - v3))).bind fun h5 =>
  (jloop (f_X12_swap_L17 a0) jF (0 : Int32) h5).bind fun q12 =>
  (jgI q12.2 a0 9 42).bind fun v14 =>
  some (v14, q12.2)

def f_X12_image_L44 (a0 : Nat) (a1 : Int32) (a2 : Int32) (z : Int32) (h : JH) : Option ((Int32 ⊕ Int32) × JH) :=
  if (4 : Int32) ≤ z then
    some (.inr z, h)
  else
    if a2 = (0 : Int32) then
      (jgR h a0 9 47).bind fun v5 =>
      (jgR h a0 9 31).bind fun v7 =>
      (jaI h v7 z).bind fun v9 =>
      (jsI h v5 (((4 : Int32) * a1) + z) v9).bind fun h11 =>
      some (.inl (z + (1 : Int32)), h11)
    else
      (jgR h a0 9 31).bind fun v13 =>
      (jgR h a0 9 47).bind fun v15 =>
      (jaI h v15 (((4 : Int32) * a1) + z)).bind fun v17 =>
      (jsI h v13 z v17).bind fun h19 =>
      some (.inl (z + (1 : Int32)), h19)

def f_X12_image_L96 (a0 : Nat) (a1 : Int32) (a2 : Int32) (z : Int32) (h : JH) : Option ((Int32 ⊕ Int32) × JH) :=
  if (724 : Int32) ≤ z then
    some (.inr z, h)
  else
    if a2 = (0 : Int32) then
      (jgR h a0 9 48).bind fun v25 =>
      (jgR h a0 9 32).bind fun v27 =>
      (jaI h v27 z).bind fun v29 =>
      (jsI h v25 (((724 : Int32) * a1) + z) v29).bind fun h31 =>
      some (.inl (z + (1 : Int32)), h31)
    else
      (jgR h a0 9 32).bind fun v33 =>
      (jgR h a0 9 48).bind fun v35 =>
      (jaI h v35 (((724 : Int32) * a1) + z)).bind fun v37 =>
      (jsI h v33 z v37).bind fun h39 =>
      some (.inl (z + (1 : Int32)), h39)

def f_X12_image_L154 (a0 : Nat) (a1 : Int32) (a2 : Int32) (z : Int32) (h : JH) : Option ((Int32 ⊕ Int32) × JH) :=
  if (8 : Int32) ≤ z then
    some (.inr z, h)
  else
    if a2 = (0 : Int32) then
      (jgR h a0 9 49).bind fun v45 =>
      (jgR h a0 9 43).bind fun v47 =>
      (jaB h v47 z).bind fun v49 =>
      (jsB h v45 (((8 : Int32) * a1) + z) v49).bind fun h51 =>
      some (.inl (z + (1 : Int32)), h51)
    else
      (jgR h a0 9 43).bind fun v53 =>
      (jgR h a0 9 49).bind fun v55 =>
      (jaB h v55 (((8 : Int32) * a1) + z)).bind fun v57 =>
      (jsB h v53 z v57).bind fun h59 =>
      some (.inl (z + (1 : Int32)), h59)

def f_X12_image_L209 (a0 : Nat) (a1 : Int32) (a2 : Int32) (z : Int32) (h : JH) : Option ((Int32 ⊕ Int32) × JH) :=
  if (104 : Int32) ≤ z then
    some (.inr z, h)
  else
    if a2 = (0 : Int32) then
      (jgR h a0 9 50).bind fun v65 =>
      (jgR h a0 9 44).bind fun v67 =>
      (jaJ h v67 z).bind fun v69 =>
      (jsJ h v65 (((104 : Int32) * a1) + z) v69).bind fun h71 =>
      some (.inl (z + (1 : Int32)), h71)
    else
      (jgR h a0 9 44).bind fun v73 =>
      (jgR h a0 9 50).bind fun v75 =>
      (jaJ h v75 (((104 : Int32) * a1) + z)).bind fun v77 =>
      (jsJ h v73 z v77).bind fun h79 =>
      some (.inl (z + (1 : Int32)), h79)

def f_X12_image (a0 : Nat) (a1 : Int32) (a2 : Int32) (h : JH) : Option (Int32 × JH) :=
  (jput h a0 9 0 (.int (0 : Int32))).bind fun h1 =>
  (f_X12_within a1 (0 : Int32) (1 : Int32) h1).bind fun q3 =>
  if q3.1 = (0 : Int32) then
    some ((0 : Int32), q3.2)
  else
    if a2 = (0 : Int32) then
      (jloop (f_X12_image_L44 a0 a1 a2) jF (0 : Int32) q3.2).bind fun q23 =>
      (jloop (f_X12_image_L96 a0 a1 a2) jF (0 : Int32) q23.2).bind fun q43 =>
      (jloop (f_X12_image_L154 a0 a1 a2) jF (0 : Int32) q43.2).bind fun q63 =>
      (jloop (f_X12_image_L209 a0 a1 a2) jF (0 : Int32) q63.2).bind fun q83 =>
      if a2 = (0 : Int32) then
        (jgR q83.2 a0 9 45).bind fun v85 =>
        (jsB q83.2 v85 a1 (1 : Int32)).bind fun h87 =>
        (jgR h87 a0 9 46).bind fun v89 =>
        (jgI h87 a0 9 42).bind fun v91 =>
        (jsI h87 v89 a1 v91).bind fun h93 =>
        some ((1 : Int32), h93)
      else
        some ((1 : Int32), q83.2)
    else
      (jgR q3.2 a0 9 45).bind fun v95 =>
      (jaB q3.2 v95 a1).bind fun v97 =>
      if v97 = (0 : Int32) then
        some ((0 : Int32), q3.2)
      else
        (jgR q3.2 a0 9 46).bind fun v99 =>
        (jaI q3.2 v99 a1).bind fun v101 =>
        (jgI q3.2 a0 9 42).bind fun v103 =>
        if v101 = v103 then
          (jloop (f_X12_image_L44 a0 a1 a2) jF (0 : Int32) q3.2).bind fun q105 =>
          (jloop (f_X12_image_L96 a0 a1 a2) jF (0 : Int32) q105.2).bind fun q107 =>
          (jloop (f_X12_image_L154 a0 a1 a2) jF (0 : Int32) q107.2).bind fun q109 =>
          (jloop (f_X12_image_L209 a0 a1 a2) jF (0 : Int32) q109.2).bind fun q111 =>
          if a2 = (0 : Int32) then
            (jgR q111.2 a0 9 45).bind fun v113 =>
            (jsB q111.2 v113 a1 (1 : Int32)).bind fun h115 =>
            (jgR h115 a0 9 46).bind fun v117 =>
            (jgI h115 a0 9 42).bind fun v119 =>
            (jsI h115 v117 a1 v119).bind fun h121 =>
            some ((1 : Int32), h121)
          else
            some ((1 : Int32), q111.2)
        else
          some ((0 : Int32), q3.2)

