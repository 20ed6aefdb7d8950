noncomputable def fX8_put (p1 : Int) (M : Mem) : Option (Mem) :=
  ((if p1 = 10 then
      some 1
    else
      if p1 < 32 then
        some 0
      else
        if 126 < p1 then
          some 0
        else
          some 1 : Option (Int))).bind fun q1 =>
  ((if q1 = 0 then
      some M
    else
      if 1000 ≤ (M 1 2) then
        some M
      else
        (stB M 2 (M 1 2) (i2b p1)).bind fun M2 =>
        (pI M2 1 2 (w32 ((M2 1 2) + 1))).bind fun M3 =>
        some M3 : Option (Mem))).bind fun q4 =>
  some q4

noncomputable def fX11_feedEight_b1 (p1 : Int) (s1 : Int × Mem) : Option ((Int × Mem) ⊕ (Mem)) :=
  if s1.1 < 0 then
    some (.inr s1.2)
  else
    (fX8_put (iand (w32 (lushr p1 s1.1)) 255) s1.2).bind fun q2 =>
    some (.inl (w32 (s1.1 + (-8)), q2))

noncomputable def fX11_feedEight (p1 : Int) (M : Mem) : Option (Mem) :=
  (lp (fX11_feedEight_b1 p1) (56, M)).bind fun q3 =>
  some q3

noncomputable def fX11_feed (p1 : Int) (p2 : Int) (p3 : Int) (M : Mem) : Option (Int × Mem) :=
  (fX11_feedEight p1 M).bind fun q1 =>
  (fX11_feedEight p2 q1).bind fun q2 =>
  (fX11_feedEight p3 q2).bind fun q3 =>
  some (q3 1 2, q3)

noncomputable def fX3_clear (t : Nat) (M : Mem) : Option (Mem) :=
  (pI M t 0 0).bind fun M1 =>
  (pI M1 t 10 0).bind fun M2 =>
  (pI M2 t 14 4).bind fun M3 =>
  (pI M3 t 15 8).bind fun M4 =>
  (pI M4 t 16 0).bind fun M5 =>
  (pI M5 t 17 0).bind fun M6 =>
  some M6

noncomputable def fX8_rewind  (M : Mem) : Option (Mem) :=
  (pI M 1 3 0).bind fun M1 =>
  some M1

noncomputable def fX8_readNumeral_b1  (s2 : Mem) : Option ((Mem) ⊕ (Mem)) :=
  if (s2 1 2) ≤ (s2 1 3) then
    some (.inr s2)
  else
    (ldB s2 2 (s2 1 3)).bind fun v3 =>
    if v3 < 48 then
      some (.inr s2)
    else
      (ldB s2 2 (s2 1 3)).bind fun v4 =>
      if 57 < v4 then
        some (.inr s2)
      else
        (ldB s2 2 (s2 1 3)).bind fun v5 =>
        (pI s2 1 6 (w32 ((w32 ((s2 1 6) * 10)) + (w32 (v5 - 48))))).bind fun M6 =>
        (pI M6 1 3 (w32 ((M6 1 3) + 1))).bind fun M7 =>
        some (.inl M7)

noncomputable def fX8_readNumeral  (M : Mem) : Option (Mem) :=
  (pI M 1 6 0).bind fun M1 =>
  (lp (fX8_readNumeral_b1) M1).bind fun q8 =>
  ((if 3 < (w32 ((q8 1 3) - (q8 1 5))) then
      some 1
    else
      some 2 : Option (Int))).bind fun q9 =>
  (pI q8 1 4 q9).bind fun M10 =>
  some M10

noncomputable def fX8_readWord_b1  (s2 : Mem) : Option ((Mem) ⊕ (Mem)) :=
  if (s2 1 2) ≤ (s2 1 3) then
    some (.inr s2)
  else
    (ldB s2 2 (s2 1 3)).bind fun v3 =>
    if v3 < 97 then
      some (.inr s2)
    else
      (ldB s2 2 (s2 1 3)).bind fun v4 =>
      if 122 < v4 then
        some (.inr s2)
      else
        (ldB s2 2 (s2 1 3)).bind fun v5 =>
        (pI s2 1 7 (w64 ((w64 ((s2 1 7) * 32)) + (w32 ((w32 (v5 - 97)) + 1))))).bind fun M6 =>
        (pI M6 1 3 (w32 ((M6 1 3) + 1))).bind fun M7 =>
        some (.inl M7)

noncomputable def fX8_readWord_b2  (s11 : Int × Mem) : Option ((Int × Mem) ⊕ (Mem)) :=
  if 23 ≤ s11.1 then
    some (.inr s11.2)
  else
    if (s11.2 1 4) = 4 then
      (ldJ s11.2 3 s11.1).bind fun v12 =>
      ((if (lc v12 (s11.2 1 7)) = 0 then
          (pI s11.2 1 4 5).bind fun M13 =>
          (pI M13 1 6 s11.1).bind fun M14 =>
          some M14
        else
          some s11.2 : Option (Mem))).bind fun q15 =>
      some (.inl (w32 (s11.1 + 1), q15))
    else
      some (.inr s11.2)

noncomputable def fX8_readWord  (M : Mem) : Option (Mem) :=
  (pI M 1 7 0).bind fun M1 =>
  (lp (fX8_readWord_b1) M1).bind fun q8 =>
  ((if 7 < (w32 ((q8 1 3) - (q8 1 5))) then
      some 1
    else
      some 4 : Option (Int))).bind fun q9 =>
  (pI q8 1 4 q9).bind fun M10 =>
  (lp (fX8_readWord_b2) (0, M10)).bind fun q16 =>
  some q16

noncomputable def fX8_advance_b1  (s1 : Mem) : Option ((Mem) ⊕ (Mem)) :=
  if (s1 1 2) ≤ (s1 1 3) then
    some (.inr s1)
  else
    (ldB s1 2 (s1 1 3)).bind fun v2 =>
    if v2 = 10 then
      (pI s1 1 3 (w32 ((s1 1 3) + 1))).bind fun M3 =>
      some (.inl M3)
    else
      (ldB s1 2 (s1 1 3)).bind fun v4 =>
      if v4 = 32 then
        (pI s1 1 3 (w32 ((s1 1 3) + 1))).bind fun M5 =>
        some (.inl M5)
      else
        some (.inr s1)

noncomputable def fX8_advance  (M : Mem) : Option (Mem) :=
  (lp (fX8_advance_b1) M).bind fun q6 =>
  (pI q6 1 5 (q6 1 3)).bind fun M7 =>
  ((if (M7 1 2) ≤ (M7 1 3) then
      some 0
    else
      (ldB M7 2 (M7 1 3)).bind fun v8 =>
      some v8 : Option (Int))).bind fun q9 =>
  ((if (M7 1 3) < (M7 1 2) then
      ((if q9 < 97 then
          some true
        else
          if 122 < q9 then
            some true
          else
            some false : Option (Bool))).bind fun q10 =>
      if q10 = true then
        ((if q9 < 48 then
            some true
          else
            if 57 < q9 then
              some true
            else
              some false : Option (Bool))).bind fun q11 =>
        if q11 = true then
          ((if q9 = 59 then
              some 3
            else
              some 1 : Option (Int))).bind fun q12 =>
          (pI M7 1 4 q12).bind fun M13 =>
          (pI M13 1 3 (w32 ((M13 1 3) + 1))).bind fun M14 =>
          some M14
        else
          (fX8_readNumeral M7).bind fun q15 =>
          some q15
      else
        (fX8_readWord M7).bind fun q16 =>
        some q16
    else
      (pI M7 1 4 0).bind fun M17 =>
      some M17 : Option (Mem))).bind fun q18 =>
  some q18

noncomputable def fX3_open (t : Nat) (p1 : Int) (p2 : Int) (M : Mem) : Option (Int × Mem) :=
  (some (M t 0)).bind fun v1 =>
  (stI M (t + 1) v1 p1).bind fun M2 =>
  (stI M2 (t + 2) v1 p2).bind fun M3 =>
  (stI M3 (t + 8) v1 (-1)).bind fun M4 =>
  (pI M4 t 0 (w32 ((M4 t 0) + 1))).bind fun M5 =>
  some (v1, M5)

noncomputable def fX6_slotOf_b1 (M : Mem) (p1 : Int) (s1 : Int) : Option ((Int) ⊕ ((Unit) ⊕ (Int × Mem))) :=
  if (M 4 5) ≤ s1 then
    some (.inr (.inl ()))
  else
    (ldJ M 18 s1).bind fun v2 =>
    if (lc v2 p1) = 0 then
      some (.inr (.inr (s1, M)))
    else
      some (.inl (w32 (s1 + 1)))

noncomputable def fX6_slotOf (p1 : Int) (M : Mem) : Option (Int × Mem) :=
  (lp (fX6_slotOf_b1 M p1) 0).bind (Sum.elim (fun q3 =>
  some ((-1), M)) (fun r => some r))

noncomputable def fX6_tell (p1 : Int) (p2 : Int) (p3 : Int) (M : Mem) : Option (Int × Mem) :=
  (some (M 4 5)).bind fun v1 =>
  (stJ M 18 v1 p1).bind fun M2 =>
  (stI M2 19 v1 p2).bind fun M3 =>
  (stZ M3 20 v1 p3).bind fun M4 =>
  (pI M4 4 5 (w32 ((M4 4 5) + 1))).bind fun M5 =>
  some (v1, M5)

noncomputable def fX6_faultHere (p1 : Int) (M : Mem) : Option (Int × Mem) :=
  some (w32 (p1 + (w32 (16 * (M 1 5)))), M)

noncomputable def fX6_readInputName (p1 : Int) (M : Mem) : Option (Int × Mem) :=
  (gm M 4 1).bind fun t1 =>
  (fX3_open t1 0 (M 1 5) M).bind fun q2 =>
  (fX8_advance q2.2).bind fun q3 =>
  if (q3 1 4) = 4 then
    (fX6_slotOf (q3 1 7) q3).bind fun q4 =>
    if q4.1 = (-1) then
      if (q4.2 4 5) < 20 then
        (gm q4.2 4 1).bind fun t5 =>
        (stI q4.2 (t5 + 9) q2.1 p1).bind fun M6 =>
        (gm M6 4 1).bind fun t7 =>
        (fX6_tell (M6 1 7) 0 1 M6).bind fun q8 =>
        (stI q8.2 (t7 + 3) q2.1 q8.1).bind fun M9 =>
        some (0, M9)
      else
        (fX6_faultHere 5 q4.2).bind fun q10 =>
        some (q10.1, q10.2)
    else
      (fX6_faultHere 3 q4.2).bind fun q11 =>
      some (q11.1, q11.2)
  else
    (fX6_faultHere 1 q3).bind fun q12 =>
    some (q12.1, q12.2)

noncomputable def fX6_readNumber (p1 : Int) (p2 : Int) (M : Mem) : Option (Int × Mem) :=
  (fX8_advance M).bind fun q1 =>
  if (q1 1 4) = 2 then
    ((if (q1 1 6) < p1 then
        (fX6_faultHere 4 q1).bind fun q2 =>
        some (q2.1, q2.2)
      else
        if (q1 1 6) ≤ p2 then
          some (0, q1)
        else
          (fX6_faultHere 4 q1).bind fun q3 =>
          some (q3.1, q3.2) : Option (Int × Mem))).bind fun q4 =>
    some (q4.1, q4.2)
  else
    (fX6_faultHere 1 q1).bind fun q5 =>
    some (q5.1, q5.2)

noncomputable def fX6_readSemicolon  (M : Mem) : Option (Int × Mem) :=
  (fX8_advance M).bind fun q1 =>
  ((if (q1 1 4) = 3 then
      some (0, q1)
    else
      (fX6_faultHere 1 q1).bind fun q2 =>
      some (q2.1, q2.2) : Option (Int × Mem))).bind fun q3 =>
  some (q3.1, q3.2)

noncomputable def fX6_readInput (p1 : Int) (M : Mem) : Option (Int × Mem) :=
  if (M 4 7) ≤ 0 then
    (gm M 4 1).bind fun t1 =>
    if (M t1 10) < 6 then
      (gm M 4 1).bind fun t2 =>
      (some (M t2 10)).bind fun v3 =>
      (gm M 4 1).bind fun t4 =>
      (pI M t4 10 (w32 ((M t4 10) + 1))).bind fun M5 =>
      (gm M5 4 1).bind fun t6 =>
      (stZ M5 (t6 + 10) v3 p1).bind fun M7 =>
      (fX6_readInputName v3 M7).bind fun q8 =>
      ((if q8.1 = 0 then
          (fX6_readNumber 0 999 q8.2).bind fun q9 =>
          some (q9.1, q9.2)
        else
          some (q8.1, q8.2) : Option (Int × Mem))).bind fun q10 =>
      ((if q10.1 = 0 then
          (gm q10.2 4 1).bind fun t11 =>
          (stI q10.2 (t11 + 11) v3 (q10.2 1 6)).bind fun M12 =>
          (fX6_readNumber (M12 1 6) 999 M12).bind fun q13 =>
          some (q13.1, q13.2)
        else
          some (q10.1, q10.2) : Option (Int × Mem))).bind fun q14 =>
      ((if q14.1 = 0 then
          (gm q14.2 4 1).bind fun t15 =>
          (stI q14.2 (t15 + 12) v3 (q14.2 1 6)).bind fun M16 =>
          (fX6_readSemicolon M16).bind fun q17 =>
          some (q17.1, q17.2)
        else
          some (q14.1, q14.2) : Option (Int × Mem))).bind fun q18 =>
      some (q18.1, q18.2)
    else
      (fX6_faultHere 5 M).bind fun q19 =>
      some (q19.1, q19.2)
  else
    (fX6_faultHere 1 M).bind fun q20 =>
    some (q20.1, q20.2)

noncomputable def fX6_readFetch  (M : Mem) : Option (Int × Mem) :=
  if (M 4 7) ≤ 0 then
    if (M 4 9) = 0 then
      (fX6_readNumber 1 8 M).bind fun q1 =>
      ((if q1.1 = 0 then
          (pz q1.2 4 9 1).bind fun M2 =>
          (gm M2 4 1).bind fun t3 =>
          (pI M2 t3 14 (M2 1 6)).bind fun M4 =>
          (fX6_readSemicolon M4).bind fun q5 =>
          some (q5.1, q5.2)
        else
          some (q1.1, q1.2) : Option (Int × Mem))).bind fun q6 =>
      some (q6.1, q6.2)
    else
      (fX6_faultHere 3 M).bind fun q7 =>
      some (q7.1, q7.2)
  else
    (fX6_faultHere 1 M).bind fun q8 =>
    some (q8.1, q8.2)

noncomputable def fX6_readAlu  (M : Mem) : Option (Int × Mem) :=
  if (M 4 7) ≤ 0 then
    if (M 4 10) = 0 then
      (fX6_readNumber 1 16 M).bind fun q1 =>
      ((if q1.1 = 0 then
          (pz q1.2 4 10 1).bind fun M2 =>
          (gm M2 4 1).bind fun t3 =>
          (pI M2 t3 15 (M2 1 6)).bind fun M4 =>
          (fX6_readSemicolon M4).bind fun q5 =>
          some (q5.1, q5.2)
        else
          some (q1.1, q1.2) : Option (Int × Mem))).bind fun q6 =>
      some (q6.1, q6.2)
    else
      (fX6_faultHere 3 M).bind fun q7 =>
      some (q7.1, q7.2)
  else
    (fX6_faultHere 1 M).bind fun q8 =>
    some (q8.1, q8.2)

noncomputable def fX6_takeArg (p1 : Int) (p2 : Int) (p3 : Int) (M : Mem) : Option (Int × Mem) :=
  if (M 1 4) = 2 then
    (some (ixor (M 1 6) (-1))).bind fun v12 =>
    (pI M 4 11 0).bind fun M13 =>
    (gm M13 4 1).bind fun t14 =>
    (stI M13 (t14 + 6) (w32 ((w32 (3 * p1)) + p2)) v12).bind fun M15 =>
    (gm M15 4 1).bind fun t16 =>
    (stI M15 (t16 + 7) (w32 ((w32 (3 * p1)) + p2)) (M15 1 5)).bind fun M17 =>
    ((if p3 = 2 then
        some (0, M17)
      else
        if p3 = (M17 4 11) then
          some (0, M17)
        else
          (fX6_faultHere 6 M17).bind fun q18 =>
          some (q18.1, q18.2) : Option (Int × Mem))).bind fun q19 =>
    some (q19.1, q19.2)
  else
    if (M 1 4) = 4 then
      (fX6_slotOf (M 1 7) M).bind fun q2 =>
      if q2.1 = (-1) then
        (fX6_faultHere 2 q2.2).bind fun q11 =>
        some (q11.1, q11.2)
      else
        (ldI q2.2 19 q2.1).bind fun v3 =>
        (pI q2.2 4 11 v3).bind fun M4 =>
        (gm M4 4 1).bind fun t5 =>
        (stI M4 (t5 + 6) (w32 ((w32 (3 * p1)) + p2)) q2.1).bind fun M6 =>
        (gm M6 4 1).bind fun t7 =>
        (stI M6 (t7 + 7) (w32 ((w32 (3 * p1)) + p2)) (M6 1 5)).bind fun M8 =>
        ((if p3 = 2 then
            some (0, M8)
          else
            if p3 = (M8 4 11) then
              some (0, M8)
            else
              (fX6_faultHere 6 M8).bind fun q9 =>
              some (q9.1, q9.2) : Option (Int × Mem))).bind fun q10 =>
        some (q10.1, q10.2)
    else
      (fX6_faultHere 1 M).bind fun q1 =>
      some (q1.1, q1.2)

noncomputable def fX6_readWhen  (M : Mem) : Option (Int × Mem) :=
  if (M 4 7) < 4 then
    (gm M 4 1).bind fun t1 =>
    (fX3_open t1 5 (M 1 5) M).bind fun q2 =>
    (fX8_advance q2.2).bind fun q3 =>
    (fX6_takeArg q2.1 0 1 q3).bind fun q4 =>
    ((if q4.1 = 0 then
        (gm q4.2 4 1).bind fun t5 =>
        (stI q4.2 (t5 + 3) q2.1 (q4.2 4 5)).bind fun M6 =>
        (gm M6 4 1).bind fun t7 =>
        (gm M6 4 1).bind fun t8 =>
        (stI M6 (t7 + 9) q2.1 (M6 t8 16)).bind fun M9 =>
        (gm M9 4 1).bind fun t10 =>
        (pI M9 t10 16 (w32 ((M9 t10 16) + 1))).bind fun M11 =>
        (pI M11 4 8 (w32 ((M11 4 8) + 1))).bind fun M12 =>
        (stI M12 21 (M12 4 7) q2.1).bind fun M13 =>
        (pI M13 4 7 (w32 ((M13 4 7) + 1))).bind fun M14 =>
        (fX6_readSemicolon M14).bind fun q15 =>
        some (q15.1, q15.2)
      else
        some (q4.1, q4.2) : Option (Int × Mem))).bind fun q16 =>
    some (q16.1, q16.2)
  else
    (fX6_faultHere 5 M).bind fun q17 =>
    some (q17.1, q17.2)

noncomputable def fX6_readElse  (M : Mem) : Option (Int × Mem) :=
  ((if (M 4 7) ≤ 0 then
      some (-1)
    else
      (ldI M 21 (w32 ((M 4 7) - 1))).bind fun v1 =>
      some v1 : Option (Int))).bind fun q2 =>
  if q2 = (-1) then
    (fX6_faultHere 1 M).bind fun q3 =>
    some (q3.1, q3.2)
  else
    (gm M 4 1).bind fun t4 =>
    (ldI M (t4 + 1) q2).bind fun v5 =>
    if v5 = 5 then
      (gm M 4 1).bind fun t7 =>
      (ldI M (t7 + 8) q2).bind fun v8 =>
      if v8 = (-1) then
        (gm M 4 1).bind fun t9 =>
        (gm M 4 1).bind fun t10 =>
        (fX3_open t10 6 (M 1 5) M).bind fun q11 =>
        (stI q11.2 (t9 + 8) q2 q11.1).bind fun M12 =>
        (gm M12 4 1).bind fun t13 =>
        (ldI M12 (t13 + 3) q2).bind fun v14 =>
        (pI M12 4 5 v14).bind fun M15 =>
        (fX6_readSemicolon M15).bind fun q16 =>
        some (q16.1, q16.2)
      else
        (fX6_faultHere 1 M).bind fun q17 =>
        some (q17.1, q17.2)
    else
      (fX6_faultHere 1 M).bind fun q6 =>
      some (q6.1, q6.2)

noncomputable def fX6_readTimes  (M : Mem) : Option (Int × Mem) :=
  if (M 4 7) < 4 then
    (gm M 4 1).bind fun t1 =>
    (fX3_open t1 7 (M 1 5) M).bind fun q2 =>
    (fX6_readNumber 2 9 q2.2).bind fun q3 =>
    ((if q3.1 = 0 then
        (gm q3.2 4 1).bind fun t4 =>
        (stI q3.2 (t4 + 9) q2.1 (q3.2 1 6)).bind fun M5 =>
        (stI M5 21 (M5 4 7) q2.1).bind fun M6 =>
        (pI M6 4 7 (w32 ((M6 4 7) + 1))).bind fun M7 =>
        (fX6_readSemicolon M7).bind fun q8 =>
        some (q8.1, q8.2)
      else
        some (q3.1, q3.2) : Option (Int × Mem))).bind fun q9 =>
    some (q9.1, q9.2)
  else
    (fX6_faultHere 5 M).bind fun q10 =>
    some (q10.1, q10.2)

noncomputable def fX6_readEnd  (M : Mem) : Option (Int × Mem) :=
  if (M 4 7) = 0 then
    (fX6_faultHere 1 M).bind fun q20 =>
    some (q20.1, q20.2)
  else
    (pI M 4 7 (w32 ((M 4 7) - 1))).bind fun M1 =>
    (ldI M1 21 (M1 4 7)).bind fun v2 =>
    (gm M1 4 1).bind fun t3 =>
    (fX3_open t3 8 (M1 1 5) M1).bind fun q4 =>
    (gm q4.2 4 1).bind fun t5 =>
    (stI q4.2 (t5 + 8) q4.1 v2).bind fun M6 =>
    (gm M6 4 1).bind fun t7 =>
    (ldI M6 (t7 + 1) v2).bind fun v8 =>
    ((if v8 = 5 then
        (gm M6 4 1).bind fun t9 =>
        (ldI M6 (t9 + 8) v2).bind fun v10 =>
        (gm M6 4 1).bind fun t11 =>
        ((if v10 = (-1) then
            some v2
          else
            some v10 : Option (Int))).bind fun q12 =>
        (stI M6 (t11 + 8) q12 q4.1).bind fun M13 =>
        (gm M13 4 1).bind fun t14 =>
        (ldI M13 (t14 + 3) v2).bind fun v15 =>
        (pI M13 4 5 v15).bind fun M16 =>
        (pI M16 4 8 (w32 ((M16 4 8) - 1))).bind fun M17 =>
        some M17
      else
        some M6 : Option (Mem))).bind fun q18 =>
    (fX6_readSemicolon q18).bind fun q19 =>
    some (q19.1, q19.2)

noncomputable def fX6_readShow  (M : Mem) : Option (Int × Mem) :=
  if (M 4 8) ≤ 0 then
    (gm M 4 1).bind fun t1 =>
    (fX3_open t1 9 (M 1 5) M).bind fun q2 =>
    (fX8_advance q2.2).bind fun q3 =>
    (fX6_takeArg q2.1 0 0 q3).bind fun q4 =>
    ((if q4.1 = 0 then
        (fX6_readSemicolon q4.2).bind fun q5 =>
        some (q5.1, q5.2)
      else
        some (q4.1, q4.2) : Option (Int × Mem))).bind fun q6 =>
    some (q6.1, q6.2)
  else
    (fX6_faultHere 1 M).bind fun q7 =>
    some (q7.1, q7.2)

noncomputable def fX8_isWord (p1 : Int) (M : Mem) : Option (Int × Mem) :=
  ((if (M 1 4) = 5 then
      if (M 1 6) = p1 then
        some 1
      else
        some 0
    else
      some 0 : Option (Int))).bind fun q1 =>
  rz q1 M

noncomputable def fX11_typeMade (p1 : Int) (M : Mem) : Option (Int × Mem) :=
  ((if p1 < 8 then
      some 0
    else
      if 12 < p1 then
        some 0
      else
        some 1 : Option (Int))).bind fun q1 =>
  some (q1, M)

noncomputable def fX11_argsOf (p1 : Int) (M : Mem) : Option (Int × Mem) :=
  if p1 = 0 ∨ p1 = 1 then
    some (0, M)
  else if p1 = 7 ∨ p1 = 12 ∨ p1 = 14 then
    some (1, M)
  else if p1 = 13 then
    some (3, M)
  else 
    some (2, M)

noncomputable def fX11_typeTaken (p1 : Int) (M : Mem) : Option (Int × Mem) :=
  ((if p1 = 10 then
      some 1
    else
      if p1 = 11 then
        some 1
      else
        if p1 = 12 then
          some 1
        else
          some 0 : Option (Int))).bind fun q1 =>
  some (q1, M)

noncomputable def fX6_typeWanted (p1 : Int) (p2 : Int) (p3 : Int) (M : Mem) : Option (Int × Mem) :=
  if p1 = 14 then
    some (p3, M)
  else
    if p1 = 13 then
      if p2 = 0 then
        some (1, M)
      else if p2 = 1 then
        some (p3, M)
      else 
        some (M 4 11, M)
    else
      (fX11_typeTaken p1 M).bind fun q1 =>
      some (q1.1, q1.2)

noncomputable def fX6_readOp_b1 (p1 : Int) (p2 : Int) (v3 : Int) (s11 : Int × Int × Mem) : Option ((Int × Int × Mem) ⊕ (Int × Mem)) :=
  (fX11_argsOf v3 s11.2.2).bind fun q12 =>
  if q12.1 ≤ s11.2.1 then
    some (.inr (s11.1, q12.2))
  else
    if s11.1 = 0 then
      (fX8_advance q12.2).bind fun q13 =>
      (fX6_typeWanted v3 s11.2.1 p2 q13).bind fun q14 =>
      (fX6_takeArg p1 s11.2.1 q14.1 q14.2).bind fun q15 =>
      some (.inl (q15.1, w32 (s11.2.1 + 1), q15.2))
    else
      some (.inr (s11.1, q12.2))

noncomputable def fX6_readOp (p1 : Int) (p2 : Int) (M : Mem) : Option (Int × Mem) :=
  (fX8_advance M).bind fun q1 =>
  if (q1 1 4) = 5 then
    if 10 ≤ (q1 1 6) then
      (some (w32 ((w32 ((q1 1 6) - 10)) + 2))).bind fun v3 =>
      ((if v3 = 13 then
          some 1
        else
          if v3 = 14 then
            some 1
          else
            some 0 : Option (Int))).bind fun q4 =>
      ((if q4 = 0 then
          if p2 = 2 then
            some (true, q1)
          else
            (fX11_typeMade v3 q1).bind fun q5 =>
            if p2 = q5.1 then
              some (true, q5.2)
            else
              some (false, q5.2)
        else
          some (true, q1) : Option (Bool × Mem))).bind fun q6 =>
      if q6.1 = true then
        (gm q6.2 4 1).bind fun t7 =>
        (stI q6.2 (t7 + 4) p1 v3).bind fun M8 =>
        (gm M8 4 1).bind fun t9 =>
        (stI M8 (t9 + 5) p1 (M8 1 5)).bind fun M10 =>
        (lp (fX6_readOp_b1 p1 p2 v3) (0, 0, M10)).bind fun q16 =>
        ((if q4 = 0 then
            (fX11_typeMade v3 q16.2).bind fun q17 =>
            (pI q17.2 4 11 q17.1).bind fun M18 =>
            some M18
          else
            some q16.2 : Option (Mem))).bind fun q19 =>
        some (q16.1, q19)
      else
        (fX6_faultHere 6 q6.2).bind fun q20 =>
        some (q20.1, q20.2)
    else
      (fX6_faultHere 1 q1).bind fun q21 =>
      some (q21.1, q21.2)
  else
    (fX6_faultHere 1 q1).bind fun q2 =>
    some (q2.1, q2.2)

noncomputable def fX6_readIs  (M : Mem) : Option (Int × Mem) :=
  (fX6_slotOf (M 1 7) M).bind fun q1 =>
  ((if q1.1 = (-1) then
      some true
    else
      (ldZ q1.2 20 q1.1).bind fun v2 =>
      if v2 = 0 then
        some true
      else
        some false : Option (Bool))).bind fun q3 =>
  if q3 = true then
    ((if q1.1 = (-1) then
        if (q1.2 4 5) < 20 then
          some true
        else
          some false
      else
        some true : Option (Bool))).bind fun q4 =>
    if q4 = true then
      (some (q1.2 1 7)).bind fun v5 =>
      (gm q1.2 4 1).bind fun t6 =>
      (fX3_open t6 4 (q1.2 1 5) q1.2).bind fun q7 =>
      (fX8_advance q7.2).bind fun q8 =>
      (fX8_isWord 4 q8).bind fun q9 =>
      if q9.1 = 0 then
        (fX6_faultHere 1 q9.2).bind fun q20 =>
        some (q20.1, q20.2)
      else
        ((if q1.1 = (-1) then
            some 2
          else
            (ldI q9.2 19 q1.1).bind fun v10 =>
            some v10 : Option (Int))).bind fun q11 =>
        (fX6_readOp q7.1 q11 q9.2).bind fun q12 =>
        ((if q12.1 = 0 then
            (fX6_readSemicolon q12.2).bind fun q13 =>
            some (q13.1, q13.2)
          else
            some (q12.1, q12.2) : Option (Int × Mem))).bind fun q14 =>
        ((if q14.1 = 0 then
            (gm q14.2 4 1).bind fun t15 =>
            ((if q1.1 = (-1) then
                (fX6_tell v5 (q14.2 4 11) 0 q14.2).bind fun q16 =>
                some (q16.1, q16.2)
              else
                some (q1.1, q14.2) : Option (Int × Mem))).bind fun q17 =>
            (stI q17.2 (t15 + 3) q7.1 q17.1).bind fun M18 =>
            some M18
          else
            some q14.2 : Option (Mem))).bind fun q19 =>
        some (q14.1, q19)
    else
      (fX6_faultHere 5 q1.2).bind fun q21 =>
      some (q21.1, q21.2)
  else
    (fX6_faultHere 3 q1.2).bind fun q22 =>
    some (q22.1, q22.2)

noncomputable def fX6_readLine  (M : Mem) : Option (Int × Mem) :=
  (gm M 4 1).bind fun t1 =>
  if (M t1 0) < 200 then
    if (M 1 4) = 4 then
      (fX6_readIs M).bind fun q13 =>
      some (q13.1, q13.2)
    else
      if (M 1 4) = 5 then
        if (M 1 6) = 0 ∨ (M 1 6) = 1 then
          ((if (M 1 6) = 0 then
              some 1
            else
              some 0 : Option (Int))).bind fun q2 =>
          (fX6_readInput q2 M).bind fun q3 =>
          some (q3.1, q3.2)
        else if (M 1 6) = 2 then
          (fX6_readFetch M).bind fun q4 =>
          some (q4.1, q4.2)
        else if (M 1 6) = 3 then
          (fX6_readAlu M).bind fun q5 =>
          some (q5.1, q5.2)
        else if (M 1 6) = 5 then
          (fX6_readWhen M).bind fun q6 =>
          some (q6.1, q6.2)
        else if (M 1 6) = 6 then
          (fX6_readElse M).bind fun q7 =>
          some (q7.1, q7.2)
        else if (M 1 6) = 7 then
          (fX6_readTimes M).bind fun q8 =>
          some (q8.1, q8.2)
        else if (M 1 6) = 8 then
          (fX6_readEnd M).bind fun q9 =>
          some (q9.1, q9.2)
        else if (M 1 6) = 9 then
          (fX6_readShow M).bind fun q10 =>
          some (q10.1, q10.2)
        else 
          (fX6_faultHere 1 M).bind fun q11 =>
          some (q11.1, q11.2)
      else
        (fX6_faultHere 1 M).bind fun q12 =>
        some (q12.1, q12.2)
  else
    (fX6_faultHere 5 M).bind fun q14 =>
    some (q14.1, q14.2)

noncomputable def fX6_parse_b1  (s10 : Int × Int × Mem) : Option ((Int × Int × Mem) ⊕ (Int × Mem)) :=
  if 1000 ≤ s10.2.1 then
    some (.inr (s10.1, s10.2.2))
  else
    if s10.1 = 0 then
      if (s10.2.2 1 4) = 0 then
        some (.inr (s10.1, s10.2.2))
      else
        (fX6_readLine s10.2.2).bind fun q11 =>
        ((if q11.1 = 0 then
            (fX8_advance q11.2).bind fun q12 =>
            some q12
          else
            some q11.2 : Option (Mem))).bind fun q13 =>
        some (.inl (q11.1, w32 (s10.2.1 + 1), q13))
    else
      some (.inr (s10.1, s10.2.2))

noncomputable def fX6_parse  (M : Mem) : Option (Int × Mem) :=
  (gm M 4 1).bind fun t1 =>
  (fX3_clear t1 M).bind fun q2 =>
  (pI q2 4 5 0).bind fun M3 =>
  (pI M3 4 7 0).bind fun M4 =>
  (pI M4 4 8 0).bind fun M5 =>
  (pz M5 4 9 0).bind fun M6 =>
  (pz M6 4 10 0).bind fun M7 =>
  (fX8_rewind M7).bind fun q8 =>
  (fX8_advance q8).bind fun q9 =>
  (lp (fX6_parse_b1) (0, 0, q9)).bind fun q14 =>
  ((if q14.1 = 0 then
      if (q14.2 4 7) ≤ 0 then
        some (q14.1, q14.2)
      else
        (fX6_faultHere 1 q14.2).bind fun q15 =>
        some (q15.1, q15.2)
    else
      some (q14.1, q14.2) : Option (Int × Mem))).bind fun q16 =>
  (gm q16.2 4 1).bind fun t17 =>
  (pI q16.2 t17 17 (q16.2 4 5)).bind fun M18 =>
  some (q16.1, M18)

noncomputable def fX8_wipe  (M : Mem) : Option (Mem) :=
  (pI M 1 2 0).bind fun M1 =>
  some M1

noncomputable def fX9_single_b1 (M : Mem) (p1 : Int) (p2 : Int) (p3 : Int) (p4 : Int) (s1 : Int) : Option ((Int) ⊕ ((Unit) ⊕ (Int × Mem))) :=
  if (M 23 0) ≤ s1 then
    some (.inr (.inl ()))
  else
    (some (w32 (3 * s1))).bind fun v2 =>
    (ldI M 24 s1).bind fun v3 =>
    if v3 = p1 then
      (ldI M 25 v2).bind fun v4 =>
      if v4 = p2 then
        (ldI M 25 (w32 (v2 + 1))).bind fun v5 =>
        if v5 = p3 then
          (ldI M 25 (w32 (v2 + 2))).bind fun v6 =>
          if v6 = p4 then
            some (.inr (.inr (s1, M)))
          else
            some (.inl (w32 (s1 + 1)))
        else
          some (.inl (w32 (s1 + 1)))
      else
        some (.inl (w32 (s1 + 1)))
    else
      some (.inl (w32 (s1 + 1)))

noncomputable def fX9_single_b2 (p1 : Int) (v8 : Int) (s18 : Int × Mem) : Option ((Int × Mem) ⊕ (Mem)) :=
  (fX11_argsOf p1 s18.2).bind fun q19 =>
  if q19.1 ≤ s18.1 then
    some (.inr q19.2)
  else
    (ldZ q19.2 27 v8).bind fun v20 =>
    ((if v20 = 0 then
        some 0
      else
        (ldI q19.2 25 (w32 ((w32 (3 * v8)) + s18.1))).bind fun v21 =>
        (ldZ q19.2 27 v21).bind fun v22 =>
        if v22 = 0 then
          some 0
        else
          some 1 : Option (Int))).bind fun q23 =>
    (stZ q19.2 27 v8 q23).bind fun M24 =>
    some (.inl (w32 (s18.1 + 1), M24))

noncomputable def fX9_single (p1 : Int) (p2 : Int) (p3 : Int) (p4 : Int) (M : Mem) : Option (Int × Mem) :=
  (lp (fX9_single_b1 M p1 p2 p3 p4) 0).bind (Sum.elim (fun q7 =>
  if (M 23 0) < 64 then
    (some (M 23 0)).bind fun v8 =>
    (stI M 24 v8 p1).bind fun M9 =>
    (stI M9 25 (w32 (3 * v8)) p2).bind fun M10 =>
    (stI M10 25 (w32 ((w32 (3 * v8)) + 1)) p3).bind fun M11 =>
    (stI M11 25 (w32 ((w32 (3 * v8)) + 2)) p4).bind fun M12 =>
    (fX11_typeMade p1 M12).bind fun q13 =>
    ((if q13.1 = 1 then
        some 1
      else
        if p1 = 13 then
          (ldZ q13.2 26 p3).bind fun v14 =>
          if v14 = 0 then
            some 0
          else
            some 1
        else
          some 0 : Option (Int))).bind fun q15 =>
    (stZ q13.2 26 v8 q15).bind fun M16 =>
    (stZ M16 27 v8 1).bind fun M17 =>
    (lp (fX9_single_b2 p1 v8) (0, M17)).bind fun q25 =>
    (pI q25 23 0 (w32 ((q25 23 0) + 1))).bind fun M26 =>
    some (v8, M26)
  else
    some ((-1), M)) (fun r => some r))

noncomputable def fX9_start_b1 (t : Nat) (s3 : Int × Mem) : Option ((Int × Mem) ⊕ (Mem)) :=
  if (s3.2 t 10) ≤ s3.1 then
    some (.inr s3.2)
  else
    (fX9_single 0 s3.1 (-1) (-1) s3.2).bind fun q4 =>
    ((if q4.1 = (-1) then
        some q4.2
      else
        (ldZ q4.2 (t + 10) s3.1).bind fun v5 =>
        (stZ q4.2 27 q4.1 v5).bind fun M6 =>
        some M6 : Option (Mem))).bind fun q7 =>
    some (.inl (w32 (s3.1 + 1), q7))

noncomputable def fX9_start_b2 (t : Nat) (s9 : Int × Mem) : Option ((Int × Mem) ⊕ (Mem)) :=
  if (s9.2 t 16) ≤ s9.1 then
    some (.inr s9.2)
  else
    if 200 ≤ s9.1 then
      some (.inr s9.2)
    else
      (stZ s9.2 29 s9.1 0).bind fun M10 =>
      some (.inl (w32 (s9.1 + 1), M10))

noncomputable def fX9_start (t : Nat) (M : Mem) : Option (Mem) :=
  (pI M 23 0 0).bind fun M1 =>
  (pI M1 23 5 0).bind fun M2 =>
  (lp (fX9_start_b1 t) (0, M2)).bind fun q8 =>
  (lp (fX9_start_b2 t) (0, q8)).bind fun q11 =>
  some q11

noncomputable def fX10_tooMany (p1 : Int) (M : Mem) : Option (Mem) :=
  ((if (M 22 9) = 0 then
      (pI M 22 9 (w32 (5 + (w32 (16 * p1))))).bind fun M1 =>
      some M1
    else
      some M : Option (Mem))).bind fun q2 =>
  some q2

noncomputable def fX10_countLine (t : Nat) (p1 : Int) (M : Mem) : Option (Mem) :=
  (ldI M (t + 1) p1).bind fun v1 =>
  ((if v1 = 4 then
      some true
    else
      if v1 = 5 then
        some true
      else
        if v1 = 7 then
          some true
        else
          if v1 = 9 then
            some true
          else
            some false : Option (Bool))).bind fun q2 =>
  ((if q2 = true then
      (pI M 22 8 (w32 ((M 22 8) + 1))).bind fun M3 =>
      if (M3 22 8) ≤ 200 then
        some M3
      else
        (ldI M3 (t + 2) p1).bind fun v4 =>
        (fX10_tooMany v4 M3).bind fun q5 =>
        some q5
    else
      some M : Option (Mem))).bind fun q6 =>
  some q6

noncomputable def fX10_argValue (t : Nat) (p1 : Int) (p2 : Int) (M : Mem) : Option (Int × Mem) :=
  (ldI M (t + 6) (w32 ((w32 (3 * p1)) + p2))).bind fun v1 =>
  if v1 < 0 then
    (fX9_single 1 (ixor v1 (-1)) (-1) (-1) M).bind fun q2 =>
    ((if q2.1 = (-1) then
        (ldI q2.2 (t + 7) (w32 ((w32 (3 * p1)) + p2))).bind fun v3 =>
        (fX10_tooMany v3 q2.2).bind fun q4 =>
        some q4
      else
        some q2.2 : Option (Mem))).bind fun q5 =>
    some (q2.1, q5)
  else
    (ldI M 30 v1).bind fun v6 =>
    some (v6, M)

noncomputable def fX11_goesEitherWay (p1 : Int) (M : Mem) : Option (Int × Mem) :=
  ((if p1 = 2 then
      some 1
    else
      if p1 = 4 then
        some 1
      else
        if p1 = 5 then
          some 1
        else
          if p1 = 6 then
            some 1
          else
            if p1 = 9 then
              some 1
            else
              if p1 = 10 then
                some 1
              else
                if p1 = 11 then
                  some 1
                else
                  some 0 : Option (Int))).bind fun q1 =>
  rz q1 M

noncomputable def fX9_ofOp (p1 : Int) (p2 : Int) (p3 : Int) (p4 : Int) (M : Mem) : Option (Int × Mem) :=
  if p1 = 14 then
    some (p2, M)
  else
    ((if p1 = 13 then
        if p3 = p4 then
          some false
        else
          some true
      else
        some true : Option (Bool))).bind fun q1 =>
    if q1 = true then
      (fX11_goesEitherWay p1 M).bind fun q2 =>
      ((if q2.1 = 0 then
          (fX9_single p1 p2 p3 p4 q2.2).bind fun q3 =>
          some (q3.1, q3.2)
        else
          if p2 ≤ p3 then
            (fX9_single p1 p2 p3 p4 q2.2).bind fun q4 =>
            some (q4.1, q4.2)
          else
            (fX9_single p1 p3 p2 p4 q2.2).bind fun q5 =>
            some (q5.1, q5.2) : Option (Int × Mem))).bind fun q6 =>
      some (q6.1, q6.2)
    else
      some (p3, M)

noncomputable def fX10_keep (p1 : Int) (p2 : Int) (p3 : Int) (M : Mem) : Option (Mem) :=
  ((if p2 = (-1) then
      (fX10_tooMany p3 M).bind fun q2 =>
      some q2
    else
      (stI M 30 p1 p2).bind fun M1 =>
      some M1 : Option (Mem))).bind fun q3 =>
  some q3

noncomputable def fX10_workIs_b1 (p1 : Int) (t : Nat) (v1 : Int) (s2 : Int × Mem) : Option ((Int × Mem) ⊕ (Mem)) :=
  if 3 ≤ s2.1 then
    some (.inr s2.2)
  else
    (fX11_argsOf v1 s2.2).bind fun q3 =>
    ((if q3.1 ≤ s2.1 then
        some ((-1), q3.2)
      else
        if (q3.2 22 9) = 0 then
          (fX10_argValue t p1 s2.1 q3.2).bind fun q4 =>
          some (q4.1, q4.2)
        else
          some ((-1), q3.2) : Option (Int × Mem))).bind fun q5 =>
    (stI q5.2 43 s2.1 q5.1).bind fun M6 =>
    some (.inl (w32 (s2.1 + 1), M6))

noncomputable def fX10_workIs (t : Nat) (p1 : Int) (M : Mem) : Option (Mem) :=
  (ldI M (t + 4) p1).bind fun v1 =>
  (lp (fX10_workIs_b1 p1 t v1) (0, M)).bind fun q7 =>
  ((if (q7 22 9) = 0 then
      (ldI q7 43 0).bind fun v8 =>
      (ldI q7 43 1).bind fun v9 =>
      (ldI q7 43 2).bind fun v10 =>
      (fX9_ofOp v1 v8 v9 v10 q7).bind fun q11 =>
      (ldI q11.2 (t + 3) p1).bind fun v12 =>
      (ldI q11.2 (t + 5) p1).bind fun v13 =>
      (fX10_keep v12 q11.1 v13 q11.2).bind fun q14 =>
      some q14
    else
      some q7 : Option (Mem))).bind fun q15 =>
  some q15

noncomputable def fX10_beginWhen (t : Nat) (p1 : Int) (M : Mem) : Option (Mem) :=
  (fX10_argValue t p1 0 M).bind fun q1 =>
  if q1.1 = (-1) then
    some q1.2
  else
    if (q1.2 22 7) < 4 then
      (stI q1.2 41 (q1.2 22 7) q1.1).bind fun M2 =>
      (ldZ M2 27 q1.1).bind fun v3 =>
      ((if v3 = 0 then
          (ldI M2 (t + 9) p1).bind fun v4 =>
          (stZ M2 29 v4 1).bind fun M5 =>
          some M5
        else
          some M2 : Option (Mem))).bind fun q6 =>
      (ldA 31 (q6 22 7)).bind fun a7 =>
      (cpy q6 30 0 a7 0 20).bind fun M8 =>
      (pI M8 22 7 (w32 ((M8 22 7) + 1))).bind fun M9 =>
      some M9
    else
      some q1.2

noncomputable def fX10_endFirstPart (p1 : Int) (M : Mem) : Option (Mem) :=
  ((if p1 < 0 then
      some M
    else
      (ldA 36 p1).bind fun a1 =>
      (cpy M 30 0 a1 0 20).bind fun M2 =>
      (ldA 31 p1).bind fun a3 =>
      (cpy M2 a3 0 30 0 20).bind fun M4 =>
      some M4 : Option (Mem))).bind fun q5 =>
  some q5

noncomputable def fX10_beginTimes (p1 : Int) (M : Mem) : Option (Mem) :=
  ((if 4 ≤ (M 22 7) then
      some M
    else
      (stI M 42 (M 22 7) p1).bind fun M1 =>
      (pI M1 22 7 (w32 ((M1 22 7) + 1))).bind fun M2 =>
      some M2 : Option (Mem))).bind fun q3 =>
  some q3

noncomputable def fX10_workShow (t : Nat) (p1 : Int) (M : Mem) : Option (Mem) :=
  if (M 23 5) < 8 then
    (fX10_argValue t p1 0 M).bind fun q1 =>
    ((if (q1.2 22 9) = 0 then
        (stI q1.2 28 (q1.2 23 5) q1.1).bind fun M2 =>
        (pI M2 23 5 (w32 ((M2 23 5) + 1))).bind fun M3 =>
        some M3
      else
        some q1.2 : Option (Mem))).bind fun q4 =>
    some q4
  else
    (ldI M (t + 2) p1).bind fun v5 =>
    (fX10_tooMany v5 M).bind fun q6 =>
    some q6

noncomputable def fX3_endsTimes (t : Nat) (p1 : Int) (M : Mem) : Option (Int × Mem) :=
  (ldI M (t + 8) p1).bind fun v1 =>
  ((if v1 < 0 then
      some 0
    else
      (ldI M (t + 8) p1).bind fun v2 =>
      (ldI M (t + 1) v2).bind fun v3 =>
      if v3 = 7 then
        some 1
      else
        some 0 : Option (Int))).bind fun q4 =>
  rz q4 M

noncomputable def fX3_hasElse (t : Nat) (p1 : Int) (M : Mem) : Option (Int × Mem) :=
  (ldI M (t + 8) p1).bind fun v1 =>
  ((if v1 < 0 then
      some 0
    else
      (ldI M (t + 8) p1).bind fun v2 =>
      (ldI M (t + 1) v2).bind fun v3 =>
      if v3 = 6 then
        some 1
      else
        some 0 : Option (Int))).bind fun q4 =>
  rz q4 M

noncomputable def fX10_endWhen_b1 (p1 : Int) (t : Nat) (v1 : Int) (s6 : Int × Mem) : Option ((Int × Mem) ⊕ (Mem)) :=
  (ldI s6.2 (t + 3) v1).bind fun v7 =>
  if v7 ≤ s6.1 then
    some (.inr s6.2)
  else
    if (s6.2 22 9) = 0 then
      (ldI s6.2 41 (s6.2 22 7)).bind fun v8 =>
      (ldA 36 (s6.2 22 7)).bind fun a9 =>
      (ldI s6.2 a9 s6.1).bind fun v10 =>
      (ldI s6.2 30 s6.1).bind fun v11 =>
      (fX9_ofOp 13 v8 v10 v11 s6.2).bind fun q12 =>
      (ldI q12.2 (t + 2) p1).bind fun v13 =>
      (fX10_keep s6.1 q12.1 v13 q12.2).bind fun q14 =>
      some (.inl (w32 (s6.1 + 1), q14))
    else
      some (.inr s6.2)

noncomputable def fX10_endWhen (t : Nat) (p1 : Int) (M : Mem) : Option (Int × Mem) :=
  (ldI M (t + 8) p1).bind fun v1 =>
  if (M 22 7) = 0 then
    some (w32 (p1 + 1), M)
  else
    if 0 ≤ v1 then
      (pI M 22 7 (w32 ((M 22 7) - 1))).bind fun M2 =>
      (fX3_hasElse t v1 M2).bind fun q3 =>
      ((if q3.1 = 0 then
          (fX10_endFirstPart (q3.2 22 7) q3.2).bind fun q4 =>
          some q4
        else
          some q3.2 : Option (Mem))).bind fun q5 =>
      (lp (fX10_endWhen_b1 p1 t v1) (0, q5)).bind fun q15 =>
      some (w32 (p1 + 1), q15)
    else
      some (w32 (p1 + 1), M)

noncomputable def fX10_endTimes (t : Nat) (p1 : Int) (M : Mem) : Option (Int × Mem) :=
  if (M 22 7) = 0 then
    some (w32 (p1 + 1), M)
  else
    (ldI M 42 (w32 ((M 22 7) - 1))).bind fun v1 =>
    (stI M 42 (w32 ((M 22 7) - 1)) (w32 (v1 - 1))).bind fun M2 =>
    (ldI M2 42 (w32 ((M2 22 7) - 1))).bind fun v3 =>
    if v3 ≤ 0 then
      (pI M2 22 7 (w32 ((M2 22 7) - 1))).bind fun M4 =>
      some (w32 (p1 + 1), M4)
    else
      (ldI M2 (t + 8) p1).bind fun v5 =>
      some (w32 (v5 + 1), M2)

noncomputable def fX10_workLine (t : Nat) (p1 : Int) (M : Mem) : Option (Int × Mem) :=
  (ldI M (t + 1) p1).bind fun v1 =>
  if v1 = 0 then
    (ldI M (t + 3) p1).bind fun v2 =>
    (ldI M (t + 9) p1).bind fun v3 =>
    (stI M 30 v2 v3).bind fun M4 =>
    some (w32 (p1 + 1), M4)
  else if v1 = 4 then
    (fX10_workIs t p1 M).bind fun q5 =>
    some (w32 (p1 + 1), q5)
  else if v1 = 5 then
    (fX10_beginWhen t p1 M).bind fun q6 =>
    some (w32 (p1 + 1), q6)
  else if v1 = 6 then
    (fX10_endFirstPart (w32 ((M 22 7) - 1)) M).bind fun q7 =>
    some (w32 (p1 + 1), q7)
  else if v1 = 7 then
    (ldI M (t + 9) p1).bind fun v8 =>
    (fX10_beginTimes v8 M).bind fun q9 =>
    some (w32 (p1 + 1), q9)
  else if v1 = 9 then
    (fX10_workShow t p1 M).bind fun q10 =>
    some (w32 (p1 + 1), q10)
  else 
    (fX3_endsTimes t p1 M).bind fun q11 =>
    ((if q11.1 = 0 then
        (fX10_endWhen t p1 q11.2).bind fun q12 =>
        some (q12.1, q12.2)
      else
        (fX10_endTimes t p1 q11.2).bind fun q13 =>
        some (q13.1, q13.2) : Option (Int × Mem))).bind fun q14 =>
    some (q14.1, q14.2)

noncomputable def fX10_work_b1 (t : Nat) (s5 : Int × Int × Mem) : Option ((Int × Int × Mem) ⊕ (Mem)) :=
  if 10000 ≤ s5.2.1 then
    some (.inr s5.2.2)
  else
    if (s5.2.2 t 0) ≤ s5.1 then
      some (.inr s5.2.2)
    else
      if (s5.2.2 22 9) = 0 then
        (fX10_countLine t s5.1 s5.2.2).bind fun q6 =>
        ((if (q6 22 9) = 0 then
            (fX10_workLine t s5.1 q6).bind fun q7 =>
            some (q7.1, q7.2)
          else
            some (s5.1, q6) : Option (Int × Mem))).bind fun q8 =>
        some (.inl (q8.1, w32 (s5.2.1 + 1), q8.2))
      else
        some (.inr s5.2.2)

noncomputable def fX10_work (t : Nat) (M : Mem) : Option (Int × Mem) :=
  (fX9_start t M).bind fun q1 =>
  (pI q1 22 7 0).bind fun M2 =>
  (pI M2 22 8 0).bind fun M3 =>
  (pI M3 22 9 0).bind fun M4 =>
  (lp (fX10_work_b1 t) (0, 0, M4)).bind fun q9 =>
  some (q9 22 9, q9)

noncomputable def fX9_copyFrom_b1  (s6 : Int × Mem) : Option ((Int × Mem) ⊕ (Mem)) :=
  if 64 ≤ s6.1 then
    some (.inr s6.2)
  else
    (ldZ s6.2 26 s6.1).bind fun v7 =>
    (stZ s6.2 47 s6.1 v7).bind fun M8 =>
    (ldZ M8 27 s6.1).bind fun v9 =>
    (stZ M8 48 s6.1 v9).bind fun M10 =>
    some (.inl (w32 (s6.1 + 1), M10))

noncomputable def fX9_copyFrom_b2  (s12 : Int × Mem) : Option ((Int × Mem) ⊕ (Mem)) :=
  if 200 ≤ s12.1 then
    some (.inr s12.2)
  else
    (ldZ s12.2 29 s12.1).bind fun v13 =>
    (stZ s12.2 50 s12.1 v13).bind fun M14 =>
    some (.inl (w32 (s12.1 + 1), M14))

noncomputable def fX9_copyFrom  (M : Mem) : Option (Mem) :=
  (pI M 44 0 (M 23 0)).bind fun M1 =>
  (pI M1 44 5 (M1 23 5)).bind fun M2 =>
  (cpy M2 24 0 45 0 64).bind fun M3 =>
  (cpy M3 25 0 46 0 192).bind fun M4 =>
  (cpy M4 28 0 49 0 8).bind fun M5 =>
  (lp (fX9_copyFrom_b1) (0, M5)).bind fun q11 =>
  (lp (fX9_copyFrom_b2) (0, q11)).bind fun q15 =>
  some q15

noncomputable def fX0_start_b2 (s1_1 : Int) (t : Nat) (s6 : Int × Mem) : Option ((Int × Mem) ⊕ (Mem)) :=
  if 4 ≤ s6.1 then
    some (.inr s6.2)
  else
    (ldI s6.2 (t + 11) s1_1).bind fun v7 =>
    (stI s6.2 54 (w32 ((w32 (4 * s1_1)) + s6.1)) v7).bind fun M8 =>
    some (.inl (w32 (s6.1 + 1), M8))

noncomputable def fX0_start_b1 (t : Nat) (s1 : Int × Mem) : Option ((Int × Mem) ⊕ (Mem)) :=
  if (s1.2 t 10) ≤ s1.1 then
    some (.inr s1.2)
  else
    (ldI s1.2 (t + 11) s1.1).bind fun v2 =>
    (stI s1.2 52 s1.1 v2).bind fun M3 =>
    (ldI M3 (t + 12) s1.1).bind fun v4 =>
    (stI M3 53 s1.1 v4).bind fun M5 =>
    (lp (fX0_start_b2 s1.1 t) (0, M5)).bind fun q9 =>
    some (.inl (w32 (s1.1 + 1), q9))

noncomputable def fX0_start (t : Nat) (M : Mem) : Option (Mem) :=
  (lp (fX0_start_b1 t) (0, M)).bind fun q10 =>
  some q10

noncomputable def fX2_put (g : Nat) (p1 : Int) (p2 : Int) (p3 : Int) (M : Mem) : Option (Mem) :=
  (stI M (g + 1) p1 p2).bind fun M1 =>
  (stI M1 (g + 2) p1 p3).bind fun M2 =>
  some M2

noncomputable def fX2_isKnown (g : Nat) (p1 : Int) (M : Mem) : Option (Int × Mem) :=
  (ldI M (g + 1) p1).bind fun v1 =>
  (ldI M (g + 2) p1).bind fun v2 =>
  ((if v1 = v2 then
      some 1
    else
      some 0 : Option (Int))).bind fun q3 =>
  rz q3 M

noncomputable def fX2_putPick (g : Nat) (p1 : Int) (p2 : Int) (p3 : Int) (p4 : Int) (M : Mem) : Option (Mem) :=
  (fX2_isKnown g p2 M).bind fun q1 =>
  ((if q1.1 = 0 then
      (ldI q1.2 (g + 1) p3).bind fun v2 =>
      (ldI q1.2 (g + 1) p4).bind fun v3 =>
      (ldI q1.2 (g + 2) p3).bind fun v4 =>
      (ldI q1.2 (g + 2) p4).bind fun v5 =>
      (fX2_put g p1 (imin v2 v3) (imax v4 v5) q1.2).bind fun q6 =>
      some q6
    else
      (ldI q1.2 (g + 1) p2).bind fun v7 =>
      ((if v7 = 1 then
          some p3
        else
          some p4 : Option (Int))).bind fun q8 =>
      (ldI q1.2 (g + 1) q8).bind fun v9 =>
      (ldI q1.2 (g + 2) q8).bind fun v10 =>
      (fX2_put g p1 v9 v10 q1.2).bind fun q11 =>
      some q11 : Option (Mem))).bind fun q12 =>
  some q12

noncomputable def fX11_held (p1 : Int) (M : Mem) : Option (Int × Mem) :=
  some (w32 (imax (-99999) (imin 99999 p1)), M)

noncomputable def fX2_putProduct (g : Nat) (p1 : Int) (p2 : Int) (p3 : Int) (M : Mem) : Option (Mem) :=
  (ldI M (g + 1) p2).bind fun v1 =>
  (ldI M (g + 1) p3).bind fun v2 =>
  (fX11_held (w64 (v1 * v2)) M).bind fun q3 =>
  (ldI q3.2 (g + 1) p2).bind fun v4 =>
  (ldI q3.2 (g + 2) p3).bind fun v5 =>
  (fX11_held (w64 (v4 * v5)) q3.2).bind fun q6 =>
  (ldI q6.2 (g + 2) p2).bind fun v7 =>
  (ldI q6.2 (g + 1) p3).bind fun v8 =>
  (fX11_held (w64 (v7 * v8)) q6.2).bind fun q9 =>
  (ldI q9.2 (g + 2) p2).bind fun v10 =>
  (ldI q9.2 (g + 2) p3).bind fun v11 =>
  (fX11_held (w64 (v10 * v11)) q9.2).bind fun q12 =>
  (some (imin (imin q3.1 q6.1) (imin q9.1 q12.1))).bind fun v13 =>
  (fX2_put g p1 v13 (imax (imax q3.1 q6.1) (imax q9.1 q12.1)) q12.2).bind fun q14 =>
  some q14

noncomputable def fX2_putFlag (g : Nat) (p1 : Int) (p2 : Int) (p3 : Int) (M : Mem) : Option (Mem) :=
  ((if p2 = 0 then
      some 0
    else
      some 1 : Option (Int))).bind fun q1 =>
  ((if p3 = 0 then
      some 1
    else
      some 0 : Option (Int))).bind fun q2 =>
  (fX2_put g p1 q1 q2 M).bind fun q3 =>
  some q3

noncomputable def fX2_putPair (g : Nat) (p1 : Int) (p2 : Int) (p3 : Int) (M : Mem) : Option (Mem) :=
  (ldI M (g + 1) p2).bind fun v1 =>
  (ldI M (g + 2) p2).bind fun v2 =>
  (ldI M (g + 1) p3).bind fun v3 =>
  (ldI M (g + 2) p3).bind fun v4 =>
  (ldI M 45 p1).bind fun v5 =>
  ((if v5 = 2 then
      (fX11_held (w64 (v1 + v3)) M).bind fun q6 =>
      (fX11_held (w64 (v2 + v4)) q6.2).bind fun q7 =>
      (fX2_put g p1 q6.1 q7.1 q7.2).bind fun q8 =>
      some q8
    else if v5 = 3 then
      (fX11_held (w64 (v1 - v4)) M).bind fun q9 =>
      (fX11_held (w64 (v2 - v3)) q9.2).bind fun q10 =>
      (fX2_put g p1 q9.1 q10.1 q10.2).bind fun q11 =>
      some q11
    else if v5 = 4 then
      (fX2_putProduct g p1 p2 p3 M).bind fun q12 =>
      some q12
    else if v5 = 5 ∨ v5 = 10 then
      (fX2_put g p1 (imin v1 v3) (imin v2 v4) M).bind fun q13 =>
      some q13
    else if v5 = 6 ∨ v5 = 11 then
      (fX2_put g p1 (imax v1 v3) (imax v2 v4) M).bind fun q14 =>
      some q14
    else if v5 = 8 then
      ((if v3 ≤ v2 then
          some 0
        else
          some 1 : Option (Int))).bind fun q15 =>
      ((if v1 < v4 then
          some 0
        else
          some 1 : Option (Int))).bind fun q16 =>
      (fX2_putFlag g p1 q15 q16 M).bind fun q17 =>
      some q17
    else if v5 = 9 then
      ((if v1 = v2 then
          if v3 = v4 then
            if v1 = v3 then
              some 1
            else
              some 0
          else
            some 0
        else
          some 0 : Option (Int))).bind fun q18 =>
      ((if v2 < v3 then
          some 1
        else
          if v1 ≤ v4 then
            some 0
          else
            some 1 : Option (Int))).bind fun q19 =>
      (fX2_putFlag g p1 q18 q19 M).bind fun q20 =>
      some q20
    else 
      some M : Option (Mem))).bind fun q21 =>
  some q21

noncomputable def fX2_isLow (g : Nat) (p1 : Int) (M : Mem) : Option (Int × Mem) :=
  (ldZ M 47 p1).bind fun v1 =>
  ((if v1 = 0 then
      (ldI M (g + 1) p1).bind fun v2 =>
      if v2 < (-512) then
        some 0
      else
        (ldI M (g + 2) p1).bind fun v3 =>
        if 511 < v3 then
          some 0
        else
          some 1
    else
      some 0 : Option (Int))).bind fun q4 =>
  rz q4 M

noncomputable def fX2_reckon_b1 (g : Nat) (s1 : Int × Mem) : Option ((Int × Mem) ⊕ (Mem)) :=
  if (s1.2 44 0) ≤ s1.1 then
    some (.inr s1.2)
  else
    (ldI s1.2 46 (w32 (3 * s1.1))).bind fun v2 =>
    (ldI s1.2 46 (w32 ((w32 (3 * s1.1)) + 1))).bind fun v3 =>
    (ldI s1.2 45 s1.1).bind fun v4 =>
    ((if v4 = 0 then
        (ldI s1.2 52 v2).bind fun v5 =>
        (ldI s1.2 53 v2).bind fun v6 =>
        (fX2_put g s1.1 v5 v6 s1.2).bind fun q7 =>
        some q7
      else if v4 = 1 then
        (fX2_put g s1.1 v2 v2 s1.2).bind fun q8 =>
        some q8
      else if v4 = 7 then
        (fX2_put g s1.1 0 999 s1.2).bind fun q9 =>
        some q9
      else if v4 = 12 then
        (ldI s1.2 (g + 2) v2).bind fun v10 =>
        (ldI s1.2 (g + 1) v2).bind fun v11 =>
        (fX2_put g s1.1 (w32 (1 - v10)) (w32 (1 - v11)) s1.2).bind fun q12 =>
        some q12
      else if v4 = 13 then
        (ldI s1.2 46 (w32 ((w32 (3 * s1.1)) + 2))).bind fun v13 =>
        (fX2_putPick g s1.1 v2 v3 v13 s1.2).bind fun q14 =>
        some q14
      else 
        (fX2_putPair g s1.1 v2 v3 s1.2).bind fun q15 =>
        some q15 : Option (Mem))).bind fun q16 =>
    (ldZ q16 47 s1.1).bind fun v17 =>
    ((if v17 = 0 then
        (fX2_isLow g s1.1 q16).bind fun q18 =>
        if q18.1 = 0 then
          some (2, q18.2)
        else
          some (1, q18.2)
      else
        some (1, q16) : Option (Int × Mem))).bind fun q19 =>
    (stI q19.2 (g + 3) s1.1 q19.1).bind fun M20 =>
    some (.inl (w32 (s1.1 + 1), M20))

noncomputable def fX2_reckon (g : Nat) (M : Mem) : Option (Mem) :=
  (lp (fX2_reckon_b1 g) (0, M)).bind fun q21 =>
  some q21

noncomputable def fX5_findStandsFor (g : Nat) (p1 : Int) (M : Mem) : Option (Mem) :=
  (ldI M 46 (w32 (3 * p1))).bind fun v1 =>
  (stI M (g + 5) p1 p1).bind fun M2 =>
  (ldI M2 45 p1).bind fun v3 =>
  ((if v3 = 13 then
      (fX2_isKnown g p1 M2).bind fun q4 =>
      if q4.1 = 0 then
        (fX2_isKnown g v1 q4.2).bind fun q5 =>
        if q5.1 = 0 then
          some q5.2
        else
          (ldI q5.2 (g + 1) v1).bind fun v6 =>
          ((if v6 = 1 then
              some 1
            else
              some 2 : Option (Int))).bind fun q7 =>
          (ldI q5.2 46 (w32 ((w32 (3 * p1)) + q7))).bind fun v8 =>
          (ldI q5.2 (g + 5) v8).bind fun v9 =>
          (stI q5.2 (g + 5) p1 v9).bind fun M10 =>
          some M10
      else
        some q4.2
    else
      some M2 : Option (Mem))).bind fun q11 =>
  some q11

noncomputable def fX5_findSources_b1 (g : Nat) (p1 : Int) (s4 : Int × Mem) : Option ((Int × Mem) ⊕ (Mem)) :=
  (ldI s4.2 45 p1).bind fun v5 =>
  (fX11_argsOf v5 s4.2).bind fun q6 =>
  if q6.1 ≤ s4.1 then
    some (.inr q6.2)
  else
    (ldI q6.2 46 (w32 ((w32 (3 * p1)) + s4.1))).bind fun v7 =>
    (ldI q6.2 (g + 5) v7).bind fun v8 =>
    (ldJ q6.2 (g + 8) p1).bind fun v9 =>
    ((if (lc (land (lushr v9 v8) 1) 0) = 0 then
        some 0
      else
        some 1 : Option (Int))).bind fun q10 =>
    ((if q10 = 0 then
        (fX2_isKnown g v8 q6.2).bind fun q11 =>
        if q11.1 = 0 then
          (ldI q11.2 (g + 7) p1).bind fun v12 =>
          (stI q11.2 (g + 6) (w32 ((w32 (3 * p1)) + v12)) v8).bind fun M13 =>
          (ldI M13 (g + 7) p1).bind fun v14 =>
          (stI M13 (g + 7) p1 (w32 (v14 + 1))).bind fun M15 =>
          (ldJ M15 (g + 8) p1).bind fun v16 =>
          (stJ M15 (g + 8) p1 (lor v16 (lshl 1 v8))).bind fun M17 =>
          (ldJ M17 (g + 10) p1).bind fun v18 =>
          (ldJ M17 (g + 10) v8).bind fun v19 =>
          (stJ M17 (g + 10) p1 (lor v18 (lor (lshl 1 v8) v19))).bind fun M20 =>
          some M20
        else
          some q11.2
      else
        some q6.2 : Option (Mem))).bind fun q21 =>
    some (.inl (w32 (s4.1 + 1), q21))

noncomputable def fX5_findSources (g : Nat) (p1 : Int) (M : Mem) : Option (Mem) :=
  (stI M (g + 7) p1 0).bind fun M1 =>
  (stJ M1 (g + 8) p1 0).bind fun M2 =>
  (stJ M2 (g + 10) p1 0).bind fun M3 =>
  (lp (fX5_findSources_b1 g p1) (0, M3)).bind fun q22 =>
  some q22

noncomputable def fX5_keepShown_b1 (g : Nat) (p1 : Int) (s2 : Int × Mem) : Option ((Int × Mem) ⊕ (Mem)) :=
  if (s2.2 44 5) ≤ s2.1 then
    some (.inr s2.2)
  else
    (ldI s2.2 49 s2.1).bind fun v3 =>
    (ldI s2.2 (g + 5) v3).bind fun v4 =>
    ((if p1 = (-1) then
        some true
      else
        if p1 = s2.1 then
          some true
        else
          some false : Option (Bool))).bind fun q5 =>
    ((if q5 = true then
        (fX2_isKnown g v4 s2.2).bind fun q6 =>
        if q6.1 = 0 then
          (pI q6.2 (g + 4) 4 (lor (q6.2 (g + 4) 4) (lshl 1 v4))).bind fun M7 =>
          some M7
        else
          some q6.2
      else
        some s2.2 : Option (Mem))).bind fun q8 =>
    some (.inl (w32 (s2.1 + 1), q8))

noncomputable def fX5_keepShown (g : Nat) (p1 : Int) (M : Mem) : Option (Mem) :=
  (pI M (g + 4) 4 0).bind fun M1 =>
  (lp (fX5_keepShown_b1 g p1) (0, M1)).bind fun q9 =>
  (pI q9 (g + 4) 3 (q9 (g + 4) 4)).bind fun M10 =>
  some M10

noncomputable def fX5_isNeeded (g : Nat) (p1 : Int) (M : Mem) : Option (Int × Mem) :=
  ((if (lc (land (lushr (M (g + 4) 3) p1) 1) 0) = 0 then
      some 0
    else
      some 1 : Option (Int))).bind fun q1 =>
  rz q1 M

noncomputable def fX5_findUsers_b2 (g : Nat) (s2_1 : Int) (s8 : Int × Mem) : Option ((Int × Mem) ⊕ (Mem)) :=
  (ldI s8.2 (g + 7) s2_1).bind fun v9 =>
  if v9 ≤ s8.1 then
    some (.inr s8.2)
  else
    (ldI s8.2 (g + 6) (w32 ((w32 (3 * s2_1)) + s8.1))).bind fun v10 =>
    (ldJ s8.2 (g + 9) v10).bind fun v11 =>
    (stJ s8.2 (g + 9) v10 (lor v11 (lshl 1 s2_1))).bind fun M12 =>
    (ldJ M12 (g + 11) v10).bind fun v13 =>
    (ldJ M12 (g + 11) s2_1).bind fun v14 =>
    (stJ M12 (g + 11) v10 (lor v13 (lor (lshl 1 s2_1) v14))).bind fun M15 =>
    (ldI M15 (g + 12) v10).bind fun v16 =>
    (ldI M15 (g + 12) s2_1).bind fun v17 =>
    (stI M15 (g + 12) v10 (imax v16 v17)).bind fun M18 =>
    some (.inl (w32 (s8.1 + 1), M18))

noncomputable def fX5_findUsers_b1 (g : Nat) (s2 : Int × Mem) : Option ((Int × Mem) ⊕ (Mem)) :=
  if s2.1 < 0 then
    some (.inr s2.2)
  else
    (fX5_isNeeded g s2.1 s2.2).bind fun q3 =>
    if q3.1 = 0 then
      some (.inl (w32 (s2.1 + (-1)), q3.2))
    else
      (ldJ q3.2 (g + 8) s2.1).bind fun v4 =>
      (pI q3.2 (g + 4) 3 (lor (q3.2 (g + 4) 3) v4)).bind fun M5 =>
      (ldI M5 (g + 12) s2.1).bind fun v6 =>
      (stI M5 (g + 12) s2.1 (w32 (v6 + 1))).bind fun M7 =>
      (lp (fX5_findUsers_b2 g s2.1) (0, M7)).bind fun q19 =>
      some (.inl (w32 (s2.1 + (-1)), q19))

noncomputable def fX5_findUsers (g : Nat) (M : Mem) : Option (Mem) :=
  (some (w32 ((M 44 0) - 1))).bind fun v1 =>
  (lp (fX5_findUsers_b1 g) (v1, M)).bind fun q20 =>
  some q20

noncomputable def fX5_reckon_b1 (g : Nat) (s1 : Int × Mem) : Option ((Int × Mem) ⊕ (Mem)) :=
  if (s1.2 44 0) ≤ s1.1 then
    some (.inr s1.2)
  else
    (fX5_findStandsFor g s1.1 s1.2).bind fun q2 =>
    (fX5_findSources g s1.1 q2).bind fun q3 =>
    (stJ q3 (g + 9) s1.1 0).bind fun M4 =>
    (stJ M4 (g + 11) s1.1 0).bind fun M5 =>
    (stI M5 (g + 12) s1.1 0).bind fun M6 =>
    some (.inl (w32 (s1.1 + 1), M6))

noncomputable def fX5_reckon (g : Nat) (p1 : Int) (M : Mem) : Option (Mem) :=
  (lp (fX5_reckon_b1 g) (0, M)).bind fun q7 =>
  (fX5_keepShown g p1 q7).bind fun q8 =>
  (fX5_findUsers g q8).bind fun q9 =>
  some q9

noncomputable def fX5_isKept (g : Nat) (p1 : Int) (M : Mem) : Option (Int × Mem) :=
  ((if (lc (land (lushr (M (g + 4) 4) p1) 1) 0) = 0 then
      some 0
    else
      some 1 : Option (Int))).bind fun q1 =>
  rz q1 M

noncomputable def fX7_growth_b1 (g : Nat) (p1 : Int) (v1 : Int) (s3 : Int × Int × Mem) : Option ((Int × Int × Mem) ⊕ (Int × Mem)) :=
  (ldI s3.2.2 (g + 7) p1).bind fun v4 =>
  if v4 ≤ s3.2.1 then
    some (.inr (s3.1, s3.2.2))
  else
    (ldI s3.2.2 (g + 6) (w32 ((w32 (3 * p1)) + s3.2.1))).bind fun v5 =>
    (ldJ s3.2.2 (g + 9) v5).bind fun v6 =>
    ((if (lc (land v6 (lxor v1 (-1))) 0) = 0 then
        (fX5_isKept g v5 s3.2.2).bind fun q7 =>
        if q7.1 = 0 then
          (ldI q7.2 (g + 3) v5).bind fun v8 =>
          (some (w32 (s3.1 - v8))).bind fun v9 =>
          some (v9, q7.2)
        else
          some (s3.1, q7.2)
      else
        some (s3.1, s3.2.2) : Option (Int × Mem))).bind fun q10 =>
    some (.inl (q10.1, w32 (s3.2.1 + 1), q10.2))

noncomputable def fX7_growth (g : Nat) (p1 : Int) (p2 : Int) (M : Mem) : Option (Int × Mem) :=
  (some (lor p2 (lshl 1 p1))).bind fun v1 =>
  (ldI M (g + 3) p1).bind fun v2 =>
  (lp (fX7_growth_b1 g p1 v1) (v2, 0, M)).bind fun q11 =>
  some (q11.1, q11.2)

noncomputable def fX7_goesAhead (g : Nat) (p1 : Int) (p2 : Int) (p3 : Int) (p4 : Int) (M : Mem) : Option (Int × Mem) :=
  if p3 = 0 then
    (fX7_growth g p1 p4 M).bind fun q1 =>
    (fX7_growth g p2 p4 q1.2).bind fun q2 =>
    (some (w32 (q1.1 - q2.1))).bind fun v3 =>
    ((if v3 < 0 then
        some 1
      else
        if v3 = 0 then
          (ldI q2.2 (g + 12) p1).bind fun v4 =>
          (ldI q2.2 (g + 12) p2).bind fun v5 =>
          if v4 ≤ v5 then
            some 0
          else
            some 1
        else
          some 0 : Option (Int))).bind fun q6 =>
    rz q6 q2.2
  else if p3 = 2 then
    (ldI M (g + 12) p1).bind fun v7 =>
    (ldI M (g + 12) p2).bind fun v8 =>
    ((if v7 ≤ v8 then
        some 0
      else
        some 1 : Option (Int))).bind fun q9 =>
    rz q9 M
  else if p3 = 3 then
    (ldI M 45 p1).bind fun v10 =>
    ((if v10 = 7 then
        (ldI M 45 p2).bind fun v11 =>
        if v11 = 7 then
          some 0
        else
          some 1
      else
        some 0 : Option (Int))).bind fun q12 =>
    rz q12 M
  else 
    rz 0 M

noncomputable def fX7_putAt (g : Nat) (p1 : Int) (p2 : Int) (M : Mem) : Option (Mem) :=
  (stI M (g + 14) p1 p2).bind fun M1 =>
  (stI M1 (g + 15) p2 p1).bind fun M2 =>
  some M2

noncomputable def fX7_arrange_b2 (g : Nat) (p1 : Int) (s2_1 : Int) (s3 : Int × Int × Mem) : Option ((Int × Int × Mem) ⊕ (Int × Mem)) :=
  if (s3.2.2 44 0) ≤ s3.2.1 then
    some (.inr (s3.1, s3.2.2))
  else
    (fX5_isNeeded g s3.2.1 s3.2.2).bind fun q4 =>
    ((if q4.1 = 0 then
        some 0
      else
        if (lc (land (lushr s2_1 s3.2.1) 1) 0) = 0 then
          (ldJ q4.2 (g + 8) s3.2.1).bind fun v5 =>
          if (lc (land v5 (lxor s2_1 (-1))) 0) = 0 then
            some 1
          else
            some 0
        else
          some 0 : Option (Int))).bind fun q6 =>
    ((if q6 = 0 then
        some (s3.1, q4.2)
      else
        if s3.1 = (-1) then
          (some (s3.2.1)).bind fun v7 =>
          some (v7, q4.2)
        else
          (fX7_goesAhead g s3.2.1 s3.1 p1 s2_1 q4.2).bind fun q8 =>
          if q8.1 = 0 then
            some (s3.1, q8.2)
          else
            (some (s3.2.1)).bind fun v9 =>
            some (v9, q8.2) : Option (Int × Mem))).bind fun q10 =>
    some (.inl (q10.1, w32 (s3.2.1 + 1), q10.2))

noncomputable def fX7_arrange_b1 (g : Nat) (p1 : Int) (s2 : Int × Int × Mem) : Option ((Int × Int × Mem) ⊕ (Mem)) :=
  if (s2.2.2 44 0) ≤ s2.2.1 then
    some (.inr s2.2.2)
  else
    (lp (fX7_arrange_b2 g p1 s2.1) ((-1), 0, s2.2.2)).bind fun q11 =>
    ((if q11.1 = (-1) then
        some (s2.1, q11.2)
      else
        (fX7_putAt g (q11.2 (g + 13) 4) q11.1 q11.2).bind fun q12 =>
        (pI q12 (g + 13) 4 (w32 ((q12 (g + 13) 4) + 1))).bind fun M13 =>
        (some (lor s2.1 (lshl 1 q11.1))).bind fun v14 =>
        some (v14, M13) : Option (Int × Mem))).bind fun q15 =>
    some (.inl (q15.1, w32 (s2.2.1 + 1), q15.2))

noncomputable def fX7_arrange (g : Nat) (p1 : Int) (M : Mem) : Option (Mem) :=
  (pI M (g + 13) 4 0).bind fun M1 =>
  (lp (fX7_arrange_b1 g p1) (0, 0, M1)).bind fun q16 =>
  some q16

noncomputable def fX7_findEnds_b2 (g : Nat) (s1_1 : Int) (v2 : Int) (s6 : Int × Mem) : Option ((Int × Mem) ⊕ (Mem)) :=
  (ldI s6.2 (g + 7) v2).bind fun v7 =>
  if v7 ≤ s6.1 then
    some (.inr s6.2)
  else
    (ldI s6.2 (g + 6) (w32 ((w32 (3 * v2)) + s6.1))).bind fun v8 =>
    (ldI s6.2 (g + 16) v8).bind fun v9 =>
    (stI s6.2 (g + 16) v8 (imax v9 s1_1)).bind fun M10 =>
    some (.inl (w32 (s6.1 + 1), M10))

noncomputable def fX7_findEnds_b1 (g : Nat) (s1 : Int × Mem) : Option ((Int × Mem) ⊕ (Mem)) :=
  if (s1.2 (g + 13) 4) ≤ s1.1 then
    some (.inr s1.2)
  else
    (ldI s1.2 (g + 14) s1.1).bind fun v2 =>
    (fX5_isKept g v2 s1.2).bind fun q3 =>
    ((if q3.1 = 0 then
        some s1.1
      else
        some (q3.2 (g + 13) 4) : Option (Int))).bind fun q4 =>
    (stI q3.2 (g + 16) v2 q4).bind fun M5 =>
    (lp (fX7_findEnds_b2 g s1.1 v2) (0, M5)).bind fun q11 =>
    some (.inl (w32 (s1.1 + 1), q11))

noncomputable def fX7_findEnds (g : Nat) (M : Mem) : Option (Mem) :=
  (lp (fX7_findEnds_b1 g) (0, M)).bind fun q12 =>
  some q12

noncomputable def fX7_fileOf (g : Nat) (p1 : Int) (M : Mem) : Option (Int × Mem) :=
  (ldZ M 48 p1).bind fun v1 =>
  ((if v1 = 0 then
      some 1
    else
      some 0 : Option (Int))).bind fun q2 =>
  some (q2, M)

noncomputable def fX7_pressureAt_b1 (g : Nat) (p1 : Int) (p2 : Int) (s1 : Int × Int × Mem) : Option ((Int × Int × Mem) ⊕ (Int × Mem)) :=
  if p1 < s1.2.1 then
    some (.inr (s1.1, s1.2.2))
  else
    (ldI s1.2.2 (g + 14) s1.2.1).bind fun v2 =>
    (ldI s1.2.2 (g + 16) v2).bind fun v3 =>
    ((if v3 ≤ p1 then
        some (true, s1.2.2)
      else
        if p2 = 2 then
          some (false, s1.2.2)
        else
          (fX7_fileOf g v2 s1.2.2).bind fun q4 =>
          if p2 = q4.1 then
            some (false, q4.2)
          else
            some (true, q4.2) : Option (Bool × Mem))).bind fun q5 =>
    ((if q5.1 = true then
        some s1.1
      else
        (ldI q5.2 (g + 3) v2).bind fun v6 =>
        (some (w32 (s1.1 + v6))).bind fun v7 =>
        some v7 : Option (Int))).bind fun q8 =>
    some (.inl (q8, w32 (s1.2.1 + 1), q5.2))

noncomputable def fX7_pressureAt (g : Nat) (p1 : Int) (p2 : Int) (M : Mem) : Option (Int × Mem) :=
  (lp (fX7_pressureAt_b1 g p1 p2) (0, 0, M)).bind fun q9 =>
  some (q9.1, q9.2)

noncomputable def fX7_findPressures_b2 (g : Nat) (s1_1 : Int) (s3 : Int × Mem) : Option ((Int × Mem) ⊕ (Mem)) :=
  if (s3.2 (g + 13) 4) ≤ s3.1 then
    some (.inr s3.2)
  else
    (fX7_pressureAt g s3.1 s1_1 s3.2).bind fun q4 =>
    (stI q4.2 (g + 17) (w32 ((w32 (64 * s1_1)) + s3.1)) q4.1).bind fun M5 =>
    (ldI M5 (g + 18) s1_1).bind fun v6 =>
    (ldI M5 (g + 17) (w32 ((w32 (64 * s1_1)) + s3.1))).bind fun v7 =>
    (stI M5 (g + 18) s1_1 (imax v6 v7)).bind fun M8 =>
    some (.inl (w32 (s3.1 + 1), M8))

noncomputable def fX7_findPressures_b1 (g : Nat) (s1 : Int × Mem) : Option ((Int × Mem) ⊕ (Mem)) :=
  if 2 < s1.1 then
    some (.inr s1.2)
  else
    (stI s1.2 (g + 18) s1.1 0).bind fun M2 =>
    (lp (fX7_findPressures_b2 g s1.1) (0, M2)).bind fun q9 =>
    some (.inl (w32 (s1.1 + 1), q9))

noncomputable def fX7_findPressures (g : Nat) (M : Mem) : Option (Mem) :=
  (lp (fX7_findPressures_b1 g) (0, M)).bind fun q10 =>
  some q10

noncomputable def fX7_halfOf (g : Nat) (p1 : Int) (M : Mem) : Option (Int × Mem) :=
  (fX7_fileOf g p1 M).bind fun q1 =>
  (ldI q1.2 (g + 19) p1).bind fun v2 =>
  some (w32 ((w32 (130 * q1.1)) + v2), q1.2)

noncomputable def fX7_mark_b1 (g : Nat) (p1 : Int) (p2 : Int) (s1 : Int × Mem) : Option ((Int × Mem) ⊕ (Mem)) :=
  (ldI s1.2 (g + 3) p1).bind fun v2 =>
  if v2 ≤ s1.1 then
    some (.inr s1.2)
  else
    (fX7_halfOf g p1 s1.2).bind fun q3 =>
    (stZ q3.2 (g + 20) (w32 (q3.1 + s1.1)) p2).bind fun M4 =>
    some (.inl (w32 (s1.1 + 1), M4))

noncomputable def fX7_mark (g : Nat) (p1 : Int) (p2 : Int) (M : Mem) : Option (Mem) :=
  (lp (fX7_mark_b1 g p1 p2) (0, M)).bind fun q5 =>
  some q5

noncomputable def fX7_lowestFree_b1 (M : Mem) (g : Nat) (p1 : Int) (p2 : Int) (s1 : Int) : Option ((Int) ⊕ ((Unit) ⊕ (Int × Mem))) :=
  if 130 < (w32 (s1 + p2)) then
    some (.inr (.inl ()))
  else
    (some (w32 ((w32 (130 * p1)) + s1))).bind fun v2 =>
    (ldZ M (g + 20) v2).bind fun v3 =>
    if v3 = 0 then
      (ldZ M (g + 20) (w32 ((w32 (v2 + p2)) - 1))).bind fun v5 =>
      if v5 = 0 then
        some (.inr (.inr (s1, M)))
      else
        (some (w32 (s1 + p2))).bind fun v6 =>
        some (.inl v6)
    else
      (some (w32 (s1 + p2))).bind fun v4 =>
      some (.inl v4)

noncomputable def fX7_lowestFree (g : Nat) (p1 : Int) (p2 : Int) (M : Mem) : Option (Int × Mem) :=
  (lp (fX7_lowestFree_b1 M g p1 p2) 0).bind (Sum.elim (fun q7 =>
  some (0, M)) (fun r => some r))

noncomputable def fX7_giveRegisters_b1 (g : Nat) (s1 : Int × Mem) : Option ((Int × Mem) ⊕ (Mem)) :=
  if 260 ≤ s1.1 then
    some (.inr s1.2)
  else
    (stZ s1.2 (g + 20) s1.1 0).bind fun M2 =>
    some (.inl (w32 (s1.1 + 1), M2))

noncomputable def fX7_giveRegisters_b3 (g : Nat) (s6_1 : Int) (s7 : Int × Mem) : Option ((Int × Mem) ⊕ (Mem)) :=
  if s6_1 ≤ s7.1 then
    some (.inr s7.2)
  else
    (ldI s7.2 (g + 14) s7.1).bind fun v8 =>
    (ldI s7.2 (g + 16) v8).bind fun v9 =>
    ((if v9 = s6_1 then
        (ldI s7.2 (g + 14) s7.1).bind fun v10 =>
        (fX7_mark g v10 0 s7.2).bind fun q11 =>
        some q11
      else
        some s7.2 : Option (Mem))).bind fun q12 =>
    some (.inl (w32 (s7.1 + 1), q12))

noncomputable def fX7_giveRegisters_b2 (g : Nat) (s6 : Int × Mem) : Option ((Int × Mem) ⊕ (Mem)) :=
  if (s6.2 (g + 13) 4) ≤ s6.1 then
    some (.inr s6.2)
  else
    (lp (fX7_giveRegisters_b3 g s6.1) (0, s6.2)).bind fun q13 =>
    (ldI q13 (g + 14) s6.1).bind fun v14 =>
    (fX7_fileOf g v14 q13).bind fun q15 =>
    (ldI q15.2 (g + 3) v14).bind fun v16 =>
    (fX7_lowestFree g q15.1 v16 q15.2).bind fun q17 =>
    (stI q17.2 (g + 19) v14 q17.1).bind fun M18 =>
    (fX7_mark g v14 1 M18).bind fun q19 =>
    (ldI q19 (g + 21) q15.1).bind fun v20 =>
    (ldI q19 (g + 19) v14).bind fun v21 =>
    (ldI q19 (g + 3) v14).bind fun v22 =>
    (stI q19 (g + 21) q15.1 (imax v20 (w32 (v21 + v22)))).bind fun M23 =>
    some (.inl (w32 (s6.1 + 1), M23))

noncomputable def fX7_giveRegisters (g : Nat) (M : Mem) : Option (Mem) :=
  (lp (fX7_giveRegisters_b1 g) (0, M)).bind fun q3 =>
  (stI q3 (g + 21) 0 0).bind fun M4 =>
  (stI M4 (g + 21) 1 0).bind fun M5 =>
  (lp (fX7_giveRegisters_b2 g) (0, M5)).bind fun q24 =>
  some q24

noncomputable def fX7_joins_b1 (M : Mem) (g : Nat) (p1 : Int) (p2 : Int) (v1 : Int) (s7 : Int) : Option ((Int) ⊕ ((Unit) ⊕ (Int × Mem))) :=
  (ldI M (g + 7) p1).bind fun v8 =>
  if v8 ≤ s7 then
    some (.inr (.inl ()))
  else
    if p2 = 0 then
      some (.inr (.inl ()))
    else
      (ldI M (g + 6) (w32 ((w32 (3 * p1)) + s7))).bind fun v9 =>
      (ldI M (g + 22) v9).bind fun v10 =>
      if v10 = v1 then
        (rz 0 M).bind fun r => some (.inr (.inr r))
      else
        some (.inl (w32 (s7 + 1)))

noncomputable def fX7_joins (g : Nat) (p1 : Int) (p2 : Int) (p3 : Int) (M : Mem) : Option (Int × Mem) :=
  if (M (g + 13) 16) = 0 then
    rz 0 M
  else
    (some (w32 ((M (g + 13) 16) - 1))).bind fun v1 =>
    (ldI M (g + 23) v1).bind fun v2 =>
    (ldI M (g + 14) v2).bind fun v3 =>
    (ldI M 45 v3).bind fun v4 =>
    ((if v4 = 7 then
        some 1
      else
        some 0 : Option (Int))).bind fun q5 =>
    if q5 = p2 then
      (ldI M (g + 24) v1).bind fun v6 =>
      if v6 < p3 then
        (lp (fX7_joins_b1 M g p1 p2 v1) 0).bind (Sum.elim (fun q11 =>
        rz 1 M) (fun r => some r))
      else
        rz 0 M
    else
      rz 0 M

noncomputable def fX7_cyclesOf (g : Nat) (p1 : Int) (M : Mem) : Option (Int × Mem) :=
  (ldI M 45 p1).bind fun v1 =>
  if v1 = 7 then
    some (2, M)
  else
    (ldZ M 48 p1).bind fun v2 =>
    if v2 = 0 then
      if v1 = 0 then
        some (1, M)
      else
        ((if v1 = 4 then
            (ldI M (g + 3) p1).bind fun v4 =>
            some (w32 (2 * v4))
          else
            (ldI M (g + 3) p1).bind fun v3 =>
            some v3 : Option (Int))).bind fun q5 =>
        some (q5, M)
    else
      some (1, M)

noncomputable def fX7_cutClauses_b1 (g : Nat) (p1 : Int) (p2 : Int) (s3 : Int × Mem) : Option ((Int × Mem) ⊕ (Mem)) :=
  if (s3.2 (g + 13) 4) ≤ s3.1 then
    some (.inr s3.2)
  else
    (ldI s3.2 (g + 14) s3.1).bind fun v4 =>
    (ldI s3.2 45 v4).bind fun v5 =>
    ((if v5 = 7 then
        some 1
      else
        some 0 : Option (Int))).bind fun q6 =>
    ((if q6 = 0 then
        some p2
      else
        some p1 : Option (Int))).bind fun q7 =>
    (fX7_joins g v4 q6 q7 s3.2).bind fun q8 =>
    ((if q8.1 = 0 then
        (stI q8.2 (g + 23) (q8.2 (g + 13) 16) s3.1).bind fun M9 =>
        (stI M9 (g + 24) (M9 (g + 13) 16) 0).bind fun M10 =>
        ((if q6 = 0 then
            some 2
          else
            some 12 : Option (Int))).bind fun q11 =>
        (stI M10 (g + 25) (M10 (g + 13) 16) q11).bind fun M12 =>
        (ldI M12 (g + 25) (M12 (g + 13) 16)).bind fun v13 =>
        (pI M12 (g + 13) 17 (w32 ((M12 (g + 13) 17) + v13))).bind fun M14 =>
        (pI M14 (g + 13) 16 (w32 ((M14 (g + 13) 16) + 1))).bind fun M15 =>
        some M15
      else
        some q8.2 : Option (Mem))).bind fun q16 =>
    (stI q16 (g + 22) v4 (w32 ((q16 (g + 13) 16) - 1))).bind fun M17 =>
    (ldI M17 (g + 24) (w32 ((M17 (g + 13) 16) - 1))).bind fun v18 =>
    (stI M17 (g + 24) (w32 ((M17 (g + 13) 16) - 1)) (w32 (v18 + 1))).bind fun M19 =>
    (ldI M19 (g + 25) (w32 ((M19 (g + 13) 16) - 1))).bind fun v20 =>
    (fX7_cyclesOf g v4 M19).bind fun q21 =>
    (stI q21.2 (g + 25) (w32 ((M19 (g + 13) 16) - 1)) (w32 (v20 + q21.1))).bind fun M22 =>
    (fX7_cyclesOf g v4 M22).bind fun q23 =>
    (pI q23.2 (g + 13) 17 (w32 ((M22 (g + 13) 17) + q23.1))).bind fun M24 =>
    some (.inl (w32 (s3.1 + 1), M24))

noncomputable def fX7_cutClauses (g : Nat) (p1 : Int) (p2 : Int) (M : Mem) : Option (Mem) :=
  (pI M (g + 13) 16 0).bind fun M1 =>
  (pI M1 (g + 13) 17 0).bind fun M2 =>
  (lp (fX7_cutClauses_b1 g p1 p2) (0, M2)).bind fun q25 =>
  some q25

noncomputable def fX7_settle (g : Nat) (p1 : Int) (p2 : Int) (M : Mem) : Option (Mem) :=
  (fX7_findEnds g M).bind fun q1 =>
  (fX7_findPressures g q1).bind fun q2 =>
  (fX7_giveRegisters g q2).bind fun q3 =>
  (fX7_cutClauses g p1 p2 q3).bind fun q4 =>
  some q4

noncomputable def fX11_refresh  (M : Mem) : Option (Mem) :=
  (fX2_reckon 62 M).bind fun q1 =>
  (fX5_reckon 62 (-1) q1).bind fun q2 =>
  (fX7_arrange 62 (q2 0 14) q2).bind fun q3 =>
  (gm q3 0 13).bind fun t4 =>
  (gm q3 0 13).bind fun t5 =>
  (fX7_settle 62 (q3 t4 14) (q3 t5 15) q3).bind fun q6 =>
  (pI q6 0 15 (-2)).bind fun M7 =>
  some M7

noncomputable def fX11_shader  (M : Mem) : Option (Int × Mem) :=
  (fX6_parse M).bind fun q1 =>
  (fX8_wipe q1.2).bind fun q2 =>
  ((if q1.1 = 0 then
      (gm q2 4 1).bind fun t3 =>
      (fX10_work t3 q2).bind fun q4 =>
      some (q4.1, q4.2)
    else
      some (q1.1, q2) : Option (Int × Mem))).bind fun q5 =>
  ((if q5.1 = 0 then
      (gm q5.2 0 13).bind fun t6 =>
      (gm q5.2 4 1).bind fun t7 =>
      (pI q5.2 0 13 (t7 : Int)).bind fun M8 =>
      (pI M8 4 1 (t6 : Int)).bind fun M9 =>
      (fX9_copyFrom M9).bind fun q10 =>
      (gm q10 0 13).bind fun t11 =>
      (fX0_start t11 q10).bind fun q12 =>
      (fX11_refresh q12).bind fun q13 =>
      some q13
    else
      some q5.2 : Option (Mem))).bind fun q14 =>
  some (q5.1, q14)

noncomputable def fX11_isInput (p1 : Int) (M : Mem) : Option (Int × Mem) :=
  ((if p1 < 0 then
      some 0
    else
      (gm M 0 13).bind fun t1 =>
      if (M t1 10) ≤ p1 then
        some 0
      else
        some 1 : Option (Int))).bind fun q2 =>
  rz q2 M

noncomputable def fX11_isLane (p1 : Int) (M : Mem) : Option (Int × Mem) :=
  ((if p1 < 0 then
      some 0
    else
      if 4 ≤ p1 then
        some 0
      else
        some 1 : Option (Int))).bind fun q1 =>
  rz q1 M

noncomputable def fX11_set_b1 (p1 : Int) (p2 : Int) (p3 : Int) (s6 : Int × Mem) : Option ((Int × Mem) ⊕ (Mem)) :=
  if 4 ≤ s6.1 then
    some (.inr s6.2)
  else
    ((if s6.1 = p2 then
        some true
      else
        (gm s6.2 0 13).bind fun t7 =>
        (ldZ s6.2 (t7 + 10) p1).bind fun v8 =>
        if v8 = 0 then
          some false
        else
          some true : Option (Bool))).bind fun q9 =>
    ((if q9 = true then
        (stI s6.2 54 (w32 ((w32 (4 * p1)) + s6.1)) p3).bind fun M10 =>
        some M10
      else
        some s6.2 : Option (Mem))).bind fun q11 =>
    some (.inl (w32 (s6.1 + 1), q11))

noncomputable def fX11_set (p1 : Int) (p2 : Int) (p3 : Int) (M : Mem) : Option (Int × Mem) :=
  (fX11_isInput p1 M).bind fun q1 =>
  if q1.1 = 0 then
    some ((-1), q1.2)
  else
    (fX11_isLane p2 q1.2).bind fun q2 =>
    if q2.1 = 0 then
      some ((-1), q2.2)
    else
      (ldI q2.2 52 p1).bind fun v3 =>
      if p3 < v3 then
        some ((-1), q2.2)
      else
        (ldI q2.2 53 p1).bind fun v4 =>
        if p3 ≤ v4 then
          (ldI q2.2 54 (w32 ((w32 (4 * p1)) + p2))).bind fun v5 =>
          (lp (fX11_set_b1 p1 p2 p3) (0, q2.2)).bind fun q12 =>
          some (v5, q12)
        else
          some ((-1), q2.2)

noncomputable def fX11_cell (p1 : Int) (p2 : Int) (M : Mem) : Option (Int × Mem) :=
  if p1 < 0 then
    some ((-1), M)
  else
    if 16 ≤ p1 then
      some ((-1), M)
    else
      if p2 < 0 then
        some ((-1), M)
      else
        if p2 ≤ 999 then
          (ldI M 55 p1).bind fun v1 =>
          (stI M 55 p1 p2).bind fun M2 =>
          some (v1, M2)
        else
          some ((-1), M)

noncomputable def fX11_rule (p1 : Int) (M : Mem) : Option (Int × Mem) :=
  if p1 < 0 then
    some ((-1), M)
  else
    if p1 < 4 then
      (some (M 0 14)).bind fun v1 =>
      (pI M 0 14 p1).bind fun M2 =>
      (fX11_refresh M2).bind fun q3 =>
      some (v1, q3)
    else
      some ((-1), M)

noncomputable def fX11_isRange (p1 : Int) (p2 : Int) (M : Mem) : Option (Int × Mem) :=
  ((if p1 < 0 then
      some 0
    else
      if p2 < p1 then
        some 0
      else
        if 999 < p2 then
          some 0
        else
          some 1 : Option (Int))).bind fun q1 =>
  rz q1 M

noncomputable def fX0_liesWithin_b1 (M : Mem) (p1 : Int) (p2 : Int) (p3 : Int) (s1 : Int) : Option ((Int) ⊕ ((Unit) ⊕ (Int × Mem))) :=
  if 4 ≤ s1 then
    some (.inr (.inl ()))
  else
    (ldI M 54 (w32 ((w32 (4 * p1)) + s1))).bind fun v2 =>
    if v2 < p2 then
      (rz 0 M).bind fun r => some (.inr (.inr r))
    else
      if v2 ≤ p3 then
        some (.inl (w32 (s1 + 1)))
      else
        (rz 0 M).bind fun r => some (.inr (.inr r))

noncomputable def fX0_liesWithin (p1 : Int) (p2 : Int) (p3 : Int) (M : Mem) : Option (Int × Mem) :=
  (lp (fX0_liesWithin_b1 M p1 p2 p3) 0).bind (Sum.elim (fun q3 =>
  rz 1 M) (fun r => some r))

noncomputable def fX11_narrow (p1 : Int) (p2 : Int) (p3 : Int) (M : Mem) : Option (Int × Mem) :=
  (fX11_isInput p1 M).bind fun q1 =>
  if q1.1 = 0 then
    rz 0 q1.2
  else
    (fX11_isRange p2 p3 q1.2).bind fun q2 =>
    if q2.1 = 0 then
      rz 0 q2.2
    else
      (fX0_liesWithin p1 p2 p3 q2.2).bind fun q3 =>
      if q3.1 = 0 then
        rz 0 q3.2
      else
        (stI q3.2 52 p1 p2).bind fun M4 =>
        (stI M4 53 p1 p3).bind fun M5 =>
        (fX11_refresh M5).bind fun q6 =>
        rz 1 q6

noncomputable def fX11_input (p1 : Int) (p2 : Int) (M : Mem) : Option (Int × Mem) :=
  (fX11_isInput p1 M).bind fun q1 =>
  if q1.1 = 0 then
    some ((-1), q1.2)
  else
    if p2 = 0 then
      some (p1, q1.2)
    else if p2 = 1 then
      (ldI q1.2 52 p1).bind fun v2 =>
      some (v2, q1.2)
    else if p2 = 2 then
      (ldI q1.2 53 p1).bind fun v3 =>
      some (v3, q1.2)
    else if p2 = 3 then
      (gm q1.2 0 13).bind fun t4 =>
      (ldZ q1.2 (t4 + 10) p1).bind fun v5 =>
      ((if v5 = 0 then
          some 0
        else
          some 1 : Option (Int))).bind fun q6 =>
      some (q6, q1.2)
    else if p2 = 4 ∨ p2 = 5 ∨ p2 = 6 ∨ p2 = 7 then
      (ldI q1.2 54 (w32 ((w32 ((w32 (4 * p1)) + p2)) - 4))).bind fun v7 =>
      some (v7, q1.2)
    else 
      some ((-1), q1.2)

noncomputable def fX11_isValue (p1 : Int) (M : Mem) : Option (Int × Mem) :=
  ((if p1 < 0 then
      some 0
    else
      if (M 44 0) ≤ p1 then
        some 0
      else
        some 1 : Option (Int))).bind fun q1 =>
  rz q1 M

noncomputable def fX11_value (p1 : Int) (p2 : Int) (M : Mem) : Option (Int × Mem) :=
  (fX11_isValue p1 M).bind fun q1 =>
  if q1.1 = 0 then
    some ((-2), q1.2)
  else
    if p2 = 0 then
      (ldI q1.2 45 p1).bind fun v2 =>
      some (v2, q1.2)
    else if p2 = 1 ∨ p2 = 2 ∨ p2 = 3 then
      (ldI q1.2 46 (w32 ((w32 ((w32 (3 * p1)) + p2)) - 1))).bind fun v3 =>
      some (v3, q1.2)
    else if p2 = 4 then
      (ldZ q1.2 47 p1).bind fun v4 =>
      ((if v4 = 0 then
          some 0
        else
          some 1 : Option (Int))).bind fun q5 =>
      some (q5, q1.2)
    else if p2 = 5 then
      (ldZ q1.2 48 p1).bind fun v6 =>
      ((if v6 = 0 then
          some 0
        else
          some 1 : Option (Int))).bind fun q7 =>
      some (q7, q1.2)
    else if p2 = 6 then
      (fX2_isKnown 62 p1 q1.2).bind fun q8 =>
      ((if q8.1 = 0 then
          some 0
        else
          some 1 : Option (Int))).bind fun q9 =>
      some (q9, q8.2)
    else if p2 = 7 then
      (fX5_isNeeded 62 p1 q1.2).bind fun q10 =>
      ((if q10.1 = 0 then
          some 0
        else
          some 1 : Option (Int))).bind fun q11 =>
      some (q11, q10.2)
    else if p2 = 8 then
      (ldI q1.2 67 p1).bind fun v12 =>
      some (v12, q1.2)
    else if p2 = 9 then
      (ldI q1.2 74 p1).bind fun v13 =>
      some (v13, q1.2)
    else if p2 = 10 then
      (ldI q1.2 65 p1).bind fun v14 =>
      some (v14, q1.2)
    else 
      some ((-2), q1.2)

noncomputable def fX11_range (p1 : Int) (p2 : Int) (M : Mem) : Option (Int × Mem) :=
  (fX11_isValue p1 M).bind fun q1 =>
  if q1.1 = 0 then
    some ((-2147483648), q1.2)
  else
    if p2 < 0 then
      some ((-2147483648), q1.2)
    else
      if p2 ≤ 1 then
        ((if p2 = 0 then
            (ldI q1.2 63 p1).bind fun v3 =>
            some v3
          else
            (ldI q1.2 64 p1).bind fun v2 =>
            some v2 : Option (Int))).bind fun q4 =>
        some (q4, q1.2)
      else
        some ((-2147483648), q1.2)

noncomputable def fJ9_floorMod_7cf53 (p1 : Int) (p2 : Int) (M : Mem) : Option (Int × Mem) :=
  (if p2 = 0 then none else some ()).bind fun _ =>
  (some (irm p1 p2)).bind fun v1 =>
  if 0 ≤ (ixor p1 p2) then
    some (v1, M)
  else
    if v1 = 0 then
      some (v1, M)
    else
      some (w32 (v1 + p2), M)

noncomputable def fX11_made (p1 : Int) (p2 : Int) (p3 : Int) (p4 : Int) (M : Mem) : Option (Int × Mem) :=
  if p1 = 2 then
    (fX11_held (w64 (p2 + p3)) M).bind fun q1 =>
    some (q1.1, q1.2)
  else if p1 = 3 then
    (fX11_held (w64 (p2 - p3)) M).bind fun q2 =>
    some (q2.1, q2.2)
  else if p1 = 4 then
    (fX11_held (w64 (p2 * p3)) M).bind fun q3 =>
    some (q3.1, q3.2)
  else if p1 = 5 ∨ p1 = 10 then
    some (imin p2 p3, M)
  else if p1 = 6 ∨ p1 = 11 then
    some (imax p2 p3, M)
  else if p1 = 7 then
    (fJ9_floorMod_7cf53 p2 16 M).bind fun q4 =>
    (ldI q4.2 55 q4.1).bind fun v5 =>
    some (v5, q4.2)
  else if p1 = 8 then
    ((if p3 ≤ p2 then
        some 0
      else
        some 1 : Option (Int))).bind fun q6 =>
    some (q6, M)
  else if p1 = 9 then
    ((if p2 = p3 then
        some 1
      else
        some 0 : Option (Int))).bind fun q7 =>
    some (q7, M)
  else if p1 = 12 then
    some (w32 (1 - p2), M)
  else if p1 = 13 then
    ((if p2 = 1 then
        some p3
      else
        some p4 : Option (Int))).bind fun q8 =>
    some (q8, M)
  else 
    some (p2, M)

noncomputable def fX4_reckonOne (p1 : Int) (p2 : Int) (M : Mem) : Option (Int × Mem) :=
  (ldI M 46 (w32 (3 * p2))).bind fun v1 =>
  (ldI M 45 p2).bind fun v2 =>
  if v2 = 0 then
    (ldI M 54 (w32 ((w32 (4 * v1)) + p1))).bind fun v3 =>
    some (v3, M)
  else if v2 = 1 then
    some (v1, M)
  else 
    (ldI M 45 p2).bind fun v4 =>
    (ldI M 61 0).bind fun v5 =>
    (ldI M 61 1).bind fun v6 =>
    (ldI M 61 2).bind fun v7 =>
    (fX11_made v4 v5 v6 v7 M).bind fun q8 =>
    some (q8.1, q8.2)

noncomputable def fX4_reckonLane_b2 (s1_1 : Int) (v2 : Int) (s3 : Int × Mem) : Option ((Int × Mem) ⊕ (Mem)) :=
  (fX11_argsOf v2 s3.2).bind fun q4 =>
  if q4.1 ≤ s3.1 then
    some (.inr q4.2)
  else
    (ldI q4.2 46 (w32 ((w32 (3 * s1_1)) + s3.1))).bind fun v5 =>
    (ldI q4.2 57 v5).bind fun v6 =>
    (stI q4.2 61 s3.1 v6).bind fun M7 =>
    some (.inl (w32 (s3.1 + 1), M7))

noncomputable def fX4_reckonLane_b1 (p1 : Int) (p2 : Int) (s1 : Int × Mem) : Option ((Int × Mem) ⊕ (Mem)) :=
  if p2 < s1.1 then
    some (.inr s1.2)
  else
    (ldI s1.2 45 s1.1).bind fun v2 =>
    (lp (fX4_reckonLane_b2 s1.1 v2) (0, s1.2)).bind fun q8 =>
    (fX4_reckonOne p1 s1.1 q8).bind fun q9 =>
    (stI q9.2 57 s1.1 q9.1).bind fun M10 =>
    some (.inl (w32 (s1.1 + 1), M10))

noncomputable def fX4_reckonLane (p1 : Int) (p2 : Int) (M : Mem) : Option (Int × Mem) :=
  (lp (fX4_reckonLane_b1 p1 p2) (0, M)).bind fun q11 =>
  (ldI q11 57 p2).bind fun v12 =>
  some (v12, q11)

noncomputable def fX11_is (p1 : Int) (p2 : Int) (M : Mem) : Option (Int × Mem) :=
  (fX11_isValue p1 M).bind fun q1 =>
  ((if q1.1 = 0 then
      some ((-2147483648), q1.2)
    else
      (fX11_isLane p2 q1.2).bind fun q2 =>
      if q2.1 = 0 then
        some ((-2147483648), q2.2)
      else
        (fX4_reckonLane p2 p1 q2.2).bind fun q3 =>
        some (q3.1, q3.2) : Option (Int × Mem))).bind fun q4 =>
  some (q4.1, q4.2)

noncomputable def fX11_differs_b1 (p1 : Int) (q2_1 : Int) (s3 : Int × Int × Mem) : Option ((Int × Int × Mem) ⊕ (Int × Mem)) :=
  if 4 ≤ s3.2.1 then
    some (.inr (s3.1, s3.2.2))
  else
    (fX4_reckonLane s3.2.1 p1 s3.2.2).bind fun q4 =>
    ((if q4.1 = q2_1 then
        some s3.1
      else
        (some (ior s3.1 (ishl 1 s3.2.1))).bind fun v5 =>
        some v5 : Option (Int))).bind fun q6 =>
    some (.inl (q6, w32 (s3.2.1 + 1), q4.2))

noncomputable def fX11_differs (p1 : Int) (M : Mem) : Option (Int × Mem) :=
  (fX11_isValue p1 M).bind fun q1 =>
  if q1.1 = 0 then
    some ((-1), q1.2)
  else
    (fX4_reckonLane 0 p1 q1.2).bind fun q2 =>
    (lp (fX11_differs_b1 p1 q2.1) (0, 1, q2.2)).bind fun q7 =>
    some (q7.1, q7.2)

noncomputable def fX11_isShown (p1 : Int) (M : Mem) : Option (Int × Mem) :=
  ((if p1 < 0 then
      some 0
    else
      if (M 44 5) ≤ p1 then
        some 0
      else
        some 1 : Option (Int))).bind fun q1 =>
  rz q1 M

noncomputable def fX11_shown (p1 : Int) (M : Mem) : Option (Int × Mem) :=
  (fX11_isShown p1 M).bind fun q1 =>
  ((if q1.1 = 0 then
      some (-1)
    else
      (ldI q1.2 49 p1).bind fun v2 =>
      some v2 : Option (Int))).bind fun q3 =>
  some (q3, q1.2)

noncomputable def fX9_isShown_b1 (M : Mem) (p1 : Int) (s1 : Int) : Option ((Int) ⊕ ((Unit) ⊕ (Int × Mem))) :=
  if (M 44 5) ≤ s1 then
    some (.inr (.inl ()))
  else
    (ldI M 49 s1).bind fun v2 =>
    if v2 = p1 then
      (rz 1 M).bind fun r => some (.inr (.inr r))
    else
      some (.inl (w32 (s1 + 1)))

noncomputable def fX9_isShown (p1 : Int) (M : Mem) : Option (Int × Mem) :=
  (lp (fX9_isShown_b1 M p1) 0).bind (Sum.elim (fun q3 =>
  rz 0 M) (fun r => some r))

noncomputable def fX11_belongs (p1 : Int) (p2 : Int) (M : Mem) : Option (Int × Mem) :=
  if p2 = 0 then
    (fX5_isNeeded 62 p1 M).bind fun q1 =>
    rz q1.1 q1.2
  else if p2 = 1 then
    (ldZ M 48 p1).bind fun v2 =>
    rz v2 M
  else if p2 = 2 then
    (fX2_isKnown 62 p1 M).bind fun q3 =>
    rz q3.1 q3.2
  else if p2 = 3 then
    (fX2_isLow 62 p1 M).bind fun q4 =>
    rz q4.1 q4.2
  else if p2 = 4 then
    (ldZ M 47 p1).bind fun v5 =>
    rz v5 M
  else if p2 = 5 then
    (fX9_isShown p1 M).bind fun q6 =>
    rz q6.1 q6.2
  else if p2 = 6 then
    (ldI M 45 p1).bind fun v7 =>
    ((if v7 = 7 then
        some 1
      else
        some 0 : Option (Int))).bind fun q8 =>
    rz q8 M
  else 
    rz 0 M

noncomputable def fX11_all_b1 (p1 : Int) (s1 : Int × Int × Mem) : Option ((Int × Int × Mem) ⊕ (Int × Mem)) :=
  if (s1.2.2 44 0) ≤ s1.2.1 then
    some (.inr (s1.1, s1.2.2))
  else
    (fX11_belongs s1.2.1 p1 s1.2.2).bind fun q2 =>
    ((if q2.1 = 0 then
        some s1.1
      else
        (some (lor s1.1 (lshl 1 s1.2.1))).bind fun v3 =>
        some v3 : Option (Int))).bind fun q4 =>
    some (.inl (q4, w32 (s1.2.1 + 1), q2.2))

noncomputable def fX11_all (p1 : Int) (M : Mem) : Option (Int × Mem) :=
  (lp (fX11_all_b1 p1) (0, 0, M)).bind fun q5 =>
  some (q5.1, q5.2)

noncomputable def fX11_kin (p1 : Int) (p2 : Int) (M : Mem) : Option (Int × Mem) :=
  (fX11_isValue p1 M).bind fun q1 =>
  if q1.1 = 0 then
    some (0, q1.2)
  else
    (fX5_isNeeded 62 p1 q1.2).bind fun q2 =>
    if q2.1 = 0 then
      some (0, q2.2)
    else
      if p2 = 0 then
        (ldJ q2.2 70 p1).bind fun v3 =>
        some (v3, q2.2)
      else if p2 = 1 then
        (ldJ q2.2 71 p1).bind fun v4 =>
        some (v4, q2.2)
      else if p2 = 2 then
        (ldJ q2.2 72 p1).bind fun v5 =>
        some (v5, q2.2)
      else if p2 = 3 then
        (ldJ q2.2 73 p1).bind fun v6 =>
        some (v6, q2.2)
      else 
        some (0, q2.2)

noncomputable def fX11_isPlace (p1 : Int) (M : Mem) : Option (Int × Mem) :=
  ((if p1 < 0 then
      some 0
    else
      if (M 75 4) ≤ p1 then
        some 0
      else
        some 1 : Option (Int))).bind fun q1 =>
  rz q1 M

noncomputable def fX11_order (p1 : Int) (M : Mem) : Option (Int × Mem) :=
  (fX11_isPlace p1 M).bind fun q1 =>
  ((if q1.1 = 0 then
      some (-1)
    else
      (ldI q1.2 76 p1).bind fun v2 =>
      some v2 : Option (Int))).bind fun q3 =>
  some (q3, q1.2)

noncomputable def fJ13_bitCount_95d88 (p1 : Int) (M : Mem) : Option (Int × Mem) :=
  (some (w64 (p1 - (land (lushr p1 1) 6148914691236517205)))).bind fun v1 =>
  (some (w64 ((land v1 3689348814741910323) + (land (lushr v1 2) 3689348814741910323)))).bind fun v2 =>
  (some (land (w64 (v2 + (lushr v2 4))) 1085102592571150095)).bind fun v3 =>
  (some (w64 (v3 + (lushr v3 8)))).bind fun v4 =>
  (some (w64 (v4 + (lushr v4 16)))).bind fun v5 =>
  (some (w64 (v5 + (lushr v5 32)))).bind fun v6 =>
  some (iand (w32 v6) 127, M)

noncomputable def fX11_place (p1 : Int) (p2 : Int) (M : Mem) : Option (Int × Mem) :=
  (fX11_isValue p1 M).bind fun q1 =>
  if q1.1 = 0 then
    some ((-1), q1.2)
  else
    (fX5_isNeeded 62 p1 q1.2).bind fun q2 =>
    if q2.1 = 0 then
      some ((-1), q2.2)
    else
      if p2 = 0 then
        (ldI q2.2 77 p1).bind fun v3 =>
        some (v3, q2.2)
      else if p2 = 1 then
        (ldI q2.2 78 p1).bind fun v4 =>
        some (v4, q2.2)
      else if p2 = 2 then
        (ldI q2.2 81 p1).bind fun v5 =>
        some (v5, q2.2)
      else if p2 = 3 then
        (ldI q2.2 84 p1).bind fun v6 =>
        some (v6, q2.2)
      else if p2 = 4 then
        (ldJ q2.2 72 p1).bind fun v7 =>
        (fJ13_bitCount_95d88 v7 q2.2).bind fun q8 =>
        some (q8.1, q8.2)
      else if p2 = 5 then
        (ldJ q2.2 73 p1).bind fun v9 =>
        (fJ13_bitCount_95d88 v9 q2.2).bind fun q10 =>
        some (w32 ((w32 ((q2.2 75 4) - 1)) - q10.1), q10.2)
      else 
        some ((-1), q2.2)

noncomputable def fX11_pressure (p1 : Int) (M : Mem) : Option (Int × Mem) :=
  ((if p1 < 0 then
      some (-1)
    else
      if 2 < p1 then
        some (-1)
      else
        (ldI M 80 p1).bind fun v1 =>
        some v1 : Option (Int))).bind fun q2 =>
  some (q2, M)

noncomputable def fX11_at (p1 : Int) (p2 : Int) (M : Mem) : Option (Int × Mem) :=
  (fX11_isPlace p1 M).bind fun q1 =>
  ((if q1.1 = 0 then
      some 0
    else
      if p2 < 0 then
        some 0
      else
        if 2 < p2 then
          some 0
        else
          some 1 : Option (Int))).bind fun q2 =>
  ((if q2 = 0 then
      some (-1)
    else
      (ldI q1.2 79 (w32 ((w32 (64 * p2)) + p1))).bind fun v3 =>
      some v3 : Option (Int))).bind fun q4 =>
  some (q4, q1.2)

noncomputable def fX11_used (p1 : Int) (M : Mem) : Option (Int × Mem) :=
  ((if p1 < 0 then
      some (-1)
    else
      if 2 ≤ p1 then
        some (-1)
      else
        (ldI M 83 p1).bind fun v1 =>
        some v1 : Option (Int))).bind fun q2 =>
  some (q2, M)

noncomputable def fX11_clause (p1 : Int) (p2 : Int) (M : Mem) : Option (Int × Mem) :=
  if p1 < 0 then
    some ((-1), M)
  else
    if p1 < (M 75 16) then
      if p2 = 0 then
        (ldI M 85 p1).bind fun v1 =>
        (ldI M 76 v1).bind fun v2 =>
        (ldI M 45 v2).bind fun v3 =>
        ((if v3 = 7 then
            some 1
          else
            some 0 : Option (Int))).bind fun q4 =>
        some (q4, M)
      else if p2 = 1 then
        (ldI M 85 p1).bind fun v5 =>
        some (v5, M)
      else if p2 = 2 then
        (ldI M 86 p1).bind fun v6 =>
        some (v6, M)
      else if p2 = 3 then
        (ldI M 87 p1).bind fun v7 =>
        some (v7, M)
      else 
        some ((-1), M)
    else
      some ((-1), M)

noncomputable def fX11_imagine (p1 : Int) (p2 : Int) (M : Mem) : Option (Mem) :=
  (fX2_reckon 88 M).bind fun q1 =>
  (fX5_reckon 88 p1 q1).bind fun q2 =>
  (fX7_arrange 88 p2 q2).bind fun q3 =>
  (gm q3 0 13).bind fun t4 =>
  (gm q3 0 13).bind fun t5 =>
  (fX7_settle 88 (q3 t4 14) (q3 t5 15) q3).bind fun q6 =>
  some q6

noncomputable def fX11_cost (p1 : Int) (M : Mem) : Option (Int × Mem) :=
  if p1 = 0 then
    (ldI M 106 2).bind fun v1 =>
    some (v1, M)
  else if p1 = 1 then
    some (M 101 16, M)
  else if p1 = 2 then
    some (M 101 17, M)
  else if p1 = 3 then
    (ldI M 109 0).bind fun v2 =>
    some (v2, M)
  else if p1 = 4 then
    (ldI M 109 1).bind fun v3 =>
    some (v3, M)
  else if p1 = 5 then
    some (M 101 4, M)
  else 
    some ((-1), M)

noncomputable def fX11_by (p1 : Int) (p2 : Int) (M : Mem) : Option (Int × Mem) :=
  if p1 < 0 then
    some ((-1), M)
  else
    if 4 ≤ p1 then
      some ((-1), M)
    else
      if p2 < 0 then
        some ((-1), M)
      else
        if p2 ≤ 4 then
          (fX11_imagine (-1) p1 M).bind fun q1 =>
          (fX11_cost p2 q1).bind fun q2 =>
          some (q2.1, q2.2)
        else
          some ((-1), M)

noncomputable def fX11_alone (p1 : Int) (p2 : Int) (M : Mem) : Option (Int × Mem) :=
  (fX11_isShown p1 M).bind fun q1 =>
  if q1.1 = 0 then
    some ((-1), q1.2)
  else
    if p2 < 0 then
      some ((-1), q1.2)
    else
      if p2 ≤ 5 then
        (fX11_imagine p1 (q1.2 0 14) q1.2).bind fun q2 =>
        (fX11_cost p2 q2).bind fun q3 =>
        some (q3.1, q3.2)
      else
        some ((-1), q1.2)

noncomputable def fX2_countLow_b1 (g : Nat) (s1 : Int × Int × Mem) : Option ((Int × Int × Mem) ⊕ (Int × Mem)) :=
  if (s1.2.2 44 0) ≤ s1.2.1 then
    some (.inr (s1.1, s1.2.2))
  else
    (fX2_isLow g s1.2.1 s1.2.2).bind fun q2 =>
    ((if q2.1 = 0 then
        some 0
      else
        some 1 : Option (Int))).bind fun q3 =>
    (some (w32 (s1.1 + q3))).bind fun v4 =>
    some (.inl (v4, w32 (s1.2.1 + 1), q2.2))

noncomputable def fX2_countLow (g : Nat) (M : Mem) : Option (Int × Mem) :=
  (lp (fX2_countLow_b1 g) (0, 0, M)).bind fun q5 =>
  some (q5.1, q5.2)

noncomputable def fX2_countKnown_b1 (g : Nat) (s1 : Int × Int × Mem) : Option ((Int × Int × Mem) ⊕ (Int × Mem)) :=
  if (s1.2.2 44 0) ≤ s1.2.1 then
    some (.inr (s1.1, s1.2.2))
  else
    (fX2_isKnown g s1.2.1 s1.2.2).bind fun q2 =>
    ((if q2.1 = 0 then
        some 0
      else
        some 1 : Option (Int))).bind fun q3 =>
    (some (w32 (s1.1 + q3))).bind fun v4 =>
    some (.inl (v4, w32 (s1.2.1 + 1), q2.2))

noncomputable def fX2_countKnown (g : Nat) (M : Mem) : Option (Int × Mem) :=
  (lp (fX2_countKnown_b1 g) (0, 0, M)).bind fun q5 =>
  some (q5.1, q5.2)

noncomputable def fX11_narrowed (p1 : Int) (p2 : Int) (p3 : Int) (p4 : Int) (M : Mem) : Option (Int × Mem) :=
  (fX11_isInput p1 M).bind fun q1 =>
  if q1.1 = 0 then
    some ((-1), q1.2)
  else
    (fX11_isRange p2 p3 q1.2).bind fun q2 =>
    if q2.1 = 0 then
      some ((-1), q2.2)
    else
      if p4 < 0 then
        some ((-1), q2.2)
      else
        if p4 ≤ 7 then
          (ldI q2.2 52 p1).bind fun v3 =>
          (ldI q2.2 53 p1).bind fun v4 =>
          (stI q2.2 52 p1 p2).bind fun M5 =>
          (stI M5 53 p1 p3).bind fun M6 =>
          (fX11_imagine (-1) (M6 0 14) M6).bind fun q7 =>
          (stI q7 52 p1 v3).bind fun M8 =>
          (stI M8 53 p1 v4).bind fun M9 =>
          if p4 = 6 then
            (fX2_countLow 88 M9).bind fun q10 =>
            some (q10.1, q10.2)
          else if p4 = 7 then
            (fX2_countKnown 88 M9).bind fun q11 =>
            some (q11.1, q11.2)
          else 
            (fX11_cost p4 M9).bind fun q12 =>
            some (q12.1, q12.2)
        else
          some ((-1), q2.2)

noncomputable def fX11_swapped (p1 : Int) (p2 : Int) (M : Mem) : Option (Int × Mem) :=
  (fX11_isPlace p1 M).bind fun q1 =>
  if q1.1 = 0 then
    some ((-1), q1.2)
  else
    if (w32 ((q1.2 75 4) - 1)) ≤ p1 then
      some ((-1), q1.2)
    else
      if p2 < 0 then
        some ((-1), q1.2)
      else
        if p2 ≤ 2 then
          (ldI q1.2 76 p1).bind fun v2 =>
          (ldI q1.2 76 (w32 (p1 + 1))).bind fun v3 =>
          (ldJ q1.2 70 v3).bind fun v4 =>
          if (lc (land (lushr v4 v2) 1) 0) = 0 then
            (fX11_imagine (-1) (q1.2 0 14) q1.2).bind fun q5 =>
            (fX7_putAt 88 p1 v3 q5).bind fun q6 =>
            (fX7_putAt 88 (w32 (p1 + 1)) v2 q6).bind fun q7 =>
            (gm q7 0 13).bind fun t8 =>
            (gm q7 0 13).bind fun t9 =>
            (fX7_settle 88 (q7 t8 14) (q7 t9 15) q7).bind fun q10 =>
            (fX11_cost p2 q10).bind fun q11 =>
            some (q11.1, q11.2)
          else
            some ((-1), q1.2)
        else
          some ((-1), q1.2)

noncomputable def fX11_parts (p1 : Int) (M : Mem) : Option (Int × Mem) :=
  if p1 < 0 then
    some ((-1), M)
  else
    (gm M 0 13).bind fun t1 =>
    if p1 < (M t1 16) then
      (ldZ M 50 p1).bind fun v2 =>
      ((if v2 = 0 then
          some 0
        else
          some 1 : Option (Int))).bind fun q3 =>
      some (q3, M)
    else
      some ((-1), M)

noncomputable def fX11_count (p1 : Int) (M : Mem) : Option (Int × Mem) :=
  if p1 = 0 then
    some (M 44 0, M)
  else if p1 = 1 then
    (gm M 0 13).bind fun t1 =>
    some (M t1 10, M)
  else if p1 = 2 then
    some (M 44 5, M)
  else if p1 = 3 then
    some (M 75 4, M)
  else if p1 = 4 then
    (fX2_countLow 62 M).bind fun q2 =>
    some (q2.1, q2.2)
  else if p1 = 5 then
    some (M 75 16, M)
  else if p1 = 6 then
    some (M 75 17, M)
  else if p1 = 7 then
    (gm M 0 13).bind fun t3 =>
    some (M t3 14, M)
  else if p1 = 8 then
    (gm M 0 13).bind fun t4 =>
    some (M t4 15, M)
  else if p1 = 9 then
    some (M 0 14, M)
  else if p1 = 10 then
    (gm M 0 13).bind fun t5 =>
    some (M t5 16, M)
  else if p1 = 11 then
    some (M 1 2, M)
  else if p1 = 12 then
    (gm M 0 13).bind fun t6 =>
    some (M t6 17, M)
  else 
    some ((-1), M)

noncomputable def fX12_thrown  (M : Mem) : Option (Int × Mem) :=
  some (M 132 0, M)

noncomputable def fX12_lay_b1 (p1 : Int) (s1 : Int × Mem) : Option ((Int × Mem) ⊕ (Mem)) :=
  if s1.1 < 0 then
    some (.inr s1.2)
  else
    (some (iand (w32 (lshr p1 s1.1)) 255)).bind fun v2 =>
    ((if v2 = 10 then
        some true
      else
        if v2 < 32 then
          some false
        else
          if 126 < v2 then
            some false
          else
            some true : Option (Bool))).bind fun q3 =>
    ((if q3 = true then
        if 1000 ≤ (s1.2 132 2) then
          some s1.2
        else
          (stI s1.2 133 (s1.2 132 2) v2).bind fun M4 =>
          (pI M4 132 2 (w32 ((M4 132 2) + 1))).bind fun M5 =>
          some M5
      else
        some s1.2 : Option (Mem))).bind fun q6 =>
    some (.inl (w32 (s1.1 + (-8)), q6))

noncomputable def fX12_lay (p1 : Int) (M : Mem) : Option (Mem) :=
  (lp (fX12_lay_b1 p1) (56, M)).bind fun q7 =>
  some q7

noncomputable def fX12_feed (p1 : Int) (p2 : Int) (p3 : Int) (M : Mem) : Option (Int × Mem) :=
  (pI M 132 0 0).bind fun M1 =>
  (fX12_lay p1 M1).bind fun q2 =>
  (fX12_lay p2 q2).bind fun q3 =>
  (fX12_lay p3 q3).bind fun q4 =>
  some (q4 132 2, q4)

noncomputable def fX12_isLetter (p1 : Int) (M : Mem) : Option (Int × Mem) :=
  ((if p1 < 97 then
      some 0
    else
      if 122 < p1 then
        some 0
      else
        some 1 : Option (Int))).bind fun q1 =>
  rz q1 M

noncomputable def fX12_isDigit (p1 : Int) (M : Mem) : Option (Int × Mem) :=
  ((if p1 < 48 then
      some 0
    else
      if 57 < p1 then
        some 0
      else
        some 1 : Option (Int))).bind fun q1 =>
  rz q1 M

noncomputable def fX12_behindRun_b1 (p2 : Int) (s1 : Int × Mem) : Option ((Int × Mem) ⊕ (Int × Mem)) :=
  if (s1.2 132 3) ≤ s1.1 then
    some (.inr (s1.1, s1.2))
  else
    if p2 = 0 then
      (ldI s1.2 133 s1.1).bind fun v2 =>
      (fX12_isDigit v2 s1.2).bind fun q3 =>
      if q3.1 = 0 then
        some (.inr (s1.1, q3.2))
      else
        some (.inl (w32 (s1.1 + 1), q3.2))
    else
      (ldI s1.2 133 s1.1).bind fun v4 =>
      (fX12_isLetter v4 s1.2).bind fun q5 =>
      if q5.1 = 0 then
        some (.inr (s1.1, q5.2))
      else
        some (.inl (w32 (s1.1 + 1), q5.2))

noncomputable def fX12_behindRun (p1 : Int) (p2 : Int) (M : Mem) : Option (Int × Mem) :=
  (lp (fX12_behindRun_b1 p2) (p1, M)).bind fun q6 =>
  some (q6.1, q6.2)

noncomputable def fX12_worthOf_b1 (M : Mem) (p1 : Int) (p2 : Int) (p3 : Int) (s1 : Int × Int) : Option ((Int × Int) ⊕ (Int)) :=
  if p2 ≤ s1.2 then
    some (.inr s1.1)
  else
    if (w32 (p1 + 7)) ≤ s1.2 then
      some (.inr s1.1)
    else
      ((if p3 = 0 then
          (ldI M 133 s1.2).bind fun v2 =>
          some (w64 ((w64 ((w64 (10 * s1.1)) + v2)) - 48))
        else
          (ldI M 133 s1.2).bind fun v3 =>
          some (w64 ((w64 ((w64 (27 * s1.1)) + v3)) - 96)) : Option (Int))).bind fun q4 =>
      some (.inl (q4, w32 (s1.2 + 1)))

noncomputable def fX12_worthOf (p1 : Int) (p2 : Int) (p3 : Int) (M : Mem) : Option (Int × Mem) :=
  (lp (fX12_worthOf_b1 M p1 p2 p3) (0, p1)).bind fun q5 =>
  some (q5, M)

noncomputable def fX12_cutAll_b1  (s3 : Int × Int × Mem) : Option ((Int × Int × Mem) ⊕ (Int × Mem)) :=
  if (s3.2.2 132 3) ≤ s3.2.1 then
    some (.inr (s3.1, s3.2.2))
  else
    (ldI s3.2.2 133 s3.2.1).bind fun v4 =>
    if v4 = 10 then
      some (.inl (s3.1, w32 (s3.2.1 + 1), s3.2.2))
    else
      if v4 = 32 then
        some (.inl (s3.1, w32 (s3.2.1 + 1), s3.2.2))
      else
        (stI s3.2.2 135 s3.1 s3.2.1).bind fun M5 =>
        (fX12_isLetter v4 M5).bind fun q6 =>
        ((if q6.1 = 0 then
            (fX12_isDigit v4 q6.2).bind fun q8 =>
            if q8.1 = 0 then
              some (w32 (s3.2.1 + 1), q8.2)
            else
              (fX12_behindRun s3.2.1 q6.1 q8.2).bind fun q9 =>
              some (q9.1, q9.2)
          else
            (fX12_behindRun s3.2.1 q6.1 q6.2).bind fun q7 =>
            some (q7.1, q7.2) : Option (Int × Mem))).bind fun q10 =>
        ((if q6.1 = 0 then
            some 3
          else
            some 7 : Option (Int))).bind fun q11 =>
        ((if q6.1 = 0 then
            (fX12_isDigit v4 q10.2).bind fun q12 =>
            if q12.1 = 0 then
              if v4 = 59 then
                some (3, q12.2)
              else
                some (4, q12.2)
            else
              if (w32 (q10.1 - s3.2.1)) ≤ q11 then
                if q6.1 = 0 then
                  some (2, q12.2)
                else
                  some (1, q12.2)
              else
                some (4, q12.2)
          else
            if (w32 (q10.1 - s3.2.1)) ≤ q11 then
              if q6.1 = 0 then
                some (2, q10.2)
              else
                some (1, q10.2)
            else
              some (4, q10.2) : Option (Int × Mem))).bind fun q13 =>
        (stI q13.2 134 s3.1 q13.1).bind fun M14 =>
        (fX12_worthOf s3.2.1 q10.1 q6.1 M14).bind fun q15 =>
        (stJ q15.2 136 s3.1 q15.1).bind fun M16 =>
        some (.inl (w32 (s3.1 + 1), q10.1, M16))

noncomputable def fX12_cutAll  (M : Mem) : Option (Mem) :=
  (pI M 132 3 (M 132 2)).bind fun M1 =>
  (pI M1 132 2 0).bind fun M2 =>
  (lp (fX12_cutAll_b1) (0, 0, M2)).bind fun q17 =>
  (stI q17.2 134 q17.1 0).bind fun M18 =>
  (stI M18 135 q17.1 (M18 132 3)).bind fun M19 =>
  (pI M19 132 7 0).bind fun M20 =>
  (pI M20 132 8 0).bind fun M21 =>
  some M21

noncomputable def fX12_wrong (p1 : Int) (M : Mem) : Option (Mem) :=
  ((if (M 132 8) = 0 then
      (ldI M 135 (M 132 7)).bind fun v1 =>
      (pI M 132 8 (w32 (p1 + (w32 (16 * v1))))).bind fun M2 =>
      some M2
    else
      some M : Option (Mem))).bind fun q3 =>
  some q3

noncomputable def fX12_isWord (p1 : Int) (M : Mem) : Option (Int × Mem) :=
  ((if (M 132 8) = 0 then
      (ldI M 134 (M 132 7)).bind fun v1 =>
      if v1 = 1 then
        (ldJ M 136 (M 132 7)).bind fun v2 =>
        (ldJ M 137 p1).bind fun v3 =>
        if (lc v2 v3) = 0 then
          some 1
        else
          some 0
      else
        some 0
    else
      some 0 : Option (Int))).bind fun q4 =>
  rz q4 M

noncomputable def fX12_takeWord (p1 : Int) (M : Mem) : Option (Mem) :=
  (fX12_isWord p1 M).bind fun q1 =>
  ((if q1.1 = 0 then
      (fX12_wrong 1 q1.2).bind fun q2 =>
      some q2
    else
      some q1.2 : Option (Mem))).bind fun q3 =>
  ((if q1.1 = 0 then
      some 0
    else
      some 1 : Option (Int))).bind fun q4 =>
  (pI q3 132 7 (w32 ((q3 132 7) + q4))).bind fun M5 =>
  some M5

noncomputable def fX12_takeEnd  (M : Mem) : Option (Mem) :=
  ((if (M 132 8) = 0 then
      (ldI M 134 (M 132 7)).bind fun v1 =>
      if v1 = 3 then
        some M
      else
        (fX12_wrong 1 M).bind fun q2 =>
        some q2
    else
      some M : Option (Mem))).bind fun q3 =>
  ((if (q3 132 8) = 0 then
      some 1
    else
      some 0 : Option (Int))).bind fun q4 =>
  (pI q3 132 7 (w32 ((q3 132 7) + q4))).bind fun M5 =>
  some M5

noncomputable def fX12_wordHere_b1 (p1 : Int) (p2 : Int) (s1 : Int × Int × Mem) : Option ((Int × Int × Mem) ⊕ (Int × Mem)) :=
  if p2 ≤ s1.2.1 then
    some (.inr (s1.1, s1.2.2))
  else
    (fX12_isWord (w32 (p1 + s1.2.1)) s1.2.2).bind fun q2 =>
    ((if q2.1 = 0 then
        some s1.1
      else
        some s1.2.1 : Option (Int))).bind fun q3 =>
    some (.inl (q3, w32 (s1.2.1 + 1), q2.2))

noncomputable def fX12_wordHere (p1 : Int) (p2 : Int) (M : Mem) : Option (Int × Mem) :=
  (lp (fX12_wordHere_b1 p1 p2) ((-1), 0, M)).bind fun q4 =>
  some (q4.1, q4.2)

noncomputable def fX12_isName  (M : Mem) : Option (Int × Mem) :=
  ((if (M 132 8) = 0 then
      (ldI M 134 (M 132 7)).bind fun v1 =>
      if v1 = 1 then
        (fX12_wordHere 0 23 M).bind fun q2 =>
        if 0 ≤ q2.1 then
          some (0, q2.2)
        else
          some (1, q2.2)
      else
        some (0, M)
    else
      some (0, M) : Option (Int × Mem))).bind fun q3 =>
  rz q3.1 q3.2

noncomputable def fX12_takeNumber (p1 : Int) (p2 : Int) (M : Mem) : Option (Int × Mem) :=
  ((if (M 132 8) = 0 then
      (ldI M 134 (M 132 7)).bind fun v1 =>
      if v1 = 2 then
        some true
      else
        some false
    else
      some true : Option (Bool))).bind fun q2 =>
  ((if q2 = true then
      if (M 132 8) = 0 then
        (ldJ M 136 (M 132 7)).bind fun v3 =>
        if (lc v3 p1) < 0 then
          (fX12_wrong 4 M).bind fun q4 =>
          some q4
        else
          (ldJ M 136 (M 132 7)).bind fun v5 =>
          if (lc v5 p2) ≤ 0 then
            some M
          else
            (fX12_wrong 4 M).bind fun q6 =>
            some q6
      else
        some M
    else
      (fX12_wrong 1 M).bind fun q7 =>
      some q7 : Option (Mem))).bind fun q8 =>
  if (q8 132 8) ≤ 0 then
    (pI q8 132 7 (w32 ((q8 132 7) + 1))).bind fun M9 =>
    (ldJ M9 136 (w32 ((M9 132 7) - 1))).bind fun v10 =>
    some (w32 v10, M9)
  else
    some (0, q8)

noncomputable def fX12_within (p1 : Int) (p2 : Int) (p3 : Int) (M : Mem) : Option (Int × Mem) :=
  ((if p1 < p2 then
      some 0
    else
      if p3 < p1 then
        some 0
      else
        some 1 : Option (Int))).bind fun q1 =>
  rz q1 M

noncomputable def fX12_clears_b1 (p1 : Int) (s1 : Int × Mem) : Option ((Int × Mem) ⊕ (Mem)) :=
  if 412 ≤ s1.1 then
    some (.inr s1.2)
  else
    (stI s1.2 138 (w32 (p1 + s1.1)) 0).bind fun M2 =>
    some (.inl (w32 (s1.1 + 1), M2))

noncomputable def fX12_clears (p1 : Int) (M : Mem) : Option (Mem) :=
  (lp (fX12_clears_b1 p1) (0, M)).bind fun q3 =>
  (stI q3 138 (w32 (p1 + 3)) 4).bind fun M4 =>
  (stI M4 138 (w32 (p1 + 4)) 8).bind fun M5 =>
  some M5

noncomputable def fX12_nameAt_b1 (M : Mem) (s1 : Int × Int) : Option ((Int × Int) ⊕ (Int)) :=
  if (M 132 14) ≤ s1.2 then
    some (.inr s1.1)
  else
    (ldJ M 140 s1.2).bind fun v2 =>
    (ldJ M 136 (M 132 7)).bind fun v3 =>
    ((if (lc v2 v3) = 0 then
        some s1.2
      else
        some s1.1 : Option (Int))).bind fun q4 =>
    some (.inl (q4, w32 (s1.2 + 1)))

noncomputable def fX12_nameAt  (M : Mem) : Option (Int × Mem) :=
  (lp (fX12_nameAt_b1 M) ((-1), 0)).bind fun q5 =>
  some (q5, M)

noncomputable def fX12_newLine_b1 (v2 : Int) (s5 : Int × Mem) : Option ((Int × Mem) ⊕ (Mem)) :=
  if 12 ≤ s5.1 then
    some (.inr s5.2)
  else
    (stI s5.2 139 (w32 (v2 + s5.1)) 0).bind fun M6 =>
    some (.inl (w32 (s5.1 + 1), M6))

noncomputable def fX12_newLine (p1 : Int) (M : Mem) : Option (Int × Mem) :=
  (ldI M 138 412).bind fun v1 =>
  (some (w32 (12 * (w32 (210 + v1))))).bind fun v2 =>
  (ldI M 138 412).bind fun v3 =>
  (stI M 138 412 (w32 (v3 + 1))).bind fun M4 =>
  (lp (fX12_newLine_b1 v2) (0, M4)).bind fun q7 =>
  (stI q7 139 v2 p1).bind fun M8 =>
  (ldI M8 135 (M8 132 7)).bind fun v9 =>
  (stI M8 139 (w32 (v2 + 3)) v9).bind fun M10 =>
  (stI M10 139 (w32 (v2 + 11)) (M10 132 18)).bind fun M11 =>
  some (v2, M11)

noncomputable def fX12_isWithinWhen_b1 (M : Mem) (s1 : Int × Int) : Option ((Int × Int) ⊕ (Int)) :=
  if (M 132 18) ≤ s1.2 then
    some (.inr s1.1)
  else
    ((if s1.1 = 0 then
        (ldI M 142 s1.2).bind fun v2 =>
        if v2 = 3 then
          some 0
        else
          some 1
      else
        some 1 : Option (Int))).bind fun q3 =>
    some (.inl (q3, w32 (s1.2 + 1)))

noncomputable def fX12_isWithinWhen  (M : Mem) : Option (Int × Mem) :=
  (lp (fX12_isWithinWhen_b1 M) (0, 0)).bind fun q4 =>
  rz q4 M

noncomputable def fX12_tells (p1 : Int) (p2 : Int) (M : Mem) : Option (Mem) :=
  (stJ M 140 (M 132 14) p1).bind fun M1 =>
  (stI M1 141 (M1 132 14) p2).bind fun M2 =>
  (pI M2 132 14 (w32 ((M2 132 14) + 1))).bind fun M3 =>
  some M3

noncomputable def fX12_readInput (p1 : Int) (M : Mem) : Option (Mem) :=
  ((if (M 132 18) ≤ 0 then
      (ldI M 138 413).bind fun v1 =>
      if v1 = 6 then
        (fX12_wrong 5 M).bind fun q2 =>
        some q2
      else
        some M
    else
      (fX12_wrong 1 M).bind fun q3 =>
      some q3 : Option (Mem))).bind fun q4 =>
  if (q4 132 8) ≤ 0 then
    (fX12_newLine 6 q4).bind fun q5 =>
    (pI q5.2 132 7 (w32 ((q5.2 132 7) + 1))).bind fun M6 =>
    (fX12_isName M6).bind fun q7 =>
    ((if q7.1 = 0 then
        (fX12_wrong 1 q7.2).bind fun q11 =>
        some q11
      else
        (fX12_nameAt q7.2).bind fun q8 =>
        if q8.1 < 0 then
          if (q8.2 132 14) = 20 then
            (fX12_wrong 5 q8.2).bind fun q9 =>
            some q9
          else
            some q8.2
        else
          (fX12_wrong 3 q8.2).bind fun q10 =>
          some q10 : Option (Mem))).bind fun q12 =>
    if (q12 132 8) ≤ 0 then
      (ldJ q12 136 (q12 132 7)).bind fun v13 =>
      (pI q12 132 7 (w32 ((q12 132 7) + 1))).bind fun M14 =>
      (fX12_takeNumber 0 999 M14).bind fun q15 =>
      (fX12_takeNumber q15.1 999 q15.2).bind fun q16 =>
      (ldI q16.2 138 413).bind fun v17 =>
      (some (w32 (422 + (w32 (3 * v17))))).bind fun v18 =>
      (stI q16.2 138 v18 q15.1).bind fun M19 =>
      (stI M19 138 (w32 (v18 + 1)) q16.1).bind fun M20 =>
      ((if p1 = 0 then
          some 0
        else
          some 1 : Option (Int))).bind fun q21 =>
      (stI M20 138 (w32 (v18 + 2)) q21).bind fun M22 =>
      (stI M22 139 (w32 (q5.1 + 1)) (M22 132 14)).bind fun M23 =>
      (stI M23 139 (w32 (q5.1 + 2)) v17).bind fun M24 =>
      (ldI M24 138 413).bind fun v25 =>
      (stI M24 138 413 (w32 (v25 + 1))).bind fun M26 =>
      ((if (M26 132 8) = 0 then
          (fX12_tells v13 2 M26).bind fun q27 =>
          some q27
        else
          some M26 : Option (Mem))).bind fun q28 =>
      some q28
    else
      some q12
  else
    some q4

noncomputable def fX12_readLimit (p1 : Int) (p2 : Int) (p3 : Int) (M : Mem) : Option (Mem) :=
  (some (w32 ((w32 (418 + p1)) - 2))).bind fun v1 =>
  ((if (M 132 18) ≤ 0 then
      (ldI M 138 v1).bind fun v2 =>
      if v2 ≤ 0 then
        some M
      else
        (fX12_wrong 3 M).bind fun q3 =>
        some q3
    else
      (fX12_wrong 1 M).bind fun q4 =>
      some q4 : Option (Mem))).bind fun q5 =>
  if (q5 132 8) ≤ 0 then
    (stI q5 138 v1 1).bind fun M6 =>
    (pI M6 132 7 (w32 ((M6 132 7) + 1))).bind fun M7 =>
    (fX12_takeNumber 1 p3 M7).bind fun q8 =>
    (stI q8.2 138 (w32 (412 + p2)) q8.1).bind fun M9 =>
    some M9
  else
    some q5

noncomputable def fX12_typeOf (p1 : Int) (M : Mem) : Option (Int × Mem) :=
  ((if p1 = 2 then
      some 0
    else
      some p1 : Option (Int))).bind fun q1 =>
  some (q1, M)

noncomputable def fX12_takeArg (p1 : Int) (p2 : Int) (M : Mem) : Option (Mem) :=
  if (M 132 8) ≤ 0 then
    (ldI M 134 (M 132 7)).bind fun v1 =>
    ((if v1 = 2 then
        some 1
      else
        some 0 : Option (Int))).bind fun q2 =>
    (fX12_isName M).bind fun q3 =>
    ((if q3.1 = 0 then
        some ((-1), q3.2)
      else
        (fX12_nameAt q3.2).bind fun q4 =>
        some (q4.1, q4.2) : Option (Int × Mem))).bind fun q5 =>
    ((if q2 = 0 then
        (fX12_isName q5.2).bind fun q7 =>
        if q7.1 = 0 then
          (fX12_wrong 1 q7.2).bind fun q9 =>
          some q9
        else
          if q2 = 0 then
            if 0 ≤ q5.1 then
              some q7.2
            else
              (fX12_wrong 2 q7.2).bind fun q8 =>
              some q8
          else
            some q7.2
      else
        if q2 = 0 then
          if 0 ≤ q5.1 then
            some q5.2
          else
            (fX12_wrong 2 q5.2).bind fun q6 =>
            some q6
        else
          some q5.2 : Option (Mem))).bind fun q10 =>
    ((if q2 = 0 then
        if 0 ≤ q5.1 then
          (ldI q10 141 q5.1).bind fun v11 =>
          (fX12_typeOf v11 q10).bind fun q12 =>
          some (q12.1, q12.2)
        else
          some (0, q10)
      else
        some (0, q10) : Option (Int × Mem))).bind fun q13 =>
    (pI q13.2 132 19 q13.1).bind fun M14 =>
    ((if p2 = 3 then
        some M14
      else
        if (M14 132 19) = p2 then
          some M14
        else
          (fX12_wrong 6 M14).bind fun q15 =>
          some q15 : Option (Mem))).bind fun q16 =>
    if (q16 132 8) ≤ 0 then
      ((if q2 = 0 then
          some (w32 ((-1) - q5.1))
        else
          (ldJ q16 136 (q16 132 7)).bind fun v17 =>
          some (w32 v17) : Option (Int))).bind fun q18 =>
      (stI q16 139 p1 q18).bind fun M19 =>
      (ldI M19 135 (M19 132 7)).bind fun v20 =>
      (stI M19 139 (w32 (p1 + 1)) v20).bind fun M21 =>
      (pI M21 132 7 (w32 ((M21 132 7) + 1))).bind fun M22 =>
      some M22
    else
      some q16
  else
    some M

noncomputable def fX12_makesFlag (p1 : Int) (M : Mem) : Option (Int × Mem) :=
  ((if p1 < 8 then
      some 0
    else
      if 12 < p1 then
        some 0
      else
        some 1 : Option (Int))).bind fun q1 =>
  rz q1 M

noncomputable def fX12_argsOf (p1 : Int) (M : Mem) : Option (Int × Mem) :=
  ((if p1 = 7 then
      some 1
    else
      if p1 = 12 then
        some 1
      else
        if p1 = 14 then
          some 1
        else
          if p1 = 13 then
            some 3
          else
            some 2 : Option (Int))).bind fun q1 =>
  some (q1, M)

noncomputable def fX12_readIs  (M : Mem) : Option (Mem) :=
  (fX12_nameAt M).bind fun q1 =>
  ((if q1.1 < 0 then
      some true
    else
      (ldI q1.2 141 q1.1).bind fun v2 =>
      if v2 = 2 then
        some false
      else
        some true : Option (Bool))).bind fun q3 =>
  ((if q3 = true then
      if 0 ≤ q1.1 then
        some q1.2
      else
        if (q1.2 132 14) = 20 then
          (fX12_wrong 5 q1.2).bind fun q4 =>
          some q4
        else
          some q1.2
    else
      (fX12_wrong 3 q1.2).bind fun q5 =>
      some q5 : Option (Mem))).bind fun q6 =>
  if (q6 132 8) ≤ 0 then
    (fX12_newLine 0 q6).bind fun q7 =>
    (ldJ q7.2 136 (q7.2 132 7)).bind fun v8 =>
    ((if q1.1 < 0 then
        some 3
      else
        (ldI q7.2 141 q1.1).bind fun v9 =>
        some v9 : Option (Int))).bind fun q10 =>
    (pI q7.2 132 7 (w32 ((q7.2 132 7) + 1))).bind fun M11 =>
    (fX12_takeWord 4 M11).bind fun q12 =>
    (fX12_wordHere 10 13 q12).bind fun q13 =>
    (some (w32 (q13.1 + 2))).bind fun v14 =>
    ((if 2 ≤ v14 then
        if q10 = 3 then
          some q13.2
        else
          if 13 ≤ v14 then
            some q13.2
          else
            (fX12_makesFlag v14 q13.2).bind fun q15 =>
            ((if q15.1 = 0 then
                some 0
              else
                some 1 : Option (Int))).bind fun q16 =>
            if q10 = q16 then
              some q15.2
            else
              (fX12_wrong 6 q15.2).bind fun q17 =>
              some q17
      else
        (fX12_wrong 1 q13.2).bind fun q18 =>
        some q18 : Option (Mem))).bind fun q19 =>
    ((if q1.1 < 0 then
        some (q19 132 14)
      else
        some q1.1 : Option (Int))).bind fun q20 =>
    (stI q19 139 (w32 (q7.1 + 1)) q20).bind fun M21 =>
    (stI M21 139 (w32 (q7.1 + 2)) v14).bind fun M22 =>
    ((if (M22 132 8) ≤ 0 then
        (ldI M22 135 (M22 132 7)).bind fun v23 =>
        some v23
      else
        some 0 : Option (Int))).bind fun q24 =>
    (stI M22 139 (w32 (q7.1 + 4)) q24).bind fun M25 =>
    ((if (M25 132 8) ≤ 0 then
        some 1
      else
        some 0 : Option (Int))).bind fun q26 =>
    (pI M25 132 7 (w32 ((M25 132 7) + q26))).bind fun M27 =>
    ((if v14 < 10 then
        if v14 = 14 then
          some q10
        else
          some 0
      else
        if 13 < v14 then
          if v14 = 14 then
            some q10
          else
            some 0
        else
          some 1 : Option (Int))).bind fun q28 =>
    (fX12_takeArg (w32 (q7.1 + 5)) q28 M27).bind fun q29 =>
    ((if v14 = 14 then
        some (q29 132 19, q29)
      else
        (fX12_makesFlag v14 q29).bind fun q30 =>
        if q30.1 = 0 then
          some (0, q30.2)
        else
          some (1, q30.2) : Option (Int × Mem))).bind fun q31 =>
    (fX12_argsOf v14 q31.2).bind fun q32 =>
    ((if q32.1 ≤ 1 then
        some q32.2
      else
        ((if v14 = 13 then
            some q10
          else
            some q28 : Option (Int))).bind fun q33 =>
        (fX12_takeArg (w32 (q7.1 + 7)) q33 q32.2).bind fun q34 =>
        some q34 : Option (Mem))).bind fun q35 =>
    ((if v14 = 13 then
        (some (q35 132 19)).bind fun v36 =>
        (fX12_takeArg (w32 (q7.1 + 9)) v36 q35).bind fun q37 =>
        some (v36, q37)
      else
        some (q31.1, q35) : Option (Int × Mem))).bind fun q38 =>
    ((if (q38.2 132 8) = 0 then
        if 0 ≤ q1.1 then
          some q38.2
        else
          (fX12_tells v8 q38.1 q38.2).bind fun q39 =>
          some q39
      else
        some q38.2 : Option (Mem))).bind fun q40 =>
    some q40
  else
    some q6

noncomputable def fX12_opens (p1 : Int) (p2 : Int) (M : Mem) : Option (Mem) :=
  (stI M 142 (M 132 18) p1).bind fun M1 =>
  (stI M1 143 (M1 132 18) (M1 132 14)).bind fun M2 =>
  (stI M2 144 (M2 132 18) (w32 ((idv p2 12) - 210))).bind fun M3 =>
  (pI M3 132 18 (w32 ((M3 132 18) + 1))).bind fun M4 =>
  some M4

noncomputable def fX12_readBlock (p1 : Int) (M : Mem) : Option (Mem) :=
  if (M 132 18) = 4 then
    (fX12_wrong 5 M).bind fun q15 =>
    some q15
  else
    ((if p1 = 0 then
        some 3
      else
        some 1 : Option (Int))).bind fun q1 =>
    (fX12_newLine q1 M).bind fun q2 =>
    (pI q2.2 132 7 (w32 ((q2.2 132 7) + 1))).bind fun M3 =>
    ((if p1 = 0 then
        (fX12_takeNumber 2 9 M3).bind fun q4 =>
        (stI q4.2 139 (w32 (q2.1 + 1)) q4.1).bind fun M5 =>
        some M5
      else
        (stI M3 139 (w32 (q2.1 + 1)) (M3 132 14)).bind fun M6 =>
        (ldI M6 138 414).bind fun v7 =>
        (stI M6 139 (w32 (q2.1 + 2)) v7).bind fun M8 =>
        (ldI M8 138 414).bind fun v9 =>
        (stI M8 138 414 (w32 (v9 + 1))).bind fun M10 =>
        (fX12_takeArg (w32 (q2.1 + 5)) 1 M10).bind fun q11 =>
        some q11 : Option (Mem))).bind fun q12 =>
    ((if p1 = 0 then
        some 3
      else
        some 1 : Option (Int))).bind fun q13 =>
    (fX12_opens q13 q2.1 q12).bind fun q14 =>
    some q14

noncomputable def fX12_readElse  (M : Mem) : Option (Mem) :=
  if (M 132 18) = 0 then
    (fX12_wrong 1 M).bind fun q1 =>
    some q1
  else
    (ldI M 142 (w32 ((M 132 18) - 1))).bind fun v2 =>
    if v2 = 1 then
      (stI M 142 (w32 ((M 132 18) - 1)) 2).bind fun M3 =>
      (ldI M3 143 (w32 ((M3 132 18) - 1))).bind fun v4 =>
      (pI M3 132 14 v4).bind fun M5 =>
      (pI M5 132 18 (w32 ((M5 132 18) - 1))).bind fun M6 =>
      (fX12_newLine 2 M6).bind fun q7 =>
      (ldI q7.2 144 (q7.2 132 18)).bind fun v8 =>
      (stI q7.2 139 (w32 (q7.1 + 7)) v8).bind fun M9 =>
      (ldI M9 144 (M9 132 18)).bind fun v10 =>
      (stI M9 139 (w32 ((w32 (12 * (w32 (210 + v10)))) + 7)) (w32 ((idv q7.1 12) - 210))).bind fun M11 =>
      (pI M11 132 18 (w32 ((M11 132 18) + 1))).bind fun M12 =>
      (pI M12 132 7 (w32 ((M12 132 7) + 1))).bind fun M13 =>
      some M13
    else
      (fX12_wrong 1 M).bind fun q14 =>
      some q14

noncomputable def fX12_readEnd  (M : Mem) : Option (Mem) :=
  if (M 132 18) = 0 then
    (fX12_wrong 1 M).bind fun q17 =>
    some q17
  else
    (pI M 132 18 (w32 ((M 132 18) - 1))).bind fun M1 =>
    (ldI M1 142 (M1 132 18)).bind fun v2 =>
    ((if v2 = 3 then
        some 1
      else
        some 0 : Option (Int))).bind fun q3 =>
    ((if q3 = 0 then
        (ldI M1 143 (M1 132 18)).bind fun v4 =>
        some v4
      else
        some (M1 132 14) : Option (Int))).bind fun q5 =>
    (pI M1 132 14 q5).bind fun M6 =>
    (fX12_newLine 4 M6).bind fun q7 =>
    (ldI q7.2 144 (q7.2 132 18)).bind fun v8 =>
    (some (w32 (12 * (w32 (210 + v8))))).bind fun v9 =>
    ((if q3 = 0 then
        (ldI q7.2 142 (q7.2 132 18)).bind fun v10 =>
        if v10 = 2 then
          some 2
        else
          some 0
      else
        some 1 : Option (Int))).bind fun q11 =>
    (stI q7.2 139 (w32 (q7.1 + 1)) q11).bind fun M12 =>
    (ldI M12 144 (M12 132 18)).bind fun v13 =>
    (stI M12 139 (w32 (q7.1 + 7)) v13).bind fun M14 =>
    (stI M14 139 (w32 (v9 + 9)) (w32 ((idv q7.1 12) - 210))).bind fun M15 =>
    (pI M15 132 7 (w32 ((M15 132 7) + 1))).bind fun M16 =>
    some M16

noncomputable def fX12_readShow  (M : Mem) : Option (Mem) :=
  (fX12_isWithinWhen M).bind fun q1 =>
  if q1.1 = 0 then
    (fX12_newLine 5 q1.2).bind fun q2 =>
    (pI q2.2 132 7 (w32 ((q2.2 132 7) + 1))).bind fun M3 =>
    (fX12_takeArg (w32 (q2.1 + 5)) 0 M3).bind fun q4 =>
    some q4
  else
    (fX12_wrong 1 q1.2).bind fun q5 =>
    some q5

noncomputable def fX12_readLine  (M : Mem) : Option (Mem) :=
  (fX12_wordHere 0 10 M).bind fun q1 =>
  ((if q1.1 = 0 then
      ((if q1.1 = 0 then
          some 1
        else
          some 0 : Option (Int))).bind fun q2 =>
      (fX12_readInput q2 q1.2).bind fun q3 =>
      some q3
    else
      if q1.1 = 1 then
        ((if q1.1 = 0 then
            some 1
          else
            some 0 : Option (Int))).bind fun q16 =>
        (fX12_readInput q16 q1.2).bind fun q17 =>
        some q17
      else
        if q1.1 = 2 then
          (fX12_readLimit 2 3 8 q1.2).bind fun q15 =>
          some q15
        else
          if q1.1 = 3 then
            (fX12_readLimit 3 4 16 q1.2).bind fun q14 =>
            some q14
          else
            if q1.1 = 5 then
              ((if q1.1 = 5 then
                  some 1
                else
                  some 0 : Option (Int))).bind fun q4 =>
              (fX12_readBlock q4 q1.2).bind fun q5 =>
              some q5
            else
              if q1.1 = 7 then
                ((if q1.1 = 5 then
                    some 1
                  else
                    some 0 : Option (Int))).bind fun q12 =>
                (fX12_readBlock q12 q1.2).bind fun q13 =>
                some q13
              else
                if q1.1 = 6 then
                  (fX12_readElse q1.2).bind fun q11 =>
                  some q11
                else
                  if q1.1 = 8 then
                    (fX12_readEnd q1.2).bind fun q10 =>
                    some q10
                  else
                    if q1.1 = 9 then
                      (fX12_readShow q1.2).bind fun q9 =>
                      some q9
                    else
                      (fX12_isName q1.2).bind fun q6 =>
                      if q6.1 = 0 then
                        (fX12_wrong 1 q6.2).bind fun q7 =>
                        some q7
                      else
                        (fX12_readIs q6.2).bind fun q8 =>
                        some q8 : Option (Mem))).bind fun q18 =>
  some q18

noncomputable def fX12_new1 (p1 : Int) (M : Mem) : Option (Int × Mem) :=
  some (w32 (448 + (w32 (4 * p1))), M)

noncomputable def fX12_bad (p1 : Int) (M : Mem) : Option (Mem) :=
  ((if (M 132 8) = 0 then
      (pI M 132 8 (w32 (5 + (w32 (16 * p1))))).bind fun M1 =>
      some M1
    else
      some M : Option (Mem))).bind fun q2 =>
  some q2

noncomputable def fX12_made_b1 (p1 : Int) (p2 : Int) (p3 : Int) (p4 : Int) (v1 : Int) (s2 : Int × Mem) : Option ((Int × Mem) ⊕ ((Mem) ⊕ (Int × Mem))) :=
  if v1 ≤ s2.1 then
    some (.inr (.inl s2.2))
  else
    (fX12_new1 s2.1 s2.2).bind fun q3 =>
    (ldI q3.2 138 q3.1).bind fun v4 =>
    if v4 = p1 then
      (ldI q3.2 138 (w32 (q3.1 + 1))).bind fun v5 =>
      if v5 = p2 then
        (ldI q3.2 138 (w32 (q3.1 + 2))).bind fun v6 =>
        if v6 = p3 then
          (ldI q3.2 138 (w32 (q3.1 + 3))).bind fun v7 =>
          if v7 = p4 then
            some (.inr (.inr (s2.1, q3.2)))
          else
            some (.inl (w32 (s2.1 + 1), q3.2))
        else
          some (.inl (w32 (s2.1 + 1), q3.2))
      else
        some (.inl (w32 (s2.1 + 1), q3.2))
    else
      some (.inl (w32 (s2.1 + 1), q3.2))

noncomputable def fX12_made (p1 : Int) (p2 : Int) (p3 : Int) (p4 : Int) (p5 : Int) (M : Mem) : Option (Int × Mem) :=
  (ldI M 138 420).bind fun v1 =>
  (lp (fX12_made_b1 p1 p2 p3 p4 v1) (0, M)).bind (Sum.elim (fun q8 =>
  if v1 = 64 then
    (fX12_bad p5 q8).bind fun q16 =>
    some (0, q16)
  else
    (fX12_new1 v1 q8).bind fun q9 =>
    (stI q9.2 138 q9.1 p1).bind fun M10 =>
    (stI M10 138 (w32 (q9.1 + 1)) p2).bind fun M11 =>
    (stI M11 138 (w32 (q9.1 + 2)) p3).bind fun M12 =>
    (stI M12 138 (w32 (q9.1 + 3)) p4).bind fun M13 =>
    (ldI M13 138 420).bind fun v14 =>
    (stI M13 138 420 (w32 (v14 + 1))).bind fun M15 =>
    some (v1, M15)) (fun r => some r))

noncomputable def fX12_closes_b1 (p1 : Int) (q4 : Int) (v2 : Int) (v6 : Int) (s7 : Int × Mem) : Option ((Int × Mem) ⊕ (Mem)) :=
  (ldI s7.2 139 (w32 (v6 + 1))).bind fun v8 =>
  if v8 ≤ s7.1 then
    some (.inr s7.2)
  else
    if (s7.2 132 8) = 0 then
      ((if q4 = 0 then
          (ldI s7.2 145 s7.1).bind fun v9 =>
          some v9
        else
          (ldI s7.2 147 (w32 (v2 + s7.1))).bind fun v10 =>
          some v10 : Option (Int))).bind fun q11 =>
      ((if q4 = 0 then
          (ldI s7.2 146 (w32 (v2 + s7.1))).bind fun v12 =>
          some v12
        else
          (ldI s7.2 145 s7.1).bind fun v13 =>
          some v13 : Option (Int))).bind fun q14 =>
      ((if q11 = q14 then
          some (q11, s7.2)
        else
          (ldI s7.2 139 (w32 (p1 + 11))).bind fun v15 =>
          (ldI s7.2 148 v15).bind fun v16 =>
          (ldI s7.2 139 (w32 (p1 + 3))).bind fun v17 =>
          (fX12_made 13 v16 q11 q14 v17 s7.2).bind fun q18 =>
          some (q18.1, q18.2) : Option (Int × Mem))).bind fun q19 =>
      (stI q19.2 145 s7.1 q19.1).bind fun M20 =>
      some (.inl (w32 (s7.1 + 1), M20))
    else
      some (.inr s7.2)

noncomputable def fX12_closes (p1 : Int) (M : Mem) : Option (Mem) :=
  (ldI M 139 (w32 (p1 + 11))).bind fun v1 =>
  (some (w32 (20 * v1))).bind fun v2 =>
  (ldI M 139 (w32 (p1 + 1))).bind fun v3 =>
  ((if v3 = 2 then
      some 1
    else
      some 0 : Option (Int))).bind fun q4 =>
  (ldI M 139 (w32 (p1 + 7))).bind fun v5 =>
  (some (w32 (12 * (w32 (210 + v5))))).bind fun v6 =>
  (lp (fX12_closes_b1 p1 q4 v2 v6) (0, M)).bind fun q21 =>
  some q21

noncomputable def fX12_moves_b1 (a : Nat) (b : Nat) (p1 : Int) (p2 : Int) (s1 : Int × Mem) : Option ((Int × Mem) ⊕ (Mem)) :=
  if 20 ≤ s1.1 then
    some (.inr s1.2)
  else
    (ldI s1.2 a (w32 (p1 + s1.1))).bind fun v2 =>
    (stI s1.2 b (w32 (p2 + s1.1)) v2).bind fun M3 =>
    some (.inl (w32 (s1.1 + 1), M3))

noncomputable def fX12_moves (a : Nat) (b : Nat) (p1 : Int) (p2 : Int) (M : Mem) : Option (Mem) :=
  (lp (fX12_moves_b1 a b p1 p2) (0, M)).bind fun q4 =>
  some q4

noncomputable def fX12_argValue (p1 : Int) (M : Mem) : Option (Int × Mem) :=
  (ldI M 139 p1).bind fun v1 =>
  ((if 0 ≤ v1 then
      (ldI M 139 p1).bind fun v2 =>
      (ldI M 139 (w32 (p1 + 1))).bind fun v3 =>
      (fX12_made 1 v2 (-1) (-1) v3 M).bind fun q4 =>
      some (q4.1, q4.2)
    else
      (ldI M 139 p1).bind fun v5 =>
      (ldI M 145 (w32 ((-1) - v5))).bind fun v6 =>
      some (v6, M) : Option (Int × Mem))).bind fun q7 =>
  some (q7.1, q7.2)

noncomputable def fX12_isUniformRead_b2 (q2_1 : Int) (q2_2 : Mem) (s7 : Int × Int) : Option ((Int × Int) ⊕ (Int)) :=
  if 4 ≤ s7.2 then
    some (.inr s7.1)
  else
    (ldI q2_2 138 q2_1).bind fun v8 =>
    if v8 ≤ 1 then
      some (.inr s7.1)
    else
      ((if s7.1 = 0 then
          some 0
        else
          (ldI q2_2 138 (w32 (q2_1 + s7.2))).bind fun v9 =>
          if v9 < 0 then
            some 1
          else
            (ldI q2_2 138 (w32 (q2_1 + s7.2))).bind fun v10 =>
            (ldZ q2_2 156 v10).bind fun v11 =>
            if v11 = 0 then
              some 0
            else
              some 1 : Option (Int))).bind fun q12 =>
      some (.inl (q12, w32 (s7.2 + 1)))

noncomputable def fX12_isUniformRead_b1 (p1 : Int) (s1 : Int × Mem) : Option ((Int × Mem) ⊕ (Mem)) :=
  if p1 < s1.1 then
    some (.inr s1.2)
  else
    (fX12_new1 s1.1 s1.2).bind fun q2 =>
    (ldI q2.2 138 q2.1).bind fun v3 =>
    ((if 0 < v3 then
        some 1
      else
        (ldI q2.2 138 (w32 (q2.1 + 1))).bind fun v4 =>
        (ldI q2.2 138 (w32 ((w32 (422 + (w32 (3 * v4)))) + 2))).bind fun v5 =>
        if v5 = 1 then
          some 1
        else
          some 0 : Option (Int))).bind fun q6 =>
    (lp (fX12_isUniformRead_b2 q2.1 q2.2) (q6, 1)).bind fun q13 =>
    (stZ q2.2 156 s1.1 q13).bind fun M14 =>
    some (.inl (w32 (s1.1 + 1), M14))

noncomputable def fX12_isUniformRead (p1 : Int) (M : Mem) : Option (Int × Mem) :=
  (lp (fX12_isUniformRead_b1 p1) (0, M)).bind fun q15 =>
  (ldZ q15 156 p1).bind fun v16 =>
  rz v16 q15

noncomputable def fX12_goesEitherWay (p1 : Int) (M : Mem) : Option (Int × Mem) :=
  ((if p1 = 2 then
      some 1
    else
      if p1 = 4 then
        some 1
      else
        if p1 = 5 then
          some 1
        else
          if p1 = 6 then
            some 1
          else
            if p1 < 9 then
              some 0
            else
              if 11 < p1 then
                some 0
              else
                some 1 : Option (Int))).bind fun q1 =>
  rz q1 M

noncomputable def fX12_opValue (p1 : Int) (M : Mem) : Option (Int × Mem) :=
  (ldI M 139 (w32 (p1 + 2))).bind fun v1 =>
  (fX12_argsOf v1 M).bind fun q2 =>
  (fX12_argValue (w32 (p1 + 5)) q2.2).bind fun q3 =>
  ((if q2.1 ≤ 1 then
      some ((-1), q3.2)
    else
      if (q3.2 132 8) = 0 then
        (fX12_argValue (w32 (p1 + 7)) q3.2).bind fun q4 =>
        some (q4.1, q4.2)
      else
        some ((-1), q3.2) : Option (Int × Mem))).bind fun q5 =>
  ((if q2.1 ≤ 2 then
      some ((-1), q5.2)
    else
      if (q5.2 132 8) = 0 then
        (fX12_argValue (w32 (p1 + 9)) q5.2).bind fun q6 =>
        some (q6.1, q6.2)
      else
        some ((-1), q5.2) : Option (Int × Mem))).bind fun q7 =>
  if (q7.2 132 8) ≤ 0 then
    ((if v1 = 14 then
        some true
      else
        if v1 = 13 then
          if q5.1 = q7.1 then
            some true
          else
            some false
        else
          some false : Option (Bool))).bind fun q8 =>
    if q8 = true then
      ((if v1 = 14 then
          some q3.1
        else
          some q5.1 : Option (Int))).bind fun q9 =>
      some (q9, q7.2)
    else
      (fX12_goesEitherWay v1 q7.2).bind fun q10 =>
      ((if q10.1 = 0 then
          some 0
        else
          if q3.1 ≤ q5.1 then
            some 0
          else
            some 1 : Option (Int))).bind fun q11 =>
      ((if q11 = 0 then
          some q3.1
        else
          some q5.1 : Option (Int))).bind fun q12 =>
      ((if q11 = 0 then
          some q5.1
        else
          some q3.1 : Option (Int))).bind fun q13 =>
      (ldI q10.2 139 (w32 (p1 + 4))).bind fun v14 =>
      (fX12_made v1 q12 q13 q7.1 v14 q10.2).bind fun q15 =>
      some (q15.1, q15.2)
  else
    some (0, q7.2)

noncomputable def fX12_works_b1  (s1 : Int × Mem) : Option ((Int × Mem) ⊕ (Mem)) :=
  (ldI s1.2 138 413).bind fun v2 =>
  if v2 ≤ s1.1 then
    some (.inr s1.2)
  else
    (fX12_made 0 s1.1 (-1) (-1) 0 s1.2).bind fun q3 =>
    some (.inl (w32 (s1.1 + 1), q3.2))

noncomputable def fX12_works_b2  (s5 : Int × Int × Mem) : Option ((Int × Int × Mem) ⊕ (Mem)) :=
  (ldI s5.2.2 138 412).bind fun v6 =>
  if v6 ≤ s5.2.1 then
    some (.inr s5.2.2)
  else
    if (s5.2.2 132 8) = 0 then
      (some (w32 (12 * (w32 (210 + s5.2.1))))).bind fun v7 =>
      (ldI s5.2.2 139 v7).bind fun v8 =>
      (ldI s5.2.2 139 (w32 (v7 + 11))).bind fun v9 =>
      ((if v8 = 0 then
          some 1
        else
          if v8 = 1 then
            some 1
          else
            if v8 = 3 then
              some 1
            else
              if v8 = 5 then
                some 1
              else
                some 0 : Option (Int))).bind fun q10 =>
      (some (w32 (s5.1 + q10))).bind fun v11 =>
      ((if 200 < v11 then
          some true
        else
          if v8 = 5 then
            (ldI s5.2.2 138 421).bind fun v12 =>
            if v12 = 8 then
              some true
            else
              some false
          else
            some false : Option (Bool))).bind fun q13 =>
      ((if q13 = true then
          (ldI s5.2.2 139 (w32 (v7 + 3))).bind fun v14 =>
          (fX12_bad v14 s5.2.2).bind fun q15 =>
          some (w32 (s5.2.1 + 1), q15)
        else
          if v8 = 6 then
            (ldI s5.2.2 139 (w32 (v7 + 1))).bind fun v44 =>
            (ldI s5.2.2 139 (w32 (v7 + 2))).bind fun v45 =>
            (stI s5.2.2 145 v44 v45).bind fun M46 =>
            some (w32 (s5.2.1 + 1), M46)
          else
            if v8 = 0 then
              (ldI s5.2.2 139 (w32 (v7 + 1))).bind fun v41 =>
              (fX12_opValue v7 s5.2.2).bind fun q42 =>
              (stI q42.2 145 v41 q42.1).bind fun M43 =>
              some (w32 (s5.2.1 + 1), M43)
            else
              if v8 = 5 then
                (ldI s5.2.2 138 421).bind fun v36 =>
                (fX12_argValue (w32 (v7 + 5)) s5.2.2).bind fun q37 =>
                (stI q37.2 138 (w32 (440 + v36)) q37.1).bind fun M38 =>
                (ldI M38 138 421).bind fun v39 =>
                (stI M38 138 421 (w32 (v39 + 1))).bind fun M40 =>
                some (w32 (s5.2.1 + 1), M40)
              else
                if v8 = 1 then
                  (fX12_argValue (w32 (v7 + 5)) s5.2.2).bind fun q27 =>
                  (stI q27.2 148 v9 q27.1).bind fun M28 =>
                  (ldI M28 148 v9).bind fun v29 =>
                  (fX12_isUniformRead v29 M28).bind fun q30 =>
                  (ldI q30.2 139 (w32 (v7 + 2))).bind fun v31 =>
                  (ldI q30.2 138 (w32 (704 + v31))).bind fun v32 =>
                  ((if q30.1 = 0 then
                      some 1
                    else
                      some 0 : Option (Int))).bind fun q33 =>
                  (stI q30.2 138 (w32 (704 + v31)) (ior v32 q33)).bind fun M34 =>
                  (fX12_moves 145 146 0 (w32 (20 * v9)) M34).bind fun q35 =>
                  some (w32 (s5.2.1 + 1), q35)
                else
                  if v8 = 2 then
                    (fX12_moves 145 147 0 (w32 (20 * v9)) s5.2.2).bind fun q25 =>
                    (fX12_moves 146 145 (w32 (20 * v9)) 0 q25).bind fun q26 =>
                    some (w32 (s5.2.1 + 1), q26)
                  else
                    if v8 = 3 then
                      (ldI s5.2.2 139 (w32 (v7 + 1))).bind fun v23 =>
                      (stI s5.2.2 149 v9 v23).bind fun M24 =>
                      some (w32 (s5.2.1 + 1), M24)
                    else
                      (ldI s5.2.2 139 (w32 (v7 + 1))).bind fun v16 =>
                      if v16 = 1 then
                        (ldI s5.2.2 149 v9).bind fun v17 =>
                        (stI s5.2.2 149 v9 (w32 (v17 - 1))).bind fun M18 =>
                        (ldI M18 149 v9).bind fun v19 =>
                        ((if v19 ≤ 0 then
                            some (w32 (s5.2.1 + 1))
                          else
                            (ldI M18 139 (w32 (v7 + 7))).bind fun v20 =>
                            some (w32 (v20 + 1)) : Option (Int))).bind fun q21 =>
                        some (q21, M18)
                      else
                        (fX12_closes v7 s5.2.2).bind fun q22 =>
                        some (w32 (s5.2.1 + 1), q22) : Option (Int × Mem))).bind fun q47 =>
      some (.inl (v11, q47.1, q47.2))
    else
      some (.inr s5.2.2)

noncomputable def fX12_works  (M : Mem) : Option (Mem) :=
  (lp (fX12_works_b1) (0, M)).bind fun q4 =>
  (lp (fX12_works_b2) (0, 0, q4)).bind fun q48 =>
  some q48

noncomputable def fX12_inputs  (M : Mem) : Option (Int × Mem) :=
  (ldI M 138 1).bind fun v1 =>
  some (v1, M)

noncomputable def fX12_shader_b1  (s6 : Mem) : Option ((Mem) ⊕ (Mem)) :=
  if (s6 132 8) = 0 then
    (ldI s6 134 (s6 132 7)).bind fun v7 =>
    if v7 = 0 then
      some (.inr s6)
    else
      (fX12_readLine s6).bind fun q8 =>
      (fX12_takeEnd q8).bind fun q9 =>
      some (.inl q9)
  else
    some (.inr s6)

noncomputable def fX12_shader_b2  (s16 : Int × Mem) : Option ((Int × Mem) ⊕ (Mem)) :=
  if 412 ≤ s16.1 then
    some (.inr s16.2)
  else
    (ldI s16.2 138 (w32 (412 + s16.1))).bind fun v17 =>
    (stI s16.2 138 s16.1 v17).bind fun M18 =>
    some (.inl (w32 (s16.1 + 1), M18))

noncomputable def fX12_shader_b3  (s20 : Int × Mem) : Option ((Int × Mem) ⊕ (Mem)) :=
  (ldI s20.2 138 0).bind fun v21 =>
  if (w32 (12 * v21)) ≤ s20.1 then
    some (.inr s20.2)
  else
    (ldI s20.2 139 (w32 (2520 + s20.1))).bind fun v22 =>
    (stI s20.2 139 s20.1 v22).bind fun M23 =>
    some (.inl (w32 (s20.1 + 1), M23))

noncomputable def fX12_shader_b5 (s25_1 : Int) (s31 : Int × Mem) : Option ((Int × Mem) ⊕ (Mem)) :=
  if 4 ≤ s31.1 then
    some (.inr s31.2)
  else
    (ldI s31.2 150 (w32 (2 * s25_1))).bind fun v32 =>
    (stI s31.2 151 (w32 ((w32 (4 * s25_1)) + s31.1)) v32).bind fun M33 =>
    some (.inl (w32 (s31.1 + 1), M33))

noncomputable def fX12_shader_b4  (s25 : Int × Mem) : Option ((Int × Mem) ⊕ (Mem)) :=
  (fX12_inputs s25.2).bind fun q26 =>
  if q26.1 ≤ s25.1 then
    some (.inr q26.2)
  else
    (ldI q26.2 138 (w32 (10 + (w32 (3 * s25.1))))).bind fun v27 =>
    (stI q26.2 150 (w32 (2 * s25.1)) v27).bind fun M28 =>
    (ldI M28 138 (w32 ((w32 (10 + (w32 (3 * s25.1)))) + 1))).bind fun v29 =>
    (stI M28 150 (w32 ((w32 (2 * s25.1)) + 1)) v29).bind fun M30 =>
    (lp (fX12_shader_b5 s25.1) (0, M30)).bind fun q34 =>
    some (.inl (w32 (s25.1 + 1), q34))

noncomputable def fX12_shader  (M : Mem) : Option (Int × Mem) :=
  (pI M 132 0 0).bind fun M1 =>
  (fX12_cutAll M1).bind fun q2 =>
  (fX12_clears 412 q2).bind fun q3 =>
  (pI q3 132 14 0).bind fun M4 =>
  (pI M4 132 18 0).bind fun M5 =>
  (lp (fX12_shader_b1) M5).bind fun q10 =>
  ((if (q10 132 18) ≤ 0 then
      some q10
    else
      (fX12_wrong 1 q10).bind fun q11 =>
      some q11 : Option (Mem))).bind fun q12 =>
  (stI q12 138 417 (q12 132 14)).bind fun M13 =>
  ((if (M13 132 8) = 0 then
      (fX12_works M13).bind fun q14 =>
      some q14
    else
      some M13 : Option (Mem))).bind fun q15 =>
  if (q15 132 8) ≤ 0 then
    (lp (fX12_shader_b2) (0, q15)).bind fun q19 =>
    (lp (fX12_shader_b3) (0, q19)).bind fun q24 =>
    (lp (fX12_shader_b4) (0, q24)).bind fun q35 =>
    some (0, q35)
  else
    some (q15 132 8, q15)

noncomputable def fX12_values  (M : Mem) : Option (Int × Mem) :=
  (ldI M 138 8).bind fun v1 =>
  some (v1, M)

noncomputable def fX12_howOf (p1 : Int) (M : Mem) : Option (Int × Mem) :=
  (ldI M 138 (w32 (36 + (w32 (4 * p1))))).bind fun v1 =>
  some (v1, M)

noncomputable def fX12_argOf (p1 : Int) (p2 : Int) (M : Mem) : Option (Int × Mem) :=
  (ldI M 138 (w32 ((w32 ((w32 (36 + (w32 (4 * p1)))) + 1)) + p2))).bind fun v1 =>
  some (v1, M)

noncomputable def fX12_isInput (p1 : Int) (M : Mem) : Option (Int × Mem) :=
  ((if p1 < 0 then
      some (0, M)
    else
      (fX12_inputs M).bind fun q1 =>
      if q1.1 ≤ p1 then
        some (0, q1.2)
      else
        some (1, q1.2) : Option (Int × Mem))).bind fun q2 =>
  rz q2.1 q2.2

noncomputable def fX12_isValue (p1 : Int) (M : Mem) : Option (Int × Mem) :=
  ((if p1 < 0 then
      some (0, M)
    else
      (fX12_values M).bind fun q1 =>
      if q1.1 ≤ p1 then
        some (0, q1.2)
      else
        some (1, q1.2) : Option (Int × Mem))).bind fun q2 =>
  rz q2.1 q2.2

noncomputable def fX12_isLane (p1 : Int) (M : Mem) : Option (Int × Mem) :=
  (fX12_within p1 0 3 M).bind fun q1 =>
  rz q1.1 q1.2

noncomputable def fX12_isRange (p1 : Int) (p2 : Int) (M : Mem) : Option (Int × Mem) :=
  (fX12_within p1 0 999 M).bind fun q1 =>
  ((if q1.1 = 0 then
      some (0, q1.2)
    else
      (fX12_within p2 p1 999 q1.2).bind fun q2 =>
      if q2.1 = 0 then
        some (0, q2.2)
      else
        some (1, q2.2) : Option (Int × Mem))).bind fun q3 =>
  rz q3.1 q3.2

noncomputable def fX12_set_b1 (p1 : Int) (p2 : Int) (p3 : Int) (s8 : Int × Mem) : Option ((Int × Mem) ⊕ (Mem)) :=
  if 4 ≤ s8.1 then
    some (.inr s8.2)
  else
    ((if s8.1 = p2 then
        some 1
      else
        (ldI s8.2 138 (w32 ((w32 (10 + (w32 (3 * p1)))) + 2))).bind fun v9 =>
        if v9 = 1 then
          some 1
        else
          some 0 : Option (Int))).bind fun q10 =>
    ((if q10 = 0 then
        (ldI s8.2 151 (w32 ((w32 (4 * p1)) + s8.1))).bind fun v11 =>
        some v11
      else
        some p3 : Option (Int))).bind fun q12 =>
    (stI s8.2 151 (w32 ((w32 (4 * p1)) + s8.1)) q12).bind fun M13 =>
    some (.inl (w32 (s8.1 + 1), M13))

noncomputable def fX12_set (p1 : Int) (p2 : Int) (p3 : Int) (M : Mem) : Option (Int × Mem) :=
  (pI M 132 0 0).bind fun M1 =>
  (fX12_isInput p1 M1).bind fun q2 =>
  if q2.1 = 0 then
    some ((-1), q2.2)
  else
    (fX12_isLane p2 q2.2).bind fun q3 =>
    if q3.1 = 0 then
      some ((-1), q3.2)
    else
      (ldI q3.2 150 (w32 (2 * p1))).bind fun v4 =>
      (ldI q3.2 150 (w32 ((w32 (2 * p1)) + 1))).bind fun v5 =>
      (fX12_within p3 v4 v5 q3.2).bind fun q6 =>
      if q6.1 = 0 then
        some ((-1), q6.2)
      else
        (ldI q6.2 151 (w32 ((w32 (4 * p1)) + p2))).bind fun v7 =>
        (lp (fX12_set_b1 p1 p2 p3) (0, q6.2)).bind fun q14 =>
        some (v7, q14)

noncomputable def fX12_cell (p1 : Int) (p2 : Int) (M : Mem) : Option (Int × Mem) :=
  (pI M 132 0 0).bind fun M1 =>
  (fX12_within p1 0 15 M1).bind fun q2 =>
  if q2.1 = 0 then
    some ((-1), q2.2)
  else
    (fX12_within p2 0 999 q2.2).bind fun q3 =>
    if q3.1 = 0 then
      some ((-1), q3.2)
    else
      (ldI q3.2 152 p1).bind fun v4 =>
      (stI q3.2 152 p1 p2).bind fun M5 =>
      some (v4, M5)

noncomputable def fX12_rule (p1 : Int) (M : Mem) : Option (Int × Mem) :=
  (pI M 132 0 0).bind fun M1 =>
  (fX12_within p1 0 3 M1).bind fun q2 =>
  if q2.1 = 0 then
    some ((-1), q2.2)
  else
    (some (q2.2 132 28)).bind fun v3 =>
    (pI q2.2 132 28 p1).bind fun M4 =>
    some (v3, M4)

noncomputable def fX12_narrow_b1 (p1 : Int) (p2 : Int) (p3 : Int) (s5 : Int × Int × Mem) : Option ((Int × Int × Mem) ⊕ (Int × Mem)) :=
  if s5.1 = 0 then
    some (.inr (s5.1, s5.2.2))
  else
    if 4 ≤ s5.2.1 then
      some (.inr (s5.1, s5.2.2))
    else
      (ldI s5.2.2 151 (w32 ((w32 (4 * p1)) + s5.2.1))).bind fun v6 =>
      (fX12_within v6 p2 p3 s5.2.2).bind fun q7 =>
      some (.inl (q7.1, w32 (s5.2.1 + 1), q7.2))

noncomputable def fX12_narrow (p1 : Int) (p2 : Int) (p3 : Int) (M : Mem) : Option (Int × Mem) :=
  (pI M 132 0 0).bind fun M1 =>
  (fX12_isInput p1 M1).bind fun q2 =>
  ((if q2.1 = 0 then
      some (0, q2.2)
    else
      (fX12_isRange p2 p3 q2.2).bind fun q3 =>
      if q3.1 = 0 then
        some (0, q3.2)
      else
        some (1, q3.2) : Option (Int × Mem))).bind fun q4 =>
  (lp (fX12_narrow_b1 p1 p2 p3) (q4.1, 0, q4.2)).bind fun q8 =>
  ((if q8.1 = 0 then
      some q8.2
    else
      (stI q8.2 150 (w32 (2 * p1)) p2).bind fun M9 =>
      (stI M9 150 (w32 ((w32 (2 * p1)) + 1)) p3).bind fun M10 =>
      some M10 : Option (Mem))).bind fun q11 =>
  rz q8.1 q11

noncomputable def fX12_input (p1 : Int) (p2 : Int) (M : Mem) : Option (Int × Mem) :=
  (pI M 132 0 0).bind fun M1 =>
  (fX12_isInput p1 M1).bind fun q2 =>
  if q2.1 = 0 then
    some ((-1), q2.2)
  else
    (fX12_within p2 0 7 q2.2).bind fun q3 =>
    if q3.1 = 0 then
      some ((-1), q3.2)
    else
      ((if p2 = 0 then
          some p1
        else
          if 3 ≤ p2 then
            if p2 = 3 then
              (ldI q3.2 138 (w32 ((w32 (10 + (w32 (3 * p1)))) + 2))).bind fun v5 =>
              some v5
            else
              (ldI q3.2 151 (w32 ((w32 ((w32 (4 * p1)) + p2)) - 4))).bind fun v4 =>
              some v4
          else
            (ldI q3.2 150 (w32 ((w32 ((w32 (2 * p1)) + p2)) - 1))).bind fun v6 =>
            some v6 : Option (Int))).bind fun q7 =>
      some (q7, q3.2)

noncomputable def fX12_held (p1 : Int) (M : Mem) : Option (Int × Mem) :=
  ((if 0 ≤ (lc p1 (-99999)) then
      if (lc p1 99999) ≤ 0 then
        some (w32 p1)
      else
        some 99999
    else
      some (-99999) : Option (Int))).bind fun q1 =>
  some (q1, M)

noncomputable def fX12_lesser (p1 : Int) (p2 : Int) (M : Mem) : Option (Int × Mem) :=
  ((if p2 ≤ p1 then
      some p2
    else
      some p1 : Option (Int))).bind fun q1 =>
  some (q1, M)

noncomputable def fX12_greater (p1 : Int) (p2 : Int) (M : Mem) : Option (Int × Mem) :=
  ((if p1 ≤ p2 then
      some p2
    else
      some p1 : Option (Int))).bind fun q1 =>
  some (q1, M)

noncomputable def fX12_worked (p1 : Int) (p2 : Int) (p3 : Int) (p4 : Int) (M : Mem) : Option (Int × Mem) :=
  if p1 = 2 then
    (fX12_held (w64 (p2 + p3)) M).bind fun q1 =>
    some (q1.1, q1.2)
  else if p1 = 3 then
    (fX12_held (w64 (p2 - p3)) M).bind fun q2 =>
    some (q2.1, q2.2)
  else if p1 = 4 then
    (fX12_held (w64 (p2 * p3)) M).bind fun q3 =>
    some (q3.1, q3.2)
  else if p1 = 5 ∨ p1 = 10 then
    (fX12_lesser p2 p3 M).bind fun q4 =>
    some (q4.1, q4.2)
  else if p1 = 6 ∨ p1 = 11 then
    (fX12_greater p2 p3 M).bind fun q5 =>
    some (q5.1, q5.2)
  else if p1 = 7 then
    (ldI M 152 (iand p2 15)).bind fun v6 =>
    some (v6, M)
  else if p1 = 8 then
    ((if p3 ≤ p2 then
        some 0
      else
        some 1 : Option (Int))).bind fun q7 =>
    some (q7, M)
  else if p1 = 9 then
    ((if p2 = p3 then
        some 1
      else
        some 0 : Option (Int))).bind fun q8 =>
    some (q8, M)
  else if p1 = 12 then
    some (w32 (1 - p2), M)
  else 
    ((if p2 = 1 then
        some p3
      else
        some p4 : Option (Int))).bind fun q9 =>
    some (q9, M)

noncomputable def fX12_numberOf (p1 : Int) (p2 : Int) (M : Mem) : Option (Int × Mem) :=
  (fX12_argOf p1 p2 M).bind fun q1 =>
  ((if 0 ≤ q1.1 then
      (fX12_argOf p1 p2 q1.2).bind fun q2 =>
      (ldI q2.2 157 q2.1).bind fun v3 =>
      some (v3, q2.2)
    else
      some (0, q1.2) : Option (Int × Mem))).bind fun q4 =>
  some (q4.1, q4.2)

noncomputable def fX12_numbersIn_b1 (p1 : Int) (s1 : Int × Mem) : Option ((Int × Mem) ⊕ (Mem)) :=
  (fX12_values s1.2).bind fun q2 =>
  if q2.1 ≤ s1.1 then
    some (.inr q2.2)
  else
    (fX12_howOf s1.1 q2.2).bind fun q3 =>
    ((if 2 ≤ q3.1 then
        (fX12_numberOf s1.1 0 q3.2).bind fun q4 =>
        (fX12_numberOf s1.1 1 q4.2).bind fun q5 =>
        (fX12_numberOf s1.1 2 q5.2).bind fun q6 =>
        (fX12_worked q3.1 q4.1 q5.1 q6.1 q6.2).bind fun q7 =>
        (stI q7.2 157 s1.1 q7.1).bind fun M8 =>
        some M8
      else
        ((if q3.1 = 0 then
            (fX12_argOf s1.1 0 q3.2).bind fun q10 =>
            (ldI q10.2 151 (w32 ((w32 (4 * q10.1)) + p1))).bind fun v11 =>
            some (v11, q10.2)
          else
            (fX12_argOf s1.1 0 q3.2).bind fun q9 =>
            some (q9.1, q9.2) : Option (Int × Mem))).bind fun q12 =>
        (stI q12.2 157 s1.1 q12.1).bind fun M13 =>
        some M13 : Option (Mem))).bind fun q14 =>
    some (.inl (w32 (s1.1 + 1), q14))

noncomputable def fX12_numbersIn (p1 : Int) (M : Mem) : Option (Mem) :=
  (lp (fX12_numbersIn_b1 p1) (0, M)).bind fun q15 =>
  some q15

noncomputable def fX12_rangeIs (p1 : Int) (p2 : Int) (p3 : Int) (M : Mem) : Option (Mem) :=
  (stI M 153 p1 p2).bind fun M1 =>
  (stI M1 154 p1 p3).bind fun M2 =>
  some M2

noncomputable def fX12_lowOf (p1 : Int) (p2 : Int) (M : Mem) : Option (Int × Mem) :=
  (fX12_argOf p1 p2 M).bind fun q1 =>
  ((if 0 ≤ q1.1 then
      (fX12_argOf p1 p2 q1.2).bind fun q2 =>
      (ldI q2.2 153 q2.1).bind fun v3 =>
      some (v3, q2.2)
    else
      some (0, q1.2) : Option (Int × Mem))).bind fun q4 =>
  some (q4.1, q4.2)

noncomputable def fX12_highOf (p1 : Int) (p2 : Int) (M : Mem) : Option (Int × Mem) :=
  (fX12_argOf p1 p2 M).bind fun q1 =>
  ((if 0 ≤ q1.1 then
      (fX12_argOf p1 p2 q1.2).bind fun q2 =>
      (ldI q2.2 154 q2.1).bind fun v3 =>
      some (v3, q2.2)
    else
      some (0, q1.2) : Option (Int × Mem))).bind fun q4 =>
  some (q4.1, q4.2)

noncomputable def fX12_timesRange_b1 (p1 : Int) (s1 : Int × Int × Int × Mem) : Option ((Int × Int × Int × Mem) ⊕ (Int × Int × Mem)) :=
  if 4 ≤ s1.2.2.1 then
    some (.inr (s1.1, s1.2.1, s1.2.2.2))
  else
    ((if 2 ≤ s1.2.2.1 then
        (fX12_highOf p1 0 s1.2.2.2).bind fun q2 =>
        some (q2.1, q2.2)
      else
        (fX12_lowOf p1 0 s1.2.2.2).bind fun q3 =>
        some (q3.1, q3.2) : Option (Int × Mem))).bind fun q4 =>
    ((if (irm s1.2.2.1 2) = 0 then
        (fX12_lowOf p1 1 q4.2).bind fun q6 =>
        some (q6.1, q6.2)
      else
        (fX12_highOf p1 1 q4.2).bind fun q5 =>
        some (q5.1, q5.2) : Option (Int × Mem))).bind fun q7 =>
    (fX12_held (w64 (q4.1 * q7.1)) q7.2).bind fun q8 =>
    (fX12_lesser s1.1 q8.1 q8.2).bind fun q9 =>
    (fX12_greater s1.2.1 q8.1 q9.2).bind fun q10 =>
    some (.inl (q9.1, q10.1, w32 (s1.2.2.1 + 1), q10.2))

noncomputable def fX12_timesRange (p1 : Int) (M : Mem) : Option (Mem) :=
  (lp (fX12_timesRange_b1 p1) (99999, (-99999), 0, M)).bind fun q11 =>
  (fX12_rangeIs p1 q11.1 q11.2.1 q11.2.2).bind fun q12 =>
  some q12

noncomputable def fX12_pickRange (p1 : Int) (M : Mem) : Option (Mem) :=
  (fX12_highOf p1 0 M).bind fun q1 =>
  ((if q1.1 = 1 then
      some 1
    else
      some 0 : Option (Int))).bind fun q2 =>
  (fX12_lowOf p1 0 q1.2).bind fun q3 =>
  ((if q3.1 = 0 then
      some 1
    else
      some 0 : Option (Int))).bind fun q4 =>
  ((if q2 = 0 then
      some true
    else
      if q4 = 0 then
        some true
      else
        some false : Option (Bool))).bind fun q5 =>
  ((if q5 = true then
      if q2 = 0 then
        (fX12_lowOf p1 2 q3.2).bind fun q6 =>
        some (q6.1, q6.2)
      else
        (fX12_lowOf p1 1 q3.2).bind fun q7 =>
        some (q7.1, q7.2)
    else
      (fX12_lowOf p1 1 q3.2).bind fun q8 =>
      (fX12_lowOf p1 2 q8.2).bind fun q9 =>
      (fX12_lesser q8.1 q9.1 q9.2).bind fun q10 =>
      some (q10.1, q10.2) : Option (Int × Mem))).bind fun q11 =>
  ((if q2 = 0 then
      some true
    else
      if q4 = 0 then
        some true
      else
        some false : Option (Bool))).bind fun q12 =>
  ((if q12 = true then
      if q2 = 0 then
        (fX12_highOf p1 2 q11.2).bind fun q13 =>
        some (q13.1, q13.2)
      else
        (fX12_highOf p1 1 q11.2).bind fun q14 =>
        some (q14.1, q14.2)
    else
      (fX12_highOf p1 1 q11.2).bind fun q15 =>
      (fX12_highOf p1 2 q15.2).bind fun q16 =>
      (fX12_greater q15.1 q16.1 q16.2).bind fun q17 =>
      some (q17.1, q17.2) : Option (Int × Mem))).bind fun q18 =>
  (fX12_rangeIs p1 q11.1 q18.1 q18.2).bind fun q19 =>
  some q19

noncomputable def fX12_rangeOf (p1 : Int) (M : Mem) : Option (Mem) :=
  (fX12_lowOf p1 0 M).bind fun q1 =>
  (fX12_lowOf p1 1 q1.2).bind fun q2 =>
  (fX12_highOf p1 0 q2.2).bind fun q3 =>
  (fX12_highOf p1 1 q3.2).bind fun q4 =>
  ((if q1.1 = q3.1 then
      if q2.1 = q4.1 then
        if q1.1 = q2.1 then
          some 1
        else
          some 0
      else
        some 0
    else
      some 0 : Option (Int))).bind fun q5 =>
  (fX12_howOf p1 q4.2).bind fun q6 =>
  ((if q6.1 = 2 then
      (fX12_held (w64 (q1.1 + q2.1)) q6.2).bind fun q7 =>
      (fX12_held (w64 (q3.1 + q4.1)) q7.2).bind fun q8 =>
      (fX12_rangeIs p1 q7.1 q8.1 q8.2).bind fun q9 =>
      some q9
    else if q6.1 = 3 then
      (fX12_held (w64 (q1.1 - q4.1)) q6.2).bind fun q10 =>
      (fX12_held (w64 (q3.1 - q2.1)) q10.2).bind fun q11 =>
      (fX12_rangeIs p1 q10.1 q11.1 q11.2).bind fun q12 =>
      some q12
    else if q6.1 = 4 then
      (fX12_timesRange p1 q6.2).bind fun q13 =>
      some q13
    else if q6.1 = 5 ∨ q6.1 = 10 then
      (fX12_lesser q1.1 q2.1 q6.2).bind fun q14 =>
      (fX12_lesser q3.1 q4.1 q14.2).bind fun q15 =>
      (fX12_rangeIs p1 q14.1 q15.1 q15.2).bind fun q16 =>
      some q16
    else if q6.1 = 6 ∨ q6.1 = 11 then
      (fX12_greater q1.1 q2.1 q6.2).bind fun q17 =>
      (fX12_greater q3.1 q4.1 q17.2).bind fun q18 =>
      (fX12_rangeIs p1 q17.1 q18.1 q18.2).bind fun q19 =>
      some q19
    else if q6.1 = 7 then
      (fX12_rangeIs p1 0 999 q6.2).bind fun q20 =>
      some q20
    else if q6.1 = 8 then
      ((if q2.1 ≤ q3.1 then
          some 0
        else
          some 1 : Option (Int))).bind fun q21 =>
      ((if q1.1 < q4.1 then
          some 1
        else
          some 0 : Option (Int))).bind fun q22 =>
      (fX12_rangeIs p1 q21 q22 q6.2).bind fun q23 =>
      some q23
    else if q6.1 = 9 then
      ((if q5 = 0 then
          some 0
        else
          some 1 : Option (Int))).bind fun q24 =>
      ((if q3.1 < q2.1 then
          some 0
        else
          if q1.1 ≤ q4.1 then
            some 1
          else
            some 0 : Option (Int))).bind fun q25 =>
      (fX12_rangeIs p1 q24 q25 q6.2).bind fun q26 =>
      some q26
    else if q6.1 = 12 then
      (fX12_rangeIs p1 (w32 (1 - q3.1)) (w32 (1 - q1.1)) q6.2).bind fun q27 =>
      some q27
    else 
      (fX12_pickRange p1 q6.2).bind fun q28 =>
      some q28 : Option (Mem))).bind fun q29 =>
  some q29

noncomputable def fX12_rangesWith_b2 (q3_1 : Int) (s1_1 : Int) (s19 : Int × Int × Mem) : Option ((Int × Int × Mem) ⊕ (Int × Mem)) :=
  if 3 ≤ s19.2.1 then
    some (.inr (s19.1, s19.2.2))
  else
    if q3_1 < 2 then
      some (.inr (s19.1, s19.2.2))
    else
      ((if s19.1 = 0 then
          some (0, s19.2.2)
        else
          (fX12_argOf s1_1 s19.2.1 s19.2.2).bind fun q20 =>
          if q20.1 < 0 then
            some (1, q20.2)
          else
            (fX12_argOf s1_1 s19.2.1 q20.2).bind fun q21 =>
            (ldZ q21.2 156 q21.1).bind fun v22 =>
            if v22 = 0 then
              some (0, q21.2)
            else
              some (1, q21.2) : Option (Int × Mem))).bind fun q23 =>
      some (.inl (q23.1, w32 (s19.2.1 + 1), q23.2))

noncomputable def fX12_rangesWith_b1 (p1 : Int) (p2 : Int) (p3 : Int) (s1 : Int × Mem) : Option ((Int × Mem) ⊕ (Mem)) :=
  (fX12_values s1.2).bind fun q2 =>
  if q2.1 ≤ s1.1 then
    some (.inr q2.2)
  else
    (fX12_howOf s1.1 q2.2).bind fun q3 =>
    (fX12_argOf s1.1 0 q3.2).bind fun q4 =>
    ((if q3.1 = 0 then
        ((if q4.1 = p1 then
            some p2
          else
            (ldI q4.2 150 (w32 (2 * q4.1))).bind fun v6 =>
            some v6 : Option (Int))).bind fun q7 =>
        ((if q4.1 = p1 then
            some p3
          else
            (ldI q4.2 150 (w32 ((w32 (2 * q4.1)) + 1))).bind fun v8 =>
            some v8 : Option (Int))).bind fun q9 =>
        (fX12_rangeIs s1.1 q7 q9 q4.2).bind fun q10 =>
        some q10
      else
        if q3.1 = 1 then
          (fX12_rangeIs s1.1 q4.1 q4.1 q4.2).bind fun q5 =>
          some q5
        else
          some q4.2 : Option (Mem))).bind fun q11 =>
    ((if q3.1 = 13 then
        (fX12_argOf s1.1 1 q11).bind fun q13 =>
        (ldZ q13.2 155 q13.1).bind fun v14 =>
        some (v14, q13.2)
      else
        (fX12_makesFlag q3.1 q11).bind fun q12 =>
        some (q12.1, q12.2) : Option (Int × Mem))).bind fun q15 =>
    (stZ q15.2 155 s1.1 q15.1).bind fun M16 =>
    ((if 0 < q3.1 then
        some 1
      else
        (ldI M16 138 (w32 ((w32 (10 + (w32 (3 * q4.1)))) + 2))).bind fun v17 =>
        if v17 = 1 then
          some 1
        else
          some 0 : Option (Int))).bind fun q18 =>
    (lp (fX12_rangesWith_b2 q3.1 s1.1) (q18, 0, M16)).bind fun q24 =>
    (stZ q24.2 156 s1.1 q24.1).bind fun M25 =>
    ((if q3.1 < 2 then
        some M25
      else
        (fX12_rangeOf s1.1 M25).bind fun q26 =>
        some q26 : Option (Mem))).bind fun q27 =>
    some (.inl (w32 (s1.1 + 1), q27))

noncomputable def fX12_rangesWith (p1 : Int) (p2 : Int) (p3 : Int) (M : Mem) : Option (Mem) :=
  (lp (fX12_rangesWith_b1 p1 p2 p3) (0, M)).bind fun q28 =>
  some q28

noncomputable def fX12_isKnown (p1 : Int) (M : Mem) : Option (Int × Mem) :=
  (ldI M 153 p1).bind fun v1 =>
  (ldI M 154 p1).bind fun v2 =>
  ((if v1 = v2 then
      some 1
    else
      some 0 : Option (Int))).bind fun q3 =>
  rz q3 M

noncomputable def fX12_isLow (p1 : Int) (M : Mem) : Option (Int × Mem) :=
  (ldZ M 155 p1).bind fun v1 =>
  ((if v1 = 0 then
      (ldI M 153 p1).bind fun v2 =>
      if v2 < (-512) then
        some 0
      else
        (ldI M 154 p1).bind fun v3 =>
        if 511 < v3 then
          some 0
        else
          some 1
    else
      some 0 : Option (Int))).bind fun q4 =>
  rz q4 M

noncomputable def fX12_widthOf (p1 : Int) (M : Mem) : Option (Int × Mem) :=
  (ldZ M 155 p1).bind fun v1 =>
  ((if v1 = 0 then
      (fX12_isLow p1 M).bind fun q2 =>
      if q2.1 = 0 then
        some (2, q2.2)
      else
        some (1, q2.2)
    else
      some (1, M) : Option (Int × Mem))).bind fun q3 =>
  some (q3.1, q3.2)

noncomputable def fX12_range (p1 : Int) (p2 : Int) (M : Mem) : Option (Int × Mem) :=
  (pI M 132 0 0).bind fun M1 =>
  (fX12_isValue p1 M1).bind fun q2 =>
  if q2.1 = 0 then
    some ((-2147483648), q2.2)
  else
    (fX12_within p2 0 1 q2.2).bind fun q3 =>
    if q3.1 = 0 then
      some ((-2147483648), q3.2)
    else
      (fX12_rangesWith (-1) 0 0 q3.2).bind fun q4 =>
      ((if p2 = 0 then
          (ldI q4 153 p1).bind fun v6 =>
          some v6
        else
          (ldI q4 154 p1).bind fun v5 =>
          some v5 : Option (Int))).bind fun q7 =>
      some (q7, q4)

noncomputable def fX12_is (p1 : Int) (p2 : Int) (M : Mem) : Option (Int × Mem) :=
  (pI M 132 0 0).bind fun M1 =>
  (fX12_isValue p1 M1).bind fun q2 =>
  if q2.1 = 0 then
    some ((-2147483648), q2.2)
  else
    (fX12_isLane p2 q2.2).bind fun q3 =>
    if q3.1 = 0 then
      some ((-2147483648), q3.2)
    else
      (fX12_numbersIn p2 q3.2).bind fun q4 =>
      (ldI q4 157 p1).bind fun v5 =>
      some (v5, q4)

noncomputable def fX12_differs_b1 (p1 : Int) (v4 : Int) (s5 : Int × Int × Mem) : Option ((Int × Int × Mem) ⊕ (Int × Mem)) :=
  if 4 ≤ s5.2.1 then
    some (.inr (s5.1, s5.2.2))
  else
    (fX12_numbersIn s5.2.1 s5.2.2).bind fun q6 =>
    (ldI q6 157 p1).bind fun v7 =>
    ((if v7 = v4 then
        some 0
      else
        some (ishl 1 s5.2.1) : Option (Int))).bind fun q8 =>
    (some (ior s5.1 q8)).bind fun v9 =>
    some (.inl (v9, w32 (s5.2.1 + 1), q6))

noncomputable def fX12_differs (p1 : Int) (M : Mem) : Option (Int × Mem) :=
  (pI M 132 0 0).bind fun M1 =>
  (fX12_isValue p1 M1).bind fun q2 =>
  if q2.1 = 0 then
    some ((-1), q2.2)
  else
    (fX12_numbersIn 0 q2.2).bind fun q3 =>
    (ldI q3 157 p1).bind fun v4 =>
    (lp (fX12_differs_b1 p1 v4) (0, 1, q3)).bind fun q10 =>
    some (q10.1, q10.2)

noncomputable def fX12_shown (p1 : Int) (M : Mem) : Option (Int × Mem) :=
  (pI M 132 0 0).bind fun M1 =>
  ((if p1 < 0 then
      some (-1)
    else
      (ldI M1 138 9).bind fun v2 =>
      if v2 ≤ p1 then
        some (-1)
      else
        (ldI M1 138 (w32 (28 + p1))).bind fun v3 =>
        some v3 : Option (Int))).bind fun q4 =>
  some (q4, M1)

noncomputable def fX12_argNumber (p1 : Int) (M : Mem) : Option (Int × Mem) :=
  (ldI M 139 p1).bind fun v1 =>
  ((if 0 ≤ v1 then
      (ldI M 139 p1).bind fun v2 =>
      some v2
    else
      (ldI M 139 p1).bind fun v3 =>
      (ldI M 145 (w32 ((-1) - v3))).bind fun v4 =>
      some v4 : Option (Int))).bind fun q5 =>
  some (q5, M)

noncomputable def fX12_opNumber (p1 : Int) (M : Mem) : Option (Int × Mem) :=
  (ldI M 139 (w32 (p1 + 2))).bind fun v1 =>
  (fX12_argsOf v1 M).bind fun q2 =>
  (fX12_argNumber (w32 (p1 + 5)) q2.2).bind fun q3 =>
  ((if q2.1 ≤ 1 then
      some (0, q3.2)
    else
      (fX12_argNumber (w32 (p1 + 7)) q3.2).bind fun q4 =>
      some (q4.1, q4.2) : Option (Int × Mem))).bind fun q5 =>
  ((if q2.1 ≤ 2 then
      some (0, q5.2)
    else
      (fX12_argNumber (w32 (p1 + 9)) q5.2).bind fun q6 =>
      some (q6.1, q6.2) : Option (Int × Mem))).bind fun q7 =>
  ((if v1 = 14 then
      some (q3.1, q7.2)
    else
      (fX12_worked v1 q3.1 q5.1 q7.1 q7.2).bind fun q8 =>
      some (q8.1, q8.2) : Option (Int × Mem))).bind fun q9 =>
  some (q9.1, q9.2)

noncomputable def fX12_nextLine (p1 : Int) (M : Mem) : Option (Int × Mem) :=
  (some (w32 (12 * p1))).bind fun v1 =>
  (ldI M 139 (w32 (v1 + 11))).bind fun v2 =>
  (ldI M 139 v1).bind fun v3 =>
  if v3 = 1 then
    (fX12_argNumber (w32 (v1 + 5)) M).bind fun q13 =>
    ((if q13.1 = 1 then
        some (w32 (p1 + 1))
      else
        (ldI q13.2 139 (w32 (v1 + 7))).bind fun v14 =>
        if v14 ≤ 0 then
          (ldI q13.2 139 (w32 (v1 + 9))).bind fun v15 =>
          some (w32 (v15 + 1))
        else
          (ldI q13.2 139 (w32 (v1 + 7))).bind fun v16 =>
          some (w32 (v16 + 1)) : Option (Int))).bind fun q17 =>
    some (q17, q13.2)
  else
    (ldI M 139 v1).bind fun v4 =>
    if v4 = 2 then
      (ldI M 139 (w32 (v1 + 7))).bind fun v11 =>
      (ldI M 139 (w32 ((w32 (12 * v11)) + 9))).bind fun v12 =>
      some (w32 (v12 + 1), M)
    else
      (ldI M 139 (w32 (v1 + 1))).bind fun v5 =>
      if v5 = 1 then
        (ldI M 149 v2).bind fun v6 =>
        (stI M 149 v2 (w32 (v6 - 1))).bind fun M7 =>
        (ldI M7 149 v2).bind fun v8 =>
        ((if v8 ≤ 0 then
            some (w32 (p1 + 1))
          else
            (ldI M7 139 (w32 (v1 + 7))).bind fun v9 =>
            some (w32 (v9 + 1)) : Option (Int))).bind fun q10 =>
        some (q10, M7)
      else
        some (w32 (p1 + 1), M)

noncomputable def fX12_walk_b1 (p1 : Int) (p2 : Int) (s1 : Int × Int × Mem) : Option ((Int × Int × Mem) ⊕ ((Mem) ⊕ (Int × Mem))) :=
  (ldI s1.2.2 138 0).bind fun v2 =>
  if v2 ≤ s1.1 then
    some (.inr (.inl s1.2.2))
  else
    (some (w32 (12 * s1.1))).bind fun v3 =>
    (ldI s1.2.2 139 v3).bind fun v4 =>
    (some (w32 (s1.1 + 1))).bind fun v5 =>
    if v4 = 6 then
      (ldI s1.2.2 139 (w32 (v3 + 1))).bind fun v14 =>
      (ldI s1.2.2 139 (w32 (v3 + 2))).bind fun v15 =>
      (ldI s1.2.2 151 (w32 ((w32 (4 * v15)) + p1))).bind fun v16 =>
      (stI s1.2.2 145 v14 v16).bind fun M17 =>
      some (.inl (v5, s1.2.1, M17))
    else
      if v4 = 0 then
        (ldI s1.2.2 139 (w32 (v3 + 1))).bind fun v11 =>
        (fX12_opNumber v3 s1.2.2).bind fun q12 =>
        (stI q12.2 145 v11 q12.1).bind fun M13 =>
        some (.inl (v5, s1.2.1, M13))
      else
        if v4 = 3 then
          (ldI s1.2.2 139 (w32 (v3 + 11))).bind fun v8 =>
          (ldI s1.2.2 139 (w32 (v3 + 1))).bind fun v9 =>
          (stI s1.2.2 149 v8 v9).bind fun M10 =>
          some (.inl (v5, s1.2.1, M10))
        else
          if v4 = 5 then
            if s1.2.1 = p2 then
              (fX12_argNumber (w32 (v3 + 5)) s1.2.2).bind fun q7 =>
              some (.inr (.inr (q7.1, q7.2)))
            else
              some (.inl (v5, w32 (s1.2.1 + 1), s1.2.2))
          else
            (fX12_nextLine s1.1 s1.2.2).bind fun q6 =>
            some (.inl (q6.1, s1.2.1, q6.2))

noncomputable def fX12_walk (p1 : Int) (p2 : Int) (M : Mem) : Option (Int × Mem) :=
  (lp (fX12_walk_b1 p1 p2) (0, 0, M)).bind (Sum.elim (fun q18 =>
  some (0, q18)) (fun r => some r))

noncomputable def fX12_isShown (p1 : Int) (p2 : Int) (M : Mem) : Option (Int × Mem) :=
  (fX12_isLane p1 M).bind fun q1 =>
  ((if q1.1 = 0 then
      some 0
    else
      if p2 < 0 then
        some 0
      else
        (ldI q1.2 138 9).bind fun v2 =>
        if v2 ≤ p2 then
          some 0
        else
          some 1 : Option (Int))).bind fun q3 =>
  rz q3 q1.2

noncomputable def fX12_walked (p1 : Int) (p2 : Int) (M : Mem) : Option (Int × Mem) :=
  (fX12_isShown p1 p2 M).bind fun q1 =>
  ((if q1.1 = 0 then
      some 1
    else
      some 0 : Option (Int))).bind fun q2 =>
  (pI q1.2 132 0 q2).bind fun M3 =>
  ((if (M3 132 0) ≤ 0 then
      (fX12_walk p1 p2 M3).bind fun q4 =>
      some (q4.1, q4.2)
    else
      some (0, M3) : Option (Int × Mem))).bind fun q5 =>
  some (q5.1, q5.2)

noncomputable def fX12_has (p1 : Int) (p2 : Int) (M : Mem) : Option (Int × Mem) :=
  ((if (lc (land (lshr p1 p2) 1) 1) = 0 then
      some 1
    else
      some 0 : Option (Int))).bind fun q1 =>
  rz q1 M

noncomputable def fX12_manyOf_b1 (p1 : Int) (s1 : Int × Int × Mem) : Option ((Int × Int × Mem) ⊕ (Int × Mem)) :=
  if 64 ≤ s1.2.1 then
    some (.inr (s1.1, s1.2.2))
  else
    (fX12_has p1 s1.2.1 s1.2.2).bind fun q2 =>
    ((if q2.1 = 0 then
        some 0
      else
        some 1 : Option (Int))).bind fun q3 =>
    (some (w32 (s1.1 + q3))).bind fun v4 =>
    some (.inl (v4, w32 (s1.2.1 + 1), q2.2))

noncomputable def fX12_manyOf (p1 : Int) (M : Mem) : Option (Int × Mem) :=
  (lp (fX12_manyOf_b1 p1) (0, 0, M)).bind fun q5 =>
  some (q5.1, q5.2)

noncomputable def fX12_shownSet_b1 (M : Mem) (p1 : Int) (s1 : Int × Int) : Option ((Int × Int) ⊕ (Int)) :=
  (ldI M 138 9).bind fun v2 =>
  if v2 ≤ s1.2 then
    some (.inr s1.1)
  else
    ((if p1 < 0 then
        some true
      else
        if p1 = s1.2 then
          some true
        else
          some false : Option (Bool))).bind fun q3 =>
    ((if q3 = true then
        (ldI M 138 (w32 (28 + s1.2))).bind fun v4 =>
        some (lshl 1 v4)
      else
        some 0 : Option (Int))).bind fun q5 =>
    (some (lor s1.1 q5)).bind fun v6 =>
    some (.inl (v6, w32 (s1.2 + 1)))

noncomputable def fX12_shownSet (p1 : Int) (M : Mem) : Option (Int × Mem) :=
  (lp (fX12_shownSet_b1 M p1) (0, 0)).bind fun q7 =>
  some (q7, M)

noncomputable def fX12_needs_b2 (s1_1 : Int) (s16 : Int × Mem) : Option ((Int × Mem) ⊕ (Mem)) :=
  if 3 ≤ s16.1 then
    some (.inr s16.2)
  else
    (fX12_howOf s1_1 s16.2).bind fun q17 =>
    if q17.1 < 2 then
      some (.inr q17.2)
    else
      (fX12_argOf s1_1 s16.1 q17.2).bind fun q18 =>
      ((if 0 ≤ q18.1 then
          (fX12_argOf s1_1 s16.1 q18.2).bind fun q19 =>
          (ldI q19.2 158 q19.1).bind fun v20 =>
          some (v20, q19.2)
        else
          some ((-1), q18.2) : Option (Int × Mem))).bind fun q21 =>
      (ldJ q21.2 159 s1_1).bind fun v22 =>
      ((if q21.1 < 0 then
          some (0, q21.2)
        else
          (fX12_isKnown q21.1 q21.2).bind fun q23 =>
          if q23.1 = 0 then
            some (lshl 1 q21.1, q23.2)
          else
            some (0, q23.2) : Option (Int × Mem))).bind fun q24 =>
      (stJ q24.2 159 s1_1 (lor v22 q24.1)).bind fun M25 =>
      some (.inl (w32 (s16.1 + 1), M25))

noncomputable def fX12_needs_b1  (s1 : Int × Mem) : Option ((Int × Mem) ⊕ (Mem)) :=
  (fX12_values s1.2).bind fun q2 =>
  if q2.1 ≤ s1.1 then
    some (.inr q2.2)
  else
    (fX12_howOf s1.1 q2.2).bind fun q3 =>
    ((if q3.1 = 13 then
        (fX12_isKnown s1.1 q3.2).bind fun q4 =>
        if q4.1 = 0 then
          (fX12_argOf s1.1 0 q4.2).bind fun q5 =>
          (fX12_isKnown q5.1 q5.2).bind fun q6 =>
          if q6.1 = 0 then
            some (0, q6.2)
          else
            some (1, q6.2)
        else
          some (0, q4.2)
      else
        some (0, q3.2) : Option (Int × Mem))).bind fun q7 =>
    ((if q7.1 = 0 then
        some (s1.1, q7.2)
      else
        (fX12_argOf s1.1 0 q7.2).bind fun q8 =>
        (ldI q8.2 153 q8.1).bind fun v9 =>
        ((if v9 = 1 then
            some 1
          else
            some 2 : Option (Int))).bind fun q10 =>
        (fX12_argOf s1.1 q10 q8.2).bind fun q11 =>
        (ldI q11.2 158 q11.1).bind fun v12 =>
        some (v12, q11.2) : Option (Int × Mem))).bind fun q13 =>
    (stI q13.2 158 s1.1 q13.1).bind fun M14 =>
    (stJ M14 159 s1.1 0).bind fun M15 =>
    (lp (fX12_needs_b2 s1.1) (0, M15)).bind fun q26 =>
    (stJ q26 160 s1.1 0).bind fun M27 =>
    some (.inl (w32 (s1.1 + 1), M27))

noncomputable def fX12_needs_b3 (q29_1 : Int) (s31 : Int × Mem) : Option ((Int × Mem) ⊕ (Mem)) :=
  (fX12_values s31.2).bind fun q32 =>
  if q32.1 ≤ s31.1 then
    some (.inr q32.2)
  else
    (fX12_has q29_1 s31.1 q32.2).bind fun q33 =>
    ((if q33.1 = 0 then
        some (0, q33.2)
      else
        (ldI q33.2 158 s31.1).bind fun v34 =>
        (fX12_isKnown v34 q33.2).bind fun q35 =>
        if q35.1 = 0 then
          (ldI q35.2 158 s31.1).bind fun v36 =>
          some (lshl 1 v36, q35.2)
        else
          some (0, q35.2) : Option (Int × Mem))).bind fun q37 =>
    (pI q37.2 132 39 (lor (q32.2 132 39) q37.1)).bind fun M38 =>
    some (.inl (w32 (s31.1 + 1), M38))

noncomputable def fX12_needs_b5 (s43_1 : Int) (s50 : Int × Mem) : Option ((Int × Mem) ⊕ (Mem)) :=
  (fX12_values s50.2).bind fun q51 =>
  if q51.1 ≤ s50.1 then
    some (.inr q51.2)
  else
    (fX12_has (q51.2 132 38) s43_1 q51.2).bind fun q52 =>
    if q52.1 = 0 then
      some (.inr q52.2)
    else
      (fX12_has (q52.2 132 38) s50.1 q52.2).bind fun q53 =>
      ((if q53.1 = 0 then
          some q53.2
        else
          (ldJ q53.2 159 s50.1).bind fun v54 =>
          (fX12_has v54 s43_1 q53.2).bind fun q55 =>
          if q55.1 = 0 then
            some q55.2
          else
            (ldJ q55.2 160 s43_1).bind fun v56 =>
            (stJ q55.2 160 s43_1 (lor v56 (lshl 1 s50.1))).bind fun M57 =>
            (ldI M57 161 s43_1).bind fun v58 =>
            (ldI M57 161 s50.1).bind fun v59 =>
            (fX12_greater v58 v59 M57).bind fun q60 =>
            (stI q60.2 161 s43_1 q60.1).bind fun M61 =>
            some M61 : Option (Mem))).bind fun q62 =>
      some (.inl (w32 (s50.1 + 1), q62))

noncomputable def fX12_needs_b4  (s43 : Int × Mem) : Option ((Int × Mem) ⊕ (Mem)) :=
  if s43.1 < 0 then
    some (.inr s43.2)
  else
    (stI s43.2 161 s43.1 0).bind fun M44 =>
    (fX12_has (M44 132 38) s43.1 M44).bind fun q45 =>
    ((if q45.1 = 0 then
        some 0
      else
        (ldJ q45.2 159 s43.1).bind fun v46 =>
        some v46 : Option (Int))).bind fun q47 =>
    (pI q45.2 132 38 (lor (M44 132 38) q47)).bind fun M48 =>
    (some (w32 (s43.1 + 1))).bind fun v49 =>
    (lp (fX12_needs_b5 s43.1) (v49, M48)).bind fun q63 =>
    (ldI q63 161 s43.1).bind fun v64 =>
    (fX12_has (q63 132 38) s43.1 q63).bind fun q65 =>
    ((if q65.1 = 0 then
        some 0
      else
        some 1 : Option (Int))).bind fun q66 =>
    (stI q65.2 161 s43.1 (w32 (v64 + q66))).bind fun M67 =>
    some (.inl (w32 (s43.1 + (-1)), M67))

noncomputable def fX12_needs (p1 : Int) (M : Mem) : Option (Mem) :=
  (lp (fX12_needs_b1) (0, M)).bind fun q28 =>
  (fX12_shownSet p1 q28).bind fun q29 =>
  (pI q29.2 132 39 0).bind fun M30 =>
  (lp (fX12_needs_b3 q29.1) (0, M30)).bind fun q39 =>
  (pI q39 132 38 (q39 132 39)).bind fun M40 =>
  (fX12_values M40).bind fun q41 =>
  (some (w32 (q41.1 - 1))).bind fun v42 =>
  (lp (fX12_needs_b4) (v42, q41.2)).bind fun q68 =>
  some q68

noncomputable def fX12_all0  (M : Mem) : Option (Mem) :=
  (fX12_rangesWith (-1) 0 0 M).bind fun q1 =>
  (fX12_needs (-1) q1).bind fun q2 =>
  some q2

noncomputable def fX12_farKin_b1 (p2 : Int) (s4 : Int × Int × Mem) : Option ((Int × Int × Mem) ⊕ (Int × Mem)) :=
  if 64 ≤ s4.2.1 then
    some (.inr (s4.1, s4.2.2))
  else
    ((if p2 = 0 then
        some (w32 (63 - s4.2.1))
      else
        some s4.2.1 : Option (Int))).bind fun q5 =>
    (fX12_has s4.1 q5 s4.2.2).bind fun q6 =>
    ((if q6.1 = 0 then
        some 0
      else
        if p2 = 0 then
          (ldJ q6.2 159 q5).bind fun v7 =>
          some v7
        else
          (ldJ q6.2 160 q5).bind fun v8 =>
          some v8 : Option (Int))).bind fun q9 =>
    (some (lor s4.1 q9)).bind fun v10 =>
    some (.inl (v10, w32 (s4.2.1 + 1), q6.2))

noncomputable def fX12_farKin (p1 : Int) (p2 : Int) (M : Mem) : Option (Int × Mem) :=
  ((if p2 = 0 then
      (ldJ M 159 p1).bind fun v1 =>
      some v1
    else
      (ldJ M 160 p1).bind fun v2 =>
      some v2 : Option (Int))).bind fun q3 =>
  (lp (fX12_farKin_b1 p2) (q3, 0, M)).bind fun q11 =>
  some (q11.1, q11.2)

noncomputable def fX12_isNeeded (p1 : Int) (M : Mem) : Option (Int × Mem) :=
  (fX12_isValue p1 M).bind fun q1 =>
  ((if q1.1 = 0 then
      some (0, q1.2)
    else
      (fX12_has (q1.2 132 38) p1 q1.2).bind fun q2 =>
      if q2.1 = 0 then
        some (0, q2.2)
      else
        some (1, q2.2) : Option (Int × Mem))).bind fun q3 =>
  rz q3.1 q3.2

noncomputable def fX12_value (p1 : Int) (p2 : Int) (M : Mem) : Option (Int × Mem) :=
  (pI M 132 0 0).bind fun M1 =>
  (fX12_isValue p1 M1).bind fun q2 =>
  if q2.1 = 0 then
    some ((-2), q2.2)
  else
    (fX12_all0 q2.2).bind fun q3 =>
    if p2 = 0 then
      (fX12_howOf p1 q3).bind fun q4 =>
      some (q4.1, q4.2)
    else if p2 = 1 ∨ p2 = 2 ∨ p2 = 3 then
      (fX12_argOf p1 (w32 (p2 - 1)) q3).bind fun q5 =>
      some (q5.1, q5.2)
    else if p2 = 4 then
      (ldZ q3 155 p1).bind fun v6 =>
      ((if v6 = 0 then
          some 0
        else
          some 1 : Option (Int))).bind fun q7 =>
      some (q7, q3)
    else if p2 = 5 then
      (ldZ q3 156 p1).bind fun v8 =>
      ((if v8 = 0 then
          some 0
        else
          some 1 : Option (Int))).bind fun q9 =>
      some (q9, q3)
    else if p2 = 6 then
      (fX12_isKnown p1 q3).bind fun q10 =>
      ((if q10.1 = 0 then
          some 0
        else
          some 1 : Option (Int))).bind fun q11 =>
      some (q11, q10.2)
    else if p2 = 7 then
      (fX12_has (q3 132 38) p1 q3).bind fun q12 =>
      ((if q12.1 = 0 then
          some 0
        else
          some 1 : Option (Int))).bind fun q13 =>
      some (q13, q12.2)
    else if p2 = 8 then
      (ldI q3 158 p1).bind fun v14 =>
      some (v14, q3)
    else if p2 = 9 then
      (ldI q3 161 p1).bind fun v15 =>
      some (v15, q3)
    else if p2 = 10 then
      (fX12_widthOf p1 q3).bind fun q16 =>
      some (q16.1, q16.2)
    else 
      some ((-2), q3)

noncomputable def fX12_all_b1 (p1 : Int) (s3 : Int × Int × Mem) : Option ((Int × Int × Mem) ⊕ (Int × Mem)) :=
  (fX12_values s3.2.2).bind fun q4 =>
  if q4.1 ≤ s3.2.1 then
    some (.inr (s3.1, q4.2))
  else
    ((if p1 = 1 then
        (ldZ q4.2 156 s3.2.1).bind fun v9 =>
        some (v9, q4.2)
      else
        if p1 = 2 then
          (fX12_isKnown s3.2.1 q4.2).bind fun q8 =>
          some (q8.1, q8.2)
        else
          if p1 = 3 then
            (fX12_isLow s3.2.1 q4.2).bind fun q7 =>
            some (q7.1, q7.2)
          else
            if p1 = 4 then
              (ldZ q4.2 155 s3.2.1).bind fun v6 =>
              some (v6, q4.2)
            else
              if p1 = 6 then
                (fX12_howOf s3.2.1 q4.2).bind fun q5 =>
                if q5.1 = 7 then
                  some (1, q5.2)
                else
                  some (0, q5.2)
              else
                some (0, q4.2) : Option (Int × Mem))).bind fun q10 =>
    ((if q10.1 = 0 then
        some 0
      else
        some (lshl 1 s3.2.1) : Option (Int))).bind fun q11 =>
    (some (lor s3.1 q11)).bind fun v12 =>
    some (.inl (v12, w32 (s3.2.1 + 1), q10.2))

noncomputable def fX12_all (p1 : Int) (M : Mem) : Option (Int × Mem) :=
  (pI M 132 0 0).bind fun M1 =>
  (fX12_all0 M1).bind fun q2 =>
  (lp (fX12_all_b1 p1) (0, 0, q2)).bind fun q13 =>
  ((if p1 = 0 then
      some (q13.2 132 38, q13.2)
    else
      if p1 = 5 then
        (fX12_shownSet (-1) q13.2).bind fun q14 =>
        some (q14.1, q14.2)
      else
        some (q13.1, q13.2) : Option (Int × Mem))).bind fun q15 =>
  some (q15.1, q15.2)

noncomputable def fX12_kin (p1 : Int) (p2 : Int) (M : Mem) : Option (Int × Mem) :=
  (pI M 132 0 0).bind fun M1 =>
  (fX12_all0 M1).bind fun q2 =>
  (fX12_isNeeded p1 q2).bind fun q3 =>
  if q3.1 = 0 then
    some (0, q3.2)
  else
    (fX12_within p2 0 3 q3.2).bind fun q4 =>
    if q4.1 = 0 then
      some (0, q4.2)
    else
      ((if p2 = 0 then
          (ldJ q4.2 159 p1).bind fun v8 =>
          some (v8, q4.2)
        else
          if p2 = 1 then
            (ldJ q4.2 160 p1).bind fun v7 =>
            some (v7, q4.2)
          else
            ((if p2 = 3 then
                some 1
              else
                some 0 : Option (Int))).bind fun q5 =>
            (fX12_farKin p1 q5 q4.2).bind fun q6 =>
            some (q6.1, q6.2) : Option (Int × Mem))).bind fun q9 =>
      some (q9.1, q9.2)

noncomputable def fX12_growth_b1 (p1 : Int) (p2 : Int) (s2 : Int × Int × Mem) : Option ((Int × Int × Mem) ⊕ (Int × Mem)) :=
  if p1 ≤ s2.2.1 then
    some (.inr (s2.1, s2.2.2))
  else
    (ldJ s2.2.2 159 p1).bind fun v3 =>
    (fX12_has v3 s2.2.1 s2.2.2).bind fun q4 =>
    ((if q4.1 = 0 then
        some (0, q4.2)
      else
        (fX12_has (q4.2 132 39) s2.2.1 q4.2).bind fun q5 =>
        if q5.1 = 0 then
          (ldJ q5.2 160 s2.2.1).bind fun v6 =>
          if (lc (land v6 (lxor (lor p2 (lshl 1 p1)) (-1))) 0) = 0 then
            some (1, q5.2)
          else
            some (0, q5.2)
        else
          some (0, q5.2) : Option (Int × Mem))).bind fun q7 =>
    ((if q7.1 = 0 then
        some (0, q7.2)
      else
        (fX12_widthOf s2.2.1 q7.2).bind fun q8 =>
        some (q8.1, q8.2) : Option (Int × Mem))).bind fun q9 =>
    (some (w32 (s2.1 - q9.1))).bind fun v10 =>
    some (.inl (v10, w32 (s2.2.1 + 1), q9.2))

noncomputable def fX12_growth (p1 : Int) (p2 : Int) (M : Mem) : Option (Int × Mem) :=
  (fX12_widthOf p1 M).bind fun q1 =>
  (lp (fX12_growth_b1 p1 p2) (q1.1, 0, q1.2)).bind fun q11 =>
  some (q11.1, q11.2)

noncomputable def fX12_goesAhead (p1 : Int) (p2 : Int) (p3 : Int) (p4 : Int) (M : Mem) : Option (Int × Mem) :=
  if p3 = 0 then
    (fX12_growth p1 p4 M).bind fun q10 =>
    (fX12_growth p2 p4 q10.2).bind fun q11 =>
    if q10.1 = q11.1 then
      if p3 = 0 then
        (ldI q11.2 161 p1).bind fun v12 =>
        (ldI q11.2 161 p2).bind fun v13 =>
        ((if v12 ≤ v13 then
            some 0
          else
            some 1 : Option (Int))).bind fun q14 =>
        rz q14 q11.2
      else
        if p3 = 2 then
          (ldI q11.2 161 p1).bind fun v18 =>
          (ldI q11.2 161 p2).bind fun v19 =>
          ((if v18 ≤ v19 then
              some 0
            else
              some 1 : Option (Int))).bind fun q20 =>
          rz q20 q11.2
        else
          ((if p3 = 3 then
              (fX12_howOf p1 q11.2).bind fun q15 =>
              if q15.1 = 7 then
                (fX12_howOf p2 q15.2).bind fun q16 =>
                if q16.1 = 7 then
                  some (0, q16.2)
                else
                  some (1, q16.2)
              else
                some (0, q15.2)
            else
              some (0, q11.2) : Option (Int × Mem))).bind fun q17 =>
          rz q17.1 q17.2
    else
      (fX12_growth p1 p4 q11.2).bind fun q21 =>
      (fX12_growth p2 p4 q21.2).bind fun q22 =>
      ((if q22.1 ≤ q21.1 then
          some 0
        else
          some 1 : Option (Int))).bind fun q23 =>
      rz q23 q22.2
  else
    if p3 = 0 then
      (ldI M 161 p1).bind fun v1 =>
      (ldI M 161 p2).bind fun v2 =>
      ((if v1 ≤ v2 then
          some 0
        else
          some 1 : Option (Int))).bind fun q3 =>
      rz q3 M
    else
      if p3 = 2 then
        (ldI M 161 p1).bind fun v7 =>
        (ldI M 161 p2).bind fun v8 =>
        ((if v7 ≤ v8 then
            some 0
          else
            some 1 : Option (Int))).bind fun q9 =>
        rz q9 M
      else
        ((if p3 = 3 then
            (fX12_howOf p1 M).bind fun q4 =>
            if q4.1 = 7 then
              (fX12_howOf p2 q4.2).bind fun q5 =>
              if q5.1 = 7 then
                some (0, q5.2)
              else
                some (1, q5.2)
            else
              some (0, q4.2)
          else
            some (0, M) : Option (Int × Mem))).bind fun q6 =>
        rz q6.1 q6.2

noncomputable def fX12_costOf (p1 : Int) (M : Mem) : Option (Int × Mem) :=
  (fX12_widthOf p1 M).bind fun q1 =>
  (ldZ q1.2 156 p1).bind fun v2 =>
  ((if v2 = 0 then
      (fX12_howOf p1 q1.2).bind fun q3 =>
      if q3.1 = 0 then
        some (1, q3.2)
      else
        (fX12_howOf p1 q3.2).bind fun q4 =>
        if q4.1 = 4 then
          some (w32 (2 * q1.1), q4.2)
        else
          some (q1.1, q4.2)
    else
      some (1, q1.2) : Option (Int × Mem))).bind fun q5 =>
  some (q5.1, q5.2)

noncomputable def fX12_cuts_b1  (s3 : Int × Int × Mem) : Option ((Int × Int × Mem) ⊕ (Mem)) :=
  if (s3.2.2 132 41) ≤ s3.2.1 then
    some (.inr s3.2.2)
  else
    (ldI s3.2.2 162 s3.2.1).bind fun v4 =>
    (fX12_howOf v4 s3.2.2).bind fun q5 =>
    ((if q5.1 = 7 then
        some 1
      else
        some 0 : Option (Int))).bind fun q6 =>
    (some (w32 (4 * (w32 ((q5.2 132 48) - 1))))).bind fun v7 =>
    ((if (q5.2 132 48) ≤ 0 then
        some 0
      else
        (ldI q5.2 169 v7).bind fun v8 =>
        if v8 = q6 then
          (ldI q5.2 169 (w32 (v7 + 2))).bind fun v9 =>
          ((if q6 = 1 then
              some 3
            else
              some 4 : Option (Int))).bind fun q10 =>
          (ldI q5.2 138 q10).bind fun v11 =>
          if v11 ≤ v9 then
            some 0
          else
            if q6 = 0 then
              some 1
            else
              (ldJ q5.2 159 v4).bind fun v12 =>
              if (lc (land v12 s3.1) 0) = 0 then
                some 1
              else
                some 0
        else
          some 0 : Option (Int))).bind fun q13 =>
    ((if q13 = 0 then
        (some (w32 (4 * (q5.2 132 48)))).bind fun v14 =>
        (pI q5.2 132 48 (w32 ((q5.2 132 48) + 1))).bind fun M15 =>
        (stI M15 169 v14 q6).bind fun M16 =>
        (stI M16 169 (w32 (v14 + 1)) s3.2.1).bind fun M17 =>
        (stI M17 169 (w32 (v14 + 2)) 0).bind fun M18 =>
        ((if q6 = 1 then
            some 12
          else
            some 2 : Option (Int))).bind fun q19 =>
        (stI M18 169 (w32 (v14 + 3)) q19).bind fun M20 =>
        (ldI M20 169 (w32 (v14 + 3))).bind fun v21 =>
        (pI M20 132 50 (w32 ((M20 132 50) + v21))).bind fun M22 =>
        some (0, v14, M22)
      else
        some (s3.1, v7, q5.2) : Option (Int × Int × Mem))).bind fun q23 =>
    ((if q6 = 1 then
        some (2, q23.2.2)
      else
        (fX12_costOf v4 q23.2.2).bind fun q24 =>
        some (q24.1, q24.2) : Option (Int × Mem))).bind fun q25 =>
    (ldI q25.2 169 (w32 (q23.2.1 + 2))).bind fun v26 =>
    (stI q25.2 169 (w32 (q23.2.1 + 2)) (w32 (v26 + 1))).bind fun M27 =>
    (ldI M27 169 (w32 (q23.2.1 + 3))).bind fun v28 =>
    (stI M27 169 (w32 (q23.2.1 + 3)) (w32 (v28 + q25.1))).bind fun M29 =>
    (pI M29 132 50 (w32 ((M29 132 50) + q25.1))).bind fun M30 =>
    (stI M30 166 v4 (w32 ((M30 132 48) - 1))).bind fun M31 =>
    (some (lor q23.1 (lshl 1 v4))).bind fun v32 =>
    some (.inl (v32, w32 (s3.2.1 + 1), M31))

noncomputable def fX12_cuts  (M : Mem) : Option (Mem) :=
  (pI M 132 48 0).bind fun M1 =>
  (pI M1 132 50 0).bind fun M2 =>
  (lp (fX12_cuts_b1) (0, 0, M2)).bind fun q33 =>
  some q33

noncomputable def fX12_lives_b1  (s1 : Int × Mem) : Option ((Int × Mem) ⊕ (Mem)) :=
  if (s1.2 132 41) ≤ s1.1 then
    some (.inr s1.2)
  else
    (ldI s1.2 162 s1.1).bind fun v2 =>
    (stI s1.2 163 v2 s1.1).bind fun M3 =>
    some (.inl (w32 (s1.1 + 1), M3))

noncomputable def fX12_lives_b3 (v6 : Int) (s10 : Int × Mem) : Option ((Int × Mem) ⊕ (Mem)) :=
  (fX12_values s10.2).bind fun q11 =>
  if q11.1 ≤ s10.1 then
    some (.inr q11.2)
  else
    (ldJ q11.2 160 v6).bind fun v12 =>
    (fX12_has v12 s10.1 q11.2).bind fun q13 =>
    ((if q13.1 = 0 then
        (ldI q13.2 164 v6).bind fun v14 =>
        some v14
      else
        (ldI q13.2 163 s10.1).bind fun v15 =>
        (ldI q13.2 164 v6).bind fun v16 =>
        if v15 ≤ v16 then
          (ldI q13.2 164 v6).bind fun v17 =>
          some v17
        else
          (ldI q13.2 163 s10.1).bind fun v18 =>
          some v18 : Option (Int))).bind fun q19 =>
    (stI q13.2 164 v6 q19).bind fun M20 =>
    some (.inl (w32 (s10.1 + 1), M20))

noncomputable def fX12_lives_b2  (s5 : Int × Mem) : Option ((Int × Mem) ⊕ (Mem)) :=
  if (s5.2 132 41) ≤ s5.1 then
    some (.inr s5.2)
  else
    (ldI s5.2 162 s5.1).bind fun v6 =>
    (fX12_has (s5.2 132 39) v6 s5.2).bind fun q7 =>
    ((if q7.1 = 0 then
        some s5.1
      else
        some (q7.2 132 41) : Option (Int))).bind fun q8 =>
    (stI q7.2 164 v6 q8).bind fun M9 =>
    (lp (fX12_lives_b3 v6) (0, M9)).bind fun q21 =>
    some (.inl (w32 (s5.1 + 1), q21))

noncomputable def fX12_lives  (M : Mem) : Option (Mem) :=
  (lp (fX12_lives_b1) (0, M)).bind fun q4 =>
  (lp (fX12_lives_b2) (0, q4)).bind fun q22 =>
  (fX12_cuts q22).bind fun q23 =>
  some q23

noncomputable def fX12_orders_b2 (p1 : Int) (s2_1 : Int) (s3 : Int × Int × Mem) : Option ((Int × Int × Mem) ⊕ (Int × Mem)) :=
  (fX12_values s3.2.2).bind fun q4 =>
  if q4.1 ≤ s3.2.1 then
    some (.inr (s3.1, q4.2))
  else
    (fX12_has (q4.2 132 38) s3.2.1 q4.2).bind fun q5 =>
    ((if q5.1 = 0 then
        some (0, q5.2)
      else
        (fX12_has s2_1 s3.2.1 q5.2).bind fun q6 =>
        if q6.1 = 0 then
          (ldJ q6.2 159 s3.2.1).bind fun v7 =>
          if (lc (land v7 (lxor s2_1 (-1))) 0) = 0 then
            some (1, q6.2)
          else
            some (0, q6.2)
        else
          some (0, q6.2) : Option (Int × Mem))).bind fun q8 =>
    ((if q8.1 = 0 then
        some (s3.1, q8.2)
      else
        if s3.1 < 0 then
          some (s3.2.1, q8.2)
        else
          (fX12_goesAhead s3.2.1 s3.1 p1 s2_1 q8.2).bind fun q9 =>
          if q9.1 = 0 then
            some (s3.1, q9.2)
          else
            some (s3.2.1, q9.2) : Option (Int × Mem))).bind fun q10 =>
    some (.inl (q10.1, w32 (s3.2.1 + 1), q10.2))

noncomputable def fX12_orders_b1 (p1 : Int) (s2 : Int × Mem) : Option ((Int × Mem) ⊕ (Mem)) :=
  if (lc s2.1 (s2.2 132 38)) = 0 then
    some (.inr s2.2)
  else
    (lp (fX12_orders_b2 p1 s2.1) ((-1), 0, s2.2)).bind fun q11 =>
    (stI q11.2 162 (q11.2 132 41) q11.1).bind fun M12 =>
    (pI M12 132 41 (w32 ((M12 132 41) + 1))).bind fun M13 =>
    (some (lor s2.1 (lshl 1 q11.1))).bind fun v14 =>
    some (.inl (v14, M13))

noncomputable def fX12_orders (p1 : Int) (M : Mem) : Option (Mem) :=
  (pI M 132 41 0).bind fun M1 =>
  (lp (fX12_orders_b1 p1) (0, M1)).bind fun q15 =>
  (fX12_lives q15).bind fun q16 =>
  some q16

noncomputable def fX12_fileOf (p1 : Int) (M : Mem) : Option (Int × Mem) :=
  (ldZ M 156 p1).bind fun v1 =>
  ((if v1 = 0 then
      some 1
    else
      some 0 : Option (Int))).bind fun q2 =>
  some (q2, M)

noncomputable def fX12_livesAt_b1 (p1 : Int) (p2 : Int) (s1 : Int × Int × Mem) : Option ((Int × Int × Mem) ⊕ (Int × Mem)) :=
  if p1 < s1.2.1 then
    some (.inr (s1.1, s1.2.2))
  else
    (ldI s1.2.2 162 s1.2.1).bind fun v2 =>
    (ldI s1.2.2 164 v2).bind fun v3 =>
    ((if v3 ≤ p1 then
        some (0, s1.2.2)
      else
        if p2 = 2 then
          (fX12_widthOf v2 s1.2.2).bind fun q4 =>
          some (q4.1, q4.2)
        else
          (fX12_fileOf v2 s1.2.2).bind fun q5 =>
          if q5.1 = p2 then
            (fX12_widthOf v2 q5.2).bind fun q6 =>
            some (q6.1, q6.2)
          else
            some (0, q5.2) : Option (Int × Mem))).bind fun q7 =>
    (some (w32 (s1.1 + q7.1))).bind fun v8 =>
    some (.inl (v8, w32 (s1.2.1 + 1), q7.2))

noncomputable def fX12_livesAt (p1 : Int) (p2 : Int) (M : Mem) : Option (Int × Mem) :=
  (lp (fX12_livesAt_b1 p1 p2) (0, 0, M)).bind fun q9 =>
  some (q9.1, q9.2)

noncomputable def fX12_most_b1 (p1 : Int) (s1 : Int × Int × Mem) : Option ((Int × Int × Mem) ⊕ (Int × Mem)) :=
  if (s1.2.2 132 41) ≤ s1.2.1 then
    some (.inr (s1.1, s1.2.2))
  else
    (fX12_livesAt s1.2.1 p1 s1.2.2).bind fun q2 =>
    (fX12_greater s1.1 q2.1 q2.2).bind fun q3 =>
    some (.inl (q3.1, w32 (s1.2.1 + 1), q3.2))

noncomputable def fX12_most (p1 : Int) (M : Mem) : Option (Int × Mem) :=
  (lp (fX12_most_b1 p1) (0, 0, M)).bind fun q4 =>
  some (q4.1, q4.2)

noncomputable def fX12_isFree (p1 : Int) (p2 : Int) (p3 : Int) (M : Mem) : Option (Int × Mem) :=
  (ldI M 168 (w32 ((w32 (128 * p1)) + p2))).bind fun v1 =>
  ((if p3 < v1 then
      some 0
    else
      some 1 : Option (Int))).bind fun q2 =>
  rz q2 M

noncomputable def fX12_registers_b1  (s1 : Int × Mem) : Option ((Int × Mem) ⊕ (Mem)) :=
  if 256 ≤ s1.1 then
    some (.inr s1.2)
  else
    (stI s1.2 168 s1.1 0).bind fun M2 =>
    some (.inl (w32 (s1.1 + 1), M2))

noncomputable def fX12_registers_b3 (q8_1 : Int) (q9_1 : Int) (s6_1 : Int) (s10 : Int × Mem) : Option ((Int × Mem) ⊕ (Int × Mem)) :=
  (fX12_isFree q8_1 s10.1 s6_1 s10.2).bind fun q11 =>
  if q11.1 = 0 then
    (some (w32 (s10.1 + q9_1))).bind fun v12 =>
    some (.inl (v12, q11.2))
  else
    if q9_1 = 2 then
      (fX12_isFree q8_1 (w32 (s10.1 + 1)) s6_1 q11.2).bind fun q13 =>
      if q13.1 = 0 then
        (some (w32 (s10.1 + q9_1))).bind fun v14 =>
        some (.inl (v14, q13.2))
      else
        some (.inr (s10.1, q13.2))
    else
      some (.inr (s10.1, q11.2))

noncomputable def fX12_registers_b4 (q15_1 : Int) (q8_1 : Int) (q9_1 : Int) (v7 : Int) (s17 : Int × Mem) : Option ((Int × Mem) ⊕ (Mem)) :=
  if q9_1 ≤ s17.1 then
    some (.inr s17.2)
  else
    (ldI s17.2 164 v7).bind fun v18 =>
    (stI s17.2 168 (w32 ((w32 ((w32 (128 * q8_1)) + q15_1)) + s17.1)) v18).bind fun M19 =>
    some (.inl (w32 (s17.1 + 1), M19))

noncomputable def fX12_registers_b2  (s6 : Int × Mem) : Option ((Int × Mem) ⊕ (Mem)) :=
  if (s6.2 132 41) ≤ s6.1 then
    some (.inr s6.2)
  else
    (ldI s6.2 162 s6.1).bind fun v7 =>
    (fX12_fileOf v7 s6.2).bind fun q8 =>
    (fX12_widthOf v7 q8.2).bind fun q9 =>
    (lp (fX12_registers_b3 q8.1 q9.1 s6.1) (0, q9.2)).bind fun q15 =>
    (stI q15.2 165 v7 q15.1).bind fun M16 =>
    (lp (fX12_registers_b4 q15.1 q8.1 q9.1 v7) (0, M16)).bind fun q20 =>
    (ldI q20 167 q8.1).bind fun v21 =>
    (fX12_greater v21 (w32 (q15.1 + q9.1)) q20).bind fun q22 =>
    (stI q22.2 167 q8.1 q22.1).bind fun M23 =>
    some (.inl (w32 (s6.1 + 1), M23))

noncomputable def fX12_registers  (M : Mem) : Option (Mem) :=
  (lp (fX12_registers_b1) (0, M)).bind fun q3 =>
  (stI q3 167 0 0).bind fun M4 =>
  (stI M4 167 1 0).bind fun M5 =>
  (lp (fX12_registers_b2) (0, M5)).bind fun q24 =>
  some q24

noncomputable def fX12_plans  (M : Mem) : Option (Mem) :=
  (fX12_all0 M).bind fun q1 =>
  (fX12_orders (q1 132 28) q1).bind fun q2 =>
  (fX12_registers q2).bind fun q3 =>
  some q3

noncomputable def fX12_order (p1 : Int) (M : Mem) : Option (Int × Mem) :=
  (pI M 132 0 0).bind fun M1 =>
  (fX12_plans M1).bind fun q2 =>
  (fX12_within p1 0 (w32 ((q2 132 41) - 1)) q2).bind fun q3 =>
  ((if q3.1 = 0 then
      some (-1)
    else
      (ldI q3.2 162 p1).bind fun v4 =>
      some v4 : Option (Int))).bind fun q5 =>
  some (q5, q3.2)

noncomputable def fX12_place (p1 : Int) (p2 : Int) (M : Mem) : Option (Int × Mem) :=
  (pI M 132 0 0).bind fun M1 =>
  (fX12_plans M1).bind fun q2 =>
  (fX12_isNeeded p1 q2).bind fun q3 =>
  if q3.1 = 0 then
    some ((-1), q3.2)
  else
    if p2 = 0 then
      (ldI q3.2 163 p1).bind fun v4 =>
      some (v4, q3.2)
    else if p2 = 1 then
      (ldI q3.2 164 p1).bind fun v5 =>
      some (v5, q3.2)
    else if p2 = 2 then
      (ldI q3.2 165 p1).bind fun v6 =>
      some (v6, q3.2)
    else if p2 = 3 then
      (ldI q3.2 166 p1).bind fun v7 =>
      some (v7, q3.2)
    else if p2 = 4 then
      (fX12_farKin p1 0 q3.2).bind fun q8 =>
      (fX12_manyOf q8.1 q8.2).bind fun q9 =>
      some (q9.1, q9.2)
    else if p2 = 5 then
      (fX12_farKin p1 1 q3.2).bind fun q10 =>
      (fX12_manyOf q10.1 q10.2).bind fun q11 =>
      some (w32 ((w32 ((q3.2 132 41) - 1)) - q11.1), q11.2)
    else 
      some ((-1), q3.2)

noncomputable def fX12_pressure (p1 : Int) (M : Mem) : Option (Int × Mem) :=
  (pI M 132 0 0).bind fun M1 =>
  (fX12_plans M1).bind fun q2 =>
  (fX12_within p1 0 2 q2).bind fun q3 =>
  ((if q3.1 = 0 then
      some ((-1), q3.2)
    else
      (fX12_most p1 q3.2).bind fun q4 =>
      some (q4.1, q4.2) : Option (Int × Mem))).bind fun q5 =>
  some (q5.1, q5.2)

noncomputable def fX12_at (p1 : Int) (p2 : Int) (M : Mem) : Option (Int × Mem) :=
  (pI M 132 0 0).bind fun M1 =>
  (fX12_plans M1).bind fun q2 =>
  (fX12_within p2 0 2 q2).bind fun q3 =>
  ((if q3.1 = 0 then
      some ((-1), q3.2)
    else
      (fX12_within p1 0 (w32 ((q3.2 132 41) - 1)) q3.2).bind fun q4 =>
      if q4.1 = 0 then
        some ((-1), q4.2)
      else
        (fX12_livesAt p1 p2 q4.2).bind fun q5 =>
        some (q5.1, q5.2) : Option (Int × Mem))).bind fun q6 =>
  some (q6.1, q6.2)

noncomputable def fX12_used (p1 : Int) (M : Mem) : Option (Int × Mem) :=
  (pI M 132 0 0).bind fun M1 =>
  (fX12_plans M1).bind fun q2 =>
  (fX12_within p1 0 1 q2).bind fun q3 =>
  ((if q3.1 = 0 then
      some (-1)
    else
      (ldI q3.2 167 p1).bind fun v4 =>
      some v4 : Option (Int))).bind fun q5 =>
  some (q5, q3.2)

noncomputable def fX12_clause (p1 : Int) (p2 : Int) (M : Mem) : Option (Int × Mem) :=
  (pI M 132 0 0).bind fun M1 =>
  (fX12_plans M1).bind fun q2 =>
  (fX12_within p1 0 (w32 ((q2 132 48) - 1)) q2).bind fun q3 =>
  ((if q3.1 = 0 then
      some ((-1), q3.2)
    else
      (fX12_within p2 0 3 q3.2).bind fun q4 =>
      if q4.1 = 0 then
        some ((-1), q4.2)
      else
        (ldI q4.2 169 (w32 ((w32 (4 * p1)) + p2))).bind fun v5 =>
        some (v5, q4.2) : Option (Int × Mem))).bind fun q6 =>
  some (q6.1, q6.2)

noncomputable def fX12_tell (p1 : Int) (M : Mem) : Option (Int × Mem) :=
  ((if p1 = 0 then
      (fX12_most 2 M).bind fun q2 =>
      some (q2.1, q2.2)
    else
      if p1 = 1 then
        some (M 132 48, M)
      else
        if p1 = 2 then
          some (M 132 50, M)
        else
          (ldI M 167 (w32 (p1 - 3))).bind fun v1 =>
          some (v1, M) : Option (Int × Mem))).bind fun q3 =>
  some (q3.1, q3.2)

noncomputable def fX12_by (p1 : Int) (p2 : Int) (M : Mem) : Option (Int × Mem) :=
  (pI M 132 0 0).bind fun M1 =>
  (fX12_within p1 0 3 M1).bind fun q2 =>
  if q2.1 = 0 then
    some ((-1), q2.2)
  else
    (fX12_within p2 0 4 q2.2).bind fun q3 =>
    if q3.1 = 0 then
      some ((-1), q3.2)
    else
      (fX12_all0 q3.2).bind fun q4 =>
      (fX12_orders p1 q4).bind fun q5 =>
      (fX12_registers q5).bind fun q6 =>
      (fX12_tell p2 q6).bind fun q7 =>
      some (q7.1, q7.2)

noncomputable def fX12_alone (p1 : Int) (p2 : Int) (M : Mem) : Option (Int × Mem) :=
  (pI M 132 0 0).bind fun M1 =>
  if p1 < 0 then
    some ((-1), M1)
  else
    (ldI M1 138 9).bind fun v2 =>
    if v2 ≤ p1 then
      some ((-1), M1)
    else
      (fX12_within p2 0 5 M1).bind fun q3 =>
      if q3.1 = 0 then
        some ((-1), q3.2)
      else
        (fX12_rangesWith (-1) 0 0 q3.2).bind fun q4 =>
        (fX12_needs p1 q4).bind fun q5 =>
        (fX12_orders (q5 132 28) q5).bind fun q6 =>
        (fX12_registers q6).bind fun q7 =>
        ((if p2 = 5 then
            (fX12_manyOf (q7 132 38) q7).bind fun q9 =>
            some (q9.1, q9.2)
          else
            (fX12_tell p2 q7).bind fun q8 =>
            some (q8.1, q8.2) : Option (Int × Mem))).bind fun q10 =>
        some (q10.1, q10.2)

noncomputable def fX12_howMany_b1 (p1 : Int) (s1 : Int × Int × Mem) : Option ((Int × Int × Mem) ⊕ (Int × Mem)) :=
  (fX12_values s1.2.2).bind fun q2 =>
  if q2.1 ≤ s1.2.1 then
    some (.inr (s1.1, q2.2))
  else
    ((if p1 = 0 then
        (fX12_isKnown s1.2.1 q2.2).bind fun q3 =>
        if q3.1 = 0 then
          some (0, q3.2)
        else
          some (1, q3.2)
      else
        (fX12_isLow s1.2.1 q2.2).bind fun q4 =>
        if q4.1 = 0 then
          some (0, q4.2)
        else
          some (1, q4.2) : Option (Int × Mem))).bind fun q5 =>
    (some (w32 (s1.1 + q5.1))).bind fun v6 =>
    some (.inl (v6, w32 (s1.2.1 + 1), q5.2))

noncomputable def fX12_howMany (p1 : Int) (M : Mem) : Option (Int × Mem) :=
  (lp (fX12_howMany_b1 p1) (0, 0, M)).bind fun q7 =>
  some (q7.1, q7.2)

noncomputable def fX12_narrowed (p1 : Int) (p2 : Int) (p3 : Int) (p4 : Int) (M : Mem) : Option (Int × Mem) :=
  (pI M 132 0 0).bind fun M1 =>
  (fX12_isInput p1 M1).bind fun q2 =>
  if q2.1 = 0 then
    some ((-1), q2.2)
  else
    (fX12_isRange p2 p3 q2.2).bind fun q3 =>
    if q3.1 = 0 then
      some ((-1), q3.2)
    else
      (fX12_within p4 0 7 q3.2).bind fun q4 =>
      if q4.1 = 0 then
        some ((-1), q4.2)
      else
        (fX12_rangesWith p1 p2 p3 q4.2).bind fun q5 =>
        (fX12_needs (-1) q5).bind fun q6 =>
        (fX12_orders (q6 132 28) q6).bind fun q7 =>
        (fX12_registers q7).bind fun q8 =>
        ((if 5 ≤ p4 then
            if p4 = 5 then
              (fX12_manyOf (q8 132 38) q8).bind fun q11 =>
              some (q11.1, q11.2)
            else
              ((if p4 = 6 then
                  some 1
                else
                  some 0 : Option (Int))).bind fun q9 =>
              (fX12_howMany q9 q8).bind fun q10 =>
              some (q10.1, q10.2)
          else
            (fX12_tell p4 q8).bind fun q12 =>
            some (q12.1, q12.2) : Option (Int × Mem))).bind fun q13 =>
        some (q13.1, q13.2)

noncomputable def fX12_swapped (p1 : Int) (p2 : Int) (M : Mem) : Option (Int × Mem) :=
  (pI M 132 0 0).bind fun M1 =>
  (fX12_plans M1).bind fun q2 =>
  (fX12_within p2 0 2 q2).bind fun q3 =>
  if q3.1 = 0 then
    some ((-1), q3.2)
  else
    (fX12_within p1 0 (w32 ((q3.2 132 41) - 2)) q3.2).bind fun q4 =>
    if q4.1 = 0 then
      some ((-1), q4.2)
    else
      (ldI q4.2 162 (w32 (p1 + 1))).bind fun v5 =>
      (ldJ q4.2 159 v5).bind fun v6 =>
      (ldI q4.2 162 p1).bind fun v7 =>
      (fX12_has v6 v7 q4.2).bind fun q8 =>
      if q8.1 = 0 then
        (ldI q8.2 162 p1).bind fun v9 =>
        (ldI q8.2 162 (w32 (p1 + 1))).bind fun v10 =>
        (stI q8.2 162 p1 v10).bind fun M11 =>
        (stI M11 162 (w32 (p1 + 1)) v9).bind fun M12 =>
        (fX12_lives M12).bind fun q13 =>
        (fX12_tell p2 q13).bind fun q14 =>
        some (q14.1, q14.2)
      else
        some ((-1), q8.2)

noncomputable def fX12_argRun (p1 : Int) (p2 : Int) (M : Mem) : Option (Int × Mem) :=
  (fX12_argOf p1 p2 M).bind fun q1 =>
  ((if 0 ≤ q1.1 then
      (fX12_argOf p1 p2 q1.2).bind fun q2 =>
      (ldI q2.2 158 q2.1).bind fun v3 =>
      some (v3, q2.2)
    else
      some ((-1), q1.2) : Option (Int × Mem))).bind fun q4 =>
  ((if 0 ≤ q4.1 then
      (fX12_isKnown q4.1 q4.2).bind fun q5 =>
      if q5.1 = 0 then
        (fX12_fileOf q4.1 q5.2).bind fun q6 =>
        (ldI q6.2 165 q4.1).bind fun v7 =>
        (ldI q6.2 170 (w32 ((w32 (128 * q6.1)) + v7))).bind fun v8 =>
        some (v8, q6.2)
      else
        (ldI q5.2 153 q4.1).bind fun v9 =>
        some (v9, q5.2)
    else
      some (0, q4.2) : Option (Int × Mem))).bind fun q10 =>
  some (q10.1, q10.2)

noncomputable def fX12_ran_b2 (q15_1 : Int) (v6 : Int) (s16 : Int × Mem) : Option ((Int × Mem) ⊕ (Mem)) :=
  (fX12_widthOf v6 s16.2).bind fun q17 =>
  if q17.1 ≤ s16.1 then
    some (.inr q17.2)
  else
    (fX12_fileOf v6 q17.2).bind fun q18 =>
    (ldI q18.2 165 v6).bind fun v19 =>
    (stI q18.2 170 (w32 ((w32 ((w32 (128 * q18.1)) + v19)) + s16.1)) q15_1).bind fun M20 =>
    some (.inl (w32 (s16.1 + 1), M20))

noncomputable def fX12_ran_b1 (p1 : Int) (s5 : Int × Mem) : Option ((Int × Mem) ⊕ (Mem)) :=
  if (s5.2 132 41) ≤ s5.1 then
    some (.inr s5.2)
  else
    (ldI s5.2 162 s5.1).bind fun v6 =>
    (fX12_howOf v6 s5.2).bind fun q7 =>
    ((if q7.1 = 0 then
        (fX12_argOf v6 0 q7.2).bind fun q13 =>
        (ldI q13.2 151 (w32 ((w32 (4 * q13.1)) + p1))).bind fun v14 =>
        some (v14, q13.2)
      else
        (fX12_howOf v6 q7.2).bind fun q8 =>
        (fX12_argRun v6 0 q8.2).bind fun q9 =>
        (fX12_argRun v6 1 q9.2).bind fun q10 =>
        (fX12_argRun v6 2 q10.2).bind fun q11 =>
        (fX12_worked q8.1 q9.1 q10.1 q11.1 q11.2).bind fun q12 =>
        some (q12.1, q12.2) : Option (Int × Mem))).bind fun q15 =>
    (lp (fX12_ran_b2 q15.1 v6) (0, q15.2)).bind fun q21 =>
    some (.inl (w32 (s5.1 + 1), q21))

noncomputable def fX12_ran (p1 : Int) (p2 : Int) (M : Mem) : Option (Int × Mem) :=
  (fX12_isShown p1 p2 M).bind fun q1 =>
  ((if q1.1 = 0 then
      some 1
    else
      some 0 : Option (Int))).bind fun q2 =>
  (pI q1.2 132 0 q2).bind fun M3 =>
  if (M3 132 0) ≤ 0 then
    (fX12_plans M3).bind fun q4 =>
    (lp (fX12_ran_b1 p1) (0, q4)).bind fun q22 =>
    (ldI q22 138 (w32 (28 + p2))).bind fun v23 =>
    (ldI q22 158 v23).bind fun v24 =>
    (fX12_isKnown v24 q22).bind fun q25 =>
    ((if q25.1 = 0 then
        (fX12_fileOf v24 q25.2).bind fun q26 =>
        (ldI q26.2 165 v24).bind fun v27 =>
        (ldI q26.2 170 (w32 ((w32 (128 * q26.1)) + v27))).bind fun v28 =>
        some (v28, q26.2)
      else
        (ldI q25.2 153 v24).bind fun v29 =>
        some (v29, q25.2) : Option (Int × Mem))).bind fun q30 =>
    some (q30.1, q30.2)
  else
    some (0, M3)

noncomputable def fX12_livesIn_b1 (M : Mem) (p1 : Int) (p2 : Int) (s1 : Int × Int) : Option ((Int × Int) ⊕ (Int)) :=
  if p2 ≤ s1.2 then
    some (.inr s1.1)
  else
    ((if (iand (ishr p1 s1.2) 1) = 1 then
        (ldI M 171 s1.2).bind fun v2 =>
        some (lshl 1 v2)
      else
        some 0 : Option (Int))).bind fun q3 =>
    (some (lor s1.1 q3)).bind fun v4 =>
    some (.inl (v4, w32 (s1.2 + 1)))

noncomputable def fX12_livesIn_b2 (p2 : Int) (q5 : Int) (s6 : Int × Int × Mem) : Option ((Int × Int × Mem) ⊕ (Int × Mem)) :=
  if p2 ≤ s6.2.1 then
    some (.inr (s6.1, s6.2.2))
  else
    (ldI s6.2.2 171 s6.2.1).bind fun v7 =>
    (fX12_has q5 v7 s6.2.2).bind fun q8 =>
    ((if q8.1 = 0 then
        some (0, q8.2)
      else
        (fX12_has (q8.2 132 39) v7 q8.2).bind fun q9 =>
        if q9.1 = 0 then
          (ldJ q9.2 160 v7).bind fun v11 =>
          if (lc (land v11 (lxor q5 (-1))) 0) = 0 then
            some (0, q9.2)
          else
            (fX12_widthOf v7 q9.2).bind fun q12 =>
            some (q12.1, q12.2)
        else
          (fX12_widthOf v7 q9.2).bind fun q10 =>
          some (q10.1, q10.2) : Option (Int × Mem))).bind fun q13 =>
    (some (w32 (s6.1 + q13.1))).bind fun v14 =>
    some (.inl (v14, w32 (s6.2.1 + 1), q13.2))

noncomputable def fX12_livesIn (p1 : Int) (p2 : Int) (M : Mem) : Option (Int × Mem) :=
  (lp (fX12_livesIn_b1 M p1 p2) (0, 0)).bind fun q5 =>
  (lp (fX12_livesIn_b2 p2 q5) (0, 0, M)).bind fun q15 =>
  some (q15.1, q15.2)

noncomputable def fX12_comesBehind_b1 (M : Mem) (p1 : Int) (p3 : Int) (s1 : Int × Int) : Option ((Int × Int) ⊕ (Int)) :=
  if p3 ≤ s1.2 then
    some (.inr s1.1)
  else
    ((if (iand (ishr p1 s1.2) 1) = 1 then
        (ldI M 171 s1.2).bind fun v2 =>
        some (lshl 1 v2)
      else
        some 0 : Option (Int))).bind fun q3 =>
    (some (lor s1.1 q3)).bind fun v4 =>
    some (.inl (v4, w32 (s1.2 + 1)))

noncomputable def fX12_comesBehind (p1 : Int) (p2 : Int) (p3 : Int) (M : Mem) : Option (Int × Mem) :=
  (lp (fX12_comesBehind_b1 M p1 p3) (0, 0)).bind fun q5 =>
  (ldI M 171 p2).bind fun v6 =>
  (ldJ M 159 v6).bind fun v7 =>
  ((if (lc (land v7 (lxor q5 (-1))) 0) = 0 then
      some 1
    else
      some 0 : Option (Int))).bind fun q8 =>
  rz q8 M

noncomputable def fX12_canBe_b2 (p1 : Int) (p2 : Int) (s2_1 : Int) (s4 : Int × Mem) : Option ((Int × Mem) ⊕ (Mem)) :=
  if p2 ≤ s4.1 then
    some (.inr s4.2)
  else
    (ldZ s4.2 172 s2_1).bind fun v5 =>
    if v5 = 0 then
      ((if (iand (ishr s2_1 s4.1) 1) = 1 then
          (ldZ s4.2 172 (w32 (s2_1 - (ishl 1 s4.1)))).bind fun v6 =>
          if v6 = 0 then
            some 0
          else
            some 1
        else
          some 0 : Option (Int))).bind fun q7 =>
      ((if q7 = 0 then
          some (0, s4.2)
        else
          (fX12_comesBehind (w32 (s2_1 - (ishl 1 s4.1))) s4.1 p2 s4.2).bind fun q8 =>
          if q8.1 = 0 then
            some (0, q8.2)
          else
            (fX12_livesIn s2_1 p2 q8.2).bind fun q9 =>
            if p1 < q9.1 then
              some (0, q9.2)
            else
              some (1, q9.2) : Option (Int × Mem))).bind fun q10 =>
      (stZ q10.2 172 s2_1 q10.1).bind fun M11 =>
      some (.inl (w32 (s4.1 + 1), M11))
    else
      some (.inr s4.2)

noncomputable def fX12_canBe_b1 (p1 : Int) (p2 : Int) (s2 : Int × Mem) : Option ((Int × Mem) ⊕ (Mem)) :=
  if (ishl 1 p2) ≤ s2.1 then
    some (.inr s2.2)
  else
    (stZ s2.2 172 s2.1 0).bind fun M3 =>
    (lp (fX12_canBe_b2 p1 p2 s2.1) (0, M3)).bind fun q12 =>
    some (.inl (w32 (s2.1 + 1), q12))

noncomputable def fX12_canBe (p1 : Int) (p2 : Int) (M : Mem) : Option (Int × Mem) :=
  (stZ M 172 0 1).bind fun M1 =>
  (lp (fX12_canBe_b1 p1 p2) (1, M1)).bind fun q13 =>
  (ldZ q13 172 (w32 ((ishl 1 p2) - 1))).bind fun v14 =>
  rz v14 q13

noncomputable def fX12_best_b1  (s4 : Int × Int × Mem) : Option ((Int × Int × Mem) ⊕ (Mem)) :=
  (fX12_values s4.2.2).bind fun q5 =>
  if q5.1 ≤ s4.2.1 then
    some (.inr q5.2)
  else
    (fX12_has (q5.2 132 38) s4.2.1 q5.2).bind fun q6 =>
    ((if q6.1 = 0 then
        some (s4.1, q6.2)
      else
        (stI q6.2 171 s4.1 s4.2.1).bind fun M7 =>
        some (w32 (s4.1 + 1), M7) : Option (Int × Mem))).bind fun q8 =>
    some (.inl (q8.1, w32 (s4.2.1 + 1), q8.2))

noncomputable def fX12_best_b2 (q3_1 : Int) (s10 : Int × Mem) : Option ((Int × Mem) ⊕ (Int × Mem)) :=
  if q3_1 ≤ 0 then
    some (.inr (s10.1, s10.2))
  else
    (fX12_canBe s10.1 q3_1 s10.2).bind fun q11 =>
    if q11.1 = 0 then
      some (.inl (w32 (s10.1 + 1), q11.2))
    else
      some (.inr (s10.1, q11.2))

noncomputable def fX12_best  (M : Mem) : Option (Int × Mem) :=
  (pI M 132 0 0).bind fun M1 =>
  (fX12_all0 M1).bind fun q2 =>
  (fX12_manyOf (q2 132 38) q2).bind fun q3 =>
  if q3.1 ≤ 12 then
    (lp (fX12_best_b1) (0, 0, q3.2)).bind fun q9 =>
    (lp (fX12_best_b2 q3.1) (0, q9)).bind fun q12 =>
    some (q12.1, q12.2)
  else
    some ((-1), q3.2)

noncomputable def fX12_parts (p1 : Int) (M : Mem) : Option (Int × Mem) :=
  (pI M 132 0 0).bind fun M1 =>
  ((if p1 < 0 then
      some (-1)
    else
      (ldI M1 138 2).bind fun v2 =>
      if v2 ≤ p1 then
        some (-1)
      else
        (ldI M1 138 (w32 (292 + p1))).bind fun v3 =>
        some v3 : Option (Int))).bind fun q4 =>
  some (q4, M1)

noncomputable def fX12_count (p1 : Int) (M : Mem) : Option (Int × Mem) :=
  (pI M 132 0 0).bind fun M1 =>
  (fX12_plans M1).bind fun q2 =>
  if p1 = 0 then
    (fX12_values q2).bind fun q3 =>
    some (q3.1, q3.2)
  else if p1 = 1 then
    (fX12_inputs q2).bind fun q4 =>
    some (q4.1, q4.2)
  else if p1 = 2 then
    (ldI q2 138 9).bind fun v5 =>
    some (v5, q2)
  else if p1 = 3 then
    (fX12_manyOf (q2 132 38) q2).bind fun q6 =>
    some (q6.1, q6.2)
  else if p1 = 4 then
    (fX12_howMany 1 q2).bind fun q7 =>
    some (q7.1, q7.2)
  else if p1 = 5 then
    some (q2 132 48, q2)
  else if p1 = 6 then
    some (q2 132 50, q2)
  else if p1 = 7 then
    (ldI q2 138 3).bind fun v8 =>
    some (v8, q2)
  else if p1 = 8 then
    (ldI q2 138 4).bind fun v9 =>
    some (v9, q2)
  else if p1 = 9 then
    some (q2 132 28, q2)
  else if p1 = 10 then
    (ldI q2 138 2).bind fun v10 =>
    some (v10, q2)
  else if p1 = 11 then
    some (q2 132 2, q2)
  else if p1 = 12 then
    (ldI q2 138 5).bind fun v11 =>
    some (v11, q2)
  else 
    some ((-1), q2)

noncomputable def fX1_asSet_b1 (M : Mem) (p1 : Int) (s1 : Int × Int) : Option ((Int × Int) ⊕ (Int)) :=
  if (M 114 7) ≤ s1.2 then
    some (.inr s1.1)
  else
    (ldI M 116 s1.2).bind fun v2 =>
    ((if (lc (land (lushr p1 v2) 1) 0) = 0 then
        some s1.1
      else
        (some (ior s1.1 (ishl 1 s1.2))).bind fun v3 =>
        some v3 : Option (Int))).bind fun q4 =>
    some (.inl (q4, w32 (s1.2 + 1)))

noncomputable def fX1_asSet (p1 : Int) (M : Mem) : Option (Int × Mem) :=
  (lp (fX1_asSet_b1 M p1) (0, 0)).bind fun q5 =>
  some (q5, M)

noncomputable def fX1_gather_b1  (s2 : Int × Mem) : Option ((Int × Mem) ⊕ (Mem)) :=
  if (s2.2 44 0) ≤ s2.1 then
    some (.inr s2.2)
  else
    if 12 ≤ (s2.2 114 7) then
      some (.inr s2.2)
    else
      (fX5_isNeeded 62 s2.1 s2.2).bind fun q3 =>
      ((if q3.1 = 0 then
          some q3.2
        else
          (stI q3.2 116 (q3.2 114 7) s2.1).bind fun M4 =>
          (pI M4 114 7 (w32 ((M4 114 7) + 1))).bind fun M5 =>
          some M5 : Option (Mem))).bind fun q6 =>
      some (.inl (w32 (s2.1 + 1), q6))

noncomputable def fX1_gather_b2  (s8 : Int × Mem) : Option ((Int × Mem) ⊕ (Mem)) :=
  if (s8.2 114 7) ≤ s8.1 then
    some (.inr s8.2)
  else
    (ldI s8.2 116 s8.1).bind fun v9 =>
    (ldJ s8.2 70 v9).bind fun v10 =>
    (fX1_asSet v10 s8.2).bind fun q11 =>
    (stI q11.2 117 s8.1 q11.1).bind fun M12 =>
    (ldI M12 116 s8.1).bind fun v13 =>
    (ldJ M12 71 v13).bind fun v14 =>
    (fX1_asSet v14 M12).bind fun q15 =>
    (stI q15.2 118 s8.1 q15.1).bind fun M16 =>
    some (.inl (w32 (s8.1 + 1), M16))

noncomputable def fX1_gather  (M : Mem) : Option (Mem) :=
  (pI M 114 7 0).bind fun M1 =>
  (lp (fX1_gather_b1) (0, M1)).bind fun q7 =>
  (lp (fX1_gather_b2) (0, q7)).bind fun q17 =>
  some q17

noncomputable def fX1_living_b1 (p1 : Int) (s1 : Int × Int × Mem) : Option ((Int × Int × Mem) ⊕ (Int × Mem)) :=
  if (s1.2.2 114 7) ≤ s1.2.1 then
    some (.inr (s1.1, s1.2.2))
  else
    ((if (iand (iushr p1 s1.2.1) 1) = 0 then
        some 0
      else
        some 1 : Option (Int))).bind fun q2 =>
    ((if q2 = 0 then
        some (true, s1.2.2)
      else
        (ldI s1.2.2 116 s1.2.1).bind fun v3 =>
        (fX5_isKept 62 v3 s1.2.2).bind fun q4 =>
        if q4.1 = 0 then
          (ldI q4.2 118 s1.2.1).bind fun v5 =>
          if (iand v5 (ixor p1 (-1))) = 0 then
            some (true, q4.2)
          else
            some (false, q4.2)
        else
          some (false, q4.2) : Option (Bool × Mem))).bind fun q6 =>
    ((if q6.1 = true then
        some s1.1
      else
        (ldI q6.2 116 s1.2.1).bind fun v7 =>
        (ldI q6.2 65 v7).bind fun v8 =>
        (some (w32 (s1.1 + v8))).bind fun v9 =>
        some v9 : Option (Int))).bind fun q10 =>
    some (.inl (q10, w32 (s1.2.1 + 1), q6.2))

noncomputable def fX1_living (p1 : Int) (M : Mem) : Option (Int × Mem) :=
  (lp (fX1_living_b1 p1) (0, 0, M)).bind fun q11 =>
  some (q11.1, q11.2)

noncomputable def fX1_goOn_b1 (p1 : Int) (s1 : Int × Mem) : Option ((Int × Mem) ⊕ (Mem)) :=
  if (s1.2 114 7) ≤ s1.1 then
    some (.inr s1.2)
  else
    ((if (iand (iushr p1 s1.1) 1) = 0 then
        (ldI s1.2 117 s1.1).bind fun v2 =>
        if (iand v2 (ixor p1 (-1))) = 0 then
          (some (ior p1 (ishl 1 s1.1))).bind fun v3 =>
          (ldI s1.2 115 v3).bind fun v4 =>
          (ldI s1.2 115 p1).bind fun v5 =>
          (stI s1.2 115 v3 (imin v4 v5)).bind fun M6 =>
          some M6
        else
          some s1.2
      else
        some s1.2 : Option (Mem))).bind fun q7 =>
    some (.inl (w32 (s1.1 + 1), q7))

noncomputable def fX1_goOn (p1 : Int) (M : Mem) : Option (Mem) :=
  (lp (fX1_goOn_b1 p1) (0, M)).bind fun q8 =>
  some q8

noncomputable def fX4_argNumber (t : Nat) (p1 : Int) (p2 : Int) (M : Mem) : Option (Int × Mem) :=
  (ldI M (t + 6) (w32 ((w32 (3 * p1)) + p2))).bind fun v1 =>
  ((if v1 < 0 then
      some (ixor v1 (-1))
    else
      (ldI M 58 v1).bind fun v2 =>
      some v2 : Option (Int))).bind fun q3 =>
  some (q3, M)

noncomputable def fX4_walkIs_b1 (p1 : Int) (t : Nat) (v1 : Int) (s2 : Int × Mem) : Option ((Int × Mem) ⊕ (Mem)) :=
  (fX11_argsOf v1 s2.2).bind fun q3 =>
  if q3.1 ≤ s2.1 then
    some (.inr q3.2)
  else
    (fX4_argNumber t p1 s2.1 q3.2).bind fun q4 =>
    (stI q4.2 61 s2.1 q4.1).bind fun M5 =>
    some (.inl (w32 (s2.1 + 1), M5))

noncomputable def fX4_walkIs (t : Nat) (p1 : Int) (M : Mem) : Option (Mem) :=
  (ldI M (t + 4) p1).bind fun v1 =>
  (lp (fX4_walkIs_b1 p1 t v1) (0, M)).bind fun q6 =>
  (ldI q6 (t + 3) p1).bind fun v7 =>
  (ldI q6 61 0).bind fun v8 =>
  (ldI q6 61 1).bind fun v9 =>
  (ldI q6 61 2).bind fun v10 =>
  (fX11_made v1 v8 v9 v10 q6).bind fun q11 =>
  (stI q11.2 58 v7 q11.1).bind fun M12 =>
  some M12

noncomputable def fX4_walkTimes (p1 : Int) (M : Mem) : Option (Mem) :=
  ((if 4 ≤ (M 56 6) then
      some M
    else
      (stI M 59 (M 56 6) p1).bind fun M1 =>
      (pI M1 56 6 (w32 ((M1 56 6) + 1))).bind fun M2 =>
      some M2 : Option (Mem))).bind fun q3 =>
  some q3

noncomputable def fX4_walkTimesEnd (t : Nat) (p1 : Int) (M : Mem) : Option (Int × Mem) :=
  if (M 56 6) = 0 then
    some (w32 (p1 + 1), M)
  else
    (ldI M 59 (w32 ((M 56 6) - 1))).bind fun v1 =>
    (stI M 59 (w32 ((M 56 6) - 1)) (w32 (v1 - 1))).bind fun M2 =>
    (ldI M2 59 (w32 ((M2 56 6) - 1))).bind fun v3 =>
    if v3 ≤ 0 then
      (pI M2 56 6 (w32 ((M2 56 6) - 1))).bind fun M4 =>
      some (w32 (p1 + 1), M4)
    else
      (ldI M2 (t + 8) p1).bind fun v5 =>
      some (w32 (v5 + 1), M2)

noncomputable def fX4_walkLine (t : Nat) (p1 : Int) (p2 : Int) (M : Mem) : Option (Int × Mem) :=
  (ldI M (t + 1) p1).bind fun v1 =>
  if v1 = 0 then
    (ldI M (t + 3) p1).bind fun v2 =>
    (ldI M (t + 9) p1).bind fun v3 =>
    (ldI M 54 (w32 ((w32 (4 * v3)) + p2))).bind fun v4 =>
    (stI M 58 v2 v4).bind fun M5 =>
    some (w32 (p1 + 1), M5)
  else if v1 = 4 then
    (fX4_walkIs t p1 M).bind fun q6 =>
    some (w32 (p1 + 1), q6)
  else if v1 = 5 then
    (fX4_argNumber t p1 0 M).bind fun q7 =>
    ((if q7.1 = 1 then
        some (w32 (p1 + 1))
      else
        (ldI q7.2 (t + 8) p1).bind fun v8 =>
        some (w32 (v8 + 1)) : Option (Int))).bind fun q9 =>
    some (q9, q7.2)
  else if v1 = 6 then
    (ldI M (t + 8) p1).bind fun v10 =>
    some (w32 (v10 + 1), M)
  else if v1 = 7 then
    (ldI M (t + 9) p1).bind fun v11 =>
    (fX4_walkTimes v11 M).bind fun q12 =>
    some (w32 (p1 + 1), q12)
  else if v1 = 8 then
    (fX3_endsTimes t p1 M).bind fun q13 =>
    ((if q13.1 = 0 then
        some (w32 (p1 + 1), q13.2)
      else
        (fX4_walkTimesEnd t p1 q13.2).bind fun q14 =>
        some (q14.1, q14.2) : Option (Int × Mem))).bind fun q15 =>
    some (q15.1, q15.2)
  else 
    some (w32 (p1 + 1), M)

noncomputable def fX4_walk_b1 (p1 : Int) (p2 : Int) (t : Nat) (s2 : Int × Int × Int × Mem) : Option ((Int × Int × Int × Mem) ⊕ ((Mem) ⊕ (Int × Mem))) :=
  if 10000 ≤ s2.2.2.1 then
    some (.inr (.inl s2.2.2.2))
  else
    if (s2.2.2.2 t 0) ≤ s2.2.1 then
      some (.inr (.inl s2.2.2.2))
    else
      (ldI s2.2.2.2 (t + 1) s2.2.1).bind fun v3 =>
      if v3 = 9 then
        if s2.1 = p2 then
          (fX4_argNumber t s2.2.1 0 s2.2.2.2).bind fun q6 =>
          some (.inr (.inr (q6.1, q6.2)))
        else
          (fX4_walkLine t s2.2.1 p1 s2.2.2.2).bind fun q5 =>
          some (.inl (w32 (s2.1 + 1), q5.1, w32 (s2.2.2.1 + 1), q5.2))
      else
        (fX4_walkLine t s2.2.1 p1 s2.2.2.2).bind fun q4 =>
        some (.inl (s2.1, q4.1, w32 (s2.2.2.1 + 1), q4.2))

noncomputable def fX4_walk (t : Nat) (p1 : Int) (p2 : Int) (M : Mem) : Option (Int × Mem) :=
  (pI M 56 6 0).bind fun M1 =>
  (lp (fX4_walk_b1 p1 p2 t) (0, 0, 0, M1)).bind (Sum.elim (fun q7 =>
  some ((-1), q7)) (fun r => some r))

noncomputable def fX4_heldFor (p1 : Int) (M : Mem) : Option (Int × Mem) :=
  (ldI M 67 p1).bind fun v1 =>
  (fX2_isKnown 62 v1 M).bind fun q2 =>
  if q2.1 = 0 then
    (fX7_halfOf 62 v1 q2.2).bind fun q3 =>
    (ldI q3.2 60 q3.1).bind fun v4 =>
    some (v4, q3.2)
  else
    (ldI q2.2 63 v1).bind fun v5 =>
    some (v5, q2.2)

noncomputable def fX4_run_b2 (v2 : Int) (s3 : Int × Mem) : Option ((Int × Mem) ⊕ (Mem)) :=
  (ldI s3.2 45 v2).bind fun v4 =>
  (fX11_argsOf v4 s3.2).bind fun q5 =>
  if q5.1 ≤ s3.1 then
    some (.inr q5.2)
  else
    (ldI q5.2 46 (w32 ((w32 (3 * v2)) + s3.1))).bind fun v6 =>
    (fX4_heldFor v6 q5.2).bind fun q7 =>
    (stI q7.2 61 s3.1 q7.1).bind fun M8 =>
    some (.inl (w32 (s3.1 + 1), M8))

noncomputable def fX4_run_b1 (p1 : Int) (s1 : Int × Mem) : Option ((Int × Mem) ⊕ (Mem)) :=
  if (s1.2 75 4) ≤ s1.1 then
    some (.inr s1.2)
  else
    (ldI s1.2 76 s1.1).bind fun v2 =>
    (lp (fX4_run_b2 v2) (0, s1.2)).bind fun q9 =>
    (fX7_halfOf 62 v2 q9).bind fun q10 =>
    (fX4_reckonOne p1 v2 q10.2).bind fun q11 =>
    (stI q11.2 60 q10.1 q11.1).bind fun M12 =>
    some (.inl (w32 (s1.1 + 1), M12))

noncomputable def fX4_run (p1 : Int) (M : Mem) : Option (Mem) :=
  (lp (fX4_run_b1 p1) (0, M)).bind fun q13 =>
  some q13
