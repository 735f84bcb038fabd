def f_X7_append (x1 : Int32) (S : St) : Option (Int32 × St) :=
  if (S.1 0) < 0 then
    some ((0 : Int32), S)
  else
    if (S.1 0) < (40 : Int32) then
      if (S.1 0) < 0 ∨ 40 ≤ (S.1 0).toNatClampNeg then none else
      nm (sA S 0 ((S.1 0).toNatClampNeg) x1) fun S27 =>
      nm (sI S27 0 ((S27.1 0) + (1 : Int32))) fun S35 =>
      some ((1 : Int32), S35)
    else
      some ((0 : Int32), S)
def f_X9_write (x1 : Int32) (S : St) : Option (Int32 × St) :=
  if x1 < 0 then
    some ((-2 : Int32), S)
  else
    if x1 ≤ (255 : Int32) then
      (f_X7_append x1 S).bind fun r19 =>
      if r19.1 = 0 then
        some ((-4 : Int32), r19.2)
      else
        some ((r19.2.1 0), r19.2)
    else
      some ((-2 : Int32), S)
def f_X9_wipe (S : St) : Option (Int32 × St) :=
  nm (sI S 0 (0 : Int32)) fun S13 =>
  some ((S.1 0), S13)
def f_X7_byteAt (x1 : Int32) (S : St) : Option (Int32) :=
  if x1 < 0 then
    some (0 : Int32)
  else
    if (S.1 0) ≤ x1 then
      some (0 : Int32)
    else
      if (40 : Int32) ≤ x1 then
        some (0 : Int32)
      else
        if x1 < 0 ∨ 40 ≤ x1.toNatClampNeg then none else
        some (S.2.1 0 x1.toNatClampNeg)
def f_X7_digitAt (x1 : Int32) (S : St) : Option (Int32) :=
  (f_X7_byteAt x1 S).bind fun r2 =>
  some (r2 - (48 : Int32))
def f_X7_isDigit (x1 : Int32) (x2 : Int32) (x3 : Int32) (S : St) : Option (Int32) :=
  (f_X7_digitAt x1 S).bind fun r2 =>
  if r2 < x2 then
    some (0 : Int32)
  else
    if x3 < r2 then
      some (0 : Int32)
    else
      some (1 : Int32)
def f_X7_mayStandInHead (x1 : Int32) (S : St) : Option (Int32) :=
  if x1 = (0 : Int32) then
    (f_X7_byteAt x1 S).bind fun r30 =>
    if r30 = (65 : Int32) then
      some (1 : Int32)
    else
      some (0 : Int32)
  else
  if x1 = (1 : Int32) then
    (f_X7_isDigit x1 (2 : Int32) (9 : Int32) S).bind fun r49 =>
    if r49 = 0 ∨ r49 = 1 then some r49 else none
  else
  (f_X7_isDigit x1 (0 : Int32) (9 : Int32) S).bind fun r58 =>
  if r58 = 0 ∨ r58 = 1 then some r58 else none
def f_X7_mayStand (x1 : Int32) (S : St) : Option (Int32) :=
  if (6 : Int32) ≤ x1 then
    if x1 < (38 : Int32) then
      if ((x1 - (6 : Int32)) - (x1 - (6 : Int32)) / (4 : Int32) * (4 : Int32)) = (0 : Int32) then
        (f_X7_byteAt x1 S).bind fun r54 =>
        if r54 = (76 : Int32) then
          some (1 : Int32)
        else
          some (0 : Int32)
      else
      if ((x1 - (6 : Int32)) - (x1 - (6 : Int32)) / (4 : Int32) * (4 : Int32)) = (1 : Int32) then
        (f_X7_isDigit x1 (0 : Int32) (3 : Int32) S).bind fun r72 =>
        if r72 = 0 ∨ r72 = 1 then some r72 else none
      else
      (f_X7_isDigit x1 (0 : Int32) (9 : Int32) S).bind fun r81 =>
      if r81 = 0 ∨ r81 = 1 then some r81 else none
    else
      some (0 : Int32)
  else
    (f_X7_mayStandInHead x1 S).bind fun r8 =>
    if r8 = 0 ∨ r8 = 1 then some r8 else none
def f_X7_isWhole (S : St) : Option (Int32) :=
  if (S.1 0) < (6 : Int32) then
    some (0 : Int32)
  else
    if (((S.1 0) - (6 : Int32)) - ((S.1 0) - (6 : Int32)) / (4 : Int32) * (4 : Int32)) = 0 then
      some (1 : Int32)
    else
      some (0 : Int32)
def l_X7_firstFault_2 (S : St) : Nat → Int32 → Option (Nat × Int32)
  | 0, _ => none
  | n + 1, x1 =>
    if (S.1 0) ≤ x1 then
      some (1, x1)
    else
      (f_X7_mayStand x1 S).bind fun r12 =>
      if r12 = 0 then
        some (0, x1)
      else
        l_X7_firstFault_2 S n (x1 + 1)
def f_X7_firstFault (S : St) : Option (Int32) :=
  (l_X7_firstFault_2 S fuel (0 : Int32)).bind fun o2 =>
  if o2.1 = 0 then
    some o2.2
  else
    (f_X7_isWhole S).bind fun r27 =>
    if r27 = 0 then
      some (S.1 0)
    else
      some (-9 : Int32)
def f_X9_fault (S : St) : Option (Int32) :=
  (f_X7_firstFault S).bind fun r4 =>
  some r4
def f_X7_stages (S : St) : Option (Int32) :=
  some (((S.1 0) - (6 : Int32)) / (4 : Int32))
def f_X3_errorOfGround (x0 : Int32) (x1 : Int32) : Option (Int32) :=
  if x0 = (1 : Int32) then
    some ((-x1) * x1)
  else
  if x0 = (2 : Int32) then
    some (-x1)
  else
  if x0 = (3 : Int32) then
    some ((-2 : Int32) * x1)
  else
  some (0 : Int32)
def l_X3_read_a1_70 : Nat → Int32 → St → Option (St)
  | 0, _, _ => none
  | n + 1, x2, S =>
    if (S.1 6) ≤ x2 then
      some S
    else
      if (8 : Int32) ≤ x2 then
        some S
      else
        nm ((6 : Int32) + ((4 : Int32) * x2)) fun v90 =>
        (f_X7_digitAt (v90 + (1 : Int32)) S).bind fun r100 =>
        if x2 < 0 ∨ 8 ≤ x2.toNatClampNeg then none else
        nm (sA S 1 x2.toNatClampNeg r100) fun S103 =>
        (f_X7_digitAt (v90 + (2 : Int32)) S103).bind fun r113 =>
        if x2 < 0 ∨ 8 ≤ x2.toNatClampNeg then none else
        nm (sA S103 2 x2.toNatClampNeg r113) fun S116 =>
        (f_X7_digitAt (v90 + (3 : Int32)) S116).bind fun r126 =>
        if x2 < 0 ∨ 8 ≤ x2.toNatClampNeg then none else
        nm (sA S116 3 x2.toNatClampNeg r126) fun S129 =>
        if x2 < 0 ∨ 8 ≤ x2.toNatClampNeg then none else
        if x2 < 0 ∨ 8 ≤ x2.toNatClampNeg then none else
        (f_X3_errorOfGround (S129.2.1 1 x2.toNatClampNeg) (S129.2.1 2 x2.toNatClampNeg)).bind fun r147 =>
        if x2 < 0 ∨ 8 ≤ x2.toNatClampNeg then none else
        nm (sA S129 10 x2.toNatClampNeg r147) fun S150 =>
        l_X3_read_a1_70 n (x2 + 1) S150
def f_X3_read_a1 (S : St) : Option (St) :=
  (f_X7_digitAt (1 : Int32) S).bind fun r3 =>
  nm (sI S 1 r3) fun S6 =>
  (f_X7_digitAt (2 : Int32) S6).bind fun r12 =>
  nm (sI S6 2 (r12 - (5 : Int32))) fun S17 =>
  (f_X7_digitAt (3 : Int32) S17).bind fun r23 =>
  nm (sI S17 3 r23) fun S26 =>
  (f_X7_digitAt (4 : Int32) S26).bind fun r32 =>
  nm (sI S26 4 (r32 - (5 : Int32))) fun S37 =>
  (f_X7_digitAt (5 : Int32) S37).bind fun r43 =>
  nm (sI S37 5 (r43 - (5 : Int32))) fun S48 =>
  (f_X7_stages S48).bind fun r56 =>
  nm (sI S48 6 (if (0 : Int32) < (if r56 < (8 : Int32) then r56 else (8 : Int32)) then (if r56 < (8 : Int32) then r56 else (8 : Int32)) else (0 : Int32))) fun S65 =>
  (l_X3_read_a1_70 fuel (0 : Int32) S65).bind fun o70 =>
  some o70
def f_X8_begin_a3 (S : St) : Option (St) :=
  nm (sI S 7 (S.1 1)) fun S5 =>
  nm (sI S5 8 (0 : Int32)) fun S10 =>
  nm (sI S10 9 (0 : Int32)) fun S15 =>
  nm (sI S15 10 (0 : Int32)) fun S20 =>
  nm (sI S20 11 (0 : Int32)) fun S25 =>
  nm (sI S25 12 (0 : Int32)) fun S30 =>
  nm (sI S30 13 (S30.1 2)) fun S38 =>
  nm (sI S38 14 (S38.1 3)) fun S46 =>
  some S46
def f_X0_forget (S : St) : Option (St) :=
  nm (sI S 15 (0 : Int32)) fun S2 =>
  nm (sI S2 16 (0 : Int32)) fun S7 =>
  some S7
def f_X5_forget (S : St) : Option (St) :=
  nm (sI S 17 (0 : Int32)) fun S2 =>
  some S2
def f_X9_line (S : St) : Option (Int32 × St) :=
  (f_X7_firstFault S).bind fun r4 =>
  if r4 = (-9 : Int32) then
    (f_X3_read_a1 S).bind fun r23 =>
    (f_X8_begin_a3 r23).bind fun r34 =>
    (f_X0_forget r34).bind fun r41 =>
    (f_X5_forget r41).bind fun r48 =>
    some ((r48.1 6), r48)
  else
    some ((-3 : Int32), S)
def f_X3_bentOf (x1 : Int32) (S : St) : Option (Int32) :=
  if x1 = 0 then
    some (S.1 4)
  else
    some (S.1 5)
def f_X9_about (x1 : Int32) (S : St) : Option (Int32) :=
  if x1 = (0 : Int32) then
    some (S.1 1)
  else
  if x1 = (1 : Int32) then
    some (S.1 6)
  else
  if x1 = (2 : Int32) then
    some (S.1 10)
  else
  if x1 = (3 : Int32) then
    some (S.1 7)
  else
  if x1 = (4 : Int32) then
    some (S.1 8)
  else
  if x1 = (5 : Int32) then
    some (S.1 9)
  else
  if x1 = (6 : Int32) then
    some (S.1 11)
  else
  if x1 = (7 : Int32) then
    some (S.1 12)
  else
  if x1 = (8 : Int32) then
    some ((S.1 13) + (50 : Int32))
  else
  if x1 = (9 : Int32) then
    some (S.1 14)
  else
  if x1 = (10 : Int32) then
    some (S.1 16)
  else
  if x1 = (11 : Int32) then
    some (S.1 18)
  else
  if x1 = (12 : Int32) then
    some (S.1 0)
  else
  if x1 = (13 : Int32) then
    (f_X3_bentOf (0 : Int32) S).bind fun r188 =>
    some (r188 + (5 : Int32))
  else
  if x1 = (14 : Int32) then
    (f_X3_bentOf (1 : Int32) S).bind fun r199 =>
    some (r199 + (5 : Int32))
  else
  some (-2 : Int32)
def f_X3_has (x1 : Int32) (S : St) : Option (Int32) :=
  if x1 < 0 then
    some (0 : Int32)
  else
    if (S.1 6) ≤ x1 then
      some (0 : Int32)
    else
      if (8 : Int32) ≤ x1 then
        some (0 : Int32)
      else
        some (1 : Int32)
def f_X3_kindOf (x1 : Int32) (S : St) : Option (Int32) :=
  (f_X3_has x1 S).bind fun r2 =>
  if r2 = 0 then
    some (0 : Int32)
  else
    if x1 < 0 ∨ 8 ≤ x1.toNatClampNeg then none else
    some (S.2.1 1 x1.toNatClampNeg)
def f_X3_valueOf (x1 : Int32) (S : St) : Option (Int32) :=
  (f_X3_has x1 S).bind fun r2 =>
  if r2 = 0 then
    some (0 : Int32)
  else
    if x1 < 0 ∨ 8 ≤ x1.toNatClampNeg then none else
    some (S.2.1 2 x1.toNatClampNeg)
def f_X3_gorseOf (x1 : Int32) (S : St) : Option (Int32) :=
  (f_X3_has x1 S).bind fun r2 =>
  if r2 = 0 then
    some (0 : Int32)
  else
    if x1 < 0 ∨ 8 ≤ x1.toNatClampNeg then none else
    some (S.2.1 3 x1.toNatClampNeg)
def f_X8_isLaid (x1 : Int32) (S : St) : Option (Int32) :=
  if x1 < 0 then
    some (0 : Int32)
  else
    if (S.1 10) ≤ x1 then
      some (0 : Int32)
    else
      if (8 : Int32) ≤ x1 then
        some (0 : Int32)
      else
        some (1 : Int32)
def f_X8_errorOf (x1 : Int32) (S : St) : Option (Int32) :=
  (f_X8_isLaid x1 S).bind fun r2 =>
  if r2 = 0 then
    some (0 : Int32)
  else
    if x1 < 0 ∨ 8 ≤ x1.toNatClampNeg then none else
    some (S.2.1 4 x1.toNatClampNeg)
def f_X8_isLost (x1 : Int32) (S : St) : Option (Int32) :=
  (f_X8_isLaid x1 S).bind fun r2 =>
  if r2 = 0 then
    some (0 : Int32)
  else
    if (((S.1 11) >>> (x1 &&& 31)) &&& (1 : Int32)) = (1 : Int32) then
      some (1 : Int32)
    else
      some (0 : Int32)
def f_X9_stage (x1 : Int32) (x2 : Int32) (S : St) : Option (Int32) :=
  (f_X3_has x1 S).bind fun r5 =>
  if r5 = 0 then
    some (-1 : Int32)
  else
    if x2 = (0 : Int32) then
      (f_X3_kindOf x1 S).bind fun r53 =>
      some r53
    else
    if x2 = (1 : Int32) then
      (f_X3_valueOf x1 S).bind fun r62 =>
      some r62
    else
    if x2 = (2 : Int32) then
      (f_X3_gorseOf x1 S).bind fun r71 =>
      some r71
    else
    if x2 = (3 : Int32) then
      (f_X8_isLaid x1 S).bind fun r80 =>
      if r80 = 0 then
        some (-9 : Int32)
      else
        (f_X8_errorOf x1 S).bind fun r91 =>
        some (r91 + (20000 : Int32))
    else
    if x2 = (4 : Int32) then
      (f_X8_isLost x1 S).bind fun r109 =>
      if r109 = 0 then
        some (0 : Int32)
      else
        some (1 : Int32)
    else
    some (-2 : Int32)
def f_X9_byBook (S : St) : Option (Int32) :=
  some (((S.1 1) * (S.1 9)) + (S.1 8))
def l_X8_errorsTogether_4 (S : St) : Nat → Int32 → Int32 → Option (Int32)
  | 0, _, _ => none
  | n + 1, x1, x2 =>
    if (S.1 10) ≤ x2 then
      some x1
    else
      (f_X8_errorOf x2 S).bind fun r15 =>
      l_X8_errorsTogether_4 S n (x1 + r15) (x2 + 1)
def f_X8_errorsTogether (S : St) : Option (Int32) :=
  (l_X8_errorsTogether_4 S fuel (0 : Int32) (0 : Int32)).bind fun o4 =>
  some o4
def f_X9_truly (S : St) : Option (Int32) :=
  (f_X8_errorsTogether S).bind fun r19 =>
  some (((20000 : Int32) + ((1000 : Int32) * (S.1 10))) + r19)
def f_X0_startOf (x1 : Int32) (S : St) : Option (Int32) :=
  some ((((S.1 15) + x1) - ((S.1 15) + x1) / (14 : Int32) * (14 : Int32)) * (16 : Int32))
def f_X8_saveTo_a10 (x2 : Int32) (S : St) : Option (St) :=
  if x2 < 0 then
    some S
  else
    if x2 ≤ ((224 : Int32) - (16 : Int32)) then
      if x2 < 0 ∨ 224 ≤ x2.toNatClampNeg then none else
      nm (sA S 5 x2.toNatClampNeg (S.1 7)) fun S20 =>
      if (x2 + (1 : Int32)) < 0 ∨ 224 ≤ (x2 + (1 : Int32)).toNatClampNeg then none else
      nm (sA S20 5 ((x2 + (1 : Int32)).toNatClampNeg) (S20.1 8)) fun S29 =>
      if (x2 + (2 : Int32)) < 0 ∨ 224 ≤ (x2 + (2 : Int32)).toNatClampNeg then none else
      nm (sA S29 5 ((x2 + (2 : Int32)).toNatClampNeg) (S29.1 9)) fun S38 =>
      if (x2 + (3 : Int32)) < 0 ∨ 224 ≤ (x2 + (3 : Int32)).toNatClampNeg then none else
      nm (sA S38 5 ((x2 + (3 : Int32)).toNatClampNeg) (S38.1 10)) fun S47 =>
      if (x2 + (4 : Int32)) < 0 ∨ 224 ≤ (x2 + (4 : Int32)).toNatClampNeg then none else
      nm (sA S47 5 ((x2 + (4 : Int32)).toNatClampNeg) (S47.1 11)) fun S56 =>
      if (x2 + (5 : Int32)) < 0 ∨ 224 ≤ (x2 + (5 : Int32)).toNatClampNeg then none else
      nm (sA S56 5 ((x2 + (5 : Int32)).toNatClampNeg) (S56.1 12)) fun S65 =>
      if (x2 + (6 : Int32)) < 0 ∨ 224 ≤ (x2 + (6 : Int32)).toNatClampNeg then none else
      nm (sA S65 5 ((x2 + (6 : Int32)).toNatClampNeg) (S65.1 13)) fun S75 =>
      if (x2 + (7 : Int32)) < 0 ∨ 224 ≤ (x2 + (7 : Int32)).toNatClampNeg then none else
      nm (sA S75 5 ((x2 + (7 : Int32)).toNatClampNeg) (S75.1 14)) fun S85 =>
      if (0 : Int32) < 0 ∨ (x2 + (8 : Int32)) < 0 ∨ (8 : Int32) < 0 ∨ 8 < (0 : Int32).toNatClampNeg + (8 : Int32).toNatClampNeg ∨ 224 < (x2 + (8 : Int32)).toNatClampNeg + (8 : Int32).toNatClampNeg then none else
      nm (sR S85 5 (va_cpy (S85.2.1 4) (S85.2.1 5) (0 : Int32).toNatClampNeg (x2 + (8 : Int32)).toNatClampNeg (8 : Int32).toNatClampNeg)) fun S98 =>
      some S98
    else
      some S
def f_X0_remember_a7 (S : St) : Option (St) :=
  (f_X0_startOf (S.1 16) S).bind fun r10 =>
  (f_X8_saveTo_a10 r10 S).bind fun r13 =>
  if (r13.1 16) = (14 : Int32) then
    nm (sI r13 15 (((r13.1 15) + (1 : Int32)) - ((r13.1 15) + (1 : Int32)) / (14 : Int32) * (14 : Int32))) fun S35 =>
    some S35
  else
    nm (sI r13 16 ((r13.1 16) + (1 : Int32))) fun S48 =>
    some S48
def f_X3_groundAt (x1 : Int32) (S : St) : Option (Int32) :=
  (f_X3_has x1 S).bind fun r2 =>
  if r2 = 0 then
    some (0 : Int32)
  else
    if x1 < 0 ∨ 8 ≤ x1.toNatClampNeg then none else
    some (S.2.1 10 x1.toNatClampNeg)
def f_X1_errorAt (x1 : Int32) (x2 : Int32) (S : St) : Option (Int32) :=
  (f_X3_groundAt x1 S).bind fun r12 =>
  (f_X3_bentOf x2 S).bind fun r21 =>
  some ((((S.1 13) + r12) + r21) - (S.1 14))
def j_X8_pinAndPick_47 (x1 : Int32) (S : St) : Option (St) :=
    nm (sI S 7 ((S.1 7) - (1 : Int32))) fun S54 =>
    nm (sI S54 8 ((S54.1 8) + (1 : Int32))) fun S64 =>
    if (S64.1 10) < 0 ∨ 8 ≤ (S64.1 10).toNatClampNeg then none else
    nm (sA S64 4 ((S64.1 10).toNatClampNeg) x1) fun S76 =>
    nm (sI S76 10 ((S76.1 10) + (1 : Int32))) fun S84 =>
    some S84
def f_X8_pinAndPick (x1 : Int32) (S : St) : Option (St) :=
  if (S.1 10) < 0 then
    some S
  else
    if (S.1 10) < (8 : Int32) then
      if (S.1 7) = 0 then
        nm (sI S 7 (S.1 8)) fun S29 =>
        nm (sI S29 8 (0 : Int32)) fun S34 =>
        nm (sI S34 9 ((S34.1 9) + (1 : Int32))) fun S44 =>
        j_X8_pinAndPick_47 x1 S44
      else
        j_X8_pinAndPick_47 x1 S
    else
      some S
def f_X9_lay (S : St) : Option (Int32 × St) :=
  (f_X3_has (S.1 10) S).bind fun r13 =>
  if r13 = 0 then
    some ((-3 : Int32), S)
  else
    if 0 < ((S.1 7) + (S.1 8)) then
      (f_X0_remember_a7 S).bind fun r48 =>
      (f_X1_errorAt (S.1 10) (r48.1 12) r48).bind fun r63 =>
      (f_X8_pinAndPick r63 r48).bind fun r72 =>
      some ((r63 + (20000 : Int32)), r72)
    else
      some ((-3 : Int32), S)
def f_X8_leaveBehind (x1 : Int32) (S : St) : Option (St) :=
  nm (sI S 11 ((S.1 11) ||| ((1 : Int32) <<< (x1 &&& 31)))) fun S9 =>
  nm (sI S9 8 ((S9.1 8) - (1 : Int32))) fun S19 =>
  some S19
def f_X9_lose (S : St) : Option (Int32 × St) :=
  (f_X8_isLaid ((S.1 10) - (1 : Int32)) S).bind fun r15 =>
  if r15 = 0 then
    some ((-3 : Int32), S)
  else
    (f_X8_isLost ((S.1 10) - (1 : Int32)) S).bind fun r26 =>
    if r26 = 0 then
      (f_X0_remember_a7 S).bind fun r43 =>
      (f_X8_leaveBehind ((S.1 10) - (1 : Int32)) r43).bind fun r51 =>
      some ((r51.1 8), r51)
    else
      some ((-3 : Int32), S)
def f_X8_bringBack (x1 : Int32) (S : St) : Option (St) :=
  nm (sI S 11 ((S.1 11) &&& (((1 : Int32) <<< (x1 &&& 31)) ^^^ (-1 : Int32)))) fun S11 =>
  nm (sI S11 8 ((S11.1 8) + (1 : Int32))) fun S21 =>
  some S21
def f_X9_find (x1 : Int32) (S : St) : Option (Int32 × St) :=
  (f_X3_has x1 S).bind fun r5 =>
  if r5 = 0 then
    some ((-1 : Int32), S)
  else
    (f_X8_isLost x1 S).bind fun r18 =>
    if r18 = 0 then
      some ((-3 : Int32), S)
    else
      (f_X0_remember_a7 S).bind fun r35 =>
      (f_X8_bringBack x1 r35).bind fun r43 =>
      some ((r43.1 8), r43)
def f_X9_doubled (S : St) : Option (Int32 × St) :=
  (f_X0_remember_a7 S).bind fun r8 =>
  nm (sI r8 9 ((r8.1 9) + (1 : Int32))) fun S21 =>
  some ((S21.1 9), S21)
def f_X9_change (S : St) : Option (Int32 × St) :=
  (f_X0_remember_a7 S).bind fun r8 =>
  nm (sI r8 12 ((1 : Int32) - (r8.1 12))) fun S24 =>
  some ((S24.1 12), S24)
def f_X9_stretch (x1 : Int32) (S : St) : Option (Int32 × St) :=
  if x1 < (-3 : Int32) then
    some ((-2 : Int32), S)
  else
    if (3 : Int32) < x1 then
      some ((-2 : Int32), S)
    else
      if x1 = 0 then
        some ((-2 : Int32), S)
      else
        if (if 0 ≤ ((S.1 13) + x1) then ((S.1 13) + x1) else 0 - ((S.1 13) + x1)) ≤ (9 : Int32) then
          (f_X0_remember_a7 S).bind fun r46 =>
          nm (sI r46 13 ((r46.1 13) + x1)) fun S59 =>
          some (((S59.1 13) + (50 : Int32)), S59)
        else
          some ((-3 : Int32), S)
def f_X9_knot (S : St) : Option (Int32 × St) :=
  if (S.1 14) < (9 : Int32) then
    (f_X0_remember_a7 S).bind fun r23 =>
    nm (sI r23 14 ((r23.1 14) + (1 : Int32))) fun S36 =>
    some ((S36.1 14), S36)
  else
    some ((-4 : Int32), S)
def f_X9_clear (S : St) : Option (Int32 × St) :=
  if (S.1 14) = 0 then
    some ((-3 : Int32), S)
  else
    (f_X0_remember_a7 S).bind fun r23 =>
    nm (sI r23 14 (0 : Int32)) fun S31 =>
    some ((S.1 14), S31)
def f_X8_loadFrom_a10 (x2 : Int32) (S : St) : Option (St) :=
  if x2 < 0 then
    some S
  else
    if x2 ≤ ((224 : Int32) - (16 : Int32)) then
      if x2 < 0 ∨ 224 ≤ x2.toNatClampNeg then none else
      nm (sI S 7 (S.2.1 5 x2.toNatClampNeg)) fun S18 =>
      if (x2 + (1 : Int32)) < 0 ∨ 224 ≤ (x2 + (1 : Int32)).toNatClampNeg then none else
      nm (sI S18 8 (S18.2.1 5 ((x2 + (1 : Int32)).toNatClampNeg))) fun S27 =>
      if (x2 + (2 : Int32)) < 0 ∨ 224 ≤ (x2 + (2 : Int32)).toNatClampNeg then none else
      nm (sI S27 9 (S27.2.1 5 ((x2 + (2 : Int32)).toNatClampNeg))) fun S36 =>
      if (x2 + (3 : Int32)) < 0 ∨ 224 ≤ (x2 + (3 : Int32)).toNatClampNeg then none else
      nm (sI S36 10 (S36.2.1 5 ((x2 + (3 : Int32)).toNatClampNeg))) fun S45 =>
      if (x2 + (4 : Int32)) < 0 ∨ 224 ≤ (x2 + (4 : Int32)).toNatClampNeg then none else
      nm (sI S45 11 (S45.2.1 5 ((x2 + (4 : Int32)).toNatClampNeg))) fun S54 =>
      if (x2 + (5 : Int32)) < 0 ∨ 224 ≤ (x2 + (5 : Int32)).toNatClampNeg then none else
      nm (sI S54 12 (S54.2.1 5 ((x2 + (5 : Int32)).toNatClampNeg))) fun S63 =>
      if (x2 + (6 : Int32)) < 0 ∨ 224 ≤ (x2 + (6 : Int32)).toNatClampNeg then none else
      nm (sI S63 13 (S63.2.1 5 ((x2 + (6 : Int32)).toNatClampNeg))) fun S73 =>
      if (x2 + (7 : Int32)) < 0 ∨ 224 ≤ (x2 + (7 : Int32)).toNatClampNeg then none else
      nm (sI S73 14 (S73.2.1 5 ((x2 + (7 : Int32)).toNatClampNeg))) fun S83 =>
      if (x2 + (8 : Int32)) < 0 ∨ (0 : Int32) < 0 ∨ (8 : Int32) < 0 ∨ 224 < (x2 + (8 : Int32)).toNatClampNeg + (8 : Int32).toNatClampNeg ∨ 8 < (0 : Int32).toNatClampNeg + (8 : Int32).toNatClampNeg then none else
      nm (sR S83 4 (va_cpy (S83.2.1 5) (S83.2.1 4) (x2 + (8 : Int32)).toNatClampNeg (0 : Int32).toNatClampNeg (8 : Int32).toNatClampNeg)) fun S98 =>
      some S98
    else
      some S
def f_X0_takeBack_a7 (S : St) : Option (St) :=
  if (S.1 16) = 0 then
    some S
  else
    nm (sI S 16 ((S.1 16) - (1 : Int32))) fun S15 =>
    (f_X0_startOf (S15.1 16) S15).bind fun r28 =>
    (f_X8_loadFrom_a10 r28 S15).bind fun r31 =>
    some r31
def f_X9_undo (S : St) : Option (Int32 × St) :=
  if (S.1 16) = 0 then
    some ((-3 : Int32), S)
  else
    (f_X0_takeBack_a7 S).bind fun r21 =>
    some ((r21.1 16), r21)
def f_X1_reaches (x1 : Int32) (S : St) : Option (Int32) :=
  if x1 < 0 then
    some (0 : Int32)
  else
    if ((S.1 6) - (S.1 10)) < x1 then
      some (0 : Int32)
    else
      some (1 : Int32)
def f_X1_leaderBy (x1 : Int32) (x2 : Int32) : Option (Int32) :=
  some ((x1 >>> (x2 &&& 31)) &&& (1 : Int32))
def l_X1_offBy_11 (x1 : Int32) (x2 : Int32) (S : St) : Nat → Int32 → Int32 → Option (Int32)
  | 0, _, _ => none
  | n + 1, x3, x4 =>
    if ((S.1 10) + x1) ≤ x4 then
      some x3
    else
      (f_X1_leaderBy x2 x4).bind fun r33 =>
      (f_X1_errorAt x4 r33 S).bind fun r36 =>
      l_X1_offBy_11 x1 x2 S n (x3 + r36) (x4 + 1)
def f_X1_offBy (x1 : Int32) (x2 : Int32) (S : St) : Option (Int32) :=
  (l_X1_offBy_11 x1 x2 S fuel (0 : Int32) (S.1 10)).bind fun o11 =>
  some o11
def f_X9_off (x1 : Int32) (x2 : Int32) (S : St) : Option (Int32) :=
  (f_X1_reaches x1 S).bind fun r5 =>
  if r5 = 0 then
    some (-2 : Int32)
  else
    if x2 < 0 then
      some (-2 : Int32)
    else
      if x2 ≤ (255 : Int32) then
        (f_X1_offBy x1 x2 S).bind fun r31 =>
        some (r31 + (20000 : Int32))
      else
        some (-2 : Int32)
def f_J6_bitCount_0f7a4 (x0 : Int32) : Option (Int32) :=
  nm (x0 - ((x0.toUInt32 >>> ((1 : Int32).toUInt32 &&& Int32.toUInt32 31)).toInt32 &&& (1431655765 : Int32))) fun v9 =>
  nm ((v9 &&& (858993459 : Int32)) + ((v9.toUInt32 >>> ((2 : Int32).toUInt32 &&& Int32.toUInt32 31)).toInt32 &&& (858993459 : Int32))) fun v23 =>
  nm ((v23 + (v23.toUInt32 >>> ((4 : Int32).toUInt32 &&& Int32.toUInt32 31)).toInt32) &&& (252645135 : Int32)) fun v33 =>
  nm (v33 + (v33.toUInt32 >>> ((8 : Int32).toUInt32 &&& Int32.toUInt32 31)).toInt32) fun v40 =>
  nm (v40 + (v40.toUInt32 >>> ((16 : Int32).toUInt32 &&& Int32.toUInt32 31)).toInt32) fun v47 =>
  some (v47 &&& (63 : Int32))
def f_X1_turnsIn (x1 : Int32) (x2 : Int32) (S : St) : Option (Int32) :=
  nm ((x2 <<< ((1 : Int32) &&& 31)) ||| (S.1 12)) fun v11 =>
  nm (((1 : Int32) <<< (x1 &&& 31)) - (1 : Int32)) fun v17 =>
  (f_J6_bitCount_0f7a4 ((x2 ^^^ v11) &&& v17)).bind fun r25 =>
  some r25
def j_X1_bestPlan_98 (bk : Int32 → Int32 → Int32 → Int32 → Option (Int32)) (x1 : Int32) (x3 : Int32) (x4 : Int32) (x7 : Int32) (x8 : Int32) (x9 : Int32) (S : St) : Option (Int32) :=
    bk (x7 <<< ((S.1 10) &&& 31)) x8 x9 (x7 + 1)
def l_X1_bestPlan_45 (x1 : Int32) (x3 : Int32) (x4 : Int32) (S : St) : Nat → Int32 → Int32 → Int32 → Int32 → Option (Int32)
  | 0, _, _, _, _ => none
  | n + 1, x2, x5, x6, x7 =>
    if ((1 : Int32) <<< (x1 &&& 31)) ≤ x7 then
      some x2
    else
      (f_J6_bitCount_0f7a4 x7).bind fun r56 =>
      nm (if 0 ≤ (x3 + (r56 * x4)) then (x3 + (r56 * x4)) else 0 - (x3 + (r56 * x4))) fun v66 =>
      (f_X1_turnsIn x1 x7 S).bind fun r72 =>
      if v66 < x5 then
        j_X1_bestPlan_98 (l_X1_bestPlan_45 x1 x3 x4 S n) x1 x3 x4 x7 v66 r72 S
      else
        if v66 = x5 then
          if x6 ≤ r72 then
            l_X1_bestPlan_45 x1 x3 x4 S n x2 x5 x6 (x7 + 1)
          else
            j_X1_bestPlan_98 (l_X1_bestPlan_45 x1 x3 x4 S n) x1 x3 x4 x7 v66 r72 S
        else
          l_X1_bestPlan_45 x1 x3 x4 S n x2 x5 x6 (x7 + 1)
def f_X1_bestPlan (x1 : Int32) (S : St) : Option (Int32) :=
  (f_X1_offBy x1 (0 : Int32) S).bind fun r5 =>
  (f_X3_bentOf (1 : Int32) S).bind fun r14 =>
  (f_X3_bentOf (0 : Int32) S).bind fun r22 =>
  nm (if 0 ≤ r5 then r5 else 0 - r5) fun v32 =>
  (f_X1_turnsIn x1 (0 : Int32) S).bind fun r37 =>
  (l_X1_bestPlan_45 x1 r5 (r14 - r22) S fuel (0 : Int32) v32 r37 (1 : Int32)).bind fun o45 =>
  some o45
def f_X9_ends (x1 : Int32) (x2 : Int32) (S : St) : Option (Int32) :=
  (f_X1_reaches x1 S).bind fun r5 =>
  if r5 = 0 then
    some (-2 : Int32)
  else
    if x2 < 0 then
      some (-2 : Int32)
    else
      if x2 ≤ (1 : Int32) then
        (f_X1_bestPlan x1 S).bind fun r28 =>
        if x2 = 0 then
          some r28
        else
          (f_X1_offBy x1 r28 S).bind fun r46 =>
          some (r46 + (20000 : Int32))
      else
        some (-2 : Int32)
def l_X1_aslantBits_10 (S : St) : Nat → Int32 → Int32 → Option (Int32)
  | 0, _, _ => none
  | n + 1, x1, x2 =>
    if (S.1 6) ≤ x2 then
      some x1
    else
      (f_X3_kindOf x2 S).bind fun r26 =>
      if r26 = (1 : Int32) then
        nm (x1 ||| ((1 : Int32) <<< (x2 &&& 31))) fun v38 =>
        l_X1_aslantBits_10 S n v38 (x2 + 1)
      else
        l_X1_aslantBits_10 S n x1 (x2 + 1)
def f_X1_aslantBits (S : St) : Option (Int32) :=
  (l_X1_aslantBits_10 S fuel (0 : Int32) (S.1 10)).bind fun o10 =>
  some o10
def f_X3_groundIfStepped (x1 : Int32) (S : St) : Option (Int32) :=
  (f_X3_valueOf x1 S).bind fun r3 =>
  (f_X3_errorOfGround (2 : Int32) r3).bind fun r6 =>
  some r6
def l_X1_moreByStepping_10 (x1 : Int32) (S : St) : Nat → Int32 → Int32 → Option (Int32)
  | 0, _, _ => none
  | n + 1, x2, x3 =>
    if (S.1 6) ≤ x3 then
      some x2
    else
      if ((x1 >>> (x3 &&& 31)) &&& (1 : Int32)) = (1 : Int32) then
        (f_X3_groundIfStepped x3 S).bind fun r36 =>
        (f_X3_groundAt x3 S).bind fun r44 =>
        l_X1_moreByStepping_10 x1 S n (x2 + (r36 - r44)) (x3 + 1)
      else
        l_X1_moreByStepping_10 x1 S n x2 (x3 + 1)
def f_X1_moreByStepping (x1 : Int32) (S : St) : Option (Int32) :=
  (l_X1_moreByStepping_10 x1 S fuel (0 : Int32) (S.1 10)).bind fun o10 =>
  some o10
def j_X1_fewestStepped_102 (bk : Int32 → Int32 → Int32 → Option (Int32)) (x1 : Int32) (x2 : Int32) (x3 : Int32) (x4 : Int32) (x5 : Int32) (x6 : Int32) (x7 : Int32) (x8 : Int32) (t0 : Int32) (S : St) : Option (Int32) :=
    if t0 = 0 then
        bk x2 x3 (x7 + 1)
      else
        (f_X1_moreByStepping x8 S).bind fun r114 =>
        if x1 < (if 0 ≤ (x5 + r114) then (x5 + r114) else 0 - (x5 + r114)) then
          bk x2 x3 (x7 + 1)
        else
          (f_J6_bitCount_0f7a4 x8).bind fun r130 =>
          bk x8 r130 (x7 + 1)
def j_X1_fewestStepped_101 (bk : Int32 → Int32 → Int32 → Option (Int32)) (x1 : Int32) (x2 : Int32) (x3 : Int32) (x4 : Int32) (x5 : Int32) (x6 : Int32) (x7 : Int32) (x8 : Int32) (S : St) : Option (Int32) :=
    j_X1_fewestStepped_102 bk x1 x2 x3 x4 x5 x6 x7 x8 (0 : Int32) S
def l_X1_fewestStepped_57 (x1 : Int32) (x4 : Int32) (x5 : Int32) (x6 : Int32) (S : St) : Nat → Int32 → Int32 → Int32 → Option (Int32)
  | 0, _, _, _ => none
  | n + 1, x2, x3, x7 =>
    if ((1 : Int32) <<< (x4 &&& 31)) ≤ x7 then
      some x2
    else
      if ((x7 <<< ((S.1 10) &&& 31)) &&& (x6 ^^^ (-1 : Int32))) = 0 then
        (f_J6_bitCount_0f7a4 (x7 <<< ((S.1 10) &&& 31))).bind fun r90 =>
        if x3 ≤ r90 then
          j_X1_fewestStepped_101 (l_X1_fewestStepped_57 x1 x4 x5 x6 S n) x1 x2 x3 x4 x5 x6 x7 (x7 <<< ((S.1 10) &&& 31)) S
        else
          j_X1_fewestStepped_102 (l_X1_fewestStepped_57 x1 x4 x5 x6 S n) x1 x2 x3 x4 x5 x6 x7 (x7 <<< ((S.1 10) &&& 31)) (1 : Int32) S
      else
        j_X1_fewestStepped_101 (l_X1_fewestStepped_57 x1 x4 x5 x6 S n) x1 x2 x3 x4 x5 x6 x7 (x7 <<< ((S.1 10) &&& 31)) S
def j_X1_fewestStepped_43 (x1 : Int32) (x2 : Int32) (x3 : Int32) (x4 : Int32) (t0 : Int32) (t1 : Int32) (S : St) : Option (Int32) :=
    (f_X1_offBy t1 t0 S).bind fun r43 =>
    (f_X1_aslantBits S).bind fun r49 =>
    (l_X1_fewestStepped_57 x1 x4 r43 r49 S fuel x2 x3 (0 : Int32)).bind fun o57 =>
    some o57
def f_X1_fewestStepped (x1 : Int32) (S : St) : Option (Int32) :=
  if (S.1 12) = 0 then
    j_X1_fewestStepped_43 x1 (-9 : Int32) (9 : Int32) ((S.1 6) - (S.1 10)) (0 : Int32) ((S.1 6) - (S.1 10)) S
  else
    j_X1_fewestStepped_43 x1 (-9 : Int32) (9 : Int32) ((S.1 6) - (S.1 10)) (255 : Int32) ((S.1 6) - (S.1 10)) S
def f_X9_step (x1 : Int32) (S : St) : Option (Int32) :=
  if x1 < 0 then
    some (-2 : Int32)
  else
    if x1 ≤ (99 : Int32) then
      (f_X1_fewestStepped x1 S).bind fun r18 =>
      some r18
    else
      some (-2 : Int32)
def l_X1_groundOf_10 (x1 : Int32) (S : St) : Nat → Int32 → Int32 → Option (Int32)
  | 0, _, _ => none
  | n + 1, x2, x3 =>
    if ((S.1 10) + x1) ≤ x3 then
      some x2
    else
      (f_X3_groundAt x3 S).bind fun r29 =>
      l_X1_groundOf_10 x1 S n (x2 + r29) (x3 + 1)
def f_X1_groundOf (x1 : Int32) (S : St) : Option (Int32) :=
  (l_X1_groundOf_10 x1 S fuel (0 : Int32) (S.1 10)).bind fun o10 =>
  some o10
def f_X1_madeByOne (x1 : Int32) (x2 : Int32) (S : St) : Option (Int32) :=
  if x1 = (0 : Int32) then
    some (x2 * (S.1 13))
  else
  if x1 = (1 : Int32) then
    (f_X1_groundOf x2 S).bind fun r40 =>
    some r40
  else
  if x1 = (2 : Int32) then
    (f_X3_bentOf (S.1 12) S).bind fun r56 =>
    some (x2 * r56)
  else
  some ((-x2) * (S.1 14))
def l_X1_madeBy_5 (x1 : Int32) (x2 : Int32) (S : St) : Nat → Int32 → Int32 → Option (Int32)
  | 0, _, _ => none
  | n + 1, x3, x4 =>
    if (4 : Int32) ≤ x4 then
      some x3
    else
      if ((x1 >>> (x4 &&& 31)) &&& (1 : Int32)) = (1 : Int32) then
        (f_X1_madeByOne x4 x2 S).bind fun r26 =>
        l_X1_madeBy_5 x1 x2 S n (x3 + r26) (x4 + 1)
      else
        l_X1_madeBy_5 x1 x2 S n x3 (x4 + 1)
def f_X1_madeBy (x1 : Int32) (x2 : Int32) (S : St) : Option (Int32) :=
  (l_X1_madeBy_5 x1 x2 S fuel (0 : Int32) (0 : Int32)).bind fun o5 =>
  some (if 0 ≤ o5 then o5 else 0 - o5)
def f_X1_ordersAround (x0 : Int32) : Option (Int32) :=
  if x0 = 0 then
    some (6 : Int32)
  else
    if x0 = (3 : Int32) then
      some (6 : Int32)
    else
      some (2 : Int32)
def l_X1_shareIn24ths_5 (x1 : Int32) (x2 : Int32) (S : St) : Nat → Int32 → Int32 → Option (Int32)
  | 0, _, _ => none
  | n + 1, x3, x4 =>
    if (16 : Int32) ≤ x4 then
      some x3
    else
      if ((x4 >>> (x1 &&& 31)) &&& (1 : Int32)) = 0 then
        (f_X1_madeBy (x4 ||| ((1 : Int32) <<< (x1 &&& 31))) x2 S).bind fun r29 =>
        (f_X1_madeBy x4 x2 S).bind fun r36 =>
        (f_J6_bitCount_0f7a4 x4).bind fun r45 =>
        (f_X1_ordersAround r45).bind fun r48 =>
        l_X1_shareIn24ths_5 x1 x2 S n (x3 + (r48 * (r29 - r36))) (x4 + 1)
      else
        l_X1_shareIn24ths_5 x1 x2 S n x3 (x4 + 1)
def f_X1_shareIn24ths (x1 : Int32) (x2 : Int32) (S : St) : Option (Int32) :=
  (l_X1_shareIn24ths_5 x1 x2 S fuel (0 : Int32) (0 : Int32)).bind fun o5 =>
  some o5
def l_X9_commonDivisor_7 : Nat → Int32 → Int32 → Int32 → Option (Int32)
  | 0, _, _, _ => none
  | n + 1, x2, x3, x4 =>
    if (64 : Int32) ≤ x4 then
      some x2
    else
      if x3 = 0 then
        some x2
      else
        if x3 = 0 then none else
        l_X9_commonDivisor_7 n x3 (x2 - x2 / x3 * x3) (x4 + 1)
def f_X9_commonDivisor (x0 : Int32) (x1 : Int32) : Option (Int32) :=
  (l_X9_commonDivisor_7 fuel x0 x1 (0 : Int32)).bind fun o7 =>
  some o7
def f_X9_fraction (x0 : Int32) (x1 : Int32) (x2 : Int32) : Option (Int32) :=
  (f_X9_commonDivisor (if 0 ≤ x0 then x0 else 0 - x0) x1).bind fun r5 =>
  if r5 = 0 then
    some (0 : Int32)
  else
    if x2 = 0 then
      if r5 = 0 then none else
      some (x1 / r5)
    else
      if r5 = 0 then none else
      some (x0 / r5)
def f_X9_share (x1 : Int32) (x2 : Int32) (x3 : Int32) (S : St) : Option (Int32) :=
  if x1 < 0 then
    some (-1 : Int32)
  else
    if x1 < (4 : Int32) then
      (f_X1_reaches x2 S).bind fun r16 =>
      if r16 = 0 then
        some (-2 : Int32)
      else
        (f_X1_shareIn24ths x1 x2 S).bind fun r31 =>
        (f_X9_fraction r31 (24 : Int32) x3).bind fun r37 =>
        some r37
    else
      some (-1 : Int32)
def l_X2_gorseOfLast_12 (S : St) : Nat → Int32 → Int32 → Option (Int32)
  | 0, _, _ => none
  | n + 1, x2, x3 =>
    if (S.1 10) ≤ x3 then
      some x2
    else
      (f_X3_gorseOf x3 S).bind fun r29 =>
      l_X2_gorseOfLast_12 S n (x2 + r29) (x3 + 1)
def f_X2_gorseOfLast (x1 : Int32) (S : St) : Option (Int32) :=
  (l_X2_gorseOfLast_12 S fuel (0 : Int32) ((S.1 10) - x1)).bind fun o12 =>
  some o12
def f_X9_where (x1 : Int32) (x2 : Int32) (S : St) : Option (Int32) :=
  (f_X8_isLaid x1 S).bind fun r5 =>
  if r5 = 0 then
    some (-1 : Int32)
  else
    (f_X2_gorseOfLast (S.1 10) S).bind fun r24 =>
    if 0 < r24 then
      (f_X3_gorseOf x1 S).bind fun r40 =>
      (f_X9_fraction r40 r24 x2).bind fun r45 =>
      some r45
    else
      some (-3 : Int32)
def l_X2_howFarBack_16 (x2 : Int32) (S : St) : Nat → Int32 → Option (Nat × Int32)
  | 0, _ => none
  | n + 1, x3 =>
    if (S.1 10) ≤ x3 then
      some (1, x3)
    else
      (f_X2_gorseOfLast x3 S).bind fun r31 =>
      if ((10 : Int32) * r31) < x2 then
        l_X2_howFarBack_16 x2 S n (x3 + 1)
      else
        some (0, x3)
def f_X2_howFarBack (x1 : Int32) (S : St) : Option (Int32) :=
  (f_X2_gorseOfLast (S.1 10) S).bind fun r9 =>
  (l_X2_howFarBack_16 (x1 * r9) S fuel (0 : Int32)).bind fun o16 =>
  if o16.1 = 0 then
    some o16.2
  else
    some (S.1 10)
def f_X9_back (x1 : Int32) (S : St) : Option (Int32) :=
  if x1 < (1 : Int32) then
    some (-2 : Int32)
  else
    if x1 ≤ (10 : Int32) then
      (f_X2_gorseOfLast (S.1 10) S).bind fun r25 =>
      if 0 < r25 then
        (f_X2_howFarBack x1 S).bind fun r39 =>
        some r39
      else
        some (-3 : Int32)
    else
      some (-2 : Int32)
def j_X2_firstShort_38 (bk : Int32 → Int32 → Int32 → Option (Nat × Int32)) (x1 : Int32) (x2 : Int32) (x3 : Int32) (x4 : Int32) (x5 : Int32) (S : St) : Option (Nat × Int32) :=
    if x5 = x1 then
        bk (x3 + (-1)) x4 (x5 + 1)
      else
        bk (x3 + (-1)) (x4 + 1) (x5 + 1)
def l_X2_firstShort_8 (x1 : Int32) (x2 : Int32) (S : St) : Nat → Int32 → Int32 → Int32 → Option (Nat × Int32)
  | 0, _, _, _ => none
  | n + 1, x3, x4, x5 =>
    if (S.1 6) ≤ x5 then
      some (1, x5)
    else
      if x3 = 0 then
        if x4 = x2 then
          j_X2_firstShort_38 (l_X2_firstShort_8 x1 x2 S n) x1 x2 x4 (0 : Int32) x5 S
        else
          some (0, x5)
      else
        j_X2_firstShort_38 (l_X2_firstShort_8 x1 x2 S n) x1 x2 x3 x4 x5 S
def f_X2_firstShort (x1 : Int32) (x2 : Int32) (S : St) : Option (Int32) :=
  (l_X2_firstShort_8 x1 x2 S fuel x2 (0 : Int32) (0 : Int32)).bind fun o8 =>
  if o8.1 = 0 then
    some o8.2
  else
    some (-9 : Int32)
def f_X9_shows (x1 : Int32) (x2 : Int32) (S : St) : Option (Int32) :=
  (f_X3_has x1 S).bind fun r5 =>
  if r5 = 0 then
    some (-1 : Int32)
  else
    if x2 < (2 : Int32) then
      some (-2 : Int32)
    else
      if x2 ≤ (9 : Int32) then
        (f_X2_firstShort x1 x2 S).bind fun r33 =>
        some r33
      else
        some (-2 : Int32)
def j_X2_worstWait_40 (bk : Int32 → Int32 → Option (Int32)) (x1 : Int32) (x3 : Int32) (t0 : Int32) (t1 : Int32) (S : St) : Option (Int32) :=
    bk (if t1 < t0 then t0 else t1) (x3 + 1)
def l_X2_worstWait_4 (x1 : Int32) (S : St) : Nat → Int32 → Int32 → Option (Int32)
  | 0, _, _ => none
  | n + 1, x2, x3 =>
    if (S.1 6) ≤ x3 then
      some x2
    else
      (f_X2_firstShort x3 x1 S).bind fun r18 =>
      if r18 = (-9 : Int32) then
        j_X2_worstWait_40 (l_X2_worstWait_4 x1 S n) x1 x3 (9 : Int32) x2 S
      else
        j_X2_worstWait_40 (l_X2_worstWait_4 x1 S n) x1 x3 (r18 - x3) x2 S
def f_X2_worstWait (x1 : Int32) (S : St) : Option (Int32) :=
  (l_X2_worstWait_4 x1 S fuel (0 : Int32) (0 : Int32)).bind fun o4 =>
  some o4
def l_X2_bestArrows_10 (S : St) : Nat → Int32 → Int32 → Int32 → Option (Int32)
  | 0, _, _, _ => none
  | n + 1, x1, x2, x3 =>
    if (9 : Int32) < x3 then
      some x1
    else
      (f_X2_worstWait x3 S).bind fun r18 =>
      if x2 ≤ r18 then
        l_X2_bestArrows_10 S n x1 x2 (x3 + 1)
      else
        l_X2_bestArrows_10 S n x3 r18 (x3 + 1)
def f_X2_bestArrows (S : St) : Option (Int32) :=
  (f_X2_worstWait (2 : Int32) S).bind fun r4 =>
  (l_X2_bestArrows_10 S fuel (2 : Int32) r4 (3 : Int32)).bind fun o10 =>
  some o10
def f_X9_soonest (S : St) : Option (Int32) :=
  (f_X2_bestArrows S).bind fun r4 =>
  some r4
def f_X6_append (x1 : Int32) (x2 : Int32) (S : St) : Option (Int32 × St) :=
  if (S.1 18) < 0 then
    some ((0 : Int32), S)
  else
    if (S.1 18) < (6 : Int32) then
      if (S.1 18) < 0 ∨ 6 ≤ (S.1 18).toNatClampNeg then none else
      nm (sA S 7 ((S.1 18).toNatClampNeg) x1) fun S27 =>
      if (S27.1 18) < 0 ∨ 6 ≤ (S27.1 18).toNatClampNeg then none else
      nm (sA S27 8 ((S27.1 18).toNatClampNeg) x2) fun S37 =>
      nm (sI S37 18 ((S37.1 18) + (1 : Int32))) fun S45 =>
      some ((1 : Int32), S45)
    else
      some ((0 : Int32), S)
def f_X9_test (x1 : Int32) (x2 : Int32) (S : St) : Option (Int32 × St) :=
  if x1 < 0 then
    some ((-2 : Int32), S)
  else
    if (8 : Int32) ≤ x1 then
      some ((-2 : Int32), S)
    else
      if x2 < (-9 : Int32) then
        some ((-2 : Int32), S)
      else
        if x2 ≤ (9 : Int32) then
          (f_X6_append x1 x2 S).bind fun r31 =>
          if r31.1 = 0 then
            some ((-4 : Int32), r31.2)
          else
            some ((r31.2.1 18), r31.2)
        else
          some ((-2 : Int32), S)
def f_X9_untest (S : St) : Option (Int32 × St) :=
  nm (sI S 18 (0 : Int32)) fun S13 =>
  some ((S.1 18), S13)
def j_X6_allAreSo_35 (bk : Int32 → Option (Nat)) (x1 : Int32) (x2 : Int32) (x3 : Int32) (x4 : Int32) (t0 : Int32) (S : St) : Option (Nat) :=
    if x4 < 0 ∨ 6 ≤ x4.toNatClampNeg then none else
      if (S.2.1 8 x4.toNatClampNeg) = t0 then
        bk (x4 + 1)
      else
        some 0
def l_X6_allAreSo_3 (x1 : Int32) (x2 : Int32) (x3 : Int32) (S : St) : Nat → Int32 → Option (Nat)
  | 0, _ => none
  | n + 1, x4 =>
    if (S.1 18) ≤ x4 then
      some 1
    else
      if (6 : Int32) ≤ x4 then
        some 1
      else
        if x4 < 0 ∨ 6 ≤ x4.toNatClampNeg then none else
        if x2 ≤ (S.2.1 7 x4.toNatClampNeg) then
          j_X6_allAreSo_35 (l_X6_allAreSo_3 x1 x2 x3 S n) x1 x2 x3 x4 x3 S
        else
          j_X6_allAreSo_35 (l_X6_allAreSo_3 x1 x2 x3 S n) x1 x2 x3 x4 x1 S
def f_X6_allAreSo (x1 : Int32) (x2 : Int32) (x3 : Int32) (S : St) : Option (Int32) :=
  (l_X6_allAreSo_3 x1 x2 x3 S fuel (0 : Int32)).bind fun o3 =>
  if o3 = 0 then
    some (0 : Int32)
  else
    some (1 : Int32)
def j_X6_countChange_25 (x1 : Int32) (S : St) : Option (St) :=
    nm (sI S 19 ((S.1 19) + (1 : Int32))) fun S32 =>
    nm (sI S32 21 ((S32.1 21) ||| ((1 : Int32) <<< (x1 &&& 31)))) fun S44 =>
    some S44
def f_X6_countChange (x1 : Int32) (x2 : Int32) (S : St) : Option (St) :=
  if (S.1 19) = 0 then
    nm (sI S 20 ((((100 : Int32) * x1) + x2) + (50 : Int32))) fun S17 =>
    nm (sI S17 21 (0 : Int32)) fun S22 =>
    j_X6_countChange_25 x1 S22
  else
    j_X6_countChange_25 x1 S
def l_X6_seekChanges_28 (x1 : Int32) (x2 : Int32) : Nat → Int32 → St → Option (St)
  | 0, _, _ => none
  | n + 1, x3, S =>
    if (9 : Int32) < x3 then
      some S
    else
      (f_X6_allAreSo x1 x2 x3 S).bind fun r38 =>
      if r38 = 0 then
        l_X6_seekChanges_28 x1 x2 n (x3 + 1) S
      else
        (f_X6_countChange x2 x3 S).bind fun r47 =>
        l_X6_seekChanges_28 x1 x2 n (x3 + 1) r47
def l_X6_seekChanges_19 (x1 : Int32) : Nat → Int32 → St → Option (St)
  | 0, _, _ => none
  | n + 1, x2, S =>
    if (8 : Int32) < x2 then
      some S
    else
      (l_X6_seekChanges_28 x1 x2 fuel (-9 : Int32) S).bind fun o28 =>
      l_X6_seekChanges_19 x1 n (x2 + 1) o28
def f_X6_seekChanges (x1 : Int32) (S : St) : Option (St) :=
  nm (sI S 19 (0 : Int32)) fun S2 =>
  nm (sI S2 20 (-9 : Int32)) fun S8 =>
  nm (sI S8 21 (-9 : Int32)) fun S14 =>
  (l_X6_seekChanges_19 x1 fuel (0 : Int32) S14).bind fun o19 =>
  some o19
def f_X9_changes (x1 : Int32) (S : St) : Option (Int32 × St) :=
  if x1 < 0 then
    some ((-2 : Int32), S)
  else
    if x1 ≤ (2 : Int32) then
      (f_X6_seekChanges (S.1 2) S).bind fun r23 =>
      if x1 = (0 : Int32) then
        some ((r23.1 19), r23)
      else
      if x1 = (1 : Int32) then
        some ((r23.1 20), r23)
      else
      some ((r23.1 21), r23)
    else
      some ((-2 : Int32), S)
def l_X1_planByTurns_19 (x1 : Int32) (S : St) : Nat → Int32 → Int32 → Int32 → Option (Int32)
  | 0, _, _, _ => none
  | n + 1, x2, x3, x4 =>
    if ((S.1 10) + x1) ≤ x4 then
      some x2
    else
      l_X1_planByTurns_19 x1 S n (x2 ||| (x3 <<< (x4 &&& 31))) ((1 : Int32) - x3) (x4 + 1)
def f_X1_planByTurns (x1 : Int32) (S : St) : Option (Int32) :=
  (l_X1_planByTurns_19 x1 S fuel (0 : Int32) (S.1 12) (S.1 10)).bind fun o19 =>
  some o19
def f_X4_offMended (x1 : Int32) (x2 : Int32) (S : St) : Option (Int32) :=
  some (((S.1 22) + ((S.1 23) * x1)) + ((S.1 24) * x2))
def f_X4_lossOf (x0 : Int32) (x1 : Int32) : Option (Int32) :=
  some ((if 0 ≤ x1 then x1 else 0 - x1) + ((2 : Int32) * (if 0 ≤ x0 then x0 else 0 - x0)))
def l_X4_isAtRest_3 (x1 : Int32) (x2 : Int32) (S : St) : Nat → Int32 → Option (Nat)
  | 0, _ => none
  | n + 1, x3 =>
    if (2 : Int32) < x3 then
      some 2
    else
      (f_X4_offMended x3 x2 S).bind fun r12 =>
      (f_X4_lossOf x3 r12).bind fun r15 =>
      (f_X4_offMended x1 x2 S).bind fun r22 =>
      (f_X4_lossOf x1 r22).bind fun r25 =>
      if r25 ≤ r15 then
        (f_X4_offMended x1 x3 S).bind fun r37 =>
        (f_X4_lossOf x3 r37).bind fun r40 =>
        (f_X4_offMended x1 x2 S).bind fun r47 =>
        (f_X4_lossOf x2 r47).bind fun r50 =>
        if r50 ≤ r40 then
          l_X4_isAtRest_3 x1 x2 S n (x3 + 1)
        else
          some 1
      else
        some 0
def f_X4_isAtRest (x1 : Int32) (x2 : Int32) (S : St) : Option (Int32) :=
  (l_X4_isAtRest_3 x1 x2 S fuel (-2 : Int32)).bind fun o3 =>
  if o3 = 0 then
    some (0 : Int32)
  else
    if o3 = 1 then
    some (0 : Int32)
  else
    some (1 : Int32)
def j_X4_countRest_21 (S : St) : Option (St) :=
    nm (sI S 25 ((S.1 25) + (1 : Int32))) fun S28 =>
    some S28
def f_X4_countRest (x1 : Int32) (x2 : Int32) (S : St) : Option (St) :=
  if (S.1 25) = 0 then
    nm (sI S 26 ((((10 : Int32) * (x1 + (2 : Int32))) + x2) + (2 : Int32))) fun S18 =>
    j_X4_countRest_21 S18
  else
    j_X4_countRest_21 S
def l_X4_seekRests_63 (x3 : Int32) : Nat → Int32 → St → Option (St)
  | 0, _, _ => none
  | n + 1, x4, S =>
    if (2 : Int32) < x4 then
      some S
    else
      (f_X4_isAtRest x3 x4 S).bind fun r73 =>
      if r73 = 0 then
        l_X4_seekRests_63 x3 n (x4 + 1) S
      else
        (f_X4_countRest x3 x4 S).bind fun r83 =>
        l_X4_seekRests_63 x3 n (x4 + 1) r83
def l_X4_seekRests_54 : Nat → Int32 → St → Option (St)
  | 0, _, _ => none
  | n + 1, x3, S =>
    if (2 : Int32) < x3 then
      some S
    else
      (l_X4_seekRests_63 x3 fuel (-2 : Int32) S).bind fun o63 =>
      l_X4_seekRests_54 n (x3 + 1) o63
def f_X4_seekRests (x1 : Int32) (S : St) : Option (St) :=
  (f_X1_planByTurns x1 S).bind fun r5 =>
  (f_X1_offBy x1 r5 S).bind fun r16 =>
  nm (sI S 22 r16) fun S19 =>
  (f_J6_bitCount_0f7a4 r5).bind fun r24 =>
  nm (sI S19 24 r24) fun S27 =>
  nm (sI S27 23 (x1 - (S27.1 24))) fun S37 =>
  nm (sI S37 25 (0 : Int32)) fun S42 =>
  nm (sI S42 26 (-9 : Int32)) fun S48 =>
  (l_X4_seekRests_54 fuel (-2 : Int32) S48).bind fun o54 =>
  some o54
def f_X9_rests (x1 : Int32) (x2 : Int32) (S : St) : Option (Int32 × St) :=
  (f_X1_reaches x1 S).bind fun r5 =>
  if r5 = 0 then
    some ((-2 : Int32), S)
  else
    if x2 < 0 then
      some ((-2 : Int32), S)
    else
      if x2 ≤ (1 : Int32) then
        (f_X4_seekRests x1 S).bind fun r28 =>
        if x2 = 0 then
          some ((r28.1 25), r28)
        else
          some ((r28.1 26), r28)
      else
        some ((-2 : Int32), S)
def l_X1_waysToLose_2 (x1 : Int32) (x2 : Int32) : Nat → Int32 → St → Option (St)
  | 0, _, _ => none
  | n + 1, x3, S =>
    if (6 : Int32) < x3 then
      some S
    else
      if x3 = 0 then
        if x3 < 0 ∨ 7 ≤ x3.toNatClampNeg then none else
        nm (sA S 9 x3.toNatClampNeg (1 : Int32)) fun S22 =>
        l_X1_waysToLose_2 x1 x2 n (x3 + 1) S22
      else
        if x3 < 0 ∨ 7 ≤ x3.toNatClampNeg then none else
        nm (sA S 9 x3.toNatClampNeg (0 : Int32)) fun S22 =>
        l_X1_waysToLose_2 x1 x2 n (x3 + 1) S22
def l_X1_waysToLose_64 (x1 : Int32) (x2 : Int32) (x3 : Int32) (x4 : Int32) : Nat → Int32 → St → Option (St)
  | 0, _, _ => none
  | n + 1, x5, S =>
    if x5 < (1 : Int32) then
      some S
    else
      if x5 < 0 ∨ 7 ≤ x5.toNatClampNeg then none else
      if (x5 - (1 : Int32)) < 0 ∨ 7 ≤ (x5 - (1 : Int32)).toNatClampNeg then none else
      if x5 < 0 ∨ 7 ≤ x5.toNatClampNeg then none else
      nm (sA S 9 x5.toNatClampNeg (((S.2.1 9 x5.toNatClampNeg) * ((10 : Int32) - x4)) + ((S.2.1 9 ((x5 - (1 : Int32)).toNatClampNeg)) * x4))) fun S102 =>
      l_X1_waysToLose_64 x1 x2 x3 x4 n (x5 + (-1)) S102
def l_X1_waysToLose_37 (x1 : Int32) (x2 : Int32) : Nat → Int32 → St → Option (St)
  | 0, _, _ => none
  | n + 1, x3, S =>
    if ((S.1 10) + x1) ≤ x3 then
      some S
    else
      (f_X3_gorseOf x3 S).bind fun r55 =>
      (l_X1_waysToLose_64 x1 x2 x3 r55 fuel (6 : Int32) S).bind fun o64 =>
      nm (sA o64 9 0 ((o64.2.1 9 0) * ((10 : Int32) - r55))) fun S122 =>
      l_X1_waysToLose_37 x1 x2 n (x3 + 1) S122
def f_X1_waysToLose (x1 : Int32) (x2 : Int32) (S : St) : Option (Int32 × St) :=
  (l_X1_waysToLose_2 x1 x2 fuel (0 : Int32) S).bind fun o2 =>
  (l_X1_waysToLose_37 x1 x2 fuel (o2.1 10) o2).bind fun o37 =>
  if x2 < 0 then
    some ((0 : Int32), o37)
  else
    if (6 : Int32) < x2 then
      some ((0 : Int32), o37)
    else
      if x2 < 0 ∨ 7 ≤ x2.toNatClampNeg then none else
      some ((o37.2.1 9 x2.toNatClampNeg), o37)
def l_X9_powerOfTen_4 (x0 : Int32) : Nat → Int32 → Int32 → Option (Int32)
  | 0, _, _ => none
  | n + 1, x1, x2 =>
    if x0 ≤ x2 then
      some x1
    else
      l_X9_powerOfTen_4 x0 n (x1 * (10 : Int32)) (x2 + 1)
def f_X9_powerOfTen (x0 : Int32) : Option (Int32) :=
  (l_X9_powerOfTen_4 x0 fuel (1 : Int32) (0 : Int32)).bind fun o4 =>
  some o4
def f_X9_chance (x1 : Int32) (x2 : Int32) (x3 : Int32) (S : St) : Option (Int32 × St) :=
  if x1 < (1 : Int32) then
    some ((-2 : Int32), S)
  else
    if (6 : Int32) < x1 then
      some ((-2 : Int32), S)
    else
      (f_X1_reaches x1 S).bind fun r16 =>
      if r16 = 0 then
        some ((-2 : Int32), S)
      else
        if x2 < 0 then
          some ((-2 : Int32), S)
        else
          if x2 ≤ (6 : Int32) then
            (f_X1_waysToLose x1 x2 S).bind fun r41 =>
            (f_X9_powerOfTen x1).bind fun r45 =>
            (f_X9_fraction r41.1 r45 x3).bind fun r49 =>
            some (r49, r41.2)
          else
            some ((-2 : Int32), S)
def f_X9_seed (x1 : Int64) (S : St) : Option (Int64 × St) :=
  nm (sL S x1) fun S7 =>
  some (S.2.2, S7)
def l_X9_lossesOfDay_10 : Nat → Int32 → Int32 → St → Option (Int32 × St)
  | 0, _, _, _ => none
  | n + 1, x1, x2, S =>
    if (S.1 6) ≤ x2 then
      some (x1, S)
    else
      nm (sL S ((S.2.2 * (6364136223846793005 : Int64)) + (1442695040888963407 : Int64))) fun S34 =>
      (f_X3_gorseOf x2 S34).bind fun r53 =>
      if 0 ≤ (lg_cmp ((S34.2.2.toUInt64 >>> ((33 : Int32).toInt64.toUInt64 &&& Int64.toUInt64 63)).toInt64 - (S34.2.2.toUInt64 >>> ((33 : Int32).toInt64.toUInt64 &&& Int64.toUInt64 63)).toInt64 / (10 : Int64) * (10 : Int64)) r53.toInt64) then
        l_X9_lossesOfDay_10 n x1 (x2 + 1) S34
      else
        l_X9_lossesOfDay_10 n (x1 + 1) (x2 + 1) S34
def f_X9_lossesOfDay (S : St) : Option (Int32 × St) :=
  (l_X9_lossesOfDay_10 fuel (0 : Int32) (S.1 10) S).bind fun o10 =>
  some (o10.1, o10.2)
def l_X9_days_18 (x1 : Int32) : Nat → Int32 → Int32 → St → Option (Int32 × St)
  | 0, _, _, _ => none
  | n + 1, x2, x3, S =>
    if x1 ≤ x3 then
      some (x2, S)
    else
      (f_X9_lossesOfDay S).bind fun r25 =>
      l_X9_days_18 x1 n (x2 + r25.1) (x3 + 1) r25.2
def f_X9_days (x1 : Int32) (S : St) : Option (Int32 × St) :=
  if x1 < (1 : Int32) then
    some ((-2 : Int32), S)
  else
    if x1 ≤ (20 : Int32) then
      (l_X9_days_18 x1 fuel (0 : Int32) (0 : Int32) S).bind fun o18 =>
      some (o18.1, o18.2)
    else
      some ((-2 : Int32), S)
def f_X5_has (x1 : Int32) : Option (Int32) :=
  if x1 < 0 then
    some (0 : Int32)
  else
    if (2 : Int32) ≤ x1 then
      some (0 : Int32)
    else
      some (1 : Int32)
def f_X8_saveTo_a12 (x2 : Int32) (S : St) : Option (St) :=
  if x2 < 0 then
    some S
  else
    if x2 ≤ ((32 : Int32) - (16 : Int32)) then
      if x2 < 0 ∨ 32 ≤ x2.toNatClampNeg then none else
      nm (sA S 6 x2.toNatClampNeg (S.1 7)) fun S20 =>
      if (x2 + (1 : Int32)) < 0 ∨ 32 ≤ (x2 + (1 : Int32)).toNatClampNeg then none else
      nm (sA S20 6 ((x2 + (1 : Int32)).toNatClampNeg) (S20.1 8)) fun S29 =>
      if (x2 + (2 : Int32)) < 0 ∨ 32 ≤ (x2 + (2 : Int32)).toNatClampNeg then none else
      nm (sA S29 6 ((x2 + (2 : Int32)).toNatClampNeg) (S29.1 9)) fun S38 =>
      if (x2 + (3 : Int32)) < 0 ∨ 32 ≤ (x2 + (3 : Int32)).toNatClampNeg then none else
      nm (sA S38 6 ((x2 + (3 : Int32)).toNatClampNeg) (S38.1 10)) fun S47 =>
      if (x2 + (4 : Int32)) < 0 ∨ 32 ≤ (x2 + (4 : Int32)).toNatClampNeg then none else
      nm (sA S47 6 ((x2 + (4 : Int32)).toNatClampNeg) (S47.1 11)) fun S56 =>
      if (x2 + (5 : Int32)) < 0 ∨ 32 ≤ (x2 + (5 : Int32)).toNatClampNeg then none else
      nm (sA S56 6 ((x2 + (5 : Int32)).toNatClampNeg) (S56.1 12)) fun S65 =>
      if (x2 + (6 : Int32)) < 0 ∨ 32 ≤ (x2 + (6 : Int32)).toNatClampNeg then none else
      nm (sA S65 6 ((x2 + (6 : Int32)).toNatClampNeg) (S65.1 13)) fun S75 =>
      if (x2 + (7 : Int32)) < 0 ∨ 32 ≤ (x2 + (7 : Int32)).toNatClampNeg then none else
      nm (sA S75 6 ((x2 + (7 : Int32)).toNatClampNeg) (S75.1 14)) fun S85 =>
      if (0 : Int32) < 0 ∨ (x2 + (8 : Int32)) < 0 ∨ (8 : Int32) < 0 ∨ 8 < (0 : Int32).toNatClampNeg + (8 : Int32).toNatClampNeg ∨ 32 < (x2 + (8 : Int32)).toNatClampNeg + (8 : Int32).toNatClampNeg then none else
      nm (sR S85 6 (va_cpy (S85.2.1 4) (S85.2.1 6) (0 : Int32).toNatClampNeg (x2 + (8 : Int32)).toNatClampNeg (8 : Int32).toNatClampNeg)) fun S98 =>
      some S98
    else
      some S
def f_X5_store_a7 (x1 : Int32) (S : St) : Option (St) :=
  (f_X8_saveTo_a12 (x1 * (16 : Int32)) S).bind fun r9 =>
  nm (sI r9 17 ((r9.1 17) ||| ((1 : Int32) <<< (x1 &&& 31)))) fun S21 =>
  some S21
def f_X9_keep (x1 : Int32) (S : St) : Option (Int32 × St) :=
  (f_X5_has x1).bind fun r5 =>
  if r5 = 0 then
    some ((-1 : Int32), S)
  else
    (f_X5_store_a7 x1 S).bind fun r22 =>
    some ((r22.1 10), r22)
def f_X5_holds (x1 : Int32) (S : St) : Option (Int32) :=
  (f_X5_has x1).bind fun r2 =>
  if r2 = 0 then
    some (0 : Int32)
  else
    if (((S.1 17) >>> (x1 &&& 31)) &&& (1 : Int32)) = (1 : Int32) then
      some (1 : Int32)
    else
      some (0 : Int32)
def f_X8_loadFrom_a12 (x2 : Int32) (S : St) : Option (St) :=
  if x2 < 0 then
    some S
  else
    if x2 ≤ ((32 : Int32) - (16 : Int32)) then
      if x2 < 0 ∨ 32 ≤ x2.toNatClampNeg then none else
      nm (sI S 7 (S.2.1 6 x2.toNatClampNeg)) fun S18 =>
      if (x2 + (1 : Int32)) < 0 ∨ 32 ≤ (x2 + (1 : Int32)).toNatClampNeg then none else
      nm (sI S18 8 (S18.2.1 6 ((x2 + (1 : Int32)).toNatClampNeg))) fun S27 =>
      if (x2 + (2 : Int32)) < 0 ∨ 32 ≤ (x2 + (2 : Int32)).toNatClampNeg then none else
      nm (sI S27 9 (S27.2.1 6 ((x2 + (2 : Int32)).toNatClampNeg))) fun S36 =>
      if (x2 + (3 : Int32)) < 0 ∨ 32 ≤ (x2 + (3 : Int32)).toNatClampNeg then none else
      nm (sI S36 10 (S36.2.1 6 ((x2 + (3 : Int32)).toNatClampNeg))) fun S45 =>
      if (x2 + (4 : Int32)) < 0 ∨ 32 ≤ (x2 + (4 : Int32)).toNatClampNeg then none else
      nm (sI S45 11 (S45.2.1 6 ((x2 + (4 : Int32)).toNatClampNeg))) fun S54 =>
      if (x2 + (5 : Int32)) < 0 ∨ 32 ≤ (x2 + (5 : Int32)).toNatClampNeg then none else
      nm (sI S54 12 (S54.2.1 6 ((x2 + (5 : Int32)).toNatClampNeg))) fun S63 =>
      if (x2 + (6 : Int32)) < 0 ∨ 32 ≤ (x2 + (6 : Int32)).toNatClampNeg then none else
      nm (sI S63 13 (S63.2.1 6 ((x2 + (6 : Int32)).toNatClampNeg))) fun S73 =>
      if (x2 + (7 : Int32)) < 0 ∨ 32 ≤ (x2 + (7 : Int32)).toNatClampNeg then none else
      nm (sI S73 14 (S73.2.1 6 ((x2 + (7 : Int32)).toNatClampNeg))) fun S83 =>
      if (x2 + (8 : Int32)) < 0 ∨ (0 : Int32) < 0 ∨ (8 : Int32) < 0 ∨ 32 < (x2 + (8 : Int32)).toNatClampNeg + (8 : Int32).toNatClampNeg ∨ 8 < (0 : Int32).toNatClampNeg + (8 : Int32).toNatClampNeg then none else
      nm (sR S83 4 (va_cpy (S83.2.1 6) (S83.2.1 4) (x2 + (8 : Int32)).toNatClampNeg (0 : Int32).toNatClampNeg (8 : Int32).toNatClampNeg)) fun S98 =>
      some S98
    else
      some S
def f_X5_fetch_a7 (x1 : Int32) (S : St) : Option (St) :=
  (f_X8_loadFrom_a12 (x1 * (16 : Int32)) S).bind fun r9 =>
  some r9
def f_X9_again (x1 : Int32) (S : St) : Option (Int32 × St) :=
  (f_X5_has x1).bind fun r5 =>
  if r5 = 0 then
    some ((-1 : Int32), S)
  else
    (f_X5_holds x1 S).bind fun r18 =>
    if r18 = 0 then
      some ((-3 : Int32), S)
    else
      (f_X5_fetch_a7 x1 S).bind fun r36 =>
      (f_X0_forget r36).bind fun r43 =>
      some ((r43.1 10), r43)
