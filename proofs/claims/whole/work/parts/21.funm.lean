def f_X10_in (x0 : Int64) (x2 : Int64) (x4 : Int64) : Option (Int32) :=
  if (lg_cmp x0 x2) < 0 then
    some (0 : Int32)
  else
    if 0 < (lg_cmp x0 x4) then
      some (0 : Int32)
    else
      some (1 : Int32)
def f_X10_write (x1 : Int32) (S : St) : Option (Int32 × St) :=
  nm (sI S 0 (0 : Int32)) fun S2 =>
  (f_X10_in x1.toInt64 (0 : Int64) (255 : Int64)).bind fun r11 =>
  if r11 = 0 then
    some ((-2 : Int32), S2)
  else
    if (S2.1 1) = (40 : Int32) then
      some ((-4 : Int32), S2)
    else
      if (S2.1 1) < 0 ∨ 40 ≤ (S2.1 1).toNatClampNeg then none else
      nm (sA S2 0 ((S2.1 1).toNatClampNeg) x1) fun S41 =>
      nm (sI S41 1 ((S41.1 1) + (1 : Int32))) fun S49 =>
      some ((S49.1 1), S49)
def f_X10_wipe (S : St) : Option (Int32 × St) :=
  nm (sI S 0 (0 : Int32)) fun S2 =>
  nm (sI S2 1 (0 : Int32)) fun S12 =>
  some ((S2.1 1), S12)
def f_X10_figure (x1 : Int32) (x2 : Int32) (S : St) : Option (Int32 × St) :=
  if (S.1 2) = (S.1 1) then
    some ((-9 : Int32), S)
  else
    if (S.1 2) < 0 ∨ 40 ≤ (S.1 2).toNatClampNeg then none else
    (f_X10_in (((S.2.1 0 ((S.1 2).toNatClampNeg)) - (48 : Int32)).toInt64) x1.toInt64 x2.toInt64).bind fun r28 =>
    if r28 = 0 then
      some ((-9 : Int32), S)
    else
      nm (sI S 2 ((S.1 2) + (1 : Int32))) fun S44 =>
      if ((S44.1 2) - (1 : Int32)) < 0 ∨ 40 ≤ ((S44.1 2) - (1 : Int32)).toNatClampNeg then none else
      some (((S44.2.1 0 (((S44.1 2) - (1 : Int32)).toNatClampNeg)) - (48 : Int32)), S44)
def j_X10_readLine_83 (bk : Int32 → St → Option (Nat × St)) (x1 : Int32) (x2 : Int32) (t0 : Int32) (S : St) : Option (Nat × St) :=
    if t0 < 0 ∨ 5 ≤ t0.toNatClampNeg then none else
      nm (sA S 5 t0.toNatClampNeg x2) fun S90 =>
      bk (x1 + 1) S90
def j_X10_readLine_52 (bk : Int32 → St → Option (Nat × St)) (x1 : Int32) (t0 : Int32) (S : St) : Option (Nat × St) :=
    (f_X10_figure t0 (9 : Int32) S).bind fun r54 =>
      if r54.1 = (-9 : Int32) then
        some (0, r54.2)
      else
        if x1 = 0 then
          j_X10_readLine_83 bk x1 r54.1 x1 r54.2
        else
          if x1 = (2 : Int32) then
            j_X10_readLine_83 bk x1 r54.1 x1 r54.2
          else
            if x1 < 0 ∨ 5 ≤ x1.toNatClampNeg then none else
            nm (sA r54.2 5 x1.toNatClampNeg (r54.1 - (5 : Int32))) fun S90 =>
            bk (x1 + 1) S90
def l_X10_readLine_37 : Nat → Int32 → St → Option (Nat × St)
  | 0, _, _ => none
  | n + 1, x1, S =>
    if (5 : Int32) ≤ x1 then
      some (1, S)
    else
      if x1 = 0 then
        j_X10_readLine_52 (l_X10_readLine_37 n) x1 (2 : Int32) S
      else
        j_X10_readLine_52 (l_X10_readLine_37 n) x1 (0 : Int32) S
def j_X10_readLine_165 (bk : Int32 → St → Option (Nat × St)) (x1 : Int32) (t0 : Int32) (t1 : Int32) (S : St) : Option (Nat × St) :=
    (f_X10_figure t1 t0 S).bind fun r165 =>
      if r165.1 = (-9 : Int32) then
        some (0, r165.2)
      else
        if (((3 : Int32) * (r165.2.1 6)) + x1) < 0 ∨ 24 ≤ (((3 : Int32) * (r165.2.1 6)) + x1).toNatClampNeg then none else
        nm (sA r165.2 6 ((((3 : Int32) * (r165.2.1 6)) + x1).toNatClampNeg) r165.1) fun S193 =>
        bk (x1 + 1) S193
def l_X10_readLine_148 : Nat → Int32 → St → Option (Nat × St)
  | 0, _, _ => none
  | n + 1, x1, S =>
    if (3 : Int32) ≤ x1 then
      some (1, S)
    else
      if x1 = 0 then
        j_X10_readLine_165 (l_X10_readLine_148 n) x1 (3 : Int32) (0 : Int32) S
      else
        j_X10_readLine_165 (l_X10_readLine_148 n) x1 (9 : Int32) (0 : Int32) S
def l_X10_readLine_97 : Nat → St → Option (Nat × St)
  | 0, _ => none
  | n + 1, S =>
    if (S.1 1) ≤ (S.1 2) then
      some (2, S)
    else
      if (S.1 2) < 0 ∨ 40 ≤ (S.1 2).toNatClampNeg then none else
      if (S.2.1 0 ((S.1 2).toNatClampNeg)) = (76 : Int32) then
        if (S.1 6) = (8 : Int32) then
          some (0, S)
        else
          nm (sI S 2 ((S.1 2) + (1 : Int32))) fun S143 =>
          (l_X10_readLine_148 fuel (0 : Int32) S143).bind fun o148 =>
          if o148.1 = 0 then
            some (1, o148.2)
          else
            nm (sI o148.2 6 ((o148.2.1 6) + (1 : Int32))) fun S207 =>
            l_X10_readLine_97 n S207
      else
        some (0, S)
def f_X10_readLine (S : St) : Option (Int32 × St) :=
  nm (sI S 2 (0 : Int32)) fun S2 =>
  nm (sI S2 6 (0 : Int32)) fun S7 =>
  if (S7.1 1) = 0 then
    some ((0 : Int32), S7)
  else
    if (S7.2.1 0 0) = (65 : Int32) then
      nm (sI S7 2 (1 : Int32)) fun S32 =>
      (l_X10_readLine_37 fuel (0 : Int32) S32).bind fun o37 =>
      if o37.1 = 0 then
        some ((o37.2.1 2), o37.2)
      else
        (l_X10_readLine_97 fuel o37.2).bind fun o97 =>
        if o97.1 = 0 then
          some ((o97.2.1 2), o97.2)
        else
          if o97.1 = 1 then
          some ((o97.2.1 2), o97.2)
        else
          some ((-9 : Int32), o97.2)
    else
      some ((0 : Int32), S7)
def f_X10_fault (S : St) : Option (Int32 × St) :=
  nm (sI S 0 (0 : Int32)) fun S2 =>
  (f_X10_readLine S2).bind fun r6 =>
  some (r6.1, r6.2)
def l_X10_line_71 : Nat → Int32 → St → Option (St)
  | 0, _, _ => none
  | n + 1, x1, S =>
    if (S.1 5) ≤ x1 then
      some S
    else
      if ((3 : Int32) * x1) < 0 ∨ 24 ≤ ((3 : Int32) * x1).toNatClampNeg then none else
      if x1 < 0 ∨ 8 ≤ x1.toNatClampNeg then none else
      nm (sA S 2 x1.toNatClampNeg (S.2.1 6 (((3 : Int32) * x1).toNatClampNeg))) fun S92 =>
      if (((3 : Int32) * x1) + (1 : Int32)) < 0 ∨ 24 ≤ (((3 : Int32) * x1) + (1 : Int32)).toNatClampNeg then none else
      if x1 < 0 ∨ 8 ≤ x1.toNatClampNeg then none else
      nm (sA S92 3 x1.toNatClampNeg (S92.2.1 6 ((((3 : Int32) * x1) + (1 : Int32)).toNatClampNeg))) fun S108 =>
      if (((3 : Int32) * x1) + (2 : Int32)) < 0 ∨ 24 ≤ (((3 : Int32) * x1) + (2 : Int32)).toNatClampNeg then none else
      if x1 < 0 ∨ 8 ≤ x1.toNatClampNeg then none else
      nm (sA S108 4 x1.toNatClampNeg (S108.2.1 6 ((((3 : Int32) * x1) + (2 : Int32)).toNatClampNeg))) fun S124 =>
      l_X10_line_71 n (x1 + 1) S124
def l_X10_line_133 : Nat → Int32 → St → Option (St)
  | 0, _, _ => none
  | n + 1, x1, S =>
    if (16 : Int32) ≤ x1 then
      some S
    else
      if x1 < 0 ∨ 16 ≤ x1.toNatClampNeg then none else
      nm (sA S 7 x1.toNatClampNeg (0 : Int32)) fun S145 =>
      l_X10_line_133 n (x1 + 1) S145
def f_X10_line (S : St) : Option (Int32 × St) :=
  nm (sI S 0 (0 : Int32)) fun S2 =>
  (f_X10_readLine S2).bind fun r6 =>
  if r6.1 = (-9 : Int32) then
    nm (sI r6.2 3 (r6.2.2.1 5 0)) fun S24 =>
    nm (sI S24 4 (S24.2.1 5 1)) fun S34 =>
    nm (sA S34 1 0 (S34.2.1 5 3)) fun S48 =>
    nm (sA S48 1 1 (S48.2.1 5 4)) fun S60 =>
    nm (sI S60 5 (S60.1 6)) fun S66 =>
    (l_X10_line_71 fuel (0 : Int32) S66).bind fun o71 =>
    (l_X10_line_133 fuel (0 : Int32) o71).bind fun o133 =>
    nm (sA o133 7 1 (o133.1 3)) fun S161 =>
    nm (sA S161 7 6 (S161.1 4)) fun S172 =>
    nm (sA S172 7 7 (S172.2.1 5 2)) fun S185 =>
    nm (sI S185 7 (0 : Int32)) fun S188 =>
    nm (sA S188 10 0 (0 : Int32)) fun S197 =>
    nm (sA S197 10 1 (0 : Int32)) fun S204 =>
    some ((S204.1 5), S204)
  else
    some ((-3 : Int32), r6.2)
def j_X10_about_133 (x1 : Int32) (S : St) : Option (Int32 × St) :=
    if (x1 - (13 : Int32)) < 0 ∨ 2 ≤ (x1 - (13 : Int32)).toNatClampNeg then none else
    some (((S.2.1 1 ((x1 - (13 : Int32)).toNatClampNeg)) + (5 : Int32)), S)
def j_X10_about_90 (x1 : Int32) (S : St) : Option (Int32 × St) :=
    if (x1 - (2 : Int32)) < 0 ∨ 16 ≤ (x1 - (2 : Int32)).toNatClampNeg then none else
    some ((S.2.1 7 ((x1 - (2 : Int32)).toNatClampNeg)), S)
def f_X10_about (x1 : Int32) (S : St) : Option (Int32 × St) :=
  nm (sI S 0 (0 : Int32)) fun S2 =>
  if x1 = (0 : Int32) then
    some ((S2.1 3), S2)
  else
  if x1 = (1 : Int32) then
    some ((S2.1 5), S2)
  else
  if x1 = (2 : Int32) then
    j_X10_about_90 x1 S2
  else
  if x1 = (3 : Int32) then
    j_X10_about_90 x1 S2
  else
  if x1 = (4 : Int32) then
    j_X10_about_90 x1 S2
  else
  if x1 = (5 : Int32) then
    j_X10_about_90 x1 S2
  else
  if x1 = (6 : Int32) then
    j_X10_about_90 x1 S2
  else
  if x1 = (7 : Int32) then
    j_X10_about_90 x1 S2
  else
  if x1 = (8 : Int32) then
    some (((S2.2.1 7 6) + (50 : Int32)), S2)
  else
  if x1 = (9 : Int32) then
    some ((S2.2.1 7 7), S2)
  else
  if x1 = (10 : Int32) then
    some ((S2.1 7), S2)
  else
  if x1 = (11 : Int32) then
    some ((S2.1 8), S2)
  else
  if x1 = (12 : Int32) then
    some ((S2.1 1), S2)
  else
  if x1 = (13 : Int32) then
    j_X10_about_133 x1 S2
  else
  if x1 = (14 : Int32) then
    j_X10_about_133 x1 S2
  else
  some ((-2 : Int32), S2)
def f_X10_noStage (x1 : Int32) (S : St) : Option (Int32) :=
  (f_X10_in x1.toInt64 (0 : Int64) (((S.1 5) - (1 : Int32)).toInt64)).bind fun r10 =>
  if r10 = 0 then
    some (1 : Int32)
  else
    some (0 : Int32)
def f_X10_stage (x1 : Int32) (x2 : Int32) (S : St) : Option (Int32 × St) :=
  nm (sI S 0 (0 : Int32)) fun S2 =>
  (f_X10_noStage x1 S2).bind fun r7 =>
  if r7 = 0 then
    if x2 = (0 : Int32) then
      if x1 < 0 ∨ 8 ≤ x1.toNatClampNeg then none else
      some ((S2.2.1 2 x1.toNatClampNeg), S2)
    else
    if x2 = (1 : Int32) then
      if x1 < 0 ∨ 8 ≤ x1.toNatClampNeg then none else
      some ((S2.2.1 3 x1.toNatClampNeg), S2)
    else
    if x2 = (2 : Int32) then
      if x1 < 0 ∨ 8 ≤ x1.toNatClampNeg then none else
      some ((S2.2.1 4 x1.toNatClampNeg), S2)
    else
    if x2 = (3 : Int32) then
      if (S2.2.1 7 0) ≤ x1 then
        some ((-9 : Int32), S2)
      else
        if ((8 : Int32) + x1) < 0 ∨ 16 ≤ ((8 : Int32) + x1).toNatClampNeg then none else
        some (((S2.2.1 7 (((8 : Int32) + x1).toNatClampNeg)) + (20000 : Int32)), S2)
    else
    if x2 = (4 : Int32) then
      some ((((S2.2.1 7 4) >>> (x1 &&& 31)) &&& (1 : Int32)), S2)
    else
    some ((-2 : Int32), S2)
  else
    some ((-1 : Int32), S2)
def f_X10_byBook (S : St) : Option (Int32 × St) :=
  nm (sI S 0 (0 : Int32)) fun S2 =>
  some ((((S2.1 3) * (S2.2.1 7 3)) + (S2.2.1 7 2)), S2)
def l_X10_truly_11 (S : St) : Nat → Int32 → Int32 → Option (Int32)
  | 0, _, _ => none
  | n + 1, x1, x2 =>
    if (S.2.1 7 0) ≤ x2 then
      some x1
    else
      if ((8 : Int32) + x2) < 0 ∨ 16 ≤ ((8 : Int32) + x2).toNatClampNeg then none else
      nm (x1 + ((1000 : Int32) + (S.2.1 7 (((8 : Int32) + x2).toNatClampNeg)))) fun v36 =>
      l_X10_truly_11 S n v36 (x2 + 1)
def f_X10_truly (S : St) : Option (Int32 × St) :=
  nm (sI S 0 (0 : Int32)) fun S2 =>
  (l_X10_truly_11 S2 fuel (20000 : Int32) (0 : Int32)).bind fun o11 =>
  some (o11, S2)
def f_X10_ahead (S : St) : Option (Int32) :=
  some ((S.1 5) - (S.2.1 7 0))
def l_X10_note_11 : Nat → Int32 → St → Option (St)
  | 0, _, _ => none
  | n + 1, x1, S =>
    if (208 : Int32) ≤ x1 then
      some S
    else
      if (x1 + (16 : Int32)) < 0 ∨ 224 ≤ (x1 + (16 : Int32)).toNatClampNeg then none else
      if x1 < 0 ∨ 224 ≤ x1.toNatClampNeg then none else
      nm (sA S 8 x1.toNatClampNeg (S.2.1 8 ((x1 + (16 : Int32)).toNatClampNeg))) fun S32 =>
      l_X10_note_11 n (x1 + 1) S32
def l_X10_note_51 : Nat → Int32 → St → Option (St)
  | 0, _, _ => none
  | n + 1, x1, S =>
    if (16 : Int32) ≤ x1 then
      some S
    else
      if x1 < 0 ∨ 16 ≤ x1.toNatClampNeg then none else
      if (((16 : Int32) * (S.1 7)) + x1) < 0 ∨ 224 ≤ (((16 : Int32) * (S.1 7)) + x1).toNatClampNeg then none else
      nm (sA S 8 ((((16 : Int32) * (S.1 7)) + x1).toNatClampNeg) (S.2.1 7 x1.toNatClampNeg)) fun S76 =>
      l_X10_note_51 n (x1 + 1) S76
def j_X10_note_49 (S : St) : Option (St) :=
    (l_X10_note_51 fuel (0 : Int32) S).bind fun o51 =>
    nm (sI o51 7 ((o51.1 7) + (1 : Int32))) fun S90 =>
    some S90
def f_X10_note (S : St) : Option (St) :=
  if (S.1 7) = (14 : Int32) then
    (l_X10_note_11 fuel (0 : Int32) S).bind fun o11 =>
    nm (sI o11 7 ((o11.1 7) - (1 : Int32))) fun S46 =>
    j_X10_note_49 S46
  else
    j_X10_note_49 S
def f_X10_ground (x1 : Int32) (x2 : Int32) (S : St) : Option (Int32) :=
  if x2 = (1 : Int32) then
    if x1 < 0 ∨ 8 ≤ x1.toNatClampNeg then none else
    if x1 < 0 ∨ 8 ≤ x1.toNatClampNeg then none else
    some ((-(S.2.1 3 x1.toNatClampNeg)) * (S.2.1 3 x1.toNatClampNeg))
  else
  if x2 = (2 : Int32) then
    if x1 < 0 ∨ 8 ≤ x1.toNatClampNeg then none else
    some (-(S.2.1 3 x1.toNatClampNeg))
  else
  if x2 = (3 : Int32) then
    if x1 < 0 ∨ 8 ≤ x1.toNatClampNeg then none else
    some ((-2 : Int32) * (S.2.1 3 x1.toNatClampNeg))
  else
  some (0 : Int32)
def f_X10_errorOf (x1 : Int32) (x2 : Int32) (S : St) : Option (Int32) :=
  if x1 < 0 ∨ 8 ≤ x1.toNatClampNeg then none else
  (f_X10_ground x1 (S.2.1 2 x1.toNatClampNeg) S).bind fun r15 =>
  if x2 < 0 ∨ 2 ≤ x2.toNatClampNeg then none else
  some ((((S.2.1 7 6) + r15) + (S.2.1 1 x2.toNatClampNeg)) - (S.2.1 7 7))
def j_X10_lay_73 (S : St) : Option (Int32 × St) :=
    nm (sA S 7 1 ((S.2.1 7 1) - (1 : Int32))) fun S89 =>
    nm (sA S89 7 2 ((S89.2.1 7 2) + (1 : Int32))) fun S99 =>
    (f_X10_errorOf (S.2.1 7 0) (S99.2.1 7 5) S99).bind fun r116 =>
    if ((8 : Int32) + (S.2.1 7 0)) < 0 ∨ 16 ≤ ((8 : Int32) + (S.2.1 7 0)).toNatClampNeg then none else
    nm (sA S99 7 (((8 : Int32) + (S.2.1 7 0)).toNatClampNeg) r116) fun S119 =>
    nm (sA S119 7 0 ((S119.2.1 7 0) + (1 : Int32))) fun S129 =>
    if ((8 : Int32) + (S.2.1 7 0)) < 0 ∨ 16 ≤ ((8 : Int32) + (S.2.1 7 0)).toNatClampNeg then none else
    some (((S129.2.1 7 (((8 : Int32) + (S.2.1 7 0)).toNatClampNeg)) + (20000 : Int32)), S129)
def f_X10_lay (S : St) : Option (Int32 × St) :=
  nm (sI S 0 (0 : Int32)) fun S2 =>
  (f_X10_ahead S2).bind fun r6 =>
  if r6 = 0 then
    some ((-3 : Int32), S2)
  else
    if ((S2.2.1 7 1) + (S2.2.1 7 2)) = 0 then
      some ((-3 : Int32), S2)
    else
      (f_X10_note S2).bind fun r32 =>
      if (r32.2.1 7 1) = 0 then
        nm (sA r32 7 1 (r32.2.1 7 2)) fun S55 =>
        nm (sA S55 7 2 (0 : Int32)) fun S62 =>
        nm (sA S62 7 3 ((S62.2.1 7 3) + (1 : Int32))) fun S72 =>
        j_X10_lay_73 S72
      else
        j_X10_lay_73 r32
def f_X10_has (x0 : Int32) (x1 : Int32) : Option (Int32) :=
  if ((x0 >>> (x1 &&& 31)) &&& (1 : Int32)) = (1 : Int32) then
    some (1 : Int32)
  else
    some (0 : Int32)
def f_X10_lose (S : St) : Option (Int32 × St) :=
  nm (sI S 0 (0 : Int32)) fun S2 =>
  if ((S2.2.1 7 0) - (1 : Int32)) < 0 then
    some ((-3 : Int32), S2)
  else
    (f_X10_has (S2.2.1 7 4) ((S2.2.1 7 0) - (1 : Int32))).bind fun r25 =>
    if r25 = 0 then
      (f_X10_note S2).bind fun r35 =>
      nm (sA r35 7 4 ((r35.2.1 7 4) ||| ((1 : Int32) <<< (((S2.2.1 7 0) - (1 : Int32)) &&& 31)))) fun S49 =>
      nm (sA S49 7 2 ((S49.2.1 7 2) - (1 : Int32))) fun S59 =>
      some ((S59.2.1 7 2), S59)
    else
      some ((-3 : Int32), S2)
def f_X10_find (x1 : Int32) (S : St) : Option (Int32 × St) :=
  nm (sI S 0 (0 : Int32)) fun S2 =>
  (f_X10_noStage x1 S2).bind fun r7 =>
  if r7 = 0 then
    (f_X10_has (S2.2.1 7 4) x1).bind fun r22 =>
    if r22 = 0 then
      some ((-3 : Int32), S2)
    else
      (f_X10_note S2).bind fun r32 =>
      nm (sA r32 7 4 ((r32.2.1 7 4) &&& (((1 : Int32) <<< (x1 &&& 31)) ^^^ (-1 : Int32)))) fun S48 =>
      nm (sA S48 7 2 ((S48.2.1 7 2) + (1 : Int32))) fun S58 =>
      some ((S58.2.1 7 2), S58)
  else
    some ((-1 : Int32), S2)
def f_X10_doubled (S : St) : Option (Int32 × St) :=
  nm (sI S 0 (0 : Int32)) fun S2 =>
  (f_X10_note S2).bind fun r6 =>
  nm (sA r6 7 3 ((r6.2.1 7 3) + (1 : Int32))) fun S18 =>
  some ((S18.2.1 7 3), S18)
def f_X10_change (S : St) : Option (Int32 × St) :=
  nm (sI S 0 (0 : Int32)) fun S2 =>
  (f_X10_note S2).bind fun r6 =>
  nm (sA r6 7 5 ((1 : Int32) - (r6.2.1 7 5))) fun S22 =>
  some ((S22.2.1 7 5), S22)
def f_X10_stretch (x1 : Int32) (S : St) : Option (Int32 × St) :=
  nm (sI S 0 (0 : Int32)) fun S2 =>
  (f_X10_in x1.toInt64 (-3 : Int64) (3 : Int64)).bind fun r13 =>
  if r13 = 0 then
    some ((-2 : Int32), S2)
  else
    if x1 = 0 then
      some ((-2 : Int32), S2)
    else
      (f_X10_in (((S2.2.1 7 6) + x1).toInt64) (-9 : Int64) (9 : Int64)).bind fun r42 =>
      if r42 = 0 then
        some ((-3 : Int32), S2)
      else
        (f_X10_note S2).bind fun r52 =>
        nm (sA r52 7 6 ((r52.2.1 7 6) + x1)) fun S65 =>
        some (((S65.2.1 7 6) + (50 : Int32)), S65)
def f_X10_knot (S : St) : Option (Int32 × St) :=
  nm (sI S 0 (0 : Int32)) fun S2 =>
  if (S2.2.1 7 7) = (9 : Int32) then
    some ((-4 : Int32), S2)
  else
    (f_X10_note S2).bind fun r21 =>
    nm (sA r21 7 7 ((r21.2.1 7 7) + (1 : Int32))) fun S34 =>
    some ((S34.2.1 7 7), S34)
def f_X10_clear (S : St) : Option (Int32 × St) :=
  nm (sI S 0 (0 : Int32)) fun S2 =>
  if (S2.2.1 7 7) = 0 then
    some ((-3 : Int32), S2)
  else
    (f_X10_note S2).bind fun r21 =>
    nm (sA r21 7 7 (0 : Int32)) fun S31 =>
    some ((S2.2.1 7 7), S31)
def l_X10_undo_27 : Nat → Int32 → St → Option (St)
  | 0, _, _ => none
  | n + 1, x1, S =>
    if (16 : Int32) ≤ x1 then
      some S
    else
      if (((16 : Int32) * (S.1 7)) + x1) < 0 ∨ 224 ≤ (((16 : Int32) * (S.1 7)) + x1).toNatClampNeg then none else
      if x1 < 0 ∨ 16 ≤ x1.toNatClampNeg then none else
      nm (sA S 7 x1.toNatClampNeg (S.2.1 8 ((((16 : Int32) * (S.1 7)) + x1).toNatClampNeg))) fun S52 =>
      l_X10_undo_27 n (x1 + 1) S52
def f_X10_undo (S : St) : Option (Int32 × St) :=
  nm (sI S 0 (0 : Int32)) fun S2 =>
  if (S2.1 7) = 0 then
    some ((-3 : Int32), S2)
  else
    nm (sI S2 7 ((S2.1 7) - (1 : Int32))) fun S22 =>
    (l_X10_undo_27 fuel (0 : Int32) S22).bind fun o27 =>
    some ((o27.1 7), o27)
def l_X10_offBy_10 (x1 : Int32) (x2 : Int32) (S : St) : Nat → Int32 → Int32 → Option (Int32)
  | 0, _, _ => none
  | n + 1, x3, x4 =>
    if ((S.2.1 7 0) + x1) ≤ x4 then
      some x3
    else
      (f_X10_errorOf x4 ((x2 >>> (x4 &&& 31)) &&& (1 : Int32)) S).bind fun r33 =>
      l_X10_offBy_10 x1 x2 S n (x3 + r33) (x4 + 1)
def f_X10_offBy (x1 : Int32) (x2 : Int32) (S : St) : Option (Int32) :=
  (l_X10_offBy_10 x1 x2 S fuel (0 : Int32) (S.2.1 7 0)).bind fun o10 =>
  some o10
def f_X10_off (x1 : Int32) (x2 : Int32) (S : St) : Option (Int32 × St) :=
  nm (sI S 0 (0 : Int32)) fun S2 =>
  (f_X10_ahead S2).bind fun r9 =>
  (f_X10_in x1.toInt64 (0 : Int64) r9.toInt64).bind fun r13 =>
  if r13 = 0 then
    some ((-2 : Int32), S2)
  else
    (f_X10_in x2.toInt64 (0 : Int64) (255 : Int64)).bind fun r25 =>
    if r25 = 0 then
      some ((-2 : Int32), S2)
    else
      (f_X10_offBy x1 x2 S2).bind fun r39 =>
      some ((r39 + (20000 : Int32)), S2)
def f_X10_size (x0 : Int32) : Option (Int32) :=
  if 0 ≤ x0 then
    some x0
  else
    some (-x0)
def j_X10_changesOf_48 (bk : Int32 → Int32 → Int32 → Option (Int32)) (x1 : Int32) (x2 : Int32) (x5 : Int32) (t0 : Int32) (t1 : Int32) (S : St) : Option (Int32) :=
    nm ((x2 >>> (x5 &&& 31)) &&& (1 : Int32)) fun v57 =>
      bk v57 (t1 + t0) (x5 + 1)
def l_X10_changesOf_18 (x1 : Int32) (x2 : Int32) (S : St) : Nat → Int32 → Int32 → Int32 → Option (Int32)
  | 0, _, _, _ => none
  | n + 1, x3, x4, x5 =>
    if ((S.2.1 7 0) + x1) ≤ x5 then
      some x4
    else
      if ((x2 >>> (x5 &&& 31)) &&& (1 : Int32)) = x3 then
        j_X10_changesOf_48 (l_X10_changesOf_18 x1 x2 S n) x1 x2 x5 (0 : Int32) x4 S
      else
        j_X10_changesOf_48 (l_X10_changesOf_18 x1 x2 S n) x1 x2 x5 (1 : Int32) x4 S
def f_X10_changesOf (x1 : Int32) (x2 : Int32) (S : St) : Option (Int32) :=
  (l_X10_changesOf_18 x1 x2 S fuel (S.2.1 7 5) (0 : Int32) (S.2.1 7 0)).bind fun o18 =>
  some o18
def j_X10_findEnds_132 (bk : Int32 → St → Option (St)) (x1 : Int32) (x2 : Int32) (x3 : Int32) (x4 : Int32) (x5 : Int32) (t0 : Int32) (S : St) : Option (St) :=
    nm (sI S 9 t0) fun S132 =>
      if x5 = 0 then
        nm (sI S132 10 (S132.1 10)) fun S150 =>
        bk (x3 + 1) S150
      else
        nm (sI S132 10 x4) fun S150 =>
        bk (x3 + 1) S150
def j_X10_findEnds_116 (bk : Int32 → St → Option (St)) (x1 : Int32) (x2 : Int32) (x3 : Int32) (x4 : Int32) (t0 : Int32) (S : St) : Option (St) :=
    if t0 = 0 then
        j_X10_findEnds_132 bk x1 x2 x3 x4 t0 (S.1 9) S
      else
        j_X10_findEnds_132 bk x1 x2 x3 x4 t0 x3 S
def j_X10_findEnds_115 (bk : Int32 → St → Option (St)) (x1 : Int32) (x2 : Int32) (x3 : Int32) (x4 : Int32) (S : St) : Option (St) :=
    j_X10_findEnds_116 bk x1 x2 x3 x4 (0 : Int32) S
def j_X10_findEnds_111 (bk : Int32 → St → Option (St)) (x1 : Int32) (x2 : Int32) (x3 : Int32) (x4 : Int32) (S : St) : Option (St) :=
    j_X10_findEnds_116 bk x1 x2 x3 x4 (1 : Int32) S
def l_X10_findEnds_33 (x1 : Int32) (x2 : Int32) : Nat → Int32 → St → Option (St)
  | 0, _, _ => none
  | n + 1, x3, S =>
    if x2 < x3 then
      some S
    else
      if (x3 &&& (x2 ^^^ (-1 : Int32))) = 0 then
        (f_X10_offBy x1 x3 S).bind fun r49 =>
        if (S.1 9) = (-9 : Int32) then
          j_X10_findEnds_111 (l_X10_findEnds_33 x1 x2 n) x1 x2 x3 r49 S
        else
          (f_X10_size r49).bind fun r65 =>
          (f_X10_size (S.1 10)).bind fun r72 =>
          if r65 < r72 then
            j_X10_findEnds_111 (l_X10_findEnds_33 x1 x2 n) x1 x2 x3 r49 S
          else
            (f_X10_size r49).bind fun r80 =>
            (f_X10_size (S.1 10)).bind fun r87 =>
            if r80 = r87 then
              (f_X10_changesOf x1 x3 S).bind fun r96 =>
              (f_X10_changesOf x1 (S.1 9) S).bind fun r105 =>
              if r105 ≤ r96 then
                j_X10_findEnds_115 (l_X10_findEnds_33 x1 x2 n) x1 x2 x3 r49 S
              else
                j_X10_findEnds_111 (l_X10_findEnds_33 x1 x2 n) x1 x2 x3 r49 S
            else
              j_X10_findEnds_115 (l_X10_findEnds_33 x1 x2 n) x1 x2 x3 r49 S
      else
        l_X10_findEnds_33 x1 x2 n (x3 + 1) S
def f_X10_findEnds (x1 : Int32) (S : St) : Option (St) :=
  nm (((1 : Int32) <<< (((S.2.1 7 0) + x1) &&& 31)) - ((1 : Int32) <<< ((S.2.1 7 0) &&& 31))) fun v19 =>
  nm (sI S 9 (-9 : Int32)) fun S23 =>
  nm (sI S23 10 (0 : Int32)) fun S28 =>
  (l_X10_findEnds_33 x1 v19 fuel (0 : Int32) S28).bind fun o33 =>
  some o33
def f_X10_ends (x1 : Int32) (x2 : Int32) (S : St) : Option (Int32 × St) :=
  nm (sI S 0 (0 : Int32)) fun S2 =>
  (f_X10_ahead S2).bind fun r9 =>
  (f_X10_in x1.toInt64 (0 : Int64) r9.toInt64).bind fun r13 =>
  if r13 = 0 then
    some ((-2 : Int32), S2)
  else
    (f_X10_in x2.toInt64 (0 : Int64) (1 : Int64)).bind fun r23 =>
    if r23 = 0 then
      some ((-2 : Int32), S2)
    else
      (f_X10_findEnds x1 S2).bind fun r34 =>
      if x2 = 0 then
        some ((r34.1 9), r34)
      else
        some (((r34.1 10) + (20000 : Int32)), r34)
def l_X10_many_4 (x0 : Int32) : Nat → Int32 → Int32 → Option (Int32)
  | 0, _, _ => none
  | n + 1, x1, x2 =>
    if (8 : Int32) ≤ x2 then
      some x1
    else
      nm (x1 + ((x0 >>> (x2 &&& 31)) &&& (1 : Int32))) fun v17 =>
      l_X10_many_4 x0 n v17 (x2 + 1)
def f_X10_many (x0 : Int32) : Option (Int32) :=
  (l_X10_many_4 x0 fuel (0 : Int32) (0 : Int32)).bind fun o4 =>
  some o4
def j_X10_step_61 (bk : Int32 → Int32 → Int32 → Option (Int32 × Int32)) (x1 : Int32) (x3 : Int32) (x4 : Int32) (t0 : Int32) (t1 : Int32) (S : St) : Option (Int32 × Int32) :=
    (f_X10_errorOf x4 (S.2.1 7 5) S).bind fun r73 =>
      bk (t1 ||| t0) (x3 + r73) (x4 + 1)
def l_X10_step_32 (x1 : Int32) (S : St) : Nat → Int32 → Int32 → Int32 → Option (Int32 × Int32)
  | 0, _, _, _ => none
  | n + 1, x2, x3, x4 =>
    if (S.1 5) ≤ x4 then
      some (x2, x3)
    else
      if x4 < 0 ∨ 8 ≤ x4.toNatClampNeg then none else
      if (S.2.1 2 x4.toNatClampNeg) = (1 : Int32) then
        j_X10_step_61 (l_X10_step_32 x1 S n) x1 x3 x4 ((1 : Int32) <<< (x4 &&& 31)) x2 S
      else
        j_X10_step_61 (l_X10_step_32 x1 S n) x1 x3 x4 (0 : Int32) x2 S
def l_X10_step_132 (x1 : Int32) (x2 : Int32) (x3 : Int32) (x4 : Int32) (x5 : Int32) (S : St) : Nat → Int32 → Int32 → Option (Int32)
  | 0, _, _ => none
  | n + 1, x6, x7 =>
    if (S.1 5) ≤ x7 then
      some x6
    else
      (f_X10_has x5 x7).bind fun r147 =>
      if r147 = 0 then
        l_X10_step_132 x1 x2 x3 x4 x5 S n (x6 + (0 : Int32)) (x7 + 1)
      else
        (f_X10_ground x7 (2 : Int32) S).bind fun r157 =>
        (f_X10_ground x7 (1 : Int32) S).bind fun r164 =>
        l_X10_step_132 x1 x2 x3 x4 x5 S n (x6 + (r157 - r164)) (x7 + 1)
def j_X10_step_126 (bk : Int32 → Int32 → Option (Int32)) (x1 : Int32) (x2 : Int32) (x3 : Int32) (x4 : Int32) (x5 : Int32) (S : St) : Option (Int32) :=
    (l_X10_step_132 x1 x2 x3 x4 x5 S fuel x3 (0 : Int32)).bind fun o132 =>
      (f_X10_size o132).bind fun r183 =>
      if x1 < r183 then
        bk x4 (x5 + 1)
      else
        bk x5 (x5 + 1)
def l_X10_step_91 (x1 : Int32) (x2 : Int32) (x3 : Int32) (S : St) : Nat → Int32 → Int32 → Option (Int32)
  | 0, _, _ => none
  | n + 1, x4, x5 =>
    if x2 < x5 then
      some x4
    else
      if (x5 &&& (x2 ^^^ (-1 : Int32))) = 0 then
        if x4 = (-9 : Int32) then
          j_X10_step_126 (l_X10_step_91 x1 x2 x3 S n) x1 x2 x3 x4 x5 S
        else
          (f_X10_many x5).bind fun r115 =>
          (f_X10_many x4).bind fun r120 =>
          if r120 ≤ r115 then
            l_X10_step_91 x1 x2 x3 S n x4 (x5 + 1)
          else
            j_X10_step_126 (l_X10_step_91 x1 x2 x3 S n) x1 x2 x3 x4 x5 S
      else
        l_X10_step_91 x1 x2 x3 S n x4 (x5 + 1)
def f_X10_step (x1 : Int32) (S : St) : Option (Int32 × St) :=
  nm (sI S 0 (0 : Int32)) fun S2 =>
  (f_X10_in x1.toInt64 (0 : Int64) (99 : Int64)).bind fun r11 =>
  if r11 = 0 then
    some ((-2 : Int32), S2)
  else
    (l_X10_step_32 x1 S2 fuel (0 : Int32) (0 : Int32) (S2.2.1 7 0)).bind fun o32 =>
    (l_X10_step_91 x1 o32.1 o32.2 S2 fuel (-9 : Int32) (0 : Int32)).bind fun o91 =>
    some (o91, S2)
def f_X10_sourceOf (x1 : Int32) (x2 : Int32) (S : St) : Option (Int32) :=
  if x2 = (0 : Int32) then
    some (S.2.1 7 6)
  else
  if x2 = (1 : Int32) then
    if x1 < 0 ∨ 8 ≤ x1.toNatClampNeg then none else
    (f_X10_ground x1 (S.2.1 2 x1.toNatClampNeg) S).bind fun r44 =>
    some r44
  else
  if x2 = (2 : Int32) then
    if (S.2.1 7 5) < 0 ∨ 2 ≤ (S.2.1 7 5).toNatClampNeg then none else
    some (S.2.1 1 ((S.2.1 7 5).toNatClampNeg))
  else
  some (-(S.2.1 7 7))
def l_X10_orders_4 (x0 : Int32) : Nat → Int32 → Int32 → Option (Int32)
  | 0, _, _ => none
  | n + 1, x1, x2 =>
    if x0 < x2 then
      some x1
    else
      l_X10_orders_4 x0 n (x1 * x2) (x2 + 1)
def f_X10_orders (x0 : Int32) : Option (Int32) :=
  (l_X10_orders_4 x0 fuel (1 : Int32) (2 : Int32)).bind fun o4 =>
  some o4
def l_X10_divisor_7 : Nat → Int32 → Int32 → Option (Int32)
  | 0, _, _ => none
  | n + 1, x2, x3 =>
    if x3 = 0 then
      some x2
    else
      if x3 = 0 then none else
      l_X10_divisor_7 n x3 (x2 - x2 / x3 * x3)
def f_X10_divisor (x0 : Int32) (x1 : Int32) : Option (Int32) :=
  (f_X10_size x0).bind fun r1 =>
  (l_X10_divisor_7 fuel r1 x1).bind fun o7 =>
  some o7
def f_X10_fraction (x0 : Int32) (x1 : Int32) (x2 : Int32) : Option (Int32) :=
  (f_X10_divisor x0 x1).bind fun r2 =>
  if x2 = 0 then
    if r2 = 0 then none else
    some (x1 / r2)
  else
    if r2 = 0 then none else
    some (x0 / r2)
def l_X10_share_66 (x1 : Int32) (x2 : Int32) (x3 : Int32) (x4 : Int32) (x6 : Int32) (S : St) : Nat → Int32 → Int32 → Option (Int32)
  | 0, _, _ => none
  | n + 1, x5, x7 =>
    if ((S.2.1 7 0) + x2) ≤ x7 then
      some x5
    else
      (f_X10_has x4 x6).bind fun r85 =>
      if r85 = 0 then
        l_X10_share_66 x1 x2 x3 x4 x6 S n (x5 + (0 : Int32)) (x7 + 1)
      else
        (f_X10_sourceOf x7 x6 S).bind fun r96 =>
        l_X10_share_66 x1 x2 x3 x4 x6 S n (x5 + r96) (x7 + 1)
def l_X10_share_52 (x1 : Int32) (x2 : Int32) (x3 : Int32) (x4 : Int32) (S : St) : Nat → Int32 → Int32 → Option (Int32)
  | 0, _, _ => none
  | n + 1, x5, x6 =>
    if (4 : Int32) ≤ x6 then
      some x5
    else
      (l_X10_share_66 x1 x2 x3 x4 x6 S fuel x5 (S.2.1 7 0)).bind fun o66 =>
      l_X10_share_52 x1 x2 x3 x4 S n o66 (x6 + 1)
def l_X10_share_39 (x1 : Int32) (x2 : Int32) (x3 : Int32) : Nat → Int32 → St → Option (St)
  | 0, _, _ => none
  | n + 1, x4, S =>
    if (16 : Int32) ≤ x4 then
      some S
    else
      (l_X10_share_52 x1 x2 x3 x4 S fuel (0 : Int32) (0 : Int32)).bind fun o52 =>
      (f_X10_size o52).bind fun r126 =>
      if x4 < 0 ∨ 16 ≤ x4.toNatClampNeg then none else
      nm (sA S 13 x4.toNatClampNeg r126) fun S129 =>
      l_X10_share_39 x1 x2 x3 n (x4 + 1) S129
def l_X10_share_142 (x1 : Int32) (x3 : Int32) (S : St) : Nat → Int32 → Int32 → Option (Int32)
  | 0, _, _ => none
  | n + 1, x4, x5 =>
    if (16 : Int32) ≤ x5 then
      some x4
    else
      (f_X10_has x5 x1).bind fun r152 =>
      if r152 = 0 then
        (f_X10_many x5).bind fun r160 =>
        (f_X10_orders r160).bind fun r169 =>
        (f_X10_orders ((3 : Int32) - r160)).bind fun r176 =>
        if (x5 ||| ((1 : Int32) <<< (x1 &&& 31))) < 0 ∨ 16 ≤ (x5 ||| ((1 : Int32) <<< (x1 &&& 31))).toNatClampNeg then none else
        if x5 < 0 ∨ 16 ≤ x5.toNatClampNeg then none else
        nm (x4 + ((r169 * r176) * ((S.2.1 13 ((x5 ||| ((1 : Int32) <<< (x1 &&& 31))).toNatClampNeg)) - (S.2.1 13 x5.toNatClampNeg)))) fun v201 =>
        l_X10_share_142 x1 x3 S n v201 (x5 + 1)
      else
        l_X10_share_142 x1 x3 S n x4 (x5 + 1)
def f_X10_share (x1 : Int32) (x2 : Int32) (x3 : Int32) (S : St) : Option (Int32 × St) :=
  nm (sI S 0 (0 : Int32)) fun S2 =>
  (f_X10_in x1.toInt64 (0 : Int64) (3 : Int64)).bind fun r11 =>
  if r11 = 0 then
    some ((-1 : Int32), S2)
  else
    (f_X10_ahead S2).bind fun r23 =>
    (f_X10_in x2.toInt64 (0 : Int64) r23.toInt64).bind fun r27 =>
    if r27 = 0 then
      some ((-2 : Int32), S2)
    else
      (l_X10_share_39 x1 x2 x3 fuel (0 : Int32) S2).bind fun o39 =>
      (l_X10_share_142 x1 x3 o39 fuel (0 : Int32) (0 : Int32)).bind fun o142 =>
      (f_X10_fraction o142 (24 : Int32) x3).bind fun r214 =>
      some (r214, o39)
def l_X10_gorseLaid_4 (S : St) : Nat → Int32 → Int32 → Option (Int32)
  | 0, _, _ => none
  | n + 1, x1, x2 =>
    if (S.2.1 7 0) ≤ x2 then
      some x1
    else
      if x2 < 0 ∨ 8 ≤ x2.toNatClampNeg then none else
      nm (x1 + (S.2.1 4 x2.toNatClampNeg)) fun v22 =>
      l_X10_gorseLaid_4 S n v22 (x2 + 1)
def f_X10_gorseLaid (S : St) : Option (Int32) :=
  (l_X10_gorseLaid_4 S fuel (0 : Int32) (0 : Int32)).bind fun o4 =>
  some o4
def f_X10_where (x1 : Int32) (x2 : Int32) (S : St) : Option (Int32 × St) :=
  nm (sI S 0 (0 : Int32)) fun S2 =>
  (f_X10_in x1.toInt64 (0 : Int64) (((S2.2.1 7 0) - (1 : Int32)).toInt64)).bind fun r17 =>
  if r17 = 0 then
    some ((-1 : Int32), S2)
  else
    (f_X10_gorseLaid S2).bind fun r26 =>
    if r26 = 0 then
      some ((-3 : Int32), S2)
    else
      if x1 < 0 ∨ 8 ≤ x1.toNatClampNeg then none else
      (f_X10_fraction (S2.2.1 4 x1.toNatClampNeg) r26 x2).bind fun r47 =>
      some (r47, S2)
def l_X10_back_37 (x1 : Int32) (x2 : Int32) (S : St) : Nat → Int32 → Int32 → Option (Int32)
  | 0, _, _ => none
  | n + 1, x3, x4 =>
    if (x1 * x2) ≤ ((10 : Int32) * x4) then
      some x3
    else
      if ((S.2.1 7 0) - (x3 + 1)) < 0 ∨ 8 ≤ ((S.2.1 7 0) - (x3 + 1)).toNatClampNeg then none else
      nm (x4 + (S.2.1 4 (((S.2.1 7 0) - (x3 + 1)).toNatClampNeg))) fun v67 =>
      l_X10_back_37 x1 x2 S n (x3 + 1) v67
def f_X10_back (x1 : Int32) (S : St) : Option (Int32 × St) :=
  nm (sI S 0 (0 : Int32)) fun S2 =>
  (f_X10_in x1.toInt64 (1 : Int64) (10 : Int64)).bind fun r11 =>
  if r11 = 0 then
    some ((-2 : Int32), S2)
  else
    (f_X10_gorseLaid S2).bind fun r21 =>
    if r21 = 0 then
      some ((-3 : Int32), S2)
    else
      (l_X10_back_37 x1 r21 S2 fuel (0 : Int32) (0 : Int32)).bind fun o37 =>
      some (o37, S2)
def j_X10_showsBy_35 (bk : Int32 → Int32 → Int32 → Option (Nat × Int32)) (x1 : Int32) (x2 : Int32) (x3 : Int32) (x4 : Int32) (x5 : Int32) (S : St) : Option (Nat × Int32) :=
    if x5 = x1 then
        bk (x3 + (-1)) (x4 + (0 : Int32)) (x5 + 1)
      else
        bk (x3 + (-1)) (x4 + (1 : Int32)) (x5 + 1)
def l_X10_showsBy_8 (x1 : Int32) (x2 : Int32) (S : St) : Nat → Int32 → Int32 → Int32 → Option (Nat × Int32)
  | 0, _, _, _ => none
  | n + 1, x3, x4, x5 =>
    if (S.1 5) ≤ x5 then
      some (1, x5)
    else
      if x3 = 0 then
        if x4 = x2 then
          j_X10_showsBy_35 (l_X10_showsBy_8 x1 x2 S n) x1 x2 x4 (0 : Int32) x5 S
        else
          some (0, x5)
      else
        j_X10_showsBy_35 (l_X10_showsBy_8 x1 x2 S n) x1 x2 x3 x4 x5 S
def f_X10_showsBy (x1 : Int32) (x2 : Int32) (S : St) : Option (Int32) :=
  (l_X10_showsBy_8 x1 x2 S fuel x2 (0 : Int32) (0 : Int32)).bind fun o8 =>
  if o8.1 = 0 then
    some o8.2
  else
    some (-9 : Int32)
def f_X10_shows (x1 : Int32) (x2 : Int32) (S : St) : Option (Int32 × St) :=
  nm (sI S 0 (0 : Int32)) fun S2 =>
  (f_X10_noStage x1 S2).bind fun r7 =>
  if r7 = 0 then
    (f_X10_in x2.toInt64 (2 : Int64) (9 : Int64)).bind fun r23 =>
    if r23 = 0 then
      some ((-2 : Int32), S2)
    else
      (f_X10_showsBy x1 x2 S2).bind fun r32 =>
      some (r32, S2)
  else
    some ((-1 : Int32), S2)
def j_X10_soonest_60 (bk : Int32 → Int32 → Option (Int32)) (x1 : Int32) (x2 : Int32) (x3 : Int32) (x4 : Int32) (x5 : Int32) (t0 : Int32) (S : St) : Option (Int32) :=
    if t0 ≤ x4 then
        bk x4 (x5 + 1)
      else
        bk t0 (x5 + 1)
def l_X10_soonest_25 (x1 : Int32) (x2 : Int32) (x3 : Int32) (S : St) : Nat → Int32 → Int32 → Option (Int32)
  | 0, _, _ => none
  | n + 1, x4, x5 =>
    if (S.1 5) ≤ x5 then
      some x4
    else
      (f_X10_showsBy x5 x3 S).bind fun r38 =>
      if r38 = (-9 : Int32) then
        j_X10_soonest_60 (l_X10_soonest_25 x1 x2 x3 S n) x1 x2 x3 x4 x5 (9 : Int32) S
      else
        j_X10_soonest_60 (l_X10_soonest_25 x1 x2 x3 S n) x1 x2 x3 x4 x5 (r38 - x5) S
def j_X10_soonest_95 (bk : Int32 → Int32 → Int32 → Option (Int32)) (x2 : Int32) (x3 : Int32) (x4 : Int32) (t0 : Int32) (S : St) : Option (Int32) :=
    if x2 ≤ x4 then
        bk t0 x2 (x3 + 1)
      else
        bk t0 x4 (x3 + 1)
def l_X10_soonest_13 (S : St) : Nat → Int32 → Int32 → Int32 → Option (Int32)
  | 0, _, _, _ => none
  | n + 1, x1, x2, x3 =>
    if (9 : Int32) < x3 then
      some x1
    else
      (l_X10_soonest_25 x1 x2 x3 S fuel (0 : Int32) (0 : Int32)).bind fun o25 =>
      if x2 ≤ o25 then
        j_X10_soonest_95 (l_X10_soonest_13 S n) x2 x3 o25 x1 S
      else
        j_X10_soonest_95 (l_X10_soonest_13 S n) x2 x3 o25 x3 S
def f_X10_soonest (S : St) : Option (Int32 × St) :=
  nm (sI S 0 (0 : Int32)) fun S2 =>
  (l_X10_soonest_13 S2 fuel (-9 : Int32) (999999 : Int32) (2 : Int32)).bind fun o13 =>
  some (o13, S2)
def f_X10_test (x1 : Int32) (x2 : Int32) (S : St) : Option (Int32 × St) :=
  nm (sI S 0 (0 : Int32)) fun S2 =>
  (f_X10_in x1.toInt64 (0 : Int64) (7 : Int64)).bind fun r11 =>
  if r11 = 0 then
    some ((-2 : Int32), S2)
  else
    (f_X10_in x2.toInt64 (-9 : Int64) (9 : Int64)).bind fun r25 =>
    if r25 = 0 then
      some ((-2 : Int32), S2)
    else
      if (S2.1 8) = (6 : Int32) then
        some ((-4 : Int32), S2)
      else
        if (S2.1 8) < 0 ∨ 6 ≤ (S2.1 8).toNatClampNeg then none else
        nm (sA S2 11 ((S2.1 8).toNatClampNeg) x1) fun S55 =>
        if (S55.1 8) < 0 ∨ 6 ≤ (S55.1 8).toNatClampNeg then none else
        nm (sA S55 12 ((S55.1 8).toNatClampNeg) x2) fun S65 =>
        nm (sI S65 8 ((S65.1 8) + (1 : Int32))) fun S73 =>
        some ((S73.1 8), S73)
def f_X10_untest (S : St) : Option (Int32 × St) :=
  nm (sI S 0 (0 : Int32)) fun S2 =>
  nm (sI S2 8 (0 : Int32)) fun S12 =>
  some ((S2.1 8), S12)
def j_X10_findChanges_77 (bk : Int32 → Int32 → Option (Int32)) (x1 : Int32) (x2 : Int32) (x4 : Int32) (t0 : Int32) (t1 : Int32) (S : St) : Option (Int32) :=
    if t1 = t0 then
        bk (1 : Int32) (x4 + 1)
      else
        bk (0 : Int32) (x4 + 1)
def l_X10_findChanges_38 (x1 : Int32) (x2 : Int32) (S : St) : Nat → Int32 → Int32 → Option (Int32)
  | 0, _, _ => none
  | n + 1, x3, x4 =>
    if (S.1 8) ≤ x4 then
      some x3
    else
      if x3 = 0 then
        l_X10_findChanges_38 x1 x2 S n (0 : Int32) (x4 + 1)
      else
        if x4 < 0 ∨ 6 ≤ x4.toNatClampNeg then none else
        if x4 < 0 ∨ 6 ≤ x4.toNatClampNeg then none else
        if x1 ≤ (S.2.1 11 x4.toNatClampNeg) then
          j_X10_findChanges_77 (l_X10_findChanges_38 x1 x2 S n) x1 x2 x4 x2 (S.2.1 12 x4.toNatClampNeg) S
        else
          j_X10_findChanges_77 (l_X10_findChanges_38 x1 x2 S n) x1 x2 x4 (S.1 4) (S.2.1 12 x4.toNatClampNeg) S
def j_X10_findChanges_137 (bk : Int32 → St → Option (St)) (x1 : Int32) (x2 : Int32) (x3 : Int32) (t0 : Int32) (t1 : Int32) (S : St) : Option (St) :=
    nm (sI S 11 (t1 + t0)) fun S138 =>
      if x3 = 0 then
        nm (sI S138 13 ((S138.1 13) ||| (0 : Int32))) fun S158 =>
        bk (x2 + 1) S158
      else
        nm (sI S138 13 ((S138.1 13) ||| ((1 : Int32) <<< (x1 &&& 31)))) fun S158 =>
        bk (x2 + 1) S158
def j_X10_findChanges_120 (bk : Int32 → St → Option (St)) (x1 : Int32) (x2 : Int32) (x3 : Int32) (t0 : Int32) (S : St) : Option (St) :=
    nm (sI S 12 t0) fun S120 =>
      if x3 = 0 then
        j_X10_findChanges_137 bk x1 x2 x3 (0 : Int32) (S120.1 11) S120
      else
        j_X10_findChanges_137 bk x1 x2 x3 (1 : Int32) (S120.1 11) S120
def j_X10_findChanges_116 (bk : Int32 → St → Option (St)) (x1 : Int32) (x2 : Int32) (x3 : Int32) (S : St) : Option (St) :=
    j_X10_findChanges_120 bk x1 x2 x3 (S.1 12) S
def l_X10_findChanges_27 (x1 : Int32) : Nat → Int32 → St → Option (St)
  | 0, _, _ => none
  | n + 1, x2, S =>
    if (9 : Int32) < x2 then
      some S
    else
      (l_X10_findChanges_38 x1 x2 S fuel (1 : Int32) (0 : Int32)).bind fun o38 =>
      if o38 = 0 then
        j_X10_findChanges_116 (l_X10_findChanges_27 x1 n) x1 x2 o38 S
      else
        if (S.1 11) = 0 then
          j_X10_findChanges_120 (l_X10_findChanges_27 x1 n) x1 x2 o38 ((((100 : Int32) * x1) + x2) + (50 : Int32)) S
        else
          j_X10_findChanges_116 (l_X10_findChanges_27 x1 n) x1 x2 o38 S
def l_X10_findChanges_18 : Nat → Int32 → St → Option (St)
  | 0, _, _ => none
  | n + 1, x1, S =>
    if (8 : Int32) < x1 then
      some S
    else
      (l_X10_findChanges_27 x1 fuel (-9 : Int32) S).bind fun o27 =>
      l_X10_findChanges_18 n (x1 + 1) o27
def f_X10_findChanges (S : St) : Option (St) :=
  nm (sI S 11 (0 : Int32)) fun S2 =>
  nm (sI S2 12 (-9 : Int32)) fun S8 =>
  nm (sI S8 13 (0 : Int32)) fun S13 =>
  (l_X10_findChanges_18 fuel (0 : Int32) S13).bind fun o18 =>
  some o18
def f_X10_changes (x1 : Int32) (S : St) : Option (Int32 × St) :=
  nm (sI S 0 (0 : Int32)) fun S2 =>
  (f_X10_in x1.toInt64 (0 : Int64) (2 : Int64)).bind fun r11 =>
  if r11 = 0 then
    some ((-2 : Int32), S2)
  else
    (f_X10_findChanges S2).bind fun r21 =>
    if x1 = 0 then
      some ((r21.1 11), r21)
    else
      if (r21.1 11) = 0 then
        some ((-9 : Int32), r21)
      else
        if x1 = (1 : Int32) then
          some ((r21.1 12), r21)
        else
          some ((r21.1 13), r21)
def j_X10_lossOf_52 (bk : Int32 → Int32 → Option (Int32)) (x1 : Int32) (x2 : Int32) (x3 : Int32) (x4 : Int32) (x6 : Int32) (t0 : Int32) (t1 : Int32) (t2 : Int32) (S : St) : Option (Int32) :=
    bk (t2 + (t1 + t0)) (x6 + 1)
def l_X10_lossOf_6 (x1 : Int32) (x2 : Int32) (x3 : Int32) (x4 : Int32) (S : St) : Nat → Int32 → Int32 → Option (Int32)
  | 0, _, _ => none
  | n + 1, x5, x6 =>
    if x1 ≤ x6 then
      some x5
    else
      nm (((S.2.1 7 5) + x6) - ((S.2.1 7 5) + x6) / (2 : Int32) * (2 : Int32)) fun v23 =>
      (f_X10_errorOf ((S.2.1 7 0) + x6) v23 S).bind fun r39 =>
      if v23 = 0 then
        j_X10_lossOf_52 (l_X10_lossOf_6 x1 x2 x3 x4 S n) x1 x2 x3 x4 x6 x2 r39 x5 S
      else
        j_X10_lossOf_52 (l_X10_lossOf_6 x1 x2 x3 x4 S n) x1 x2 x3 x4 x6 x3 r39 x5 S
def f_X10_lossOf (x1 : Int32) (x2 : Int32) (x3 : Int32) (x4 : Int32) (S : St) : Option (Int32) :=
  (l_X10_lossOf_6 x1 x2 x3 x4 S fuel (0 : Int32) (0 : Int32)).bind fun o6 =>
  (f_X10_size o6).bind fun r64 =>
  (f_X10_size x4).bind fun r70 =>
  some (r64 + ((2 : Int32) * r70))
def l_X10_findRests_54 (x1 : Int32) (x2 : Int32) (x3 : Int32) (x4 : Int32) (x5 : Int32) (S : St) : Nat → Int32 → Int32 → Option (Int32)
  | 0, _, _ => none
  | n + 1, x6, x7 =>
    if (2 : Int32) < x7 then
      some x6
    else
      if x6 = 0 then
        l_X10_findRests_54 x1 x2 x3 x4 x5 S n (0 : Int32) (x7 + 1)
      else
        (f_X10_lossOf x1 x7 x3 x7 S).bind fun r72 =>
        if r72 < x4 then
          l_X10_findRests_54 x1 x2 x3 x4 x5 S n (0 : Int32) (x7 + 1)
        else
          (f_X10_lossOf x1 x2 x7 x7 S).bind fun r87 =>
          if r87 < x5 then
            l_X10_findRests_54 x1 x2 x3 x4 x5 S n (0 : Int32) (x7 + 1)
          else
            l_X10_findRests_54 x1 x2 x3 x4 x5 S n (1 : Int32) (x7 + 1)
def j_X10_findRests_138 (bk : Int32 → St → Option (St)) (x1 : Int32) (x2 : Int32) (x3 : Int32) (x6 : Int32) (t0 : Int32) (S : St) : Option (St) :=
    nm (sI S 15 t0) fun S138 =>
      if x6 = 0 then
        nm (sI S138 14 ((S138.1 14) + (0 : Int32))) fun S157 =>
        bk (x3 + 1) S157
      else
        nm (sI S138 14 ((S138.1 14) + (1 : Int32))) fun S157 =>
        bk (x3 + 1) S157
def j_X10_findRests_134 (bk : Int32 → St → Option (St)) (x1 : Int32) (x2 : Int32) (x3 : Int32) (x6 : Int32) (S : St) : Option (St) :=
    j_X10_findRests_138 bk x1 x2 x3 x6 (S.1 15) S
def l_X10_findRests_22 (x1 : Int32) (x2 : Int32) : Nat → Int32 → St → Option (St)
  | 0, _, _ => none
  | n + 1, x3, S =>
    if (2 : Int32) < x3 then
      some S
    else
      (f_X10_lossOf x1 x2 x3 x2 S).bind fun r32 =>
      (f_X10_lossOf x1 x2 x3 x3 S).bind fun r42 =>
      (l_X10_findRests_54 x1 x2 x3 r32 r42 S fuel (1 : Int32) (-2 : Int32)).bind fun o54 =>
      if o54 = 0 then
        j_X10_findRests_134 (l_X10_findRests_22 x1 x2 n) x1 x2 x3 o54 S
      else
        if (S.1 14) = 0 then
          j_X10_findRests_138 (l_X10_findRests_22 x1 x2 n) x1 x2 x3 o54 ((((10 : Int32) * (x2 + (2 : Int32))) + x3) + (2 : Int32)) S
        else
          j_X10_findRests_134 (l_X10_findRests_22 x1 x2 n) x1 x2 x3 o54 S
def l_X10_findRests_14 (x1 : Int32) : Nat → Int32 → St → Option (St)
  | 0, _, _ => none
  | n + 1, x2, S =>
    if (2 : Int32) < x2 then
      some S
    else
      (l_X10_findRests_22 x1 x2 fuel (-2 : Int32) S).bind fun o22 =>
      l_X10_findRests_14 x1 n (x2 + 1) o22
def f_X10_findRests (x1 : Int32) (S : St) : Option (St) :=
  nm (sI S 14 (0 : Int32)) fun S2 =>
  nm (sI S2 15 (-9 : Int32)) fun S8 =>
  (l_X10_findRests_14 x1 fuel (-2 : Int32) S8).bind fun o14 =>
  some o14
def f_X10_rests (x1 : Int32) (x2 : Int32) (S : St) : Option (Int32 × St) :=
  nm (sI S 0 (0 : Int32)) fun S2 =>
  (f_X10_ahead S2).bind fun r9 =>
  (f_X10_in x1.toInt64 (0 : Int64) r9.toInt64).bind fun r13 =>
  if r13 = 0 then
    some ((-2 : Int32), S2)
  else
    (f_X10_in x2.toInt64 (0 : Int64) (1 : Int64)).bind fun r23 =>
    if r23 = 0 then
      some ((-2 : Int32), S2)
    else
      (f_X10_findRests x1 S2).bind fun r34 =>
      if x2 = 0 then
        some ((r34.1 14), r34)
      else
        some ((r34.1 15), r34)
def l_X10_chance_63 (x1 : Int32) (x2 : Int32) (x3 : Int32) (x4 : Int32) (x5 : Int32) (x6 : Int32) (S : St) : Nat → Int32 → Int32 → Option (Int32)
  | 0, _, _ => none
  | n + 1, x7, x8 =>
    if x1 ≤ x8 then
      some x7
    else
      if ((S.2.1 7 0) + x8) < 0 ∨ 8 ≤ ((S.2.1 7 0) + x8).toNatClampNeg then none else
      nm (S.2.1 4 (((S.2.1 7 0) + x8).toNatClampNeg)) fun v83 =>
      (f_X10_has x6 x8).bind fun r91 =>
      if r91 = 0 then
        l_X10_chance_63 x1 x2 x3 x4 x5 x6 S n (x7 * ((10 : Int32) - v83)) (x8 + 1)
      else
        l_X10_chance_63 x1 x2 x3 x4 x5 x6 S n (x7 * v83) (x8 + 1)
def l_X10_chance_49 (x1 : Int32) (x2 : Int32) (x3 : Int32) (S : St) : Nat → Int32 → Int32 → Int32 → Option (Int32 × Int32)
  | 0, _, _, _ => none
  | n + 1, x4, x5, x6 =>
    if ((1 : Int32) <<< (x1 &&& 31)) ≤ x6 then
      some (x4, x5)
    else
      (l_X10_chance_63 x1 x2 x3 x4 x5 x6 S fuel (1 : Int32) (0 : Int32)).bind fun o63 =>
      (f_X10_many x6).bind fun r127 =>
      if r127 = x2 then
        l_X10_chance_49 x1 x2 x3 S n (x4 + o63) (x5 + o63) (x6 + 1)
      else
        l_X10_chance_49 x1 x2 x3 S n (x4 + (0 : Int32)) (x5 + o63) (x6 + 1)
def f_X10_chance (x1 : Int32) (x2 : Int32) (x3 : Int32) (S : St) : Option (Int32 × St) :=
  nm (sI S 0 (0 : Int32)) fun S2 =>
  (f_X10_in x1.toInt64 (1 : Int64) (6 : Int64)).bind fun r11 =>
  if r11 = 0 then
    some ((-2 : Int32), S2)
  else
    (f_X10_ahead S2).bind fun r19 =>
    if r19 < x1 then
      some ((-2 : Int32), S2)
    else
      (f_X10_in x2.toInt64 (0 : Int64) (6 : Int64)).bind fun r31 =>
      if r31 = 0 then
        some ((-2 : Int32), S2)
      else
        (l_X10_chance_49 x1 x2 x3 S2 fuel (0 : Int32) (0 : Int32) (0 : Int32)).bind fun o49 =>
        (f_X10_fraction o49.1 o49.2 x3).bind fun r154 =>
        some (r154, S2)
def f_X10_seed (x1 : Int64) (S : St) : Option (Int64 × St) :=
  nm (sI S 0 (0 : Int32)) fun S2 =>
  nm (sL S2 x1) fun S12 =>
  some (S2.2.2, S12)
def l_X10_days_37 (x1 : Int32) (x3 : Int32) : Nat → Int32 → Int32 → St → Option (Int32 × St)
  | 0, _, _, _ => none
  | n + 1, x2, x4, S =>
    if (S.1 5) ≤ x4 then
      some (x2, S)
    else
      nm (sL S ((S.2.2 * (6364136223846793005 : Int64)) + (1442695040888963407 : Int64))) fun S59 =>
      if x4 < 0 ∨ 8 ≤ x4.toNatClampNeg then none else
      if 0 ≤ (lg_cmp ((S59.2.2.toUInt64 >>> ((33 : Int32).toInt64.toUInt64 &&& Int64.toUInt64 63)).toInt64 - (S59.2.2.toUInt64 >>> ((33 : Int32).toInt64.toUInt64 &&& Int64.toUInt64 63)).toInt64 / (10 : Int64) * (10 : Int64)) ((S59.2.1 4 x4.toNatClampNeg).toInt64)) then
        l_X10_days_37 x1 x3 n (x2 + (0 : Int32)) (x4 + 1) S59
      else
        l_X10_days_37 x1 x3 n (x2 + (1 : Int32)) (x4 + 1) S59
def l_X10_days_24 (x1 : Int32) : Nat → Int32 → Int32 → St → Option (Int32 × St)
  | 0, _, _, _ => none
  | n + 1, x2, x3, S =>
    if x1 ≤ x3 then
      some (x2, S)
    else
      (l_X10_days_37 x1 x3 fuel x2 (S.2.1 7 0) S).bind fun o37 =>
      l_X10_days_24 x1 n o37.1 (x3 + 1) o37.2
def f_X10_days (x1 : Int32) (S : St) : Option (Int32 × St) :=
  nm (sI S 0 (0 : Int32)) fun S2 =>
  (f_X10_in x1.toInt64 (1 : Int64) (20 : Int64)).bind fun r11 =>
  if r11 = 0 then
    some ((-2 : Int32), S2)
  else
    (l_X10_days_24 x1 fuel (0 : Int32) (0 : Int32) S2).bind fun o24 =>
    some (o24.1, o24.2)
def l_X10_keep_26 (x1 : Int32) : Nat → Int32 → St → Option (St)
  | 0, _, _ => none
  | n + 1, x2, S =>
    if (16 : Int32) ≤ x2 then
      some S
    else
      if x2 < 0 ∨ 16 ≤ x2.toNatClampNeg then none else
      if (((16 : Int32) * x1) + x2) < 0 ∨ 32 ≤ (((16 : Int32) * x1) + x2).toNatClampNeg then none else
      nm (sA S 9 ((((16 : Int32) * x1) + x2).toNatClampNeg) (S.2.1 7 x2.toNatClampNeg)) fun S48 =>
      l_X10_keep_26 x1 n (x2 + 1) S48
def f_X10_keep (x1 : Int32) (S : St) : Option (Int32 × St) :=
  nm (sI S 0 (0 : Int32)) fun S2 =>
  (f_X10_in x1.toInt64 (0 : Int64) (1 : Int64)).bind fun r9 =>
  if r9 = 0 then
    some ((-1 : Int32), S2)
  else
    if x1 < 0 ∨ 2 ≤ x1.toNatClampNeg then none else
    nm (sA S2 10 x1.toNatClampNeg (1 : Int32)) fun S23 =>
    (l_X10_keep_26 x1 fuel (0 : Int32) S23).bind fun o26 =>
    some ((o26.2.1 7 0), o26)
def l_X10_again_31 (x1 : Int32) : Nat → Int32 → St → Option (St)
  | 0, _, _ => none
  | n + 1, x2, S =>
    if (16 : Int32) ≤ x2 then
      some S
    else
      if (((16 : Int32) * x1) + x2) < 0 ∨ 32 ≤ (((16 : Int32) * x1) + x2).toNatClampNeg then none else
      if x2 < 0 ∨ 16 ≤ x2.toNatClampNeg then none else
      nm (sA S 7 x2.toNatClampNeg (S.2.1 9 ((((16 : Int32) * x1) + x2).toNatClampNeg))) fun S53 =>
      l_X10_again_31 x1 n (x2 + 1) S53
def f_X10_again (x1 : Int32) (S : St) : Option (Int32 × St) :=
  nm (sI S 0 (0 : Int32)) fun S2 =>
  (f_X10_in x1.toInt64 (0 : Int64) (1 : Int64)).bind fun r9 =>
  if r9 = 0 then
    some ((-1 : Int32), S2)
  else
    if x1 < 0 ∨ 2 ≤ x1.toNatClampNeg then none else
    if (S2.2.1 10 x1.toNatClampNeg) = 0 then
      some ((-3 : Int32), S2)
    else
      (l_X10_again_31 x1 fuel (0 : Int32) S2).bind fun o31 =>
      nm (sI o31 7 (0 : Int32)) fun S62 =>
      some ((S62.2.1 7 0), S62)
