-- 20.matcal
def f_Cal_firstDayOf (p1 : Int32) (m : Mm) : Option Int32 :=
  zLet ((((p1 + 3) / 4) - ((p1 + 99) / 100)) + ((p1 + 399) / 400)) fun x1 =>
  some ((365 * p1) + x1)
def f_Cal_isLeap (p1 : Int32) (m : Mm) : Option Int32 :=
  zLet (some 1) fun j2 =>
  zLet (if (p1 % 400) = 0 then
    j2
  else
    some 0) fun j3 =>
  if (p1 % 4) = 0 then
    if (p1 % 100) = 0 then
      j3
    else
      j2
  else
    j3
def f_Cal_monthStart (p1 : Int32) (p2 : Int32) (m : Mm) : Option Int32 :=
  if p2 < 1 then
    some (-1)
  else
    if p2 ≤ 13 then
      if zIn (p2 - 1) 13 then
        zLet (some ((zMon (p2 - 1)) + 0)) fun j4 =>
        if p1 = 0 then
          j4
        else
          if p2 ≤ 2 then
            j4
          else
            some ((zMon (p2 - 1)) + 1)
      else none
    else
      some (-1)
def f_Cal_dateOf (p1 : Int32) (p2 : Int32) (m : Mm) : Option Int32 :=
  zBP (f_Cal_isLeap p1 m) fun v1 =>
  zBP (f_Cal_monthStart v1 13 m) fun v2 =>
  if p2 < v2 then
    zLq1 (fun r5 x4 =>
      if x4 < 1 then
        some (-1)
      else
        zBP (f_Cal_monthStart v1 x4 m) fun v7 =>
        if p2 < v7 then
          zLet (x4 + (-1)) fun x9 =>
          r5 x9
        else
          some ((((100 * x4) + p2) - v7) + 1)) zFu 12
  else
    some (-1)
def f_Mat_floorDiv (p1 : Int32) (p2 : Int32) (m : Mm) : Option Int32 :=
  if ¬ p2 = 0 then
    zLet (p1 / p2) fun x1 =>
    if 0 ≤ (p1 ^^^ p2) then
      some x1
    else
      if (x1 * p2) = p1 then
        some x1
      else
        some (x1 - 1)
  else none
def f_Cal_lastMoon (p1 : Int32) (p2 : Int32) (m : Mm) : Option Int32 :=
  if p2 = 0 then
    zBP (f_Mat_floorDiv ((32 * ((p1 - 5) + 1)) - 1) 945 m) fun v3 =>
    some v3
  else
    zBP (f_Mat_floorDiv ((235 * ((p1 - 6) + 1)) - 1) 6940 m) fun v2 =>
    some v2
def f_Cal_newMoon (p1 : Int32) (p2 : Int32) (m : Mm) : Option Int32 :=
  if p2 = 0 then
    zBP (f_Mat_floorDiv (945 * p1) 32 m) fun v3 =>
    some (v3 + 5)
  else
    zBP (f_Mat_floorDiv (6940 * p1) 235 m) fun v2 =>
    some (v2 + 6)
def f_Cal_ageOf (p1 : Int32) (p2 : Int32) (m : Mm) : Option Int32 :=
  zBP (f_Cal_lastMoon p1 p2 m) fun v1 =>
  zBP (f_Cal_newMoon v1 p2 m) fun v2 =>
  some (p1 - v2)
def f_Cal_mostDaysOf (p1 : Int32) (m : Mm) : Option Int32 :=
  zBP (f_Cal_monthStart 1 (p1 + 1) m) fun v1 =>
  zBP (f_Cal_monthStart 1 p1 m) fun v2 =>
  some (v1 - v2)
def f_Mat_min (p1 : Int32) (p2 : Int32) (m : Mm) : Option Int32 :=
  if p2 < p1 then
    some p2
  else
    some p1
def f_Mat_abs (p1 : Int32) (m : Mm) : Option Int32 :=
  if 0 ≤ p1 then
    some p1
  else
    some (-p1)
def f_Cal_lengthOf (p1 : Int32) (m : Mm) : Option Int32 :=
  zBP (f_Cal_isLeap p1 m) fun v1 =>
  if v1 = 0 then
    some 365
  else
    some 366
def f_Mat_floorMod (p1 : Int32) (p2 : Int32) (m : Mm) : Option Int32 :=
  if ¬ p2 = 0 then
    zLet (p1 % p2) fun x1 =>
    if 0 ≤ (p1 ^^^ p2) then
      some x1
    else
      if x1 = 0 then
        some x1
      else
        some (x1 + p2)
  else none
def f_Cal_weekdayOf (p1 : Int32) (m : Mm) : Option Int32 :=
  zBP (f_Mat_floorMod (p1 + 6) 7 m) fun v1 =>
  some v1
def f_Cal_dayOf (p1 : Int32) (p2 : Int32) (m : Mm) : Option Int32 :=
  zLet (p2 / 100) fun x1 =>
  zBP (f_Cal_monthStart p1 x1 m) fun v2 =>
  zLet ((v2 + (p2 % 100)) - 1) fun x3 =>
  zBP (f_Cal_monthStart p1 (x1 + 1) m) fun v4 =>
  if v4 ≤ x3 then
    some (-1)
  else
    some x3
-- 21.txtcod
def f_Txt_append (a : Nat) (p1 : Int32) (m : Mm) : Option (Int32 × Mm) :=
  if (zI m a 1) < 40 then
    if zCh p1 then
      if zIn (zI m a 1) 40 then
        zLet (wI m (a + 1) (zIx (zI m a 1)) p1) fun m2 =>
        zLet (wI m2 a 1 ((zI m2 a 1) + 1)) fun m3 =>
        some (1, m3)
      else none
    else none
  else
    some (0, m)
def f_Txt_length (a : Nat) (m : Mm) : Option Int32 :=
  some (zI m a 1)
def f_Txt_clear (a : Nat) (m : Mm) : Option Mm :=
  zLet (wI m a 1 0) fun m1 =>
  some m1
def f_Cod_clear (a : Nat) (m : Mm) : Option Mm :=
  zLet (wI m a 2 0) fun m1 =>
  zLet (wI m1 a 3 0) fun m2 =>
  some m2
def f_Txt_at (a : Nat) (p1 : Int32) (m : Mm) : Option Int32 :=
  zLet (some 0) fun j2 =>
  if p1 < 0 then
    j2
  else
    if (zI m a 1) ≤ p1 then
      j2
    else
      if zIn p1 40 then
        if zCh (zI m (a + 1) (zIx p1)) then some (zI m (a + 1) (zIx p1)) else none
      else none
def f_Cod_name (a : Nat) (p1 : Int32) (m : Mm) : Option Mm :=
  zLet (wI m a 3 ((zI m a 3) ||| (1 <<< (p1 &&& 31)))) fun m1 =>
  some m1
def f_Cod_add (a : Nat) (p1 : Int32) (p2 : Int32) (m : Mm) : Option (Int32 × Mm) :=
  if (zI m a 2) < 40 then
    if zIn (zI m a 2) 40 then
      zLet (wI m (a + 1) (zIx (zI m a 2)) p1) fun m2 =>
      if zIn (zI m2 a 2) 40 then
        zLet (wI m2 (a + 2) (zIx (zI m2 a 2)) p2) fun m3 =>
        zLet (wI m3 a 2 ((zI m3 a 2) + 1)) fun m4 =>
        some (1, m4)
      else none
    else none
  else
    some (0, m)
def f_Cod_size (a : Nat) (m : Mm) : Option Int32 :=
  some (zI m a 2)
def f_Cod_landHere (a : Nat) (p1 : Int32) (m : Mm) : Option (Int32 × Mm) :=
  if p1 < 0 then
    some (0, m)
  else
    if p1 < (zI m a 2) then
      if zIn p1 40 then
        zLet (wI m (a + 2) (zIx p1) (zI m a 2)) fun m3 =>
        some (1, m3)
      else none
    else
      some (0, m)
def f_Cod_namesBeyond (a : Nat) (p1 : Int32) (m : Mm) : Option Int32 :=
  if (((zI m a 3).toUInt32 >>> (p1.toUInt32 &&& Int32.toUInt32 31)).toInt32) = 0 then
    some 0
  else
    some 1
def f_Txt_copyFrom (a : Nat) (o1 : Nat) (m : Mm) : Option Mm :=
  if zCpy m 1 (o1 + 1) (a + 1) 40 then
    zLet (wC m (o1 + 1) (a + 1) (zIx 40)) fun m1 =>
    zLet (wI m1 a 1 (zI m1 o1 1)) fun m2 =>
    some m2
  else none
def f_Cod_copyFrom (a : Nat) (o1 : Nat) (m : Mm) : Option Mm :=
  if zCpy m 0 (o1 + 1) (a + 1) 40 then
    zLet (wC m (o1 + 1) (a + 1) (zIx 40)) fun m1 =>
    if zCpy m1 0 (o1 + 2) (a + 2) 40 then
      zLet (wC m1 (o1 + 2) (a + 2) (zIx 40)) fun m2 =>
      zLet (wI m2 a 2 (zI m2 o1 2)) fun m3 =>
      zLet (wI m3 a 3 (zI m3 o1 3)) fun m4 =>
      some m4
    else none
  else none
def f_Cod_named (a : Nat) (m : Mm) : Option Int32 :=
  some (zI m a 3)
def f_Cod_kindAt (a : Nat) (p1 : Int32) (m : Mm) : Option Int32 :=
  zLet (some 0) fun j2 =>
  if p1 < 0 then
    j2
  else
    if (zI m a 2) ≤ p1 then
      j2
    else
      if zIn p1 40 then
        some (zI m (a + 1) (zIx p1))
      else none
def f_Cod_argumentAt (a : Nat) (p1 : Int32) (m : Mm) : Option Int32 :=
  zLet (some 0) fun j2 =>
  if p1 < 0 then
    j2
  else
    if (zI m a 2) ≤ p1 then
      j2
    else
      if zIn p1 40 then
        some (zI m (a + 2) (zIx p1))
      else none
def f_Cod_placeAfter (a : Nat) (p1 : Int32) (p2 : Int32) (m : Mm) : Option Int32 :=
  zBP (f_Cod_kindAt a p1 m) fun v1 =>
  zLet (fun (x3 : Int32) =>
    if x3 = 0 then
      some (p1 + 1)
    else
      zBP (f_Cod_argumentAt a p1 m) fun v6 =>
      some v6) fun j4 =>
  zLet (j4 1) fun j7 =>
  if v1 = 18 then
    j7
  else
    zLet (zLet (j4 0) fun j11 =>
    if v1 = 20 then
      if p2 = 0 then
        j11
      else
        j7
    else
      j11) fun j9 =>
    if v1 = 19 then
      if p2 = 0 then
        j7
      else
        j9
    else
      j9
-- 22.wal
def f_Wal_enter (a : Nat) (p1 : Int32) (p2 : Int32) (m : Mm) : Option Mm :=
  zLet (wI m a 0 p2) fun m1 =>
  zBP (f_Cal_lengthOf p1 m1) fun v2 =>
  zLet (wI m1 a 1 v2) fun m3 =>
  zBP (f_Cal_isLeap p1 m3) fun v4 =>
  if zBo v4 then
    zLet (wI m3 a 2 v4) fun m5 =>
    zBP (f_Cal_firstDayOf p1 m5) fun v6 =>
    zLet (wI m5 a 3 v6) fun m7 =>
    zBP (f_Cal_weekdayOf (zI m7 a 3) m7) fun v8 =>
    zLet (wI m7 a 4 v8) fun m9 =>
    zLet (wI m9 a 5 (-1)) fun m10 =>
    some m10
  else none
def f_Wal_daysUntil (a : Nat) (p1 : Int32) (p2 : Int32) (m : Mm) : Option Int32 :=
  zBP (f_Mat_floorMod ((p2 - (zI m a 4)) - p1) 7 m) fun v1 =>
  some v1
def f_Wal_isOnWeekday (a : Nat) (p1 : Int32) (m : Mm) : Option Int32 :=
  zLet (some 0) fun j2 =>
  if (zI m a 5) = (-1) then
    j2
  else
    zBP (f_Wal_daysUntil a (zI m a 5) p1 m) fun v3 =>
    if v3 = 0 then
      some 1
    else
      j2
def f_Wal_isInLeapYear (a : Nat) (m : Mm) : Option Int32 :=
  if zBo (zI m a 2) then some (zI m a 2) else none
def f_Wal_isOnDay (a : Nat) (p1 : Int32) (m : Mm) : Option Int32 :=
  zLet (some 0) fun j2 =>
  if (zI m a 5) = (-1) then
    j2
  else
    if (zI m a 5) = p1 then
      some 1
    else
      j2
def f_Wal_isBeforeDate (a : Nat) (p1 : Int32) (m : Mm) : Option Int32 :=
  zLet (some 0) fun j2 =>
  if (zI m a 5) = (-1) then
    j2
  else
    zBP (f_Cal_monthStart (zI m a 2) (p1 / 100) m) fun v3 =>
    if ((v3 + (p1 % 100)) - 1) ≤ (zI m a 5) then
      j2
    else
      some 1
def f_Wal_toDay (a : Nat) (p1 : Int32) (m : Mm) : Option Mm :=
  zLet (zLet (wI m a 5 (-1)) fun m3 =>
  some m3) fun j2 =>
  if p1 < 0 then
    j2
  else
    if (zI m a 1) ≤ p1 then
      j2
    else
      zLet (wI m a 5 p1) fun m5 =>
      some m5
def f_Wal_toDate (a : Nat) (p1 : Int32) (m : Mm) : Option Mm :=
  zBP (f_Cal_dayOf (zI m a 2) p1 m) fun v1 =>
  zBV (f_Wal_toDay a v1 m) fun m2 =>
  some m2
def f_Wal_toNthWeekday (a : Nat) (p1 : Int32) (p2 : Int32) (p3 : Int32) (m : Mm) : Option Mm :=
  zBP (f_Cal_monthStart (zI m a 2) p3 m) fun v1 =>
  zBP (f_Wal_daysUntil a v1 p2 m) fun v2 =>
  zLet ((v1 + v2) + (7 * (p1 - 1))) fun x3 =>
  zBP (f_Cal_monthStart (zI m a 2) (p3 + 1) m) fun v4 =>
  zLet (fun (x6 : Int32) =>
    zBV (f_Wal_toDay a x6 m) fun m8 =>
    some m8) fun j7 =>
  if v4 ≤ x3 then
    j7 (-1)
  else
    j7 x3
def f_Wal_daysSince (a : Nat) (p1 : Int32) (p2 : Int32) (m : Mm) : Option Int32 :=
  zBP (f_Mat_floorMod (((zI m a 4) + p1) - p2) 7 m) fun v1 =>
  some v1
def f_Wal_toLastWeekday (a : Nat) (p1 : Int32) (p2 : Int32) (m : Mm) : Option Mm :=
  zBP (f_Cal_monthStart (zI m a 2) (p2 + 1) m) fun v1 =>
  zLet (v1 - 1) fun x2 =>
  zBP (f_Wal_daysSince a x2 p1 m) fun v3 =>
  zBV (f_Wal_toDay a (x2 - v3) m) fun m4 =>
  some m4
def f_Wal_toLater (a : Nat) (p1 : Int32) (m : Mm) : Option Mm :=
  if (zI m a 5) = (-1) then
    some m
  else
    zBV (f_Wal_toDay a ((zI m a 5) + p1) m) fun m2 =>
    some m2
def f_Wal_toWeekdayBehind (a : Nat) (p1 : Int32) (m : Mm) : Option Mm :=
  zBP (f_Wal_daysUntil a ((zI m a 5) + 1) p1 m) fun v1 =>
  zBV (f_Wal_toLater a (1 + v1) m) fun m2 =>
  some m2
def f_Wal_toWeekdayAhead (a : Nat) (p1 : Int32) (m : Mm) : Option Mm :=
  zBP (f_Wal_daysSince a ((zI m a 5) - 1) p1 m) fun v1 =>
  zBV (f_Wal_toLater a ((-1) - v1) m) fun m2 =>
  some m2
def f_Wal_toWeekdayNotAhead (a : Nat) (p1 : Int32) (m : Mm) : Option Mm :=
  zBP (f_Wal_daysUntil a (zI m a 5) p1 m) fun v1 =>
  zBV (f_Wal_toLater a v1 m) fun m2 =>
  some m2
def f_Wal_toWeekdayNotBehind (a : Nat) (p1 : Int32) (m : Mm) : Option Mm :=
  zBP (f_Wal_daysSince a (zI m a 5) p1 m) fun v1 =>
  zBV (f_Wal_toLater a (-v1) m) fun m2 =>
  some m2
def f_Wal_toMoonOfAge (a : Nat) (p1 : Int32) (m : Mm) : Option Mm :=
  if (zI m a 5) = (-1) then
    some m
  else
    zBP (f_Cal_lastMoon ((zI m a 3) + (zI m a 5)) (zI m a 0) m) fun v2 =>
    zBP (f_Cal_newMoon v2 (zI m a 0) m) fun v3 =>
    zLet ((v3 + p1) - (zI m a 3)) fun x4 =>
    zLet (fun (x6 : Int32) =>
      zBV (f_Wal_toDay a x6 m) fun m8 =>
      some m8) fun j7 =>
    if x4 < (zI m a 5) then
      zBP (f_Cal_newMoon (v2 + 1) (zI m a 0) m) fun v9 =>
      j7 ((v9 + p1) - (zI m a 3))
    else
      j7 x4
def f_Wal_toNone (a : Nat) (m : Mm) : Option Mm :=
  zLet (wI m a 5 (-1)) fun m1 =>
  some m1
def f_Wal_today (a : Nat) (m : Mm) : Option Int32 :=
  some (zI m a 5)
-- 23.par
def f_Par_startOn (o1 : Nat) (p2 : Int32) (m : Mm) : Option Mm :=
  zLet (wR m 19 1 o1) fun m1 =>
  if zBo p2 then
    zLet (wI m1 19 4 p2) fun m2 =>
    zLet (wI m2 19 2 0) fun m3 =>
    zBV (f_Cod_clear 20 m3) fun m4 =>
    some m4
  else none
def f_Par_takesDigit (p1 : Int32) (p2 : Int32) (m : Mm) : Option (Int32 × Mm) :=
  zGR 8 (zR m 19 1) fun q1 =>
  zBP (f_Txt_at q1 (zI m 19 2) m) fun v2 =>
  zLet (v2 - 48) fun x3 =>
  if x3 < p1 then
    some (0, m)
  else
    if x3 ≤ p2 then
      zLet (wI m 19 3 x3) fun m6 =>
      zLet (wI m6 19 2 ((zI m6 19 2) + 1)) fun m7 =>
      some (1, m7)
    else
      some (0, m)
def f_Par_takesOneDigit (p1 : Int32) (m : Mm) : Option (Int32 × Mm) :=
  if p1 = 110 then
    zBI (f_Par_takesDigit 1 5 m) fun v5 m4 =>
    if zBo v5 then some (v5, m4) else none
  else
    zBI (f_Par_takesDigit 0 6 m) fun v3 m2 =>
    if zBo v3 then some (v3, m2) else none
def f_Par_takesTwoDigits (p1 : Int32) (m : Mm) : Option (Int32 × Mm) :=
  zLet (fun (x2 : Int32) =>
    zLet (fun (x5 : Int32) =>
      zBI (f_Par_takesDigit 0 (x5 / 10) m) fun v8 m7 =>
      if v8 = 0 then
        some (0, m7)
      else
        zLet (zI m7 19 3) fun x10 =>
        zLet (fun (x12 : Int32) =>
          zLet (fun (x15 : Int32) =>
            zBI (f_Par_takesDigit x12 x15 m7) fun v18 m17 =>
            if v18 = 0 then
              some (0, m17)
            else
              zLet (wI m17 19 3 ((zI m17 19 3) + (10 * x10))) fun m20 =>
              if p1 = 102 then
                zBV (f_Cod_name 20 (zI m20 19 3) m20) fun m22 =>
                some (1, m22)
              else
                some (1, m20)) fun j16 =>
          if x10 = (x5 / 10) then
            j16 (x5 % 10)
          else
            j16 9) fun j13 =>
        if x10 = 0 then
          j13 x2
        else
          j13 0) fun j6 =>
    if p1 = 102 then
      j6 19
    else
      if p1 = 109 then
        j6 12
      else
        zBP (f_Cal_mostDaysOf (zI m 19 3) m) fun v24 =>
        j6 v24) fun j3 =>
  if p1 = 102 then
    j3 0
  else
    j3 1
def f_Par_takesPart (p1 : Int32) (s2 : Nat) (m : Mm) : Option (Int32 × Mm) :=
  zLet (wI m 19 2 ((zI m 19 2) + 1)) fun m1 =>
  zLp2 (fun r4 x2 x3 m5 =>
    if (zSl s2) ≤ x3 then
      zBI (f_Cod_add 20 p1 x2 m5) fun v8 m7 =>
      if zBo v8 then some (v8, m7) else none
    else
      if zIn x3 (zSLn.getD s2 0) then
        zLet (zSc s2 x3) fun x9 =>
        zLet (fun (x11 : Int32) =>
          zLet (fun (m14 : Mm) =>
            zLet (fun (x17 : Int32) =>
              zLet ((x17 * x2) + (zI m14 19 3)) fun x19 =>
              zLet (x3 + 1) fun x20 =>
              r4 x19 x20 m14) fun j18 =>
            if x11 = 0 then
              j18 100
            else
              j18 10) fun j15 =>
          if x11 = 0 then
            zBI (f_Par_takesTwoDigits x9 m5) fun v22 m21 =>
            if v22 = 0 then
              some (0, m21)
            else
              j15 m21
          else
            zBI (f_Par_takesOneDigit x9 m5) fun v25 m24 =>
            if v25 = 0 then
              some (0, m24)
            else
              j15 m24) fun j12 =>
        zLet (j12 1) fun j27 =>
        if x9 = 110 then
          j27
        else
          if x9 = 119 then
            j27
          else
            j12 0
      else none) zFu 0 0 m1
def f_Par_takesStart (m : Mm) : Option (Int32 × Mm) :=
  zGR 8 (zR m 19 1) fun q1 =>
  zBP (f_Txt_at q1 (zI m 19 2) m) fun v2 =>
  if v2 = 68 then
    zBI (f_Par_takesPart 1 0 m) fun v5 m4 =>
    if zBo v5 then some (v5, m4) else none
  else
    if v2 = 70 then
      zBI (f_Par_takesPart 4 3 m) fun v8 m7 =>
      if zBo v8 then some (v8, m7) else none
    else
      if v2 = 76 then
        zBI (f_Par_takesPart 3 2 m) fun v11 m10 =>
        if zBo v11 then some (v11, m10) else none
      else
        if v2 = 78 then
          zBI (f_Par_takesPart 2 1 m) fun v14 m13 =>
          if zBo v14 then some (v14, m13) else none
        else
          some (0, m)
def f_Par_takesDayCount (m : Mm) : Option (Int32 × Mm) :=
  zBI (f_Par_takesDigit 0 9 m) fun v2 m1 =>
  if v2 = 0 then
    some (0, m1)
  else
    zLet (zI m1 19 3) fun x4 =>
    zLp2 (fun r7 x5 x6 m8 =>
      zLet (fun (m10 : Mm) =>
        zLet (wI m10 19 3 x5) fun m12 =>
        some (1, m12)) fun j11 =>
      if 2 ≤ x6 then
        j11 m8
      else
        zBP (f_Mat_min (366 - (10 * x5)) 9 m8) fun v13 =>
        zBI (f_Par_takesDigit 0 v13 m8) fun v15 m14 =>
        if v15 = 0 then
          j11 m14
        else
          zLet ((10 * x5) + (zI m14 19 3)) fun x17 =>
          zLet (x6 + 1) fun x18 =>
          r7 x17 x18 m14) zFu x4 0 m1
def f_Par_takesDays (m : Mm) : Option (Int32 × Mm) :=
  zLp2 (fun r3 x1 x2 m4 =>
    zLet (zLet (fun (m8 : Mm) =>
      some (1, m8)) fun j9 =>
    if x1 = 0 then
      j9 m4
    else
      zBI (f_Cod_add 20 5 (5000 + x1) m4) fun v11 m10 =>
      if v11 = 0 then
        some (0, m10)
      else
        j9 m10) fun j6 =>
    if 40 ≤ x2 then
      j6
    else
      zGR 8 (zR m4 19 1) fun q13 =>
      zBP (f_Txt_at q13 (zI m4 19 2) m4) fun v14 =>
      zLet (zLet (wI m4 19 2 ((zI m4 19 2) + 1)) fun m17 =>
      zBI (f_Par_takesDayCount m17) fun v19 m18 =>
      if v19 = 0 then
        some (0, m18)
      else
        zLet (fun (x22 : Int32) =>
          zLet (x1 + x22) fun x24 =>
          zLet (x2 + 1) fun x25 =>
          r3 x24 x25 m18) fun j23 =>
        if v14 = 43 then
          j23 (zI m18 19 3)
        else
          j23 (-(zI m18 19 3))) fun j16 =>
      if v14 = 43 then
        j16
      else
        if v14 = 45 then
          j16
        else
          j6) zFu 0 0 m
def f_Par_takes (p1 : Int32) (m : Mm) : Option (Int32 × Mm) :=
  zGR 8 (zR m 19 1) fun q1 =>
  zBP (f_Txt_at q1 (zI m 19 2) m) fun v2 =>
  if v2 = p1 then
    zLet (wI m 19 2 ((zI m 19 2) + 1)) fun m4 =>
    some (1, m4)
  else
    some (0, m)
def g_Par_takesSteps (c_takesBranch : Int32 → Mm → Option (Int32 × Mm)) (p1 : Int32) (m : Mm) : Option (Int32 × Mm) :=
  zLet (fun (x2 : Int32) =>
    zLp2 (fun r6 x4 x5 m7 =>
      if 40 ≤ x5 then
        if zBo x4 then some (x4, m7) else none
      else
        if x4 = 0 then
          if zBo x4 then some (x4, m7) else none
        else
          zGR 8 (zR m7 19 1) fun q10 =>
          zBP (f_Txt_at q10 (zI m7 19 2) m7) fun v11 =>
          zLet (fun (x12 : Int32) (m13 : Mm) =>
            zLet (x5 + 1) fun x15 =>
            r6 x12 x15 m13) fun j14 =>
          if v11 = 43 then
            zBI (f_Par_takesDays m7) fun v18 m17 =>
            j14 v18 m17
          else
            if v11 = 45 then
              zBI (f_Par_takesDays m7) fun v21 m20 =>
              j14 v21 m20
            else
              if v11 = 60 then
                zBI (f_Par_takesPart 7 4 m7) fun v24 m23 =>
                j14 v24 m23
              else
                if v11 = 62 then
                  zBI (f_Par_takesPart 6 4 m7) fun v27 m26 =>
                  j14 v27 m26
                else
                  if v11 = 63 then
                    zBI (c_takesBranch (p1 + 1) m7) fun v30 m29 =>
                    j14 v30 m29
                  else
                    if v11 = 79 then
                      zBI (f_Par_takesPart 10 5 m7) fun v33 m32 =>
                      j14 v33 m32
                    else
                      if v11 = 81 then
                        zBI (f_Par_takesPart 11 5 m7) fun v36 m35 =>
                        j14 v36 m35
                      else
                        if v11 = 88 then
                          zBI (f_Par_takesPart 12 5 m7) fun v39 m38 =>
                          j14 v39 m38
                        else
                          if v11 = 91 then
                            zBI (f_Par_takesPart 9 4 m7) fun v42 m41 =>
                            j14 v42 m41
                          else
                            if v11 = 93 then
                              zBI (f_Par_takesPart 8 4 m7) fun v45 m44 =>
                              j14 v45 m44
                            else
                              some (1, m7)) zFu x2 0 m) fun j3 =>
  if 41 < p1 then
    j3 0
  else
    j3 1
def g_Par_takesBranch (c_takesLogic : Int32 → Mm → Option (Int32 × Mm)) (c_takesSteps : Int32 → Mm → Option (Int32 × Mm)) (p1 : Int32) (m : Mm) : Option (Int32 × Mm) :=
  zLet (wI m 19 2 ((zI m 19 2) + 1)) fun m1 =>
  zBI (c_takesLogic p1 m1) fun v3 m2 =>
  if v3 = 0 then
    some (0, m2)
  else
    zBP (f_Cod_size 20 m2) fun v5 =>
    zBI (f_Cod_add 20 19 0 m2) fun v7 m6 =>
    if v7 = 0 then
      some (0, m6)
    else
      zBI (f_Par_takes 123 m6) fun v10 m9 =>
      if v10 = 0 then
        some (0, m9)
      else
        zBI (c_takesSteps p1 m9) fun v13 m12 =>
        if v13 = 0 then
          some (0, m12)
        else
          zBI (f_Par_takes 125 m12) fun v16 m15 =>
          if v16 = 0 then
            some (0, m15)
          else
            zBI (f_Par_takes 123 m15) fun v19 m18 =>
            if v19 = 0 then
              zBI (f_Cod_landHere 20 v5 m18) fun v40 m39 =>
              if zBo v40 then some (v40, m39) else none
            else
              zBP (f_Cod_size 20 m18) fun v21 =>
              zBI (f_Cod_add 20 18 0 m18) fun v23 m22 =>
              zLet (fun (m25 : Mm) =>
                some (0, m25)) fun j26 =>
              if v23 = 0 then
                j26 m22
              else
                zBI (f_Cod_landHere 20 v5 m22) fun v28 m27 =>
                if v28 = 0 then
                  j26 m27
                else
                  zBI (c_takesSteps p1 m27) fun v31 m30 =>
                  if v31 = 0 then
                    j26 m30
                  else
                    zBI (f_Par_takes 125 m30) fun v34 m33 =>
                    if v34 = 0 then
                      j26 m33
                    else
                      zBI (f_Cod_landHere 20 v21 m33) fun v37 m36 =>
                      if v37 = 0 then
                        j26 m36
                      else
                        some (1, m36)
def g_Par_takesLogic (c_takesLogic : Int32 → Mm → Option (Int32 × Mm)) (c_takesPair : Int32 → Mm → Option (Int32 × Mm)) (p1 : Int32) (m : Mm) : Option (Int32 × Mm) :=
  if p1 ≤ 41 then
    zGR 8 (zR m 19 1) fun q2 =>
    zBP (f_Txt_at q2 (zI m 19 2) m) fun v3 =>
    if v3 = 33 then
      zLet (wI m 19 2 ((zI m 19 2) + 1)) fun m5 =>
      zBI (c_takesLogic (p1 + 1) m5) fun v7 m6 =>
      zLet (fun (m9 : Mm) =>
        some (0, m9)) fun j10 =>
      if v7 = 0 then
        j10 m6
      else
        zBI (f_Cod_add 20 17 0 m6) fun v12 m11 =>
        if v12 = 0 then
          j10 m11
        else
          some (1, m11)
    else
      if v3 = 40 then
        zBI (c_takesPair (p1 + 1) m) fun v16 m15 =>
        if zBo v16 then some (v16, m15) else none
      else
        if v3 = 65 then
          zLet (fun (m19 : Mm) =>
            some (0, m19)) fun j20 =>
          if (zI m 19 4) = 0 then
            j20 m
          else
            zBI (f_Par_takesPart 15 3 m) fun v22 m21 =>
            if v22 = 0 then
              j20 m21
            else
              some (1, m21)
        else
          if v3 = 66 then
            zLet (fun (m26 : Mm) =>
              some (0, m26)) fun j27 =>
            if (zI m 19 4) = 0 then
              zBI (f_Par_takesPart 25 8 m) fun v29 m28 =>
              if v29 = 0 then
                j27 m28
              else
                some (1, m28)
            else
              j27 m
          else
            if v3 = 67 then
              zLet (fun (m33 : Mm) =>
                some (0, m33)) fun j34 =>
              if (zI m 19 4) = 0 then
                zBI (f_Par_takesPart 21 5 m) fun v36 m35 =>
                if v36 = 0 then
                  j34 m35
                else
                  some (1, m35)
              else
                j34 m
            else
              if v3 = 68 then
                zLet (fun (m40 : Mm) =>
                  some (0, m40)) fun j41 =>
                if (zI m 19 4) = 0 then
                  zBI (f_Par_takesPart 22 7 m) fun v43 m42 =>
                  if v43 = 0 then
                    j41 m42
                  else
                    some (1, m42)
                else
                  j41 m
              else
                if v3 = 69 then
                  zLet (fun (m47 : Mm) =>
                    some (0, m47)) fun j48 =>
                  if (zI m 19 4) = 0 then
                    j48 m
                  else
                    zBI (f_Par_takesPart 16 0 m) fun v50 m49 =>
                    if v50 = 0 then
                      j48 m49
                    else
                      some (1, m49)
                else
                  if v3 = 78 then
                    zLet (fun (m54 : Mm) =>
                      some (0, m54)) fun j55 =>
                    if (zI m 19 4) = 0 then
                      zBI (f_Par_takesPart 24 3 m) fun v57 m56 =>
                      if v57 = 0 then
                        j55 m56
                      else
                        some (1, m56)
                    else
                      j55 m
                  else
                    if v3 = 87 then
                      if (zI m 19 4) = 0 then
                        zBI (f_Par_takesPart 23 6 m) fun v62 m61 =>
                        if zBo v62 then some (v62, m61) else none
                      else
                        zBI (f_Par_takesPart 13 4 m) fun v64 m63 =>
                        if zBo v64 then some (v64, m63) else none
                    else
                      if v3 = 89 then
                        zLet (fun (m67 : Mm) =>
                          some (0, m67)) fun j68 =>
                        if (zI m 19 4) = 0 then
                          j68 m
                        else
                          zBI (f_Par_takesPart 14 5 m) fun v70 m69 =>
                          if v70 = 0 then
                            j68 m69
                          else
                            some (1, m69)
                      else
                        some (0, m)
  else
    some (0, m)
def g_Par_takesPair (c_takesLogic : Int32 → Mm → Option (Int32 × Mm)) (p1 : Int32) (m : Mm) : Option (Int32 × Mm) :=
  zLet (wI m 19 2 ((zI m 19 2) + 1)) fun m1 =>
  zBI (c_takesLogic p1 m1) fun v3 m2 =>
  if v3 = 0 then
    some (0, m2)
  else
    zBI (f_Par_takes 38 m2) fun v6 m5 =>
    zLet (fun (m8 : Mm) =>
      zBP (f_Cod_size 20 m8) fun v10 =>
      zLet (fun (x12 : Int32) =>
        zBI (f_Cod_add 20 x12 0 m8) fun v15 m14 =>
        zLet (fun (m17 : Mm) =>
          some (0, m17)) fun j18 =>
        if v15 = 0 then
          j18 m14
        else
          zBI (c_takesLogic p1 m14) fun v20 m19 =>
          if v20 = 0 then
            j18 m19
          else
            zBI (f_Par_takes 41 m19) fun v23 m22 =>
            if v23 = 0 then
              j18 m22
            else
              zBI (f_Cod_landHere 20 v10 m22) fun v26 m25 =>
              if v26 = 0 then
                j18 m25
              else
                some (1, m25)) fun j13 =>
      if v6 = 0 then
        j13 20
      else
        j13 19) fun j9 =>
    if v6 = 0 then
      zBI (f_Par_takes 124 m5) fun v29 m28 =>
      if v29 = 0 then
        some (0, m28)
      else
        j9 m28
    else
      j9 m5
def zP_Par : Nat → (Int32 → Mm → Option (Int32 × Mm)) × (Int32 → Mm → Option (Int32 × Mm)) × (Int32 → Mm → Option (Int32 × Mm)) × (Int32 → Mm → Option (Int32 × Mm))
  | 0 => (fun _ _ => none, fun _ _ => none, fun _ _ => none, fun _ _ => none)
  | n + 1 => (g_Par_takesSteps ((zP_Par n).2.1), g_Par_takesBranch ((zP_Par n).2.2.1) ((zP_Par n).1), g_Par_takesLogic ((zP_Par n).2.2.1) ((zP_Par n).2.2.2), g_Par_takesPair ((zP_Par n).2.2.1))
def f_Par_takesSteps (y0 : Int32) (m : Mm) : Option (Int32 × Mm) := (zP_Par 100).1 y0 m
def f_Par_takesBranch (y0 : Int32) (m : Mm) : Option (Int32 × Mm) := (zP_Par 100).2.1 y0 m
def f_Par_takesLogic (y0 : Int32) (m : Mm) : Option (Int32 × Mm) := (zP_Par 100).2.2.1 y0 m
def f_Par_takesPair (y0 : Int32) (m : Mm) : Option (Int32 × Mm) := (zP_Par 100).2.2.2 y0 m
def f_Par_readRule (o1 : Nat) (m : Mm) : Option (Int32 × Mm) :=
  zBV (f_Par_startOn o1 1 m) fun m1 =>
  zBI (f_Par_takesStart m1) fun v3 m2 =>
  zLet (fun (m5 : Mm) =>
    some ((zI m5 19 2), m5)) fun j6 =>
  if v3 = 0 then
    j6 m2
  else
    zBI (f_Par_takesSteps 0 m2) fun v8 m7 =>
    if v8 = 0 then
      j6 m7
    else
      zGR 8 (zR m7 19 1) fun q10 =>
      zBP (f_Txt_length q10 m7) fun v11 =>
      if (zI m7 19 2) = v11 then
        some ((-1), m7)
      else
        j6 m7
def f_Par_readQuestion (o1 : Nat) (m : Mm) : Option (Int32 × Mm) :=
  zBV (f_Par_startOn o1 0 m) fun m1 =>
  zBI (f_Par_takesLogic 0 m1) fun v3 m2 =>
  zLet (some ((zI m2 19 2), m2)) fun j5 =>
  if v3 = 0 then
    j5
  else
    zGR 8 (zR m2 19 1) fun q6 =>
    zBP (f_Txt_length q6 m2) fun v7 =>
    if (zI m2 19 2) = v7 then
      some ((-1), m2)
    else
      j5
def f_Par_code (m : Mm) : Option Nat :=
  some 20
-- 24.alm
def f_Alm_isFull (m : Mm) : Option Int32 :=
  if (zI m 25 3) < 20 then
    some 0
  else
    some 1
def f_Alm_size (m : Mm) : Option Int32 :=
  some (zI m 25 3)
def f_Alm_add (o1 : Nat) (o2 : Nat) (m : Mm) : Option (Int32 × Mm) :=
  zLet (zI m 25 3) fun x1 =>
  if zIn x1 20 then
    zBV (f_Txt_copyFrom (32 + 6 * zIx x1 + 1) o1 m) fun m3 =>
    if zIn x1 20 then
      zBV (f_Cod_copyFrom (32 + 6 * zIx x1 + 3) o2 m3) fun m5 =>
      if zIn x1 20 then
        zLet (wI m5 27 (zIx x1) x1) fun m6 =>
        zLet (wI m6 25 3 ((zI m6 25 3) + 1)) fun m7 =>
        some (x1, m7)
      else none
    else none
  else none
def f_Alm_setRank (p1 : Int32) (p2 : Int32) (p3 : Int32) (m : Mm) : Option Mm :=
  if zIn p1 20 then
    zLet (wI m (32 + 6 * zIx p1) 2 p2) fun m2 =>
    if zIn p1 20 then
      if zBo p3 then
        zLet (wI m2 (32 + 6 * zIx p1) 3 p3) fun m4 =>
        some m4
      else none
    else none
  else none
def f_Alm_firstReady (p1 : Int32) (p2 : Int32) (p3 : Int32) (m : Mm) : Option Int32 :=
  zLq1 (fun r2 x1 =>
    if (zI m 25 3) ≤ x1 then
      some (-1)
    else
      zLet (fun (x5 : Int32) =>
        zLet (fun (x8 : Int32) =>
          zLet (zLet (x1 + 1) fun x12 =>
          r2 x12) fun j11 =>
          if x8 = 0 then
            if (x5 &&& (p1 ^^^ (-1))) = 0 then
              some x1
            else
              j11
          else
            j11) fun j9 =>
        if (((p1.toUInt32 >>> (x1.toUInt32 &&& Int32.toUInt32 31)).toInt32) &&& 1) = 0 then
          j9 0
        else
          j9 1) fun j6 =>
      if x1 = p2 then
        j6 p3
      else
        if zIn x1 20 then
          zBP (f_Cod_named (32 + 6 * zIx x1 + 3) m) fun v15 =>
          j6 v15
        else none) zFu 0
def f_Alm_draftOrderWith (p1 : Int32) (p2 : Int32) (m : Mm) : Option (Int32 × Mm) :=
  zLp2 (fun r3 x1 x2 m4 =>
    if (zI m4 25 3) ≤ x2 then
      some (1, m4)
    else
      zBP (f_Alm_firstReady x1 p1 p2 m4) fun v6 =>
      if v6 = (-1) then
        some (0, m4)
      else
        if zIn x2 20 then
          zLet (wI m4 28 (zIx x2) v6) fun m8 =>
          zLet (x1 ||| (1 <<< (v6 &&& 31))) fun x9 =>
          zLet (x2 + 1) fun x10 =>
          r3 x9 x10 m8
        else none) zFu 0 0 m
def f_Alm_rewrite (p1 : Int32) (o2 : Nat) (o3 : Nat) (m : Mm) : Option (Int32 × Mm) :=
  zBP (f_Cod_named o3 m) fun v1 =>
  zBI (f_Alm_draftOrderWith p1 v1 m) fun v3 m2 =>
  if v3 = 0 then
    some (0, m2)
  else
    if zCpy m2 0 28 27 (zI m2 25 3) then
      zLet (wC m2 28 27 (zIx (zI m2 25 3))) fun m5 =>
      if zIn p1 20 then
        zBV (f_Txt_copyFrom (32 + 6 * zIx p1 + 1) o2 m5) fun m7 =>
        if zIn p1 20 then
          zBV (f_Cod_copyFrom (32 + 6 * zIx p1 + 3) o3 m7) fun m9 =>
          some (1, m9)
        else none
      else none
    else none
def f_Alm_code (p1 : Int32) (m : Mm) : Option Nat :=
  if zIn p1 20 then
    some (32 + 6 * zIx p1 + 3)
  else none
def f_Alm_rankOf (p1 : Int32) (m : Mm) : Option Int32 :=
  if zIn p1 20 then
    some (zI m (32 + 6 * zIx p1) 2)
  else none
def f_Alm_hasOneNear (p1 : Int32) (p2 : Int32) (m : Mm) : Option Int32 :=
  zLq1 (fun r2 x1 =>
    if (zI m 25 7) ≤ x1 then
      some 0
    else
      if zIn x1 30 then
        zLet (zLet (x1 + 1) fun x6 =>
        r2 x6) fun j5 =>
        if (zI m 29 (zIx x1)) = p1 then
          if zIn x1 30 then
            zBP (f_Mat_abs ((zI m 30 (zIx x1)) - p2) m) fun v7 =>
            if 10 ≤ v7 then
              j5
            else
              some 1
          else none
        else
          j5
      else none) zFu 0
def f_Alm_grant (p1 : Int32) (p2 : Int32) (p3 : Int32) (m : Mm) : Option (Int32 × Mm) :=
  if 30 ≤ (zI m 25 7) then
    some (0, m)
  else
    zBP (f_Alm_hasOneNear p1 p2 m) fun v2 =>
    if v2 = 0 then
      if zIn (zI m 25 7) 30 then
        zLet (wI m 29 (zIx (zI m 25 7)) p1) fun m4 =>
        if zIn (zI m4 25 7) 30 then
          zLet (wI m4 30 (zIx (zI m4 25 7)) p2) fun m5 =>
          if zIn (zI m5 25 7) 30 then
            zLet (wI m5 31 (zIx (zI m5 25 7)) p3) fun m6 =>
            zLet (wI m6 25 7 ((zI m6 25 7) + 1)) fun m7 =>
            some (1, m7)
          else none
        else none
      else none
    else
      some (0, m)
def f_Alm_dispensations (m : Mm) : Option Int32 :=
  some (zI m 25 7)
def f_Alm_dispensationFor (p1 : Int32) (p2 : Int32) (m : Mm) : Option Int32 :=
  zLq1 (fun r2 x1 =>
    if (zI m 25 7) ≤ x1 then
      some (-1)
    else
      if zIn x1 30 then
        zLet (zLet (x1 + 1) fun x6 =>
        r2 x6) fun j5 =>
        if (zI m 29 (zIx x1)) = p1 then
          if zIn x1 30 then
            if (zI m 30 (zIx x1)) = p2 then
              some x1
            else
              j5
          else none
        else
          j5
      else none) zFu 0
def f_Alm_revoke (p1 : Int32) (m : Mm) : Option (Int32 × Mm) :=
  if zIn p1 30 then
    zLet (zI m 31 (zIx p1)) fun x1 =>
    zLet (wI m 25 7 ((zI m 25 7) - 1)) fun m2 =>
    if zIn (zI m2 25 7) 30 then
      if zIn p1 30 then
        zLet (wI m2 29 (zIx p1) (zI m2 29 (zIx (zI m2 25 7)))) fun m3 =>
        if zIn (zI m3 25 7) 30 then
          if zIn p1 30 then
            zLet (wI m3 30 (zIx p1) (zI m3 30 (zIx (zI m3 25 7)))) fun m4 =>
            if zIn (zI m4 25 7) 30 then
              if zIn p1 30 then
                zLet (wI m4 31 (zIx p1) (zI m4 31 (zIx (zI m4 25 7)))) fun m5 =>
                some (x1, m5)
              else none
            else none
          else none
        else none
      else none
    else none
  else none
def f_Alm_inOrder (p1 : Int32) (m : Mm) : Option Int32 :=
  if zIn p1 20 then
    some (zI m 27 (zIx p1))
  else none
def f_Alm_bend (p1 : Int32) (p2 : Int32) (p3 : Int32) (m : Mm) : Option Int32 :=
  zBP (f_Alm_dispensationFor p1 p2 m) fun v1 =>
  if p3 = (-1) then
    some p3
  else
    if v1 = (-1) then
      some p3
    else
      if zIn v1 30 then
        if (zI m 31 (zIx v1)) = 99 then
          some (-1)
        else
          if zIn v1 30 then
            zLet (p3 + (zI m 31 (zIx v1))) fun x5 =>
            zLet (some (-1)) fun j7 =>
            if x5 < 0 then
              j7
            else
              zBP (f_Cal_lengthOf p2 m) fun v8 =>
              if v8 ≤ x5 then
                j7
              else
                some x5
          else none
      else none
def f_Alm_canMove (p1 : Int32) (m : Mm) : Option Int32 :=
  if zIn p1 20 then
    if zBo (zI m (32 + 6 * zIx p1) 3) then some (zI m (32 + 6 * zIx p1) 3) else none
  else none
def f_Alm_rule (p1 : Int32) (m : Mm) : Option Nat :=
  if zIn p1 20 then
    some (32 + 6 * zIx p1 + 1)
  else none
-- 25.boo
def f_Boo_bentDay (a : Nat) (p1 : Int32) (m : Mm) : Option Int32 :=
  zLet (some (-1)) fun j2 =>
  if p1 < 0 then
    j2
  else
    if 20 ≤ p1 then
      j2
    else
      if zIn p1 20 then
        some (zI m (a + 2) (zIx p1))
      else none
def f_Boo_conditionHolds (a : Nat) (p1 : Int32) (p2 : Int32) (m : Mm) : Option Int32 :=
  if p1 = 13 then
    zBP (f_Wal_isOnWeekday (a + 1) p2 m) fun v2 =>
    if zBo v2 then some v2 else none
  else
    if p1 = 14 then
      zBP (f_Wal_isInLeapYear (a + 1) m) fun v4 =>
      if zBo v4 then some v4 else none
    else
      if p1 = 15 then
        zBP (f_Boo_bentDay a p2 m) fun v6 =>
        zBP (f_Wal_isOnDay (a + 1) v6 m) fun v7 =>
        if zBo v7 then some v7 else none
      else
        zBP (f_Wal_isBeforeDate (a + 1) p2 m) fun v8 =>
        if zBo v8 then some v8 else none
def f_Boo_goToStart (a : Nat) (p1 : Int32) (p2 : Int32) (m : Mm) : Option Mm :=
  if p1 = 1 then
    zBV (f_Wal_toDate (a + 1) p2 m) fun m2 =>
    some m2
  else
    if p1 = 2 then
      zBV (f_Wal_toNthWeekday (a + 1) (p2 / 1000) ((p2 / 100) % 10) (p2 % 100) m) fun m4 =>
      some m4
    else
      if p1 = 3 then
        zBV (f_Wal_toLastWeekday (a + 1) (p2 / 100) (p2 % 100) m) fun m6 =>
        some m6
      else
        zBP (f_Boo_bentDay a p2 m) fun v7 =>
        zBV (f_Wal_toDay (a + 1) v7 m) fun m8 =>
        some m8
def f_Boo_move (a : Nat) (p1 : Int32) (p2 : Int32) (m : Mm) : Option Mm :=
  if p1 = 5 then
    zBV (f_Wal_toLater (a + 1) (p2 - 5000) m) fun m2 =>
    some m2
  else
    if p1 = 6 then
      zBV (f_Wal_toWeekdayBehind (a + 1) p2 m) fun m4 =>
      some m4
    else
      if p1 = 7 then
        zBV (f_Wal_toWeekdayAhead (a + 1) p2 m) fun m6 =>
        some m6
      else
        if p1 = 8 then
          zBV (f_Wal_toWeekdayNotAhead (a + 1) p2 m) fun m8 =>
          some m8
        else
          if p1 = 9 then
            zBV (f_Wal_toWeekdayNotBehind (a + 1) p2 m) fun m10 =>
            some m10
          else
            if p1 = 10 then
              zBV (f_Wal_toMoonOfAge (a + 1) 14 m) fun m12 =>
              some m12
            else
              if p1 = 11 then
                zBV (f_Wal_toMoonOfAge (a + 1) 0 m) fun m14 =>
                some m14
              else
                if p1 = 12 then
                  zBV (f_Wal_toNone (a + 1) m) fun m16 =>
                  some m16
                else
                  some m
def f_Boo_goThrough (a : Nat) (o1 : Nat) (m : Mm) : Option (Int32 × Mm) :=
  zLp4 (fun r5 x1 x2 x3 x4 m6 =>
    zBP (f_Cod_size o1 m6) fun v7 =>
    if v7 ≤ x4 then
      some (x1, m6)
    else
      zBP (f_Cod_size o1 m6) fun v9 =>
      if v9 ≤ x3 then
        some (x1, m6)
      else
        zBP (f_Cod_kindAt o1 x3 m6) fun v11 =>
        zBP (f_Cod_argumentAt o1 x3 m6) fun v12 =>
        zLet (fun (x14 : Int32) =>
          zLet (x1 + x14) fun x16 =>
          zLet (fun (x18 : Int32) (m19 : Mm) =>
            zBP (f_Cod_placeAfter o1 x3 x18 m19) fun v21 =>
            zLet (x4 + 1) fun x22 =>
            r5 x16 x18 v21 x22 m19) fun j20 =>
          if v11 = 17 then
            zLet (fun (x31 : Int32) =>
              j20 x31 m6) fun j32 =>
            if x2 = 0 then
              j32 1
            else
              j32 0
          else
            zLet (if 4 < v11 then
              zBV (f_Boo_move a v11 v12 m6) fun m26 =>
              j20 x2 m26
            else
              zBV (f_Boo_goToStart a v11 v12 m6) fun m27 =>
              j20 x2 m27) fun j24 =>
            if v11 < 13 then
              j24
            else
              if 16 < v11 then
                j24
              else
                zBP (f_Boo_conditionHolds a v11 v12 m6) fun v29 =>
                j20 v29 m6) fun j15 =>
        zLet (j15 0) fun j33 =>
        if v11 < 0 then
          j33
        else
          if 21 ≤ v11 then
            j33
          else
            if zIn v11 21 then
              j15 (zCst v11)
            else none) zFu 0 0 0 0 m
def f_Boo_reckon (a : Nat) (p1 : Int32) (p2 : Int32) (m : Mm) : Option Mm :=
  zLet (wI m a 6 p1) fun m1 =>
  zBP (f_Cal_lengthOf (zI m1 a 6) m1) fun v2 =>
  zLet (wI m1 a 7 v2) fun m3 =>
  zLp1 (fun r5 x4 m6 =>
    zBP (f_Alm_size m6) fun v7 =>
    if v7 ≤ x4 then
      some m6
    else
      zBP (f_Alm_inOrder x4 m6) fun v9 =>
      zBV (f_Wal_enter (a + 1) (zI m6 a 6) p2 m6) fun m10 =>
      zBQ 3 (f_Alm_code v9 m10) fun q11 =>
      zBI (f_Boo_goThrough a q11 m10) fun v13 m12 =>
      if zIn v9 20 then
        zLet (wI m12 (a + 3) (zIx v9) v13) fun m14 =>
        zBP (f_Wal_today (a + 1) m14) fun v15 =>
        zBP (f_Alm_bend v9 (zI m14 a 6) v15 m14) fun v16 =>
        if zIn v9 20 then
          zLet (wI m14 (a + 2) (zIx v9) v16) fun m17 =>
          zLet (x4 + 1) fun x18 =>
          r5 x18 m17
        else none
      else none) zFu 0 m3
def f_Boo_place (a : Nat) (p1 : Int32) (m : Mm) : Option Mm :=
  if zIn p1 20 then
    zLet (zI m (a + 2) (zIx p1)) fun x1 =>
    if zIn p1 20 then
      zLet (wI m (a + 4) (zIx p1) (-1)) fun m2 =>
      if x1 = (-1) then
        some m2
      else
        zBP (f_Alm_canMove p1 m2) fun v4 =>
        zLet (fun (x6 : Int32) =>
          zLq1 (fun r9 x8 =>
            if x6 < x8 then
              some m2
            else
              if (zI m2 a 7) ≤ x8 then
                some m2
              else
                if zIn x8 366 then
                  if (zI m2 (a + 5) (zIx x8)) = (-1) then
                    if zIn x8 366 then
                      zLet (wI m2 (a + 5) (zIx x8) p1) fun m14 =>
                      if zIn p1 20 then
                        zLet (wI m14 (a + 4) (zIx p1) x8) fun m15 =>
                        some m15
                      else none
                    else none
                  else
                    zLet (x8 + 1) fun x13 =>
                    r9 x13
                else none) zFu x1) fun j7 =>
        if v4 = 0 then
          j7 x1
        else
          j7 (x1 + 20)
    else none
  else none
def f_Boo_placeAll (a : Nat) (m : Mm) : Option Mm :=
  zLp1 (fun r2 x1 m3 =>
    if 366 ≤ x1 then
      zLp1 (fun r6 x5 m7 =>
        if x5 < 0 then
          some m7
        else
          zLp1 (fun r10 x9 m11 =>
            zBP (f_Alm_size m11) fun v12 =>
            if v12 ≤ x9 then
              zLet (x5 + (-1)) fun x14 =>
              r6 x14 m11
            else
              zBP (f_Alm_rankOf x9 m11) fun v15 =>
              zLet (fun (m17 : Mm) =>
                zLet (x9 + 1) fun x19 =>
                r10 x19 m17) fun j18 =>
              if v15 = x5 then
                zBV (f_Boo_place a x9 m11) fun m20 =>
                j18 m20
              else
                j18 m11) zFu 0 m7) zFu 9 m3
    else
      if zIn x1 366 then
        zLet (wI m3 (a + 5) (zIx x1) (-1)) fun m21 =>
        zLet (x1 + 1) fun x22 =>
        r2 x22 m21
      else none) zFu 0 m
def f_Boo_placedDay (a : Nat) (p1 : Int32) (m : Mm) : Option Int32 :=
  zLet (some (-1)) fun j2 =>
  if p1 < 0 then
    j2
  else
    if 20 ≤ p1 then
      j2
    else
      if zIn p1 20 then
        some (zI m (a + 4) (zIx p1))
      else none
def f_Boo_countClashes (a : Nat) (m : Mm) : Option Int32 :=
  zLq2 (fun r3 x1 x2 =>
    zBP (f_Alm_size m) fun v4 =>
    if v4 ≤ x2 then
      some x1
    else
      zLet (x2 + 1) fun x6 =>
      zLq2 (fun r9 x7 x8 =>
        zBP (f_Alm_size m) fun v10 =>
        if v10 ≤ x8 then
          zLet (x2 + 1) fun x12 =>
          r3 x7 x12
        else
          if zIn x2 20 then
            zLet (fun (x14 : Int32) =>
              zLet (x8 + 1) fun x16 =>
              r9 x14 x16) fun j15 =>
            if (zI m (a + 2) (zIx x2)) = (-1) then
              j15 x7
            else
              if zIn x2 20 then
                if zIn x8 20 then
                  if (zI m (a + 2) (zIx x2)) = (zI m (a + 2) (zIx x8)) then
                    zLet (x7 + 1) fun x18 =>
                    j15 x18
                  else
                    j15 x7
                else none
              else none
          else none) zFu x1 x6) zFu 0 0
def f_Boo_isNextTo (a : Nat) (o1 : Nat) (p2 : Int32) (m : Mm) : Option Int32 :=
  zBP (f_Boo_bentDay a p2 m) fun v1 =>
  zBP (f_Boo_bentDay o1 p2 m) fun v2 =>
  zLet (some 0) fun j4 =>
  if v1 = (-1) then
    j4
  else
    if v2 = (-1) then
      j4
    else
      zBP (f_Mat_abs (v1 - v2) m) fun v6 =>
      if v6 = 1 then
        some 1
      else
        j4
def f_Boo_costOf (a : Nat) (p1 : Int32) (m : Mm) : Option Int32 :=
  if zIn p1 20 then
    some (zI m (a + 3) (zIx p1))
  else none
def f_Boo_costOfAll (a : Nat) (m : Mm) : Option Int32 :=
  zLq2 (fun r3 x1 x2 =>
    zBP (f_Alm_size m) fun v4 =>
    if v4 ≤ x2 then
      some x1
    else
      if zIn x2 20 then
        zLet (x1 + (zI m (a + 3) (zIx x2))) fun x6 =>
        zLet (x2 + 1) fun x7 =>
        r3 x6 x7
      else none) zFu 1 0
def f_Boo_claimHolds (a : Nat) (p1 : Int32) (p2 : Int32) (m : Mm) : Option (Int32 × Mm) :=
  if p1 = 21 then
    zBP (f_Boo_countClashes a m) fun v2 =>
    if v2 = 0 then
      some (1, m)
    else
      some (0, m)
  else
    if p1 = 22 then
      zBP (f_Boo_placedDay a (p2 / 10000) m) fun v5 =>
      zLet (some (0, m)) fun j7 =>
      if v5 = (-1) then
        j7
      else
        zBP (f_Cal_dateOf (zI m a 6) v5 m) fun v8 =>
        if v8 = (p2 % 10000) then
          some (1, m)
        else
          j7
    else
      if p1 = 23 then
        zBP (f_Boo_placedDay a (p2 / 10) m) fun v11 =>
        zBV (f_Wal_toDay (a + 1) v11 m) fun m12 =>
        zBP (f_Wal_isOnWeekday (a + 1) (p2 % 10) m12) fun v13 =>
        if zBo v13 then some (v13, m12) else none
      else
        if p1 = 24 then
          zBP (f_Boo_placedDay a p2 m) fun v15 =>
          if v15 = (-1) then
            some (1, m)
          else
            some (0, m)
        else
          zBP (f_Boo_placedDay a (p2 / 100) m) fun v17 =>
          zLet (some (0, m)) fun j19 =>
          if v17 = (-1) then
            j19
          else
            zBP (f_Boo_placedDay a (p2 % 100) m) fun v20 =>
            if v20 ≤ v17 then
              j19
            else
              some (1, m)
def f_Boo_feastOn (a : Nat) (p1 : Int32) (m : Mm) : Option Int32 :=
  zLet (some (-1)) fun j2 =>
  if p1 < 0 then
    j2
  else
    if 366 ≤ p1 then
      j2
    else
      if zIn p1 366 then
        some (zI m (a + 5) (zIx p1))
      else none
-- 26.pla
def f_Pla_nextSign (m : Mm) : Option (Int32 × Mm) :=
  zGR 8 (zR m 164 4) fun q1 =>
  zBP (f_Txt_at q1 (zI m 164 5) m) fun v2 =>
  zLet (wI m 164 5 ((zI m 164 5) + 1)) fun m3 =>
  if zCh v2 then some (v2, m3) else none
def f_Pla_nextNumber (p1 : Int32) (m : Mm) : Option (Int32 × Mm) :=
  zLp2 (fun r3 x1 x2 m4 =>
    if p1 ≤ x2 then
      some (x1, m4)
    else
      zGR 8 (zR m4 164 4) fun q6 =>
      zBP (f_Txt_at q6 (zI m4 164 5) m4) fun v7 =>
      if v7 < 48 then
        some (x1, m4)
      else
        if v7 ≤ 57 then
          zLet (((10 * x1) + v7) - 48) fun x10 =>
          zLet (wI m4 164 5 ((zI m4 164 5) + 1)) fun m11 =>
          zLet (x2 + 1) fun x12 =>
          r3 x10 x12 m11
        else
          some (x1, m4)) zFu 0 0 m
def f_Pla_bentDay (p1 : Int32) (m : Mm) : Option Int32 :=
  zLet (some (-1)) fun j2 =>
  if p1 < 0 then
    j2
  else
    if 20 ≤ p1 then
      j2
    else
      if zIn p1 20 then
        some (zI m 166 (zIx p1))
      else none
def f_Pla_readStart (m : Mm) : Option Mm :=
  zBI (f_Pla_nextSign m) fun v2 m1 =>
  if v2 = 68 then
    zBI (f_Pla_nextNumber 4 m1) fun v5 m4 =>
    zBV (f_Wal_toDate 165 v5 m4) fun m6 =>
    some m6
  else
    if v2 = 76 then
      zBI (f_Pla_nextNumber 1 m1) fun v9 m8 =>
      zBI (f_Pla_nextNumber 2 m8) fun v11 m10 =>
      zBV (f_Wal_toLastWeekday 165 v9 v11 m10) fun m12 =>
      some m12
    else
      if v2 = 78 then
        zBI (f_Pla_nextNumber 1 m1) fun v15 m14 =>
        zBI (f_Pla_nextNumber 1 m14) fun v17 m16 =>
        zBI (f_Pla_nextNumber 2 m16) fun v19 m18 =>
        zBV (f_Wal_toNthWeekday 165 v15 v17 v19 m18) fun m20 =>
        some m20
      else
        zBI (f_Pla_nextNumber 2 m1) fun v22 m21 =>
        zBP (f_Pla_bentDay v22 m21) fun v23 =>
        zBV (f_Wal_toDay 165 v23 m21) fun m24 =>
        some m24
def f_Pla_readDays (p1 : Int32) (m : Mm) : Option Mm :=
  zLp2 (fun r3 x1 x2 m4 =>
    zLet (if p1 = 0 then
      some m4
    else
      zBV (f_Wal_toLater 165 x1 m4) fun m8 =>
      some m8) fun j6 =>
    if 40 ≤ x2 then
      j6
    else
      zGR 8 (zR m4 164 4) fun q9 =>
      zBP (f_Txt_at q9 (zI m4 164 5) m4) fun v10 =>
      zLet (zBI (f_Pla_nextSign m4) fun v14 m13 =>
      zLet (fun (x16 : Int32) =>
        zBI (f_Pla_nextNumber 3 m13) fun v19 m18 =>
        zLet (fun (x21 : Int32) =>
          zLet (x1 + x21) fun x23 =>
          zLet (x2 + 1) fun x24 =>
          r3 x23 x24 m18) fun j22 =>
        if x16 = 0 then
          j22 (-v19)
        else
          j22 v19) fun j17 =>
      if v14 = 43 then
        j17 1
      else
        j17 0) fun j12 =>
      if v10 = 43 then
        j12
      else
        zGR 8 (zR m4 164 4) fun q25 =>
        zBP (f_Txt_at q25 (zI m4 164 5) m4) fun v26 =>
        if v26 = 45 then
          j12
        else
          j6) zFu 0 0 m
def f_Pla_readMove (p1 : Int32) (p2 : Int32) (m : Mm) : Option Mm :=
  zLet (fun (x2 : Int32) =>
    zLet (fun (x5 : Int32) (m6 : Mm) =>
      if p2 = 0 then
        some m6
      else
        if p1 = 60 then
          zBV (f_Wal_toWeekdayAhead 165 x5 m6) fun m10 =>
          some m10
        else
          if p1 = 62 then
            zBV (f_Wal_toWeekdayBehind 165 x5 m6) fun m12 =>
            some m12
          else
            if p1 = 79 then
              zBV (f_Wal_toMoonOfAge 165 14 m6) fun m14 =>
              some m14
            else
              if p1 = 81 then
                zBV (f_Wal_toMoonOfAge 165 0 m6) fun m16 =>
                some m16
              else
                if p1 = 91 then
                  zBV (f_Wal_toWeekdayNotBehind 165 x5 m6) fun m18 =>
                  some m18
                else
                  if p1 = 93 then
                    zBV (f_Wal_toWeekdayNotAhead 165 x5 m6) fun m20 =>
                    some m20
                  else
                    zBV (f_Wal_toNone 165 m6) fun m21 =>
                    some m21) fun j7 =>
    if x2 = 0 then
      j7 (-1) m
    else
      zBI (f_Pla_nextNumber 1 m) fun v23 m22 =>
      j7 v23 m22) fun j3 =>
  zLet (j3 1) fun j24 =>
  if p1 = 62 then
    j24
  else
    if p1 = 60 then
      j24
    else
      if p1 = 93 then
        j24
      else
        if p1 = 91 then
          j24
        else
          j3 0
def g_Pla_readSteps (c_readBranch : Int32 → Int32 → Mm → Option Mm) (p1 : Int32) (p2 : Int32) (m : Mm) : Option Mm :=
  zLp1 (fun r2 x1 m3 =>
    if 40 ≤ x1 then
      some m3
    else
      if 41 < p2 then
        some m3
      else
        zGR 8 (zR m3 164 4) fun q6 =>
        zBP (f_Txt_at q6 (zI m3 164 5) m3) fun v7 =>
        if v7 = 125 then
          some m3
        else
          if v7 = 0 then
            some m3
          else
            zLet (fun (m11 : Mm) =>
              zLet (x1 + 1) fun x13 =>
              r2 x13 m11) fun j12 =>
            if v7 = 63 then
              zLet (wI m3 164 5 ((zI m3 164 5) + 1)) fun m20 =>
              zBV (c_readBranch p1 (p2 + 1) m20) fun m21 =>
              j12 m21
            else
              zLet (zBV (f_Pla_readDays p1 m3) fun m16 =>
              j12 m16) fun j15 =>
              if v7 = 43 then
                j15
              else
                if v7 = 45 then
                  j15
                else
                  zLet (wI m3 164 5 ((zI m3 164 5) + 1)) fun m18 =>
                  zBV (f_Pla_readMove v7 p1 m18) fun m19 =>
                  j12 m19) zFu 0 m
def g_Pla_readBranch (c_readCondition : Int32 → Mm → Option (Int32 × Mm)) (c_readSteps : Int32 → Int32 → Mm → Option Mm) (p1 : Int32) (p2 : Int32) (m : Mm) : Option Mm :=
  zBI (c_readCondition p2 m) fun v2 m1 =>
  zLet (wI m1 164 5 ((zI m1 164 5) + 1)) fun m3 =>
  zLet (fun (x5 : Int32) =>
    zBV (c_readSteps x5 p2 m3) fun m7 =>
    zLet (wI m7 164 5 ((zI m7 164 5) + 1)) fun m8 =>
    zGR 8 (zR m8 164 4) fun q9 =>
    zBP (f_Txt_at q9 (zI m8 164 5) m8) fun v10 =>
    if v10 = 123 then
      zLet (wI m8 164 5 ((zI m8 164 5) + 1)) fun m12 =>
      zLet (fun (x14 : Int32) =>
        zBV (c_readSteps x14 p2 m12) fun m16 =>
        zLet (wI m16 164 5 ((zI m16 164 5) + 1)) fun m17 =>
        some m17) fun j15 =>
      zLet (j15 0) fun j18 =>
      if p1 = 0 then
        j18
      else
        if v2 = 0 then
          j15 1
        else
          j18
    else
      some m8) fun j6 =>
  zLet (j6 0) fun j20 =>
  if p1 = 0 then
    j20
  else
    if v2 = 0 then
      j20
    else
      j6 1
def g_Pla_readCondition (c_readCondition : Int32 → Mm → Option (Int32 × Mm)) (p1 : Int32) (m : Mm) : Option (Int32 × Mm) :=
  if p1 ≤ 41 then
    zBI (f_Pla_nextSign m) fun v3 m2 =>
    if v3 = 33 then
      zBI (c_readCondition (p1 + 1) m2) fun v6 m5 =>
      if v6 = 0 then
        some (1, m5)
      else
        some (0, m5)
    else
      if v3 = 65 then
        zBI (f_Pla_nextNumber 2 m2) fun v10 m9 =>
        zBP (f_Pla_bentDay v10 m9) fun v11 =>
        zBP (f_Wal_isOnDay 165 v11 m9) fun v12 =>
        if zBo v12 then some (v12, m9) else none
      else
        if v3 = 69 then
          zBI (f_Pla_nextNumber 4 m2) fun v15 m14 =>
          zBP (f_Wal_isBeforeDate 165 v15 m14) fun v16 =>
          if zBo v16 then some (v16, m14) else none
        else
          if v3 = 87 then
            zBI (f_Pla_nextNumber 1 m2) fun v19 m18 =>
            zBP (f_Wal_isOnWeekday 165 v19 m18) fun v20 =>
            if zBo v20 then some (v20, m18) else none
          else
            if v3 = 89 then
              zBP (f_Wal_isInLeapYear 165 m2) fun v22 =>
              if zBo v22 then some (v22, m2) else none
            else
              zBI (c_readCondition (p1 + 1) m2) fun v24 m23 =>
              zBI (f_Pla_nextSign m23) fun v26 m25 =>
              zLet (fun (x28 : Int32) =>
                zBI (c_readCondition (p1 + 1) m25) fun v31 m30 =>
                zLet (wI m30 164 5 ((zI m30 164 5) + 1)) fun m32 =>
                if x28 = 0 then
                  zLet (some (1, m32)) fun j35 =>
                  if v24 = 0 then
                    if v31 = 0 then
                      some (0, m32)
                    else
                      j35
                  else
                    j35
                else
                  zLet (some (0, m32)) fun j38 =>
                  if v24 = 0 then
                    j38
                  else
                    if v31 = 0 then
                      j38
                    else
                      some (1, m32)) fun j29 =>
              if v26 = 38 then
                j29 1
              else
                j29 0
  else
    some (0, m)
def zP_Pla : Nat → (Int32 → Int32 → Mm → Option Mm) × (Int32 → Int32 → Mm → Option Mm) × (Int32 → Mm → Option (Int32 × Mm))
  | 0 => (fun _ _ _ => none, fun _ _ _ => none, fun _ _ => none)
  | n + 1 => (g_Pla_readSteps ((zP_Pla n).2.1), g_Pla_readBranch ((zP_Pla n).2.2) ((zP_Pla n).1), g_Pla_readCondition ((zP_Pla n).2.2))
def f_Pla_readSteps (y0 y1 : Int32) (m : Mm) : Option Mm := (zP_Pla 100).1 y0 y1 m
def f_Pla_readBranch (y0 y1 : Int32) (m : Mm) : Option Mm := (zP_Pla 100).2.1 y0 y1 m
def f_Pla_readCondition (y0 : Int32) (m : Mm) : Option (Int32 × Mm) := (zP_Pla 100).2.2 y0 m
def f_Pla_readAll (p1 : Int32) (p2 : Int32) (m : Mm) : Option Mm :=
  zLp1 (fun r2 x1 m3 =>
    zBP (f_Alm_size m3) fun v4 =>
    if v4 ≤ x1 then
      some m3
    else
      zBP (f_Alm_inOrder x1 m3) fun v6 =>
      zBV (f_Wal_enter 165 p1 p2 m3) fun m7 =>
      zBQ 8 (f_Alm_rule v6 m7) fun q8 =>
      zLet (wR m7 164 4 q8) fun m9 =>
      zLet (wI m9 164 5 0) fun m10 =>
      zBV (f_Pla_readStart m10) fun m11 =>
      zBV (f_Pla_readSteps 1 0 m11) fun m12 =>
      zBP (f_Wal_today 165 m12) fun v13 =>
      zBP (f_Alm_bend v6 p1 v13 m12) fun v14 =>
      if zIn v6 20 then
        zLet (wI m12 166 (zIx v6) v14) fun m15 =>
        zLet (x1 + 1) fun x16 =>
        r2 x16 m15
      else none) zFu 0 m
def f_Pla_asksFor (p1 : Int32) (p2 : Int32) (m : Mm) : Option Int32 :=
  if zIn p1 20 then
    zLet (zI m 166 (zIx p1)) fun x1 =>
    if x1 = (-1) then
      some 0
    else
      if zIn p1 20 then
        if (zI m 167 (zIx p1)) = (-1) then
          zBP (f_Alm_canMove p1 m) fun v4 =>
          zLet (fun (x6 : Int32) =>
            zLet (some 0) fun j9 =>
            if p2 < x1 then
              j9
            else
              if x6 < p2 then
                j9
              else
                some 1) fun j7 =>
          if v4 = 0 then
            j7 x1
          else
            j7 (x1 + 20)
        else
          some 0
      else none
  else none
def f_Pla_bestOn (p1 : Int32) (m : Mm) : Option Int32 :=
  zLq2 (fun r3 x1 x2 =>
    zBP (f_Alm_size m) fun v4 =>
    if v4 ≤ x2 then
      some x1
    else
      zBP (f_Pla_asksFor x2 p1 m) fun v6 =>
      zLet (fun (x8 : Int32) =>
        zLet (x2 + 1) fun x10 =>
        r3 x8 x10) fun j9 =>
      if v6 = 0 then
        j9 x1
      else
        zLet (j9 x2) fun j12 =>
        if x1 = (-1) then
          j12
        else
          zBP (f_Alm_rankOf x2 m) fun v13 =>
          zBP (f_Alm_rankOf x1 m) fun v14 =>
          if v13 ≤ v14 then
            j9 x1
          else
            j12) zFu (-1) 0
def f_Pla_goThroughDays (p1 : Int32) (m : Mm) : Option Mm :=
  zLp1 (fun r2 x1 m3 =>
    zBP (f_Alm_size m3) fun v4 =>
    if v4 ≤ x1 then
      zBP (f_Cal_lengthOf p1 m3) fun v6 =>
      zLp1 (fun r8 x7 m9 =>
        if v6 ≤ x7 then
          some m9
        else
          zBP (f_Pla_bestOn x7 m9) fun v11 =>
          zLet (fun (m13 : Mm) =>
            zLet (x7 + 1) fun x15 =>
            r8 x15 m13) fun j14 =>
          if v11 = (-1) then
            j14 m9
          else
            if zIn v11 20 then
              zLet (wI m9 167 (zIx v11) x7) fun m16 =>
              j14 m16
            else none) zFu 0 m3
    else
      if zIn x1 20 then
        zLet (wI m3 167 (zIx x1) (-1)) fun m17 =>
        zLet (x1 + 1) fun x18 =>
        r2 x18 m17
      else none) zFu 0 m
def f_Pla_placedDay (p1 : Int32) (m : Mm) : Option Int32 :=
  zLet (some (-1)) fun j2 =>
  if p1 < 0 then
    j2
  else
    if 20 ≤ p1 then
      j2
    else
      if zIn p1 20 then
        some (zI m 167 (zIx p1))
      else none
-- 27.solbel
def f_Sol_start (o1 : Nat) (p2 : Int32) (m : Mm) : Option Mm :=
  zBV (f_Cod_copyFrom 171 o1 m) fun m1 =>
  zLet (wI m1 170 2 p2) fun m2 =>
  zLet (wI m2 170 1 1) fun m3 =>
  some m3
def f_Sol_isStarted (m : Mm) : Option Int32 :=
  if zBo (zI m 170 1) then some (zI m 170 1) else none
def f_Sol_questionHolds (o1 : Nat) (m : Mm) : Option (Int32 × Mm) :=
  zLp3 (fun r4 x1 x2 x3 m5 =>
    zBP (f_Cod_size 171 m5) fun v6 =>
    if v6 ≤ x3 then
      if zBo x1 then some (x1, m5) else none
    else
      zBP (f_Cod_size 171 m5) fun v8 =>
      if v8 ≤ x2 then
        if zBo x1 then some (x1, m5) else none
      else
        zBP (f_Cod_kindAt 171 x2 m5) fun v10 =>
        zLet (fun (x12 : Int32) (m13 : Mm) =>
          zBP (f_Cod_placeAfter 171 x2 x12 m13) fun v15 =>
          zLet (x3 + 1) fun x16 =>
          r4 x12 v15 x16 m13) fun j14 =>
        if v10 = 17 then
          zLet (fun (x22 : Int32) =>
            j14 x22 m5) fun j23 =>
          if x1 = 0 then
            j23 1
          else
            j23 0
        else
          if v10 < 21 then
            j14 x1 m5
          else
            zBP (f_Cod_argumentAt 171 x2 m5) fun v18 =>
            zBI (f_Boo_claimHolds o1 v10 v18 m5) fun v20 m19 =>
            j14 v20 m19) zFu 0 0 0 m
def f_Sol_look (p1 : Int32) (o2 : Nat) (p3 : Int32) (m : Mm) : Option (Int32 × Mm) :=
  zLet (zI m 170 2) fun x1 =>
  zLp2 (fun r4 x2 x3 m5 =>
    if 399 < x3 then
      some ((-1), m5)
    else
      zBV (f_Boo_reckon o2 x3 p3 m5) fun m7 =>
      zBP (f_Boo_costOfAll o2 m7) fun v8 =>
      if v8 ≤ x2 then
        zLet (x2 - v8) fun x10 =>
        zLet (wL m7 170 3 ((zL m7 170 3) + (v8.toInt64))) fun m11 =>
        zLet (wI m11 170 2 (x3 + 1)) fun m12 =>
        zBV (f_Boo_placeAll o2 m12) fun m13 =>
        zBI (f_Sol_questionHolds o2 m13) fun v15 m14 =>
        if v15 = 0 then
          zLet (x3 + 1) fun x17 =>
          r4 x10 x17 m14
        else
          some (x3, m14)
      else
        some ((-2), m7)) zFu p1 x1 m
def f_Sol_paid (m : Mm) : Option Int64 :=
  some (zL m 170 3)
def f_Bel_hang (p1 : Int32) (p2 : Int32) (m : Mm) : Option (Int32 × Mm) :=
  if zIn p1 6 then
    zLet (zI m 175 (zIx p1)) fun x1 =>
    if zIn p1 6 then
      zLet (wI m 175 (zIx p1) p2) fun m2 =>
      some (x1, m2)
    else none
  else none
def f_Bel_hire (p1 : Int32) (p2 : Int32) (m : Mm) : Option (Int32 × Mm) :=
  if (zI m 174 3) < 24 then
    if zIn (zI m 174 3) 24 then
      zLet (wI m 176 (zIx (zI m 174 3)) p1) fun m2 =>
      if zIn (zI m2 174 3) 24 then
        zLet (wI m2 177 (zIx (zI m2 174 3)) p2) fun m3 =>
        zLet (wI m3 174 3 ((zI m3 174 3) + 1)) fun m4 =>
        some (((zI m4 174 3) - 1), m4)
      else none
    else none
  else
    some ((-1), m)
def f_Bel_forgetYear (m : Mm) : Option Mm :=
  zLet (wI m 174 7 0) fun m1 =>
  zLp1 (fun r3 x2 m4 =>
    if 24 ≤ x2 then
      zLp1 (fun r7 x6 m8 =>
        if 20 ≤ x6 then
          some m8
        else
          zLp1 (fun r11 x10 m12 =>
            if 36 ≤ x10 then
              zLet (x6 + 1) fun x14 =>
              r7 x14 m12
            else
              if zIn x6 20 then
                if zIn x10 36 then
                  zLet (wI m12 (181 + zIx x6) (zIx x10) (-1)) fun m16 =>
                  zLet (x10 + 1) fun x17 =>
                  r11 x17 m16
                else none
              else none) zFu 0 m8) zFu 0 m4
    else
      if zIn x2 24 then
        zLet (wI m4 178 (zIx x2) (-1)) fun m18 =>
        if zIn x2 24 then
          zLet (wI m18 179 (zIx x2) 0) fun m19 =>
          zLet (x2 + 1) fun x20 =>
          r3 x20 m19
        else none
      else none) zFu 0 m1
def f_Bel_isRested (p1 : Int32) (p2 : Int32) (m : Mm) : Option Int32 :=
  if zIn p1 24 then
    zLet (some 1) fun j2 =>
    if (zI m 178 (zIx p1)) = (-1) then
      j2
    else
      if zIn p1 24 then
        if zIn p1 24 then
          if (p2 - (zI m 178 (zIx p1))) ≤ (zI m 177 (zIx p1)) then
            some 0
          else
            j2
        else none
      else none
  else none
def f_Bel_ringerFor (p1 : Int32) (p2 : Int32) (m : Mm) : Option Int32 :=
  zLq2 (fun r3 x1 x2 =>
    if (zI m 174 3) ≤ x2 then
      some x1
    else
      if zIn x2 24 then
        zLet (fun (x6 : Int32) =>
          zLet (fun (x9 : Int32) =>
            zLet (x2 + 1) fun x11 =>
            r3 x9 x11) fun j10 =>
          if x6 = 0 then
            j10 x1
          else
            zLet (j10 x2) fun j13 =>
            if x1 = (-1) then
              j13
            else
              if zIn x2 24 then
                if zIn x1 24 then
                  if (zI m 179 (zIx x1)) ≤ (zI m 179 (zIx x2)) then
                    j10 x1
                  else
                    j13
                else none
              else none) fun j7 =>
        zLet (j7 0) fun j15 =>
        if (zI m 176 (zIx x2)) = p1 then
          zBP (f_Bel_isRested x2 p2 m) fun v16 =>
          if v16 = 0 then
            j15
          else
            j7 1
        else
          j15
      else none) zFu (-1) 0
def f_Bel_ringFeast (p1 : Int32) (p2 : Int32) (p3 : Int32) (p4 : Int32) (m : Mm) : Option Mm :=
  zLp1 (fun r2 x1 m3 =>
    if 6 ≤ x1 then
      some m3
    else
      zLp1 (fun r6 x5 m7 =>
        zLet (zLet (x1 + 1) fun x10 =>
        r2 x10 m7) fun j9 =>
        if p2 ≤ x5 then
          j9
        else
          if zIn x1 6 then
            if (zI m7 175 (zIx x1)) ≤ x5 then
              j9
            else
              zBP (f_Bel_ringerFor x1 p3 m7) fun v12 =>
              if zIn p1 20 then
                if zIn ((6 * x1) + x5) 36 then
                  zLet (wI m7 (181 + zIx p1) (zIx ((6 * x1) + x5)) v12) fun m14 =>
                  zLet (fun (m16 : Mm) =>
                    zLet (x5 + 1) fun x18 =>
                    r6 x18 m16) fun j17 =>
                  if v12 = (-1) then
                    zLet (wI m14 174 7 ((zI m14 174 7) + 1)) fun m21 =>
                    j17 m21
                  else
                    if zIn v12 24 then
                      if zIn v12 24 then
                        zLet (wI m14 179 (zIx v12) ((zI m14 179 (zIx v12)) + 1)) fun m19 =>
                        if zIn v12 24 then
                          zLet (wI m19 178 (zIx v12) p4) fun m20 =>
                          j17 m20
                        else none
                      else none
                    else none
                else none
              else none
          else none) zFu 0 m3) zFu 0 m
def f_Bel_ringYear (o2 : Nat) (o3 : Nat) (m : Mm) : Option Mm :=
  zBV (f_Bel_forgetYear m) fun m1 =>
  zLp1 (fun r3 x2 m4 =>
    if 365 < x2 then
      some m4
    else
      zBP (f_Boo_feastOn o2 x2 m4) fun v6 =>
      zLet (fun (m8 : Mm) =>
        zLet (x2 + 1) fun x10 =>
        r3 x10 m8) fun j9 =>
      if v6 = (-1) then
        j9 m4
      else
        zBP (f_Boo_isNextTo o2 o3 v6 m4) fun v11 =>
        zLet (fun (x13 : Int32) =>
          zBP (f_Alm_rankOf v6 m4) fun v15 =>
          zBV (f_Bel_ringFeast v6 v15 x2 x13 m4) fun m16 =>
          j9 m16) fun j14 =>
        if v11 = 0 then
          j14 x2
        else
          j14 (x2 + 1)) zFu 0 m1
def f_Bel_ringerAt (p1 : Int32) (p2 : Int32) (p3 : Int32) (m : Mm) : Option Int32 :=
  if zIn p1 20 then
    if zIn ((6 * p2) + p3) 36 then
      some (zI m (181 + zIx p1) (zIx ((6 * p2) + p3)))
    else none
  else none
def f_Bel_silences (m : Mm) : Option Int32 :=
  some (zI m 174 7)
def f_Bel_size (m : Mm) : Option Int32 :=
  some (zI m 174 3)
def f_Bel_countOf (p1 : Int32) (m : Mm) : Option Int32 :=
  if zIn p1 24 then
    some (zI m 179 (zIx p1))
  else none
-- 28.loo
def f_Loo_checkYear (p1 : Int32) (m : Mm) : Option ((Unit ⊕ Nat) × Mm) :=
  zLet (some (.inr 0, m)) fun j2 =>
  if p1 < 0 then
    j2
  else
    if p1 ≤ 399 then
      some (.inl (), m)
    else
      j2
def f_Loo_begin (p1 : Int32) (m : Mm) : Option ((Int32 ⊕ Nat) × Mm) :=
  zBXV (f_Loo_checkYear p1 m) fun m1 =>
  zBP (f_Cal_firstDayOf p1 m1) fun v2 =>
  some (.inl v2, m1)
def f_Loo_date (p1 : Int32) (p2 : Int32) (m : Mm) : Option ((Int32 ⊕ Nat) × Mm) :=
  zBXV (f_Loo_checkYear p1 m) fun m1 =>
  zLet (some (.inr 0, m1)) fun j3 =>
  if p2 < 0 then
    j3
  else
    if p2 ≤ 365 then
      zBP (f_Cal_dateOf p1 p2 m1) fun v5 =>
      some (.inl v5, m1)
    else
      j3
def f_Loo_checkTable (p1 : Int32) (m : Mm) : Option ((Unit ⊕ Nat) × Mm) :=
  if p1 = 0 then
    some (.inl (), m)
  else
    if p1 = 1 then
      some (.inl (), m)
    else
      some (.inr 0, m)
def f_Loo_age (p1 : Int32) (p2 : Int32) (m : Mm) : Option ((Int32 ⊕ Nat) × Mm) :=
  zLet (some (.inr 0, m)) fun j2 =>
  if p1 < 0 then
    j2
  else
    if p1 ≤ 146096 then
      zBXV (f_Loo_checkTable p2 m) fun m4 =>
      zBP (f_Cal_ageOf p1 p2 m4) fun v5 =>
      some (.inl v5, m4)
    else
      j2
def f_Loo_table (p1 : Int32) (m : Mm) : Option ((Int32 ⊕ Nat) × Mm) :=
  zBXV (f_Loo_checkTable p1 m) fun m1 =>
  zLet (zI m1 16 8) fun x2 =>
  zLet (wI m1 16 8 p1) fun m3 =>
  some (.inl x2, m3)
def f_Loo_type (p1 : Int32) (m : Mm) : Option ((Int32 ⊕ Nat) × Mm) :=
  zLet (some (.inr 0, m)) fun j2 =>
  if p1 < 33 then
    j2
  else
    if p1 ≤ 126 then
      zBI (f_Txt_append 17 p1 m) fun v5 m4 =>
      if v5 = 0 then
        some (.inr 1, m4)
      else
        zBP (f_Txt_length 17 m4) fun v7 =>
        some (.inl v7, m4)
    else
      j2
def f_Loo_wipe (m : Mm) : Option (Int32 × Mm) :=
  zBP (f_Txt_length 17 m) fun v1 =>
  zBV (f_Txt_clear 17 m) fun m2 =>
  some (v1, m2)
def f_Loo_fault (m : Mm) : Option (Int32 × Mm) :=
  zBI (f_Par_readRule 17 m) fun v2 m1 =>
  some (v2, m1)
def f_Loo_questionFault (m : Mm) : Option (Int32 × Mm) :=
  zBI (f_Par_readQuestion 17 m) fun v2 m1 =>
  some (v2, m1)
def f_Loo_checkRank (p1 : Int32) (m : Mm) : Option ((Unit ⊕ Nat) × Mm) :=
  zLet (some (.inr 0, m)) fun j2 =>
  if p1 < 0 then
    j2
  else
    if p1 ≤ 9 then
      some (.inl (), m)
    else
      j2
def f_Loo_checkNames (m : Mm) : Option ((Unit ⊕ Nat) × Mm) :=
  zBQ 3 (f_Par_code m) fun q1 =>
  zBP (f_Alm_size m) fun v2 =>
  zBP (f_Cod_namesBeyond q1 v2 m) fun v3 =>
  if v3 = 0 then
    some (.inl (), m)
  else
    some (.inr 1, m)
def f_Loo_feast (p1 : Int32) (p2 : Int32) (m : Mm) : Option ((Int32 ⊕ Nat) × Mm) :=
  zBXV (f_Loo_checkRank p1 m) fun m1 =>
  zBI (f_Par_readRule 17 m1) fun v3 m2 =>
  if v3 = (-1) then
    zBP (f_Alm_isFull m2) fun v5 =>
    if v5 = 0 then
      zBXV (f_Loo_checkNames m2) fun m7 =>
      zBQ 3 (f_Par_code m7) fun q8 =>
      zBI (f_Alm_add 17 q8 m7) fun v10 m9 =>
      zBV (f_Alm_setRank v10 p1 p2 m9) fun m11 =>
      zBV (f_Txt_clear 17 m11) fun m12 =>
      some (.inl v10, m12)
    else
      some (.inr 1, m2)
  else
    some (.inr 0, m2)
def f_Loo_checkFeast (p1 : Int32) (m : Mm) : Option ((Unit ⊕ Nat) × Mm) :=
  zLet (some (.inr 2, m)) fun j2 =>
  if p1 < 0 then
    j2
  else
    zBP (f_Alm_size m) fun v3 =>
    if p1 < v3 then
      some (.inl (), m)
    else
      j2
def f_Loo_mend (p1 : Int32) (m : Mm) : Option ((Int32 ⊕ Nat) × Mm) :=
  zBXV (f_Loo_checkFeast p1 m) fun m1 =>
  zBI (f_Par_readRule 17 m1) fun v3 m2 =>
  if v3 = (-1) then
    zBXV (f_Loo_checkNames m2) fun m5 =>
    zBQ 3 (f_Par_code m5) fun q6 =>
    zBI (f_Alm_rewrite p1 17 q6 m5) fun v8 m7 =>
    if v8 = 0 then
      some (.inr 1, m7)
    else
      zBV (f_Txt_clear 17 m7) fun m10 =>
      zBQ 3 (f_Alm_code p1 m10) fun q11 =>
      zBP (f_Cod_size q11 m10) fun v12 =>
      some (.inl v12, m10)
  else
    some (.inr 0, m2)
def f_Loo_rank (p1 : Int32) (p2 : Int32) (p3 : Int32) (m : Mm) : Option ((Int32 ⊕ Nat) × Mm) :=
  zBXV (f_Loo_checkFeast p1 m) fun m1 =>
  zBXV (f_Loo_checkRank p2 m1) fun m2 =>
  zBP (f_Alm_rankOf p1 m2) fun v3 =>
  zBV (f_Alm_setRank p1 p2 p3 m2) fun m4 =>
  some (.inl v3, m4)
def f_Loo_dispense (p1 : Int32) (p2 : Int32) (p3 : Int32) (m : Mm) : Option ((Int32 ⊕ Nat) × Mm) :=
  zBXV (f_Loo_checkFeast p1 m) fun m1 =>
  zBXV (f_Loo_checkYear p2 m1) fun m2 =>
  zLet (zBI (f_Alm_grant p1 p2 p3 m2) fun v6 m5 =>
  if v6 = 0 then
    some (.inr 1, m5)
  else
    zBP (f_Alm_dispensations m5) fun v8 =>
    some (.inl v8, m5)) fun j4 =>
  if p3 = 99 then
    j4
  else
    zLet (some (.inr 0, m2)) fun j10 =>
    if p3 < (-30) then
      j10
    else
      if p3 ≤ 30 then
        j4
      else
        j10
def f_Loo_takeBack (p1 : Int32) (p2 : Int32) (m : Mm) : Option ((Int32 ⊕ Nat) × Mm) :=
  zBXV (f_Loo_checkFeast p1 m) fun m1 =>
  zBXV (f_Loo_checkYear p2 m1) fun m2 =>
  zBP (f_Alm_dispensationFor p1 p2 m2) fun v3 =>
  if v3 = (-1) then
    some (.inr 1, m2)
  else
    zBI (f_Alm_revoke v3 m2) fun v6 m5 =>
    some (.inl v6, m5)
def f_Loo_feasts (m : Mm) : Option Int32 :=
  zBP (f_Alm_size m) fun v1 =>
  some v1
def f_Loo_bent (p1 : Int32) (p2 : Int32) (m : Mm) : Option ((Int32 ⊕ Nat) × Mm) :=
  zBXV (f_Loo_checkFeast p1 m) fun m1 =>
  zBXV (f_Loo_checkYear p2 m1) fun m2 =>
  zBV (f_Boo_reckon 152 p2 (zI m2 16 8) m2) fun m3 =>
  zBP (f_Boo_bentDay 152 p1 m3) fun v4 =>
  some (.inl v4, m3)
def f_Loo_day (p1 : Int32) (p2 : Int32) (m : Mm) : Option ((Int32 ⊕ Nat) × Mm) :=
  zBXV (f_Loo_checkFeast p1 m) fun m1 =>
  zBXV (f_Loo_checkYear p2 m1) fun m2 =>
  zBV (f_Boo_reckon 152 p2 (zI m2 16 8) m2) fun m3 =>
  zBV (f_Boo_placeAll 152 m3) fun m4 =>
  zBP (f_Boo_placedDay 152 p1 m4) fun v5 =>
  some (.inl v5, m4)
def f_Loo_dayByDays (p1 : Int32) (p2 : Int32) (m : Mm) : Option ((Int32 ⊕ Nat) × Mm) :=
  zBXV (f_Loo_checkFeast p1 m) fun m1 =>
  zBXV (f_Loo_checkYear p2 m1) fun m2 =>
  zBV (f_Pla_readAll p2 (zI m2 16 8) m2) fun m3 =>
  zBV (f_Pla_goThroughDays p2 m3) fun m4 =>
  zBP (f_Pla_placedDay p1 m4) fun v5 =>
  some (.inl v5, m4)
def f_Loo_clashes (p1 : Int32) (m : Mm) : Option ((Int32 ⊕ Nat) × Mm) :=
  zBXV (f_Loo_checkYear p1 m) fun m1 =>
  zBV (f_Boo_reckon 152 p1 (zI m1 16 8) m1) fun m2 =>
  zBP (f_Boo_countClashes 152 m2) fun v3 =>
  some (.inl v3, m2)
def f_Loo_otherTable (m : Mm) : Option Int32 :=
  if (zI m 16 8) = 0 then
    some 1
  else
    some 0
def f_Loo_isMidnight (p1 : Int32) (p2 : Int32) (m : Mm) : Option ((Int32 ⊕ Nat) × Mm) :=
  zBXV (f_Loo_checkFeast p1 m) fun m1 =>
  zBXV (f_Loo_checkYear p2 m1) fun m2 =>
  zBV (f_Boo_reckon 152 p2 (zI m2 16 8) m2) fun m3 =>
  zBP (f_Loo_otherTable m3) fun v4 =>
  zBV (f_Boo_reckon 158 p2 v4 m3) fun m5 =>
  zBP (f_Boo_isNextTo 152 158 p1 m5) fun v6 =>
  if zBo v6 then some (.inl v6, m5) else none
def f_Loo_steps (p1 : Int32) (m : Mm) : Option ((Int32 ⊕ Nat) × Mm) :=
  zBXV (f_Loo_checkFeast p1 m) fun m1 =>
  zBQ 3 (f_Alm_code p1 m1) fun q2 =>
  zBP (f_Cod_size q2 m1) fun v3 =>
  some (.inl v3, m1)
def f_Loo_step (p1 : Int32) (p2 : Int32) (m : Mm) : Option ((Int32 ⊕ Nat) × Mm) :=
  zBXV (f_Loo_checkFeast p1 m) fun m1 =>
  zBQ 3 (f_Alm_code p1 m1) fun q2 =>
  zLet (some (.inr 2, m1)) fun j4 =>
  if p2 < 0 then
    j4
  else
    zBP (f_Cod_size q2 m1) fun v5 =>
    if p2 < v5 then
      zBP (f_Cod_kindAt q2 p2 m1) fun v7 =>
      zBP (f_Cod_argumentAt q2 p2 m1) fun v8 =>
      some (.inl ((10000 * v7) + v8), m1)
    else
      j4
def f_Loo_cost (p1 : Int32) (p2 : Int32) (m : Mm) : Option ((Int32 ⊕ Nat) × Mm) :=
  zBXV (f_Loo_checkFeast p1 m) fun m1 =>
  zBXV (f_Loo_checkYear p2 m1) fun m2 =>
  zBV (f_Boo_reckon 152 p2 (zI m2 16 8) m2) fun m3 =>
  zBP (f_Boo_costOf 152 p1 m3) fun v4 =>
  some (.inl v4, m3)
def f_Loo_yearCost (p1 : Int32) (m : Mm) : Option ((Int32 ⊕ Nat) × Mm) :=
  zBXV (f_Loo_checkYear p1 m) fun m1 =>
  zBV (f_Boo_reckon 152 p1 (zI m1 16 8) m1) fun m2 =>
  zBP (f_Boo_costOfAll 152 m2) fun v3 =>
  some (.inl v3, m2)
def f_Loo_search (p1 : Int32) (m : Mm) : Option ((Int32 ⊕ Nat) × Mm) :=
  zBXV (f_Loo_checkYear p1 m) fun m1 =>
  zBI (f_Par_readQuestion 17 m1) fun v3 m2 =>
  if v3 = (-1) then
    zBXV (f_Loo_checkNames m2) fun m5 =>
    zBQ 3 (f_Par_code m5) fun q6 =>
    zBV (f_Sol_start q6 p1 m5) fun m7 =>
    zBV (f_Txt_clear 17 m7) fun m8 =>
    zBV (f_Boo_reckon 152 p1 (zI m8 16 8) m8) fun m9 =>
    zBP (f_Boo_costOfAll 152 m9) fun v10 =>
    some (.inl v10, m9)
  else
    some (.inr 0, m2)
def f_Loo_goOn (p1 : Int32) (m : Mm) : Option ((Int32 ⊕ Nat) × Mm) :=
  zLet (some (.inr 0, m)) fun j2 =>
  if p1 < 1 then
    j2
  else
    if p1 ≤ 100000 then
      zBP (f_Sol_isStarted m) fun v4 =>
      if v4 = 0 then
        some (.inr 1, m)
      else
        zBI (f_Sol_look p1 152 (zI m 16 8) m) fun v7 m6 =>
        some (.inl v7, m6)
    else
      j2
def f_Loo_spent (m : Mm) : Option Int64 :=
  zBP (f_Sol_paid m) fun v1 =>
  some v1
def f_Loo_checkParish (p1 : Int32) (m : Mm) : Option ((Unit ⊕ Nat) × Mm) :=
  zLet (some (.inr 2, m)) fun j2 =>
  if p1 < 0 then
    j2
  else
    if p1 < 6 then
      some (.inl (), m)
    else
      j2
def f_Loo_bells (p1 : Int32) (p2 : Int32) (m : Mm) : Option ((Int32 ⊕ Nat) × Mm) :=
  zBXV (f_Loo_checkParish p1 m) fun m1 =>
  zLet (some (.inr 0, m1)) fun j3 =>
  if p2 < 0 then
    j3
  else
    if p2 ≤ 6 then
      zBI (f_Bel_hang p1 p2 m1) fun v6 m5 =>
      some (.inl v6, m5)
    else
      j3
def f_Loo_ringer (p1 : Int32) (p2 : Int32) (m : Mm) : Option ((Int32 ⊕ Nat) × Mm) :=
  zBXV (f_Loo_checkParish p1 m) fun m1 =>
  zLet (some (.inr 0, m1)) fun j3 =>
  if p2 < 0 then
    j3
  else
    if p2 ≤ 6 then
      zBI (f_Bel_hire p1 p2 m1) fun v6 m5 =>
      if v6 = (-1) then
        some (.inr 1, m5)
      else
        some (.inl v6, m5)
    else
      j3
def f_Loo_ringYear (p1 : Int32) (m : Mm) : Option Mm :=
  zBV (f_Boo_reckon 152 p1 (zI m 16 8) m) fun m1 =>
  zBP (f_Loo_otherTable m1) fun v2 =>
  zBV (f_Boo_reckon 158 p1 v2 m1) fun m3 =>
  zBV (f_Boo_placeAll 152 m3) fun m4 =>
  zBV (f_Bel_ringYear 152 158 m4) fun m5 =>
  some m5
def f_Loo_rings (p1 : Int32) (p2 : Int32) (p3 : Int32) (p4 : Int32) (m : Mm) : Option ((Int32 ⊕ Nat) × Mm) :=
  zBXV (f_Loo_checkFeast p1 m) fun m1 =>
  zBXV (f_Loo_checkParish p3 m1) fun m2 =>
  zBXV (f_Loo_checkYear p2 m2) fun m3 =>
  zLet (some (.inr 0, m3)) fun j5 =>
  if p4 < 0 then
    j5
  else
    if p4 < 6 then
      zBV (f_Loo_ringYear p2 m3) fun m7 =>
      zBP (f_Bel_ringerAt p1 p3 p4 m7) fun v8 =>
      some (.inl v8, m7)
    else
      j5
def f_Loo_silent (p1 : Int32) (m : Mm) : Option ((Int32 ⊕ Nat) × Mm) :=
  zBXV (f_Loo_checkYear p1 m) fun m1 =>
  zBV (f_Loo_ringYear p1 m1) fun m2 =>
  zBP (f_Bel_silences m2) fun v3 =>
  some (.inl v3, m2)
def f_Loo_peals (p1 : Int32) (p2 : Int32) (m : Mm) : Option ((Int32 ⊕ Nat) × Mm) :=
  zLet (some (.inr 2, m)) fun j2 =>
  if p1 < 0 then
    j2
  else
    zBP (f_Bel_size m) fun v3 =>
    if p1 < v3 then
      zBXV (f_Loo_checkYear p2 m) fun m5 =>
      zBV (f_Loo_ringYear p2 m5) fun m6 =>
      zBP (f_Bel_countOf p1 m6) fun v7 =>
      some (.inl v7, m6)
    else
      j2
-- 30.moda
def f_Mod_thrown (m : Mm) : Option Int32 :=
  some (zI m 201 0)
def f_Mod_isIn (p1 : Int32) (p2 : Int32) (p3 : Int32) (m : Mm) : Option Int32 :=
  zLet (some 0) fun j2 =>
  if p1 < p2 then
    j2
  else
    if p3 < p1 then
      j2
    else
      some 1
def f_Mod_isLeap (p1 : Int32) (m : Mm) : Option Int32 :=
  zLet (some 0) fun j2 =>
  if (p1 % 4) = 0 then
    zLet (some 1) fun j4 =>
    if (p1 % 100) = 0 then
      if (p1 % 400) = 0 then
        j4
      else
        j2
    else
      j4
  else
    j2
def f_Mod_lengthOf (p1 : Int32) (m : Mm) : Option Int32 :=
  zBP (f_Mod_isLeap p1 m) fun v1 =>
  if v1 = 0 then
    some 365
  else
    some 366
def f_Mod_beginOf (p1 : Int32) (m : Mm) : Option Int32 :=
  zLet (p1 - 1) fun x1 =>
  if p1 = 0 then
    some 0
  else
    some (((((365 * p1) + (x1 / 4)) - (x1 / 100)) + (x1 / 400)) + 1)
def f_Mod_lengthOfMonth (p1 : Int32) (p2 : Int32) (m : Mm) : Option Int32 :=
  if p1 = 2 then
    if p2 = 0 then
      some 28
    else
      some 29
  else
    zLet (some 30) fun j3 =>
    if p1 = 4 then
      j3
    else
      if p1 = 6 then
        j3
      else
        if p1 = 9 then
          j3
        else
          if p1 = 11 then
            j3
          else
            some 31
def f_Mod_beginOfMonth (p1 : Int32) (p2 : Int32) (m : Mm) : Option Int32 :=
  zLq2 (fun r3 x1 x2 =>
    if p2 ≤ x2 then
      some x1
    else
      zBP (f_Mod_isLeap p1 m) fun v5 =>
      zBP (f_Mod_lengthOfMonth x2 v5 m) fun v6 =>
      zLet (x1 + v6) fun x7 =>
      zLet (x2 + 1) fun x8 =>
      r3 x7 x8) zFu 0 1
def f_Mod_dateOf (p1 : Int32) (p2 : Int32) (m : Mm) : Option Int32 :=
  zLq2 (fun r3 x1 x2 =>
    zBP (f_Mod_isLeap p1 m) fun v4 =>
    zBP (f_Mod_lengthOfMonth x1 v4 m) fun v5 =>
    if x2 < v5 then
      some (((100 * x1) + x2) + 1)
    else
      zBP (f_Mod_isLeap p1 m) fun v7 =>
      zBP (f_Mod_lengthOfMonth x1 v7 m) fun v8 =>
      zLet (x2 - v8) fun x9 =>
      zLet (x1 + 1) fun x10 =>
      r3 x10 x9) zFu 1 p2
def f_Mod_weekday (p1 : Int32) (m : Mm) : Option Int32 :=
  some ((p1 + 6) % 7)
def f_Mod_floor (p1 : Int32) (p2 : Int32) (m : Mm) : Option Int32 :=
  if p1 < 0 then
    if ¬ p2 = 0 then
      some (-(((p2 - 1) - p1) / p2))
    else none
  else
    if ¬ p2 = 0 then
      some (p1 / p2)
    else none
def f_Mod_moonOf (p1 : Int32) (p2 : Int32) (m : Mm) : Option Int32 :=
  if p2 = 0 then
    zBP (f_Mod_floor (945 * p1) 32 m) fun v3 =>
    some (v3 + 5)
  else
    zBP (f_Mod_floor (6940 * p1) 235 m) fun v2 =>
    some (v2 + 6)
def f_Mod_lastMoon (p1 : Int32) (p2 : Int32) (m : Mm) : Option Int32 :=
  if p2 = 0 then
    zBP (f_Mod_floor ((32 * (p1 - 4)) - 1) 945 m) fun v3 =>
    some v3
  else
    zBP (f_Mod_floor ((235 * (p1 - 5)) - 1) 6940 m) fun v2 =>
    some v2
def f_Mod_ageOf (p1 : Int32) (p2 : Int32) (m : Mm) : Option Int32 :=
  zBP (f_Mod_lastMoon p1 p2 m) fun v1 =>
  zBP (f_Mod_moonOf v1 p2 m) fun v2 =>
  some (p1 - v2)
def f_Mod_begin (p1 : Int32) (m : Mm) : Option (Int32 × Mm) :=
  zBP (f_Mod_isIn p1 0 399 m) fun v1 =>
  zLet (fun (x3 : Int32) =>
    zLet (wI m 201 0 x3) fun m5 =>
    if (zI m5 201 0) ≤ 0 then
      zBP (f_Mod_beginOf p1 m5) fun v7 =>
      some (v7, m5)
    else
      some (0, m5)) fun j4 =>
  if v1 = 0 then
    j4 1
  else
    j4 0
def f_Mod_date (p1 : Int32) (p2 : Int32) (m : Mm) : Option (Int32 × Mm) :=
  zBP (f_Mod_isIn p1 0 399 m) fun v1 =>
  zLet (fun (x3 : Int32) =>
    zLet (wI m 201 0 x3) fun m5 =>
    if (zI m5 201 0) ≤ 0 then
      zBP (f_Mod_lengthOf p1 m5) fun v7 =>
      if v7 ≤ p2 then
        some ((-1), m5)
      else
        zBP (f_Mod_dateOf p1 p2 m5) fun v9 =>
        some (v9, m5)
    else
      some (0, m5)) fun j4 =>
  zLet (j4 1) fun j10 =>
  if v1 = 0 then
    j10
  else
    zBP (f_Mod_isIn p2 0 365 m) fun v11 =>
    if v11 = 0 then
      j10
    else
      j4 0
def f_Mod_age (p1 : Int32) (p2 : Int32) (m : Mm) : Option (Int32 × Mm) :=
  zBP (f_Mod_isIn p1 0 146096 m) fun v1 =>
  zLet (fun (x3 : Int32) =>
    zLet (wI m 201 0 x3) fun m5 =>
    if (zI m5 201 0) ≤ 0 then
      zBP (f_Mod_ageOf p1 p2 m5) fun v7 =>
      some (v7, m5)
    else
      some (0, m5)) fun j4 =>
  zLet (j4 1) fun j8 =>
  if v1 = 0 then
    j8
  else
    zBP (f_Mod_isIn p2 0 1 m) fun v9 =>
    if v9 = 0 then
      j8
    else
      j4 0
def f_Mod_table (p1 : Int32) (m : Mm) : Option (Int32 × Mm) :=
  zBP (f_Mod_isIn p1 0 1 m) fun v1 =>
  zLet (fun (x3 : Int32) =>
    zLet (wI m 201 0 x3) fun m5 =>
    if (zI m5 201 0) ≤ 0 then
      zLet (zI m5 201 1) fun x7 =>
      zLet (wI m5 201 1 p1) fun m8 =>
      some (x7, m8)
    else
      some (0, m5)) fun j4 =>
  if v1 = 0 then
    j4 1
  else
    j4 0
def f_Mod_type (p1 : Int32) (m : Mm) : Option (Int32 × Mm) :=
  zBP (f_Mod_isIn p1 33 126 m) fun v1 =>
  zLet (fun (x3 : Int32) =>
    zLet (wI m 201 0 x3) fun m5 =>
    if (zI m5 201 0) ≤ 0 then
      if zCh p1 then
        if zIn (zI m5 201 3) 40 then
          zLet (wI m5 202 (zIx (zI m5 201 3)) p1) fun m7 =>
          zLet (wI m7 201 3 ((zI m7 201 3) + 1)) fun m8 =>
          some ((zI m8 201 3), m8)
        else none
      else none
    else
      some (0, m5)) fun j4 =>
  if v1 = 0 then
    j4 1
  else
    if (zI m 201 3) = 40 then
      j4 2
    else
      j4 0
def f_Mod_wipe (m : Mm) : Option (Int32 × Mm) :=
  zLet (wI m 201 0 0) fun m1 =>
  zLet (zI m1 201 3) fun x2 =>
  zLet (wI m1 201 3 0) fun m3 =>
  some (x2, m3)
def f_Mod_push (p1 : Int32) (p2 : Int32) (m : Mm) : Option Mm :=
  if zIn (zI m 201 6) 500 then
    zLet (wI m 203 (zIx (zI m 201 6)) p1) fun m1 =>
    if zIn (zI m1 201 6) 500 then
      zLet (wI m1 204 (zIx (zI m1 201 6)) p2) fun m2 =>
      zLet (wI m2 201 6 ((zI m2 201 6) + 1)) fun m3 =>
      some m3
    else none
  else none
def f_Mod_emits (p1 : Int32) (p2 : Int32) (m : Mm) : Option Mm :=
  if zIn (zI m 201 11) 80 then
    zLet (wI m 206 (zIx (zI m 201 11)) p1) fun m1 =>
    if zIn (zI m1 201 11) 80 then
      zLet (wI m1 207 (zIx (zI m1 201 11)) p2) fun m2 =>
      zLet (wI m2 201 11 ((zI m2 201 11) + 1)) fun m3 =>
      some m3
    else none
  else none
def f_Mod_jumps (p1 : Int32) (m : Mm) : Option Mm :=
  if zIn (zI m 201 8) 100 then
    zLet (wI m 205 (zIx (zI m 201 8)) (zI m 201 11)) fun m1 =>
    zLet (wI m1 201 8 ((zI m1 201 8) + 1)) fun m2 =>
    zBV (f_Mod_emits p1 0 m2) fun m3 =>
    some m3
  else none
def f_Mod_lands (m : Mm) : Option Mm :=
  zLet (wI m 201 8 ((zI m 201 8) - 1)) fun m1 =>
  if zIn (zI m1 201 8) 100 then
    if zIn (zI m1 205 (zIx (zI m1 201 8))) 80 then
      zLet (wI m1 207 (zIx (zI m1 205 (zIx (zI m1 201 8)))) (zI m1 201 11)) fun m2 =>
      some m2
    else none
  else none
def f_Mod_endsDays (m : Mm) : Option Mm :=
  zLet (fun (m2 : Mm) =>
    zLet (wI m2 201 15 0) fun m4 =>
    zLet (wI m4 201 16 0) fun m5 =>
    some m5) fun j3 =>
  if (zI m 201 15) = 0 then
    j3 m
  else
    if (zI m 201 16) = 0 then
      j3 m
    else
      zBV (f_Mod_emits 5 (5000 + (zI m 201 16)) m) fun m7 =>
      j3 m7
def f_Mod_pushFeast (m : Mm) : Option Mm :=
  zBV (f_Mod_push 19 0 m) fun m1 =>
  zBV (f_Mod_push 18 0 m1) fun m2 =>
  some m2
def f_Mod_pushMonth (m : Mm) : Option Mm :=
  zBV (f_Mod_push 13 0 m) fun m1 =>
  zBV (f_Mod_push 12 0 m1) fun m2 =>
  some m2
-- 31.modb
def f_Mod_pushDate (m : Mm) : Option Mm :=
  zBV (f_Mod_push 15 0 m) fun m1 =>
  zBV (f_Mod_push 14 0 m1) fun m2 =>
  zBV (f_Mod_pushMonth m2) fun m3 =>
  some m3
def f_Mod_acts (m : Mm) : Option Mm :=
  if (zI m 201 6) ≤ 0 then
    some m
  else
    if zIn ((zI m 201 6) - 1) 500 then
      if (zI m 203 (zIx ((zI m 201 6) - 1))) = 10 then
        zLet (wI m 201 6 ((zI m 201 6) - 1)) fun m3 =>
        if zIn (zI m3 201 6) 500 then
          zBV (f_Mod_emits (zI m3 204 (zIx (zI m3 201 6))) (zI m3 201 12) m3) fun m4 =>
          zLet (wI m4 201 12 0) fun m5 =>
          zLp0 (fun r6 m7 =>
            if (zI m7 201 6) ≤ 0 then
              some m7
            else
              if zIn ((zI m7 201 6) - 1) 500 then
                if (zI m7 203 (zIx ((zI m7 201 6) - 1))) = 10 then
                  zLet (wI m7 201 6 ((zI m7 201 6) - 1)) fun m10 =>
                  if zIn (zI m10 201 6) 500 then
                    zBV (f_Mod_emits (zI m10 204 (zIx (zI m10 201 6))) (zI m10 201 12) m10) fun m11 =>
                    zLet (wI m11 201 12 0) fun m12 =>
                    r6 m12
                  else none
                else
                  some m7
              else none) zFu m5
        else none
      else
        some m
    else none
def f_Mod_takesDigit (p1 : Int32) (p2 : Int32) (m : Mm) : Option (Int32 × Mm) :=
  zLet (p2 - 48) fun x1 =>
  zLet (fun (x3 : Int32) =>
    zBP (f_Mod_lengthOfMonth x3 1 m) fun v5 =>
    zBP (f_Mod_isIn x1 0 9 m) fun v6 =>
    zLet (fun (x8 : Int32) =>
      if x8 = 0 then
        if zBo x8 then some (x8, m) else none
      else
        zLet (fun (x12 : Int32) =>
          zLet (wI m 201 14 x12) fun m14 =>
          zLet (wI m14 201 13 x1) fun m15 =>
          zLet (wI m15 201 12 ((10 * (zI m15 201 12)) + x1)) fun m16 =>
          zLet (wI m16 201 6 ((zI m16 201 6) - 1)) fun m17 =>
          if zBo x8 then some (x8, m17) else none) fun j13 =>
        if p1 = 13 then
          j13 ((10 * (zI m 201 13)) + x1)
        else
          j13 (zI m 201 14)) fun j9 =>
    if p1 = 12 then
      zLet (fun (x60 : Int32) =>
        j9 x60) fun j61 =>
      zLet (j61 0) fun j62 =>
      if v6 = 0 then
        j62
      else
        if 1 < x1 then
          j62
        else
          j61 1
    else
      if p1 = 13 then
        zLet (fun (x52 : Int32) =>
          j9 x52) fun j53 =>
        zLet (j53 0) fun j54 =>
        if v6 = 0 then
          j54
        else
          zLet (j53 1) fun j56 =>
          if (zI m 201 13) = 0 then
            if x1 ≤ 0 then
              j54
            else
              j56
          else
            if 2 < x1 then
              j54
            else
              j56
      else
        if p1 = 14 then
          zLet (fun (x47 : Int32) =>
            j9 x47) fun j48 =>
          zLet (j48 0) fun j49 =>
          if v6 = 0 then
            j49
          else
            if (v5 / 10) < x1 then
              j49
            else
              j48 1
        else
          if p1 = 15 then
            zLet (fun (x41 : Int32) =>
              j9 x41) fun j42 =>
            zLet (j42 0) fun j43 =>
            if v6 = 0 then
              j43
            else
              if ((10 * (zI m 201 13)) + x1) < 1 then
                j43
              else
                if v5 < ((10 * (zI m 201 13)) + x1) then
                  j43
                else
                  j42 1
          else
            if p1 = 16 then
              zLet (fun (x35 : Int32) =>
                j9 x35) fun j36 =>
              zLet (j36 0) fun j37 =>
              if v6 = 0 then
                j37
              else
                zBP (f_Mod_isIn x1 1 5 m) fun v38 =>
                if v38 = 0 then
                  j37
                else
                  j36 1
            else
              if p1 = 17 then
                zLet (fun (x30 : Int32) =>
                  j9 x30) fun j31 =>
                zLet (j31 0) fun j32 =>
                if v6 = 0 then
                  j32
                else
                  if 6 < x1 then
                    j32
                  else
                    j31 1
              else
                if p1 = 18 then
                  zLet (fun (x25 : Int32) =>
                    j9 x25) fun j26 =>
                  zLet (j26 0) fun j27 =>
                  if v6 = 0 then
                    j27
                  else
                    if 1 < x1 then
                      j27
                    else
                      j26 1
                else
                  j9 v6) fun j4 =>
  if (zI m 201 14) = 0 then
    j4 1
  else
    j4 (zI m 201 14)
def f_Mod_takesStart (p1 : Int32) (m : Mm) : Option (Int32 × Mm) :=
  zLet (wI m 201 6 ((zI m 201 6) - 1)) fun m1 =>
  zBV (f_Mod_push 1 0 m1) fun m2 =>
  if p1 = 68 then
    zBV (f_Mod_push 10 1 m2) fun m16 =>
    zBV (f_Mod_pushDate m16) fun m17 =>
    some (1, m17)
  else
    if p1 = 78 then
      zBV (f_Mod_push 10 2 m2) fun m12 =>
      zBV (f_Mod_pushMonth m12) fun m13 =>
      zBV (f_Mod_push 17 0 m13) fun m14 =>
      zBV (f_Mod_push 16 0 m14) fun m15 =>
      some (1, m15)
    else
      if p1 = 76 then
        zBV (f_Mod_push 10 3 m2) fun m9 =>
        zBV (f_Mod_pushMonth m9) fun m10 =>
        zBV (f_Mod_push 17 0 m10) fun m11 =>
        some (1, m11)
      else
        if p1 = 70 then
          zBV (f_Mod_push 10 4 m2) fun m7 =>
          zBV (f_Mod_pushFeast m7) fun m8 =>
          some (1, m8)
        else
          some (0, m2)
def f_Mod_takesStep (p1 : Int32) (m : Mm) : Option (Int32 × Mm) :=
  zLet (zLet (wI m 201 15 1) fun m3 =>
  zLet (wI m3 201 17 0) fun m4 =>
  zLet (wI m4 201 18 0) fun m5 =>
  zLet (fun (x7 : Int32) =>
    zBV (f_Mod_push 11 x7 m5) fun m9 =>
    some (1, m9)) fun j8 =>
  if p1 = 43 then
    j8 1
  else
    j8 (-1)) fun j2 =>
  if p1 = 43 then
    j2
  else
    if p1 = 45 then
      j2
    else
      zBV (f_Mod_endsDays m) fun m11 =>
      zLet (fun (x13 : Int32) =>
        zLet (fun (m16 : Mm) =>
          zLet (some (1, m16)) fun j19 =>
          if 0 < x13 then
            j19
          else
            if p1 = 63 then
              j19
            else
              some (0, m16)) fun j17 =>
        if x13 < 10 then
          if x13 ≤ 0 then
            if p1 = 63 then
              zBV (f_Mod_push 6 0 m11) fun m23 =>
              zBV (f_Mod_push 5 0 m23) fun m24 =>
              zBV (f_Mod_push 2 0 m24) fun m25 =>
              zBV (f_Mod_push 4 0 m25) fun m26 =>
              zBV (f_Mod_push 3 0 m26) fun m27 =>
              j17 m27
            else
              j17 m11
          else
            zBV (f_Mod_push 10 x13 m11) fun m28 =>
            zBV (f_Mod_push 17 0 m28) fun m29 =>
            j17 m29
        else
          zBV (f_Mod_emits x13 0 m11) fun m30 =>
          j17 m30) fun j14 =>
      if p1 = 62 then
        j14 6
      else
        if p1 = 60 then
          j14 7
        else
          if p1 = 93 then
            j14 8
          else
            if p1 = 91 then
              j14 9
            else
              if p1 = 79 then
                j14 10
              else
                if p1 = 81 then
                  j14 11
                else
                  if p1 = 88 then
                    j14 12
                  else
                    j14 0
def f_Mod_takesCondition (p1 : Int32) (m : Mm) : Option (Int32 × Mm) :=
  zLet (wI m 201 6 ((zI m 201 6) - 1)) fun m1 =>
  if p1 = 87 then
    zBV (f_Mod_push 10 13 m1) fun m19 =>
    zBV (f_Mod_push 17 0 m19) fun m20 =>
    some (1, m20)
  else
    if p1 = 89 then
      zBV (f_Mod_emits 14 0 m1) fun m18 =>
      some (1, m18)
    else
      if p1 = 65 then
        zBV (f_Mod_push 10 15 m1) fun m16 =>
        zBV (f_Mod_pushFeast m16) fun m17 =>
        some (1, m17)
      else
        if p1 = 69 then
          zBV (f_Mod_push 10 16 m1) fun m14 =>
          zBV (f_Mod_pushDate m14) fun m15 =>
          some (1, m15)
        else
          if p1 = 33 then
            zBV (f_Mod_push 10 17 m1) fun m12 =>
            zBV (f_Mod_push 3 0 m12) fun m13 =>
            some (1, m13)
          else
            if p1 = 40 then
              zBV (f_Mod_push 9 0 m1) fun m8 =>
              zBV (f_Mod_push 3 0 m8) fun m9 =>
              zBV (f_Mod_push 8 0 m9) fun m10 =>
              zBV (f_Mod_push 3 0 m10) fun m11 =>
              some (1, m11)
            else
              some (0, m1)
-- 32.modc
def f_Mod_takesAsk (p1 : Int32) (m : Mm) : Option (Int32 × Mm) :=
  zLet (wI m 201 6 ((zI m 201 6) - 1)) fun m1 =>
  if p1 = 67 then
    zBV (f_Mod_emits 1 0 m1) fun m26 =>
    some (1, m26)
  else
    if p1 = 68 then
      zBV (f_Mod_push 10 2 m1) fun m23 =>
      zBV (f_Mod_pushDate m23) fun m24 =>
      zBV (f_Mod_pushFeast m24) fun m25 =>
      some (1, m25)
    else
      if p1 = 87 then
        zBV (f_Mod_push 10 3 m1) fun m20 =>
        zBV (f_Mod_push 17 0 m20) fun m21 =>
        zBV (f_Mod_pushFeast m21) fun m22 =>
        some (1, m22)
      else
        if p1 = 78 then
          zBV (f_Mod_push 10 4 m1) fun m18 =>
          zBV (f_Mod_pushFeast m18) fun m19 =>
          some (1, m19)
        else
          if p1 = 66 then
            zBV (f_Mod_push 10 5 m1) fun m15 =>
            zBV (f_Mod_pushFeast m15) fun m16 =>
            zBV (f_Mod_pushFeast m16) fun m17 =>
            some (1, m17)
          else
            if p1 = 33 then
              zBV (f_Mod_push 10 6 m1) fun m13 =>
              zBV (f_Mod_push 20 0 m13) fun m14 =>
              some (1, m14)
            else
              if p1 = 40 then
                zBV (f_Mod_push 22 0 m1) fun m9 =>
                zBV (f_Mod_push 20 0 m9) fun m10 =>
                zBV (f_Mod_push 21 0 m10) fun m11 =>
                zBV (f_Mod_push 20 0 m11) fun m12 =>
                some (1, m12)
              else
                some (0, m1)
def f_Mod_takesMark (p1 : Int32) (p2 : Int32) (m : Mm) : Option (Int32 × Mm) :=
  zLet (zLet (zLet (zLet (zLet (if p1 = 22 then
    if p2 = 41 then
      zLet (wI m 201 6 ((zI m 201 6) - 1)) fun m13 =>
      zLet (wI m13 201 8 ((zI m13 201 8) - 1)) fun m14 =>
      if zIn (zI m14 201 8) 100 then
        zBV (f_Mod_emits (zI m14 205 (zIx (zI m14 201 8))) 0 m14) fun m15 =>
        some (1, m15)
      else none
    else
      some (0, m)
  else
    some (0, m)) fun j10 =>
  if p1 = 21 then
    zLet (zLet (wI m 201 6 ((zI m 201 6) - 1)) fun m18 =>
    zLet (fun (x20 : Int32) =>
      if zIn (zI m18 201 8) 100 then
        zLet (wI m18 205 (zIx (zI m18 201 8)) x20) fun m22 =>
        zLet (wI m22 201 8 ((zI m22 201 8) + 1)) fun m23 =>
        some (1, m23)
      else none) fun j21 =>
    if p2 = 38 then
      j21 7
    else
      j21 8) fun j17 =>
    if p2 = 38 then
      j17
    else
      if p2 = 124 then
        j17
      else
        j10
  else
    j10) fun j8 =>
  if p1 = 9 then
    if p2 = 41 then
      zLet (wI m 201 6 ((zI m 201 6) - 1)) fun m26 =>
      zBV (f_Mod_lands m26) fun m27 =>
      some (1, m27)
    else
      j8
  else
    j8) fun j6 =>
  if p1 = 8 then
    zLet (zLet (wI m 201 6 ((zI m 201 6) - 1)) fun m30 =>
    zLet (fun (x32 : Int32) =>
      zBV (f_Mod_jumps x32 m30) fun m34 =>
      some (1, m34)) fun j33 =>
    if p2 = 38 then
      j33 19
    else
      j33 20) fun j29 =>
    if p2 = 38 then
      j29
    else
      if p2 = 124 then
        j29
      else
        j6
  else
    j6) fun j4 =>
  zLet (if p2 = 125 then
    zLet (wI m 201 6 ((zI m 201 6) - 1)) fun m38 =>
    if p1 = 7 then
      zBV (f_Mod_lands m38) fun m40 =>
      some (1, m40)
    else
      some (1, m38)
  else
    j4) fun j36 =>
  if p1 = 5 then
    j36
  else
    if p1 = 7 then
      j36
    else
      j4) fun j2 =>
  if p1 = 4 then
    if p2 = 123 then
      zLet (wI m 201 6 ((zI m 201 6) - 1)) fun m43 =>
      zBV (f_Mod_jumps 19 m43) fun m44 =>
      some (1, m44)
    else
      j2
  else
    j2
def f_Mod_leaves (p1 : Int32) (m : Mm) : Option Mm :=
  zLp1 (fun r2 x1 m3 =>
    if x1 = 0 then
      some m3
    else
      if (zI m3 201 6) ≤ 0 then
        some m3
      else
        if zIn ((zI m3 201 6) - 1) 500 then
          zLet (zI m3 203 (zIx ((zI m3 201 6) - 1))) fun x6 =>
          zBP (f_Mod_isIn p1 48 57 m3) fun v7 =>
          zLet (zLet (if x6 = 2 then
            if p1 = 125 then
              zBV (f_Mod_endsDays m3) fun m14 =>
              zLet (wI m14 201 6 ((zI m14 201 6) - 1)) fun m15 =>
              r2 0 m15
            else
              r2 0 m3
          else
            r2 0 m3) fun j11 =>
          if x6 = 6 then
            if p1 = 123 then
              j11
            else
              zBV (f_Mod_lands m3) fun m17 =>
              zLet (wI m17 201 6 ((zI m17 201 6) - 1)) fun m18 =>
              r2 1 m18
          else
            j11) fun j9 =>
          if x6 = 11 then
            if (zI m3 201 18) ≤ 0 then
              j9
            else
              if v7 = 0 then
                if zIn ((zI m3 201 6) - 1) 500 then
                  zLet (wI m3 201 16 ((zI m3 201 16) + ((zI m3 204 (zIx ((zI m3 201 6) - 1))) * (zI m3 201 17)))) fun m21 =>
                  zLet (wI m21 201 6 ((zI m21 201 6) - 1)) fun m22 =>
                  r2 1 m22
                else none
              else
                j9
          else
            j9
        else none) zFu 1 m
def f_Mod_takesNumber (p1 : Int32) (m : Mm) : Option (Int32 × Mm) :=
  zLet (p1 - 48) fun x1 =>
  zBP (f_Mod_isIn x1 0 9 m) fun v2 =>
  if v2 = 0 then
    some (0, m)
  else
    if (zI m 201 18) = 3 then
      some (0, m)
    else
      if ((10 * (zI m 201 17)) + x1) ≤ 366 then
        zLet (wI m 201 17 ((10 * (zI m 201 17)) + x1)) fun m6 =>
        zLet (wI m6 201 18 ((zI m6 201 18) + 1)) fun m7 =>
        some (1, m7)
      else
        some (0, m)
def f_Mod_takes (p1 : Int32) (m : Mm) : Option (Int32 × Mm) :=
  zBV (f_Mod_leaves p1 m) fun m1 =>
  if (zI m1 201 6) = 0 then
    some (0, m1)
  else
    if zIn ((zI m1 201 6) - 1) 500 then
      zLet (zI m1 203 (zIx ((zI m1 201 6) - 1))) fun x3 =>
      if x3 = 0 then
        zBI (f_Mod_takesStart p1 m1) fun v34 m33 =>
        if zBo v34 then some (v34, m33) else none
      else
        zLet (zBI (f_Mod_takesStep p1 m1) fun v8 m7 =>
        if zBo v8 then some (v8, m7) else none) fun j6 =>
        if x3 = 1 then
          j6
        else
          if x3 = 2 then
            j6
          else
            if x3 = 3 then
              zBI (f_Mod_takesCondition p1 m1) fun v32 m31 =>
              if zBo v32 then some (v32, m31) else none
            else
              if x3 = 20 then
                zBI (f_Mod_takesAsk p1 m1) fun v30 m29 =>
                if zBo v30 then some (v30, m29) else none
              else
                if x3 = 11 then
                  zBI (f_Mod_takesNumber p1 m1) fun v28 m27 =>
                  if zBo v28 then some (v28, m27) else none
                else
                  if x3 = 6 then
                    if zIn ((zI m1 201 8) - 1) 100 then
                      zLet (zI m1 205 (zIx ((zI m1 201 8) - 1))) fun x21 =>
                      zLet (wI m1 201 8 ((zI m1 201 8) - 1)) fun m22 =>
                      zBV (f_Mod_jumps 18 m22) fun m23 =>
                      if zIn x21 80 then
                        zLet (wI m23 207 (zIx x21) (zI m23 201 11)) fun m24 =>
                        if zIn ((zI m24 201 6) - 1) 500 then
                          zLet (wI m24 203 (zIx ((zI m24 201 6) - 1)) 7) fun m25 =>
                          zBV (f_Mod_push 2 0 m25) fun m26 =>
                          some (1, m26)
                        else none
                      else none
                    else none
                  else
                    zLet (zBI (f_Mod_takesMark x3 p1 m1) fun v17 m16 =>
                    if zBo v17 then some (v17, m16) else none) fun j15 =>
                    if x3 < 12 then
                      j15
                    else
                      if 19 < x3 then
                        j15
                      else
                        zBI (f_Mod_takesDigit x3 p1 m1) fun v20 m19 =>
                        if zBo v20 then some (v20, m19) else none
    else none
-- 33.modd
def f_Mod_reads (p1 : Int32) (m : Mm) : Option (Int32 × Mm) :=
  zLet (wI m 201 6 0) fun m1 =>
  zLet (wI m1 201 8 0) fun m2 =>
  zLet (wI m2 201 11 0) fun m3 =>
  zLet (wI m3 201 12 0) fun m4 =>
  zLet (wI m4 201 14 0) fun m5 =>
  zLet (wI m5 201 15 0) fun m6 =>
  zLet (wI m6 201 16 0) fun m7 =>
  zBV (f_Mod_push p1 0 m7) fun m8 =>
  zLp1 (fun r10 x9 m11 =>
    if (zI m11 201 3) ≤ x9 then
      zBV (f_Mod_leaves 0 m11) fun m13 =>
      zLet (if (zI m13 201 6) = 0 then
        some ((-1), m13)
      else
        some ((zI m13 201 3), m13)) fun j15 =>
      if (zI m13 201 6) = 1 then
        if zIn 0 500 then
          if (zI m13 203 (zIx 0)) = 1 then
            zBV (f_Mod_endsDays m13) fun m18 =>
            some ((-1), m18)
          else
            j15
        else none
      else
        j15
    else
      if zIn x9 40 then
        zBI (f_Mod_takes (zI m11 202 (zIx x9)) m11) fun v20 m19 =>
        if v20 = 0 then
          some (x9, m19)
        else
          zBV (f_Mod_acts m19) fun m22 =>
          zLet (x9 + 1) fun x23 =>
          r10 x23 m22
      else none) zFu 0 m8
def f_Mod_fault (m : Mm) : Option (Int32 × Mm) :=
  zLet (wI m 201 0 0) fun m1 =>
  zBI (f_Mod_reads 0 m1) fun v3 m2 =>
  some (v3, m2)
def f_Mod_questionFault (m : Mm) : Option (Int32 × Mm) :=
  zLet (wI m 201 0 0) fun m1 =>
  zBI (f_Mod_reads 20 m1) fun v3 m2 =>
  some (v3, m2)
def f_Mod_areThere (m : Mm) : Option Int32 :=
  zLq2 (fun r3 x1 x2 =>
    if (zI m 201 11) ≤ x2 then
      if zBo x1 then some x1 else none
    else
      zLet (fun (x6 : Int32) =>
        zLet (x2 + 1) fun x8 =>
        r3 x6 x8) fun j7 =>
      zLet (j7 0) fun j9 =>
      if x1 = 0 then
        j9
      else
        if zIn x2 80 then
          zLet (j7 1) fun j11 =>
          zLet (if zIn x2 80 then
            if (zI m 201 19) ≤ (zI m 207 (zIx x2)) then
              j9
            else
              j11
          else none) fun j12 =>
          if (zI m 206 (zIx x2)) = 4 then
            j12
          else
            if zIn x2 80 then
              if (zI m 206 (zIx x2)) = 15 then
                j12
              else
                j11
            else none
        else none) zFu 1 0
def f_Mod_keeps (p1 : Int32) (m : Mm) : Option Mm :=
  if zIn p1 20 then
    zLet (wI m 210 (zIx p1) (zI m 201 11)) fun m1 =>
    zLp1 (fun r3 x2 m4 =>
      if (zI m4 201 11) ≤ x2 then
        zLet (wI m4 201 3 0) fun m6 =>
        some m6
      else
        if zIn x2 80 then
          if zIn ((80 * p1) + x2) 1600 then
            zLet (wI m4 211 (zIx ((80 * p1) + x2)) (zI m4 206 (zIx x2))) fun m7 =>
            if zIn x2 80 then
              if zIn ((80 * p1) + x2) 1600 then
                zLet (wI m7 212 (zIx ((80 * p1) + x2)) (zI m7 207 (zIx x2))) fun m8 =>
                zLet (x2 + 1) fun x9 =>
                r3 x9 m8
              else none
            else none
          else none
        else none) zFu 0 m1
  else none
def f_Mod_feast (p1 : Int32) (p2 : Int32) (m : Mm) : Option (Int32 × Mm) :=
  zBP (f_Mod_isIn p1 0 9 m) fun v1 =>
  zLet (fun (x3 : Int32) (m4 : Mm) =>
    zLet (wI m4 201 0 x3) fun m6 =>
    if (zI m6 201 0) ≤ 0 then
      zBV (f_Mod_keeps (zI m6 201 19) m6) fun m8 =>
      if zIn (zI m8 201 19) 20 then
        zLet (wI m8 208 (zIx (zI m8 201 19)) p1) fun m9 =>
        if zBo p2 then
          if zIn (zI m9 201 19) 20 then
            zLet (wI m9 209 (zIx (zI m9 201 19)) p2) fun m10 =>
            zLet (wI m10 201 19 ((zI m10 201 19) + 1)) fun m11 =>
            some (((zI m11 201 19) - 1), m11)
          else none
        else none
      else none
    else
      some (0, m6)) fun j5 =>
  zLet (fun (m12 : Mm) =>
    j5 1 m12) fun j13 =>
  if v1 = 0 then
    j13 m
  else
    zBI (f_Mod_reads 0 m) fun v15 m14 =>
    if v15 = (-1) then
      zLet (j5 2 m14) fun j18 =>
      if (zI m14 201 19) = 20 then
        j18
      else
        zBP (f_Mod_areThere m14) fun v19 =>
        if v19 = 0 then
          j18
        else
          j5 0 m14
    else
      j13 m14
def f_Mod_isFeast (p1 : Int32) (m : Mm) : Option Int32 :=
  zBP (f_Mod_isIn p1 0 ((zI m 201 19) - 1) m) fun v1 =>
  if zBo v1 then some v1 else none
def f_Mod_named (p1 : Int32) (m : Mm) : Option Int32 :=
  zLq2 (fun r3 x1 x2 =>
    if zIn p1 20 then
      if (zI m 210 (zIx p1)) ≤ x2 then
        some x1
      else
        if zIn ((80 * p1) + x2) 1600 then
          zLet (zI m 211 (zIx ((80 * p1) + x2))) fun x5 =>
          zLet (fun (x7 : Int32) =>
            zLet (x1 ||| x7) fun x9 =>
            zLet (x2 + 1) fun x10 =>
            r3 x9 x10) fun j8 =>
          zLet (if zIn ((80 * p1) + x2) 1600 then
            j8 (1 <<< ((zI m 212 (zIx ((80 * p1) + x2))) &&& 31))
          else none) fun j11 =>
          if x5 = 4 then
            j11
          else
            if x5 = 15 then
              j11
            else
              j8 0
        else none
    else none) zFu 0 0
def f_Mod_needsItself (p1 : Int32) (m : Mm) : Option Int32 :=
  zLq2 (fun r3 x1 x2 =>
    if (zI m 201 11) ≤ x2 then
      zLq2 (fun r7 x5 x6 =>
        if (zI m 201 19) ≤ x6 then
          if ((x5 >>> (p1 &&& 31)) &&& 1) = 1 then
            some 1
          else
            some 0
        else
          zLq2 (fun r12 x10 x11 =>
            if (zI m 201 19) ≤ x11 then
              zLet (x6 + 1) fun x14 =>
              r7 x10 x14
            else
              zLet (fun (x16 : Int32) =>
                zLet (x10 ||| x16) fun x18 =>
                zLet (x11 + 1) fun x19 =>
                r12 x18 x19) fun j17 =>
              zLet (j17 0) fun j20 =>
              if ((x10 >>> (x11 &&& 31)) &&& 1) = 1 then
                if x11 = p1 then
                  j20
                else
                  zBP (f_Mod_named x11 m) fun v22 =>
                  j17 v22
              else
                j20) zFu x5 0) zFu x1 0
    else
      if zIn x2 80 then
        zLet (fun (x24 : Int32) =>
          zLet (x1 ||| x24) fun x26 =>
          zLet (x2 + 1) fun x27 =>
          r3 x26 x27) fun j25 =>
        zLet (if zIn x2 80 then
          j25 (1 <<< ((zI m 207 (zIx x2)) &&& 31))
        else none) fun j28 =>
        if (zI m 206 (zIx x2)) = 4 then
          j28
        else
          if zIn x2 80 then
            if (zI m 206 (zIx x2)) = 15 then
              j28
            else
              j25 0
          else none
      else none) zFu 0 0
def f_Mod_mend (p1 : Int32) (m : Mm) : Option (Int32 × Mm) :=
  zBP (f_Mod_isFeast p1 m) fun v1 =>
  zLet (fun (x3 : Int32) (m4 : Mm) =>
    zLet (wI m4 201 0 x3) fun m6 =>
    if (zI m6 201 0) ≤ 0 then
      zBP (f_Mod_areThere m6) fun v8 =>
      zLet (fun (x10 : Int32) =>
        zLet (wI m6 201 0 x10) fun m12 =>
        if (zI m12 201 0) ≤ 0 then
          zBV (f_Mod_keeps p1 m12) fun m14 =>
          if zIn p1 20 then
            some ((zI m14 210 (zIx p1)), m14)
          else none
        else
          some (0, m12)) fun j11 =>
      zLet (j11 3) fun j15 =>
      if v8 = 0 then
        j15
      else
        zBP (f_Mod_needsItself p1 m6) fun v16 =>
        if v16 = 0 then
          j11 0
        else
          j15
    else
      some (0, m6)) fun j5 =>
  if v1 = 0 then
    j5 1 m
  else
    zBI (f_Mod_reads 0 m) fun v19 m18 =>
    if v19 = (-1) then
      j5 0 m18
    else
      j5 2 m18
def f_Mod_rank (p1 : Int32) (p2 : Int32) (p3 : Int32) (m : Mm) : Option (Int32 × Mm) :=
  zBP (f_Mod_isFeast p1 m) fun v1 =>
  zLet (fun (x3 : Int32) =>
    zLet (wI m 201 0 x3) fun m5 =>
    if (zI m5 201 0) ≤ 0 then
      if zIn p1 20 then
        zLet (zI m5 208 (zIx p1)) fun x7 =>
        if zIn p1 20 then
          zLet (wI m5 208 (zIx p1) p2) fun m8 =>
          if zBo p3 then
            if zIn p1 20 then
              zLet (wI m8 209 (zIx p1) p3) fun m9 =>
              some (x7, m9)
            else none
          else none
        else none
      else none
    else
      some (0, m5)) fun j4 =>
  if v1 = 0 then
    j4 1
  else
    zBP (f_Mod_isIn p2 0 9 m) fun v10 =>
    if v10 = 0 then
      j4 2
    else
      j4 0
def f_Mod_isYear (p1 : Int32) (m : Mm) : Option Int32 :=
  zBP (f_Mod_isIn p1 0 399 m) fun v1 =>
  if zBo v1 then some v1 else none
def f_Mod_dispense (p1 : Int32) (p2 : Int32) (p3 : Int32) (m : Mm) : Option (Int32 × Mm) :=
  zBP (f_Mod_isFeast p1 m) fun v1 =>
  zLet (fun (x3 : Int32) =>
    zLet (wI m 201 0 x3) fun m5 =>
    if (zI m5 201 0) ≤ 0 then
      zLet (fun (x8 : Int32) =>
        zLq2 (fun r12 x10 x11 =>
          if (zI m5 201 25) ≤ x11 then
            zLet (fun (x15 : Int32) =>
              zLet (wI m5 201 0 x15) fun m17 =>
              if (zI m17 201 0) ≤ 0 then
                if zIn (zI m17 201 25) 30 then
                  zLet (wI m17 213 (zIx (zI m17 201 25)) p1) fun m19 =>
                  if zIn (zI m19 201 25) 30 then
                    zLet (wI m19 214 (zIx (zI m19 201 25)) p2) fun m20 =>
                    if zIn (zI m20 201 25) 30 then
                      zLet (wI m20 215 (zIx (zI m20 201 25)) p3) fun m21 =>
                      zLet (wI m21 201 25 ((zI m21 201 25) + 1)) fun m22 =>
                      some ((zI m22 201 25), m22)
                    else none
                  else none
                else none
              else
                some (0, m17)) fun j16 =>
            if x10 = 0 then
              j16 3
            else
              j16 0
          else
            if zIn x11 30 then
              zLet ((zI m5 214 (zIx x11)) - p2) fun x23 =>
              zLet (fun (x25 : Int32) =>
                zLet (x11 + 1) fun x27 =>
                r12 x25 x27) fun j26 =>
              zLet (j26 0) fun j28 =>
              if x10 = 0 then
                j28
              else
                if zIn x11 30 then
                  zLet (j26 1) fun j30 =>
                  if (zI m5 213 (zIx x11)) = p1 then
                    if 10 ≤ x23 then
                      j30
                    else
                      if (-10) < x23 then
                        j28
                      else
                        j30
                  else
                    j30
                else none
            else none) zFu x8 0) fun j9 =>
      if 30 ≤ (zI m5 201 25) then
        j9 0
      else
        j9 1
    else
      some (0, m5)) fun j4 =>
  if v1 = 0 then
    j4 1
  else
    zBP (f_Mod_isYear p2 m) fun v33 =>
    zLet (j4 2) fun j35 =>
    if v33 = 0 then
      j35
    else
      zBP (f_Mod_isIn p3 (-30) 30 m) fun v36 =>
      zLet (j4 0) fun j38 =>
      if v36 = 0 then
        if p3 = 99 then
          j38
        else
          j35
      else
        j38
-- 34.mode
def f_Mod_bendOf (p1 : Int32) (p2 : Int32) (m : Mm) : Option Int32 :=
  zLq2 (fun r3 x1 x2 =>
    if (zI m 201 25) ≤ x2 then
      some x1
    else
      if zIn x2 30 then
        zLet (fun (x6 : Int32) =>
          zLet (x2 + 1) fun x8 =>
          r3 x6 x8) fun j7 =>
        zLet (j7 x1) fun j9 =>
        if (zI m 213 (zIx x2)) = p1 then
          if zIn x2 30 then
            if (zI m 214 (zIx x2)) = p2 then
              j7 x2
            else
              j9
          else none
        else
          j9
      else none) zFu (-1) 0
def f_Mod_takeBack (p1 : Int32) (p2 : Int32) (m : Mm) : Option (Int32 × Mm) :=
  zBP (f_Mod_isFeast p1 m) fun v1 =>
  zLet (fun (x3 : Int32) =>
    zLet (wI m 201 0 x3) fun m5 =>
    if (zI m5 201 0) ≤ 0 then
      zBP (f_Mod_bendOf p1 p2 m5) fun v7 =>
      zLet (fun (x9 : Int32) =>
        zLet (wI m5 201 0 x9) fun m11 =>
        if (zI m11 201 0) ≤ 0 then
          if zIn v7 30 then
            zLet (zI m11 215 (zIx v7)) fun x13 =>
            zLet (wI m11 201 25 ((zI m11 201 25) - 1)) fun m14 =>
            if zIn (zI m14 201 25) 30 then
              if zIn v7 30 then
                zLet (wI m14 213 (zIx v7) (zI m14 213 (zIx (zI m14 201 25)))) fun m15 =>
                if zIn (zI m15 201 25) 30 then
                  if zIn v7 30 then
                    zLet (wI m15 214 (zIx v7) (zI m15 214 (zIx (zI m15 201 25)))) fun m16 =>
                    if zIn (zI m16 201 25) 30 then
                      if zIn v7 30 then
                        zLet (wI m16 215 (zIx v7) (zI m16 215 (zIx (zI m16 201 25)))) fun m17 =>
                        some (x13, m17)
                      else none
                    else none
                  else none
                else none
              else none
            else none
          else none
        else
          some (0, m11)) fun j10 =>
      if v7 = (-1) then
        j10 3
      else
        j10 0
    else
      some (0, m5)) fun j4 =>
  if v1 = 0 then
    j4 1
  else
    zBP (f_Mod_isYear p2 m) fun v18 =>
    if v18 = 0 then
      j4 2
    else
      j4 0
def f_Mod_feasts (m : Mm) : Option (Int32 × Mm) :=
  zLet (wI m 201 0 0) fun m1 =>
  some ((zI m1 201 19), m1)
def f_Mod_within (p1 : Int32) (p2 : Int32) (m : Mm) : Option Int32 :=
  zBP (f_Mod_lengthOf p1 m) fun v1 =>
  zBP (f_Mod_isIn p2 0 (v1 - 1) m) fun v2 =>
  if v2 = 0 then
    some (-1)
  else
    some p2
def f_Mod_starts (p1 : Int32) (p2 : Int32) (p3 : Int32) (m : Mm) : Option Int32 :=
  zLet (fun (x2 : Int32) =>
    zBP (f_Mod_beginOfMonth p3 x2 m) fun v4 =>
    zBP (f_Mod_isLeap p3 m) fun v5 =>
    zBP (f_Mod_lengthOfMonth x2 v5 m) fun v6 =>
    if p1 = 1 then
      if v6 < (p2 % 100) then
        some (-1)
      else
        some ((v4 + (p2 % 100)) - 1)
    else
      zLet ((p2 / 100) % 10) fun x8 =>
      if p1 = 3 then
        zLet ((v4 + v6) - 1) fun x15 =>
        zBP (f_Mod_beginOf p3 m) fun v16 =>
        zBP (f_Mod_weekday (v16 + x15) m) fun v17 =>
        some (x15 - (((v17 - x8) + 7) % 7))
      else
        zBP (f_Mod_beginOf p3 m) fun v10 =>
        zBP (f_Mod_weekday (v10 + v4) m) fun v11 =>
        zLet (((x8 - v11) + 7) % 7) fun x12 =>
        zLet (x12 + (7 * ((p2 / 1000) - 1))) fun x13 =>
        if v6 ≤ x13 then
          some (-1)
        else
          some (v4 + x13)) fun j3 =>
  if p1 = 1 then
    j3 (p2 / 100)
  else
    j3 (p2 % 100)
def f_Mod_toWeekday (p1 : Int32) (p2 : Int32) (p3 : Int32) (p4 : Int32) (m : Mm) : Option Int32 :=
  zBP (f_Mod_beginOf p3 m) fun v1 =>
  zBP (f_Mod_weekday (v1 + p4) m) fun v2 =>
  zLet (((p2 - v2) + 7) % 7) fun x3 =>
  zLet (((v2 - p2) + 7) % 7) fun x4 =>
  if p1 = 6 then
    if x3 = 0 then
      some (p4 + 7)
    else
      some (p4 + x3)
  else
    if p1 = 7 then
      if x4 = 0 then
        some (p4 - 7)
      else
        some (p4 - x4)
    else
      if p1 = 8 then
        some (p4 + x3)
      else
        some (p4 - x4)
def f_Mod_toMoon (p1 : Int32) (p2 : Int32) (p3 : Int32) (p4 : Int32) (m : Mm) : Option Int32 :=
  zBP (f_Mod_beginOf p2 m) fun v1 =>
  zLet (v1 + p3) fun x2 =>
  zBP (f_Mod_lastMoon x2 p4 m) fun v3 =>
  zBP (f_Mod_ageOf x2 p4 m) fun v4 =>
  zLet (fun (x6 : Int32) =>
    zBP (f_Mod_beginOf p2 m) fun v8 =>
    some (x6 - v8)) fun j7 =>
  if p1 = 10 then
    zLet (fun (x12 : Int32) =>
      zBP (f_Mod_moonOf x12 p4 m) fun v14 =>
      j7 (v14 + 14)) fun j13 =>
    if 14 < v4 then
      j13 (v3 + 1)
    else
      j13 v3
  else
    if v4 = 0 then
      j7 x2
    else
      zBP (f_Mod_moonOf (v3 + 1) p4 m) fun v10 =>
      j7 v10
def f_Mod_costOf (p1 : Int32) (m : Mm) : Option Int32 :=
  if p1 = 2 then
    some 3
  else
    if p1 = 3 then
      some 3
    else
      if p1 = 10 then
        some 6
      else
        if p1 = 11 then
          some 6
        else
          zLet (some 2) fun j6 =>
          if p1 = 4 then
            j6
          else
            zLet (if p1 = 15 then
              j6
            else
              some 1) fun j8 =>
            if p1 < 6 then
              j8
            else
              if p1 ≤ 9 then
                j6
              else
                j8
def f_Mod_moved (p1 : Int32) (p2 : Int32) (p3 : Int32) (p4 : Int32) (p5 : Int32) (m : Mm) : Option Int32 :=
  if p4 = (-1) then
    some (-1)
  else
    if p1 = 12 then
      some (-1)
    else
      if p1 = 5 then
        zBP (f_Mod_within p3 ((p4 + p2) - 5000) m) fun v10 =>
        some v10
      else
        zLet (fun (x5 : Int32) =>
          zBP (f_Mod_within p3 x5 m) fun v7 =>
          some v7) fun j6 =>
        if 10 ≤ p1 then
          zBP (f_Mod_toMoon p1 p3 p4 p5 m) fun v8 =>
          j6 v8
        else
          zBP (f_Mod_toWeekday p1 p2 p3 p4 m) fun v9 =>
          j6 v9
def f_Mod_isSo (p1 : Int32) (p2 : Int32) (p3 : Int32) (p4 : Int32) (p5 : Int32) (m : Mm) : Option Int32 :=
  if p1 = 14 then
    zBP (f_Mod_isLeap p3 m) fun v11 =>
    if zBo v11 then some v11 else none
  else
    if p4 = (-1) then
      some 0
    else
      if p1 = 13 then
        zBP (f_Mod_beginOf p3 m) fun v8 =>
        zBP (f_Mod_weekday (v8 + p4) m) fun v9 =>
        if v9 = p2 then
          some 1
        else
          some 0
      else
        if p1 = 15 then
          if zIn ((20 * p5) + p2) 40 then
            if (zI m 216 (zIx ((20 * p5) + p2))) = p4 then
              some 1
            else
              some 0
          else none
        else
          zBP (f_Mod_dateOf p3 p4 m) fun v5 =>
          if p2 ≤ v5 then
            some 0
          else
            some 1
def f_Mod_goesThrough (p1 : Int32) (p2 : Int32) (p3 : Int32) (m : Mm) : Option Mm :=
  zLq4 (fun r5 x1 x2 x3 x4 =>
    if zIn p1 20 then
      if (zI m 210 (zIx p1)) ≤ x4 then
        zBP (f_Mod_bendOf p1 p2 m) fun v7 =>
        zLet (fun (x9 : Int32) =>
          if zIn ((20 * p3) + p1) 40 then
            zLet (wI m 216 (zIx ((20 * p3) + p1)) x9) fun m11 =>
            if zIn p1 20 then
              zLet (wI m11 218 (zIx p1) x3) fun m12 =>
              some m12
            else none
          else none) fun j10 =>
        if v7 = (-1) then
          j10 x1
        else
          if x1 = (-1) then
            j10 x1
          else
            if zIn v7 30 then
              zLet (fun (x15 : Int32) =>
                j10 x15) fun j16 =>
              if (zI m 215 (zIx v7)) = 99 then
                j16 (-1)
              else
                if zIn v7 30 then
                  zBP (f_Mod_within p2 (x1 + (zI m 215 (zIx v7))) m) fun v17 =>
                  j16 v17
                else none
            else none
      else
        if zIn ((80 * p1) + x4) 1600 then
          zLet (zI m 211 (zIx ((80 * p1) + x4))) fun x18 =>
          if zIn ((80 * p1) + x4) 1600 then
            zLet (zI m 212 (zIx ((80 * p1) + x4))) fun x19 =>
            zBP (f_Mod_costOf x18 m) fun v20 =>
            zLet (x3 + v20) fun x21 =>
            zLet (x4 + 1) fun x22 =>
            if 3 < x18 then
              if x18 = 4 then
                if zIn ((20 * p3) + x19) 40 then
                  zLet (zI m 216 (zIx ((20 * p3) + x19))) fun x40 =>
                  r5 x40 x2 x21 x22
                else none
              else
                if 12 < x18 then
                  if 16 < x18 then
                    if x18 = 17 then
                      zLet (fun (x36 : Int32) =>
                        r5 x1 x36 x21 x22) fun j37 =>
                      if x2 = 0 then
                        j37 1
                      else
                        j37 0
                    else
                      zLet (r5 x1 x2 x21 x19) fun j29 =>
                      if x18 = 18 then
                        j29
                      else
                        zLet (if x18 = 20 then
                          if x2 = 0 then
                            r5 x1 x2 x21 x22
                          else
                            j29
                        else
                          r5 x1 x2 x21 x22) fun j31 =>
                        if x18 = 19 then
                          if x2 = 0 then
                            j29
                          else
                            j31
                        else
                          j31
                  else
                    zBP (f_Mod_isSo x18 x19 p2 x1 p3 m) fun v38 =>
                    r5 x1 v38 x21 x22
                else
                  zBP (f_Mod_moved x18 x19 p2 x1 p3 m) fun v39 =>
                  r5 v39 x2 x21 x22
            else
              zBP (f_Mod_starts x18 x19 p2 m) fun v41 =>
              r5 v41 x2 x21 x22
          else none
        else none
    else none) zFu (-1) 0 0 0
-- 35.modf
def f_Mod_isReady (p1 : Int32) (m : Mm) : Option Int32 :=
  zBP (f_Mod_named p1 m) fun v1 =>
  if zIn p1 20 then
    zLet (fun (x3 : Int32) =>
      zLq2 (fun r7 x5 x6 =>
        if (zI m 201 19) ≤ x6 then
          if zBo x5 then some x5 else none
        else
          zLet (fun (x10 : Int32) =>
            zLet (x6 + 1) fun x12 =>
            r7 x10 x12) fun j11 =>
          zLet (j11 0) fun j13 =>
          if x5 = 0 then
            j13
          else
            zLet (j11 1) fun j15 =>
            if ((v1 >>> (x6 &&& 31)) &&& 1) = 0 then
              j15
            else
              if zIn x6 20 then
                if (zI m 217 (zIx x6)) = 0 then
                  j13
                else
                  j15
              else none) zFu x3 0) fun j4 =>
    if (zI m 217 (zIx p1)) = 0 then
      j4 1
    else
      j4 0
  else none
def f_Mod_finds (p1 : Int32) (p2 : Int32) (m : Mm) : Option Mm :=
  zLp1 (fun r2 x1 m3 =>
    if (zI m3 201 19) ≤ x1 then
      zLp1 (fun r6 x5 m7 =>
        if (zI m7 201 19) ≤ x5 then
          some m7
        else
          zLp1 (fun r10 x9 m11 =>
            if (zI m11 201 19) ≤ x9 then
              zLet (x5 + 1) fun x13 =>
              r6 x13 m11
            else
              zBP (f_Mod_isReady x9 m11) fun v14 =>
              zLet (fun (m16 : Mm) =>
                zLet (x9 + 1) fun x18 =>
                r10 x18 m16) fun j17 =>
              if v14 = 0 then
                j17 m11
              else
                zBV (f_Mod_goesThrough x9 p1 p2 m11) fun m19 =>
                if zIn x9 20 then
                  zLet (wI m19 217 (zIx x9) 1) fun m20 =>
                  j17 m20
                else none) zFu 0 m7) zFu 0 m3
    else
      if zIn x1 20 then
        zLet (wI m3 217 (zIx x1) 0) fun m21 =>
        zLet (x1 + 1) fun x22 =>
        r2 x22 m21
      else none) zFu 0 m
def f_Mod_isTaken (p1 : Int32) (m : Mm) : Option Int32 :=
  zLq2 (fun r3 x1 x2 =>
    if (zI m 201 19) ≤ x2 then
      if zBo x1 then some x1 else none
    else
      zLet (fun (x6 : Int32) =>
        zLet (x2 + 1) fun x8 =>
        r3 x6 x8) fun j7 =>
      zLet (j7 1) fun j9 =>
      if x1 = 0 then
        if zIn x2 20 then
          if (zI m 219 (zIx x2)) = p1 then
            j9
          else
            j7 0
        else none
      else
        j9) zFu 0 0
def f_Mod_placeFor (p1 : Int32) (p2 : Int32) (m : Mm) : Option Int32 :=
  if zIn ((20 * (zI m 201 1)) + p1) 40 then
    zLet (zI m 216 (zIx ((20 * (zI m 201 1)) + p1))) fun x1 =>
    if x1 = (-1) then
      some (-1)
    else
      if zIn p1 20 then
        zLet (fun (x4 : Int32) =>
          zLq1 (fun r7 x6 =>
            if x4 < x6 then
              some (-1)
            else
              zBP (f_Mod_within p2 (x1 + x6) m) fun v9 =>
              zLet (zLet (x6 + 1) fun x12 =>
              r7 x12) fun j11 =>
              if v9 = (-1) then
                j11
              else
                zBP (f_Mod_isTaken (x1 + x6) m) fun v13 =>
                if v13 = 0 then
                  some (x1 + x6)
                else
                  j11) zFu 0) fun j5 =>
        if (zI m 209 (zIx p1)) = 0 then
          j5 0
        else
          j5 20
      else none
  else none
def f_Mod_places (p1 : Int32) (m : Mm) : Option Mm :=
  zBV (f_Mod_finds p1 (zI m 201 1) m) fun m1 =>
  zLp1 (fun r3 x2 m4 =>
    if (zI m4 201 19) ≤ x2 then
      zLp1 (fun r7 x6 m8 =>
        if x6 < 0 then
          some m8
        else
          zLp1 (fun r11 x10 m12 =>
            if (zI m12 201 19) ≤ x10 then
              zLet (x6 + (-1)) fun x14 =>
              r7 x14 m12
            else
              if zIn x10 20 then
                zLet (fun (x16 : Int32) =>
                  if zIn x10 20 then
                    zLet (wI m12 219 (zIx x10) x16) fun m18 =>
                    zLet (x10 + 1) fun x19 =>
                    r11 x19 m18
                  else none) fun j17 =>
                if (zI m12 208 (zIx x10)) = x6 then
                  zBP (f_Mod_placeFor x10 p1 m12) fun v20 =>
                  j17 v20
                else
                  if zIn x10 20 then
                    j17 (zI m12 219 (zIx x10))
                  else none
              else none) zFu 0 m8) zFu 9 m4
    else
      if zIn x2 20 then
        zLet (wI m4 219 (zIx x2) (-1)) fun m21 =>
        zLet (x2 + 1) fun x22 =>
        r3 x22 m21
      else none) zFu 0 m1
def f_Mod_asks (p1 : Int32) (p2 : Int32) (m : Mm) : Option (Int32 × Mm) :=
  zBP (f_Mod_isFeast p1 m) fun v1 =>
  zLet (fun (x3 : Int32) =>
    zLet (wI m 201 0 x3) fun m5 =>
    if (zI m5 201 0) = 0 then
      some (1, m5)
    else
      some (0, m5)) fun j4 =>
  if v1 = 0 then
    j4 1
  else
    zBP (f_Mod_isYear p2 m) fun v7 =>
    if v7 = 0 then
      j4 2
    else
      j4 0
def f_Mod_bent (p1 : Int32) (p2 : Int32) (m : Mm) : Option (Int32 × Mm) :=
  zBI (f_Mod_asks p1 p2 m) fun v2 m1 =>
  if v2 = 0 then
    some (0, m1)
  else
    zBV (f_Mod_finds p2 (zI m1 201 1) m1) fun m4 =>
    if zIn ((20 * (zI m4 201 1)) + p1) 40 then
      some ((zI m4 216 (zIx ((20 * (zI m4 201 1)) + p1))), m4)
    else none
def f_Mod_day (p1 : Int32) (p2 : Int32) (m : Mm) : Option (Int32 × Mm) :=
  zBI (f_Mod_asks p1 p2 m) fun v2 m1 =>
  if v2 = 0 then
    some (0, m1)
  else
    zBV (f_Mod_places p2 m1) fun m4 =>
    if zIn p1 20 then
      some ((zI m4 219 (zIx p1)), m4)
    else none
def f_Mod_dayByDays (p1 : Int32) (p2 : Int32) (m : Mm) : Option (Int32 × Mm) :=
  zBI (f_Mod_asks p1 p2 m) fun v2 m1 =>
  if v2 = 0 then
    some (0, m1)
  else
    zBV (f_Mod_places p2 m1) fun m4 =>
    if zIn p1 20 then
      some ((zI m4 219 (zIx p1)), m4)
    else none
def f_Mod_clashesNow (m : Mm) : Option Int32 :=
  zLq2 (fun r3 x1 x2 =>
    if (zI m 201 19) ≤ x2 then
      some x1
    else
      zLet (x2 + 1) fun x5 =>
      zLq2 (fun r8 x6 x7 =>
        if (zI m 201 19) ≤ x7 then
          zLet (x2 + 1) fun x10 =>
          r3 x6 x10
        else
          if zIn ((20 * (zI m 201 1)) + x2) 40 then
            zLet (zI m 216 (zIx ((20 * (zI m 201 1)) + x2))) fun x11 =>
            zLet (fun (x13 : Int32) =>
              zLet (x6 + x13) fun x15 =>
              zLet (x7 + 1) fun x16 =>
              r8 x15 x16) fun j14 =>
            zLet (j14 0) fun j17 =>
            if x11 = (-1) then
              j17
            else
              if zIn ((20 * (zI m 201 1)) + x7) 40 then
                if x11 = (zI m 216 (zIx ((20 * (zI m 201 1)) + x7))) then
                  j14 1
                else
                  j17
              else none
          else none) zFu x1 x5) zFu 0 0
def f_Mod_clashes (p1 : Int32) (m : Mm) : Option (Int32 × Mm) :=
  zBP (f_Mod_isYear p1 m) fun v1 =>
  zLet (fun (x3 : Int32) =>
    zLet (wI m 201 0 x3) fun m5 =>
    if (zI m5 201 0) ≤ 0 then
      zBV (f_Mod_finds p1 (zI m5 201 1) m5) fun m7 =>
      zBP (f_Mod_clashesNow m7) fun v8 =>
      some (v8, m7)
    else
      some (0, m5)) fun j4 =>
  if v1 = 0 then
    j4 1
  else
    j4 0
def f_Mod_isNight (p1 : Int32) (m : Mm) : Option Int32 :=
  if zIn p1 40 then
    zLet (zI m 216 (zIx p1)) fun x1 =>
    if zIn (20 + p1) 40 then
      zLet (zI m 216 (zIx (20 + p1))) fun x2 =>
      zLet (some 0) fun j4 =>
      if x1 = (-1) then
        j4
      else
        if x2 = (-1) then
          j4
        else
          zLet (some 1) fun j7 =>
          if (x1 - x2) = 1 then
            j7
          else
            if (x2 - x1) = 1 then
              j7
            else
              j4
    else none
  else none
def f_Mod_isMidnight (p1 : Int32) (p2 : Int32) (m : Mm) : Option (Int32 × Mm) :=
  zBI (f_Mod_asks p1 p2 m) fun v2 m1 =>
  if v2 = 0 then
    some (0, m1)
  else
    zBV (f_Mod_finds p2 0 m1) fun m4 =>
    zBV (f_Mod_finds p2 1 m4) fun m5 =>
    zBP (f_Mod_isNight p1 m5) fun v6 =>
    if zBo v6 then some (v6, m5) else none
def f_Mod_steps (p1 : Int32) (m : Mm) : Option (Int32 × Mm) :=
  zBP (f_Mod_isFeast p1 m) fun v1 =>
  zLet (fun (x3 : Int32) =>
    zLet (wI m 201 0 x3) fun m5 =>
    if (zI m5 201 0) ≤ 0 then
      if zIn p1 20 then
        some ((zI m5 210 (zIx p1)), m5)
      else none
    else
      some (0, m5)) fun j4 =>
  if v1 = 0 then
    j4 1
  else
    j4 0
def f_Mod_step (p1 : Int32) (p2 : Int32) (m : Mm) : Option (Int32 × Mm) :=
  zBP (f_Mod_isFeast p1 m) fun v1 =>
  zLet (fun (x3 : Int32) =>
    zLet (wI m 201 0 x3) fun m5 =>
    if (zI m5 201 0) ≤ 0 then
      if zIn ((80 * p1) + p2) 1600 then
        if zIn ((80 * p1) + p2) 1600 then
          some (((10000 * (zI m5 211 (zIx ((80 * p1) + p2)))) + (zI m5 212 (zIx ((80 * p1) + p2)))), m5)
        else none
      else none
    else
      some (0, m5)) fun j4 =>
  zLet (j4 1) fun j7 =>
  if v1 = 0 then
    j7
  else
    zBP (f_Mod_isFeast p1 m) fun v8 =>
    zLet (fun (x10 : Int32) =>
      if zIn x10 20 then
        zBP (f_Mod_isIn p2 0 ((zI m 210 (zIx x10)) - 1) m) fun v12 =>
        if v12 = 0 then
          j7
        else
          j4 0
      else none) fun j11 =>
    if v8 = 0 then
      j11 0
    else
      j11 p1
-- 36.modg
def f_Mod_cost (p1 : Int32) (p2 : Int32) (m : Mm) : Option (Int32 × Mm) :=
  zBI (f_Mod_asks p1 p2 m) fun v2 m1 =>
  if v2 = 0 then
    some (0, m1)
  else
    zBV (f_Mod_finds p2 (zI m1 201 1) m1) fun m4 =>
    if zIn p1 20 then
      some ((zI m4 218 (zIx p1)), m4)
    else none
def f_Mod_costNow (m : Mm) : Option Int32 :=
  zLq2 (fun r3 x1 x2 =>
    if (zI m 201 19) ≤ x2 then
      some x1
    else
      if zIn x2 20 then
        zLet (x1 + (zI m 218 (zIx x2))) fun x5 =>
        zLet (x2 + 1) fun x6 =>
        r3 x5 x6
      else none) zFu 1 0
def f_Mod_yearCost (p1 : Int32) (m : Mm) : Option (Int32 × Mm) :=
  zBP (f_Mod_isYear p1 m) fun v1 =>
  zLet (fun (x3 : Int32) =>
    zLet (wI m 201 0 x3) fun m5 =>
    if (zI m5 201 0) ≤ 0 then
      zBV (f_Mod_finds p1 (zI m5 201 1) m5) fun m7 =>
      zBP (f_Mod_costNow m7) fun v8 =>
      some (v8, m7)
    else
      some (0, m5)) fun j4 =>
  if v1 = 0 then
    j4 1
  else
    j4 0
def f_Mod_namesThere (m : Mm) : Option Int32 :=
  zLq2 (fun r3 x1 x2 =>
    if (zI m 201 11) ≤ x2 then
      if zBo x1 then some x1 else none
    else
      if zIn x2 80 then
        zLet (fun (x6 : Int32) =>
          if zIn x2 80 then
            zLet (fun (x9 : Int32) =>
              zLet (fun (x12 : Int32) =>
                zLet (x2 + 1) fun x14 =>
                r3 x12 x14) fun j13 =>
              zLet (j13 0) fun j15 =>
              if x1 = 0 then
                j15
              else
                if (zI m 201 19) ≤ x6 then
                  j15
                else
                  if (zI m 201 19) ≤ x9 then
                    j15
                  else
                    j13 1) fun j10 =>
            if (zI m 206 (zIx x2)) = 5 then
              if zIn x2 80 then
                j10 ((zI m 207 (zIx x2)) % 100)
              else none
            else
              j10 (-1)
          else none) fun j7 =>
        if (zI m 206 (zIx x2)) = 2 then
          if zIn x2 80 then
            j7 ((zI m 207 (zIx x2)) / 10000)
          else none
        else
          if zIn x2 80 then
            if (zI m 206 (zIx x2)) = 3 then
              if zIn x2 80 then
                j7 ((zI m 207 (zIx x2)) / 10)
              else none
            else
              if zIn x2 80 then
                if (zI m 206 (zIx x2)) = 4 then
                  if zIn x2 80 then
                    j7 (zI m 207 (zIx x2))
                  else none
                else
                  if zIn x2 80 then
                    if (zI m 206 (zIx x2)) = 5 then
                      if zIn x2 80 then
                        j7 ((zI m 207 (zIx x2)) / 100)
                      else none
                    else
                      j7 (-1)
                  else none
              else none
          else none
      else none) zFu 1 0
def f_Mod_search (p1 : Int32) (m : Mm) : Option (Int32 × Mm) :=
  zBP (f_Mod_isYear p1 m) fun v1 =>
  zLet (fun (x3 : Int32) (m4 : Mm) =>
    zLet (wI m4 201 0 x3) fun m6 =>
    if (zI m6 201 0) ≤ 0 then
      zLet (wI m6 201 34 (zI m6 201 11)) fun m8 =>
      zLp1 (fun r10 x9 m11 =>
        if (zI m11 201 11) ≤ x9 then
          zLet (wI m11 201 3 0) fun m13 =>
          zLet (wI m13 201 33 1) fun m14 =>
          zLet (wI m14 201 38 p1) fun m15 =>
          zBV (f_Mod_finds p1 (zI m15 201 1) m15) fun m16 =>
          zBP (f_Mod_costNow m16) fun v17 =>
          some (v17, m16)
        else
          if zIn x9 80 then
            if zIn x9 80 then
              zLet (wI m11 220 (zIx x9) (zI m11 206 (zIx x9))) fun m18 =>
              if zIn x9 80 then
                if zIn x9 80 then
                  zLet (wI m18 221 (zIx x9) (zI m18 207 (zIx x9))) fun m19 =>
                  zLet (x9 + 1) fun x20 =>
                  r10 x20 m19
                else none
              else none
            else none
          else none) zFu 0 m8
    else
      some (0, m6)) fun j5 =>
  zLet (fun (m21 : Mm) =>
    j5 1 m21) fun j22 =>
  if v1 = 0 then
    j22 m
  else
    zBI (f_Mod_reads 20 m) fun v24 m23 =>
    if v24 = (-1) then
      zBP (f_Mod_namesThere m23) fun v26 =>
      if v26 = 0 then
        j5 2 m23
      else
        j5 0 m23
    else
      j22 m23
def f_Mod_isAnswered (p1 : Int32) (p2 : Int32) (p3 : Int32) (m : Mm) : Option Int32 :=
  if p1 = 1 then
    zBP (f_Mod_clashesNow m) fun v21 =>
    if v21 = 0 then
      some 1
    else
      some 0
  else
    zLet (fun (x3 : Int32) =>
      if zIn x3 20 then
        zLet (zI m 219 (zIx x3)) fun x5 =>
        if p1 = 4 then
          if x5 = (-1) then
            some 1
          else
            some 0
        else
          if x5 = (-1) then
            some 0
          else
            if p1 = 2 then
              zBP (f_Mod_dateOf p3 x5 m) fun v16 =>
              if v16 = (p2 % 10000) then
                some 1
              else
                some 0
            else
              if p1 = 3 then
                zBP (f_Mod_beginOf p3 m) fun v13 =>
                zBP (f_Mod_weekday (v13 + x5) m) fun v14 =>
                if v14 = (p2 % 10) then
                  some 1
                else
                  some 0
              else
                if zIn (p2 % 100) 20 then
                  zLet (some 0) fun j11 =>
                  if (zI m 219 (zIx (p2 % 100))) = (-1) then
                    j11
                  else
                    if zIn (p2 % 100) 20 then
                      if (zI m 219 (zIx (p2 % 100))) ≤ x5 then
                        j11
                      else
                        some 1
                    else none
                else none
      else none) fun j4 =>
    if p1 = 2 then
      j4 (p2 / 10000)
    else
      if p1 = 3 then
        j4 (p2 / 10)
      else
        if p1 = 4 then
          j4 p2
        else
          j4 (p2 / 100)
def f_Mod_holdsFor (p1 : Int32) (m : Mm) : Option (Int32 × Mm) :=
  zBV (f_Mod_places p1 m) fun m1 =>
  zLp2 (fun r4 x2 x3 m5 =>
    if (zI m5 201 34) ≤ x3 then
      if zIn 0 80 then
        if zBo (zI m5 222 (zIx 0)) then some ((zI m5 222 (zIx 0)), m5) else none
      else none
    else
      if zIn x3 80 then
        zLet (zI m5 220 (zIx x3)) fun x7 =>
        zLet (fun (x9 : Int32) (m10 : Mm) =>
          zLet (x3 + 1) fun x12 =>
          r4 x9 x12 m10) fun j11 =>
        if 5 < x7 then
          if x7 = 6 then
            if zIn (x2 - 1) 80 then
              zLet (fun (x28 : Int32) =>
                if zBo x28 then
                  if zIn (x2 - 1) 80 then
                    zLet (wI m5 222 (zIx (x2 - 1)) x28) fun m30 =>
                    j11 x2 m30
                  else none
                else none) fun j29 =>
              if (zI m5 222 (zIx (x2 - 1))) = 0 then
                j29 1
              else
                j29 0
            else none
          else
            zLet (x2 + (-1)) fun x14 =>
            if zIn (x14 - 1) 80 then
              zLet (zI m5 222 (zIx (x14 - 1))) fun x15 =>
              if zIn x14 80 then
                zLet (zI m5 222 (zIx x14)) fun x16 =>
                zLet (fun (x18 : Int32) =>
                  if zBo x18 then
                    if zIn (x14 - 1) 80 then
                      zLet (wI m5 222 (zIx (x14 - 1)) x18) fun m20 =>
                      j11 x14 m20
                    else none
                  else none) fun j19 =>
                if x7 = 7 then
                  zLet (j19 0) fun j25 =>
                  if x15 = 0 then
                    j25
                  else
                    if x16 = 0 then
                      j25
                    else
                      j19 1
                else
                  zLet (j19 1) fun j22 =>
                  if x15 = 0 then
                    if x16 = 0 then
                      j19 0
                    else
                      j22
                  else
                    j22
              else none
            else none
        else
          if zIn x3 80 then
            zBP (f_Mod_isAnswered x7 (zI m5 221 (zIx x3)) p1 m5) fun v31 =>
            if zBo v31 then
              if zIn x2 80 then
                zLet (wI m5 222 (zIx x2) v31) fun m32 =>
                zLet (x2 + 1) fun x33 =>
                j11 x33 m32
              else none
            else none
          else none
      else none) zFu 0 0 m1
def f_Mod_goOn (p1 : Int32) (m : Mm) : Option (Int32 × Mm) :=
  zBP (f_Mod_isIn p1 1 100000 m) fun v1 =>
  zLet (fun (x3 : Int32) =>
    zLet (wI m 201 0 x3) fun m5 =>
    if (zI m5 201 0) ≤ 0 then
      zLp1 (fun r8 x7 m9 =>
        if 400 ≤ (zI m9 201 38) then
          some ((-1), m9)
        else
          zBV (f_Mod_finds (zI m9 201 38) (zI m9 201 1) m9) fun m11 =>
          zBP (f_Mod_costNow m11) fun v12 =>
          if v12 ≤ x7 then
            zLet (x7 - v12) fun x14 =>
            zLet (wL m11 201 39 ((zL m11 201 39) + (v12.toInt64))) fun m15 =>
            zLet (wI m15 201 38 ((zI m15 201 38) + 1)) fun m16 =>
            zBI (f_Mod_holdsFor ((zI m16 201 38) - 1) m16) fun v18 m17 =>
            if v18 = 0 then
              r8 x14 m17
            else
              some (((zI m17 201 38) - 1), m17)
          else
            some ((-2), m11)) zFu p1 m5
    else
      some (0, m5)) fun j4 =>
  if v1 = 0 then
    j4 1
  else
    if (zI m 201 33) = 0 then
      j4 2
    else
      j4 0
-- 37.modh
def f_Mod_spent (m : Mm) : Option (Int64 × Mm) :=
  zLet (wI m 201 0 0) fun m1 =>
  some ((zL m1 201 39), m1)
def f_Mod_bells (p1 : Int32) (p2 : Int32) (m : Mm) : Option (Int32 × Mm) :=
  zBP (f_Mod_isIn p1 0 5 m) fun v1 =>
  zLet (fun (x3 : Int32) =>
    zLet (wI m 201 0 x3) fun m5 =>
    if (zI m5 201 0) ≤ 0 then
      if zIn p1 6 then
        zLet (zI m5 223 (zIx p1)) fun x7 =>
        if zIn p1 6 then
          zLet (wI m5 223 (zIx p1) p2) fun m8 =>
          some (x7, m8)
        else none
      else none
    else
      some (0, m5)) fun j4 =>
  if v1 = 0 then
    j4 1
  else
    zBP (f_Mod_isIn p2 0 6 m) fun v9 =>
    if v9 = 0 then
      j4 2
    else
      j4 0
def f_Mod_ringer (p1 : Int32) (p2 : Int32) (m : Mm) : Option (Int32 × Mm) :=
  zBP (f_Mod_isIn p1 0 5 m) fun v1 =>
  zLet (fun (x3 : Int32) =>
    zLet (wI m 201 0 x3) fun m5 =>
    if (zI m5 201 0) ≤ 0 then
      if zIn (zI m5 201 41) 24 then
        zLet (wI m5 224 (zIx (zI m5 201 41)) p1) fun m7 =>
        if zIn (zI m7 201 41) 24 then
          zLet (wI m7 225 (zIx (zI m7 201 41)) p2) fun m8 =>
          zLet (wI m8 201 41 ((zI m8 201 41) + 1)) fun m9 =>
          some (((zI m9 201 41) - 1), m9)
        else none
      else none
    else
      some (0, m5)) fun j4 =>
  if v1 = 0 then
    j4 1
  else
    zBP (f_Mod_isIn p2 0 6 m) fun v10 =>
    if v10 = 0 then
      j4 2
    else
      if (zI m 201 41) = 24 then
        j4 3
      else
        j4 0
def f_Mod_bestRinger (p1 : Int32) (p2 : Int32) (m : Mm) : Option Int32 :=
  zLet ((zI m 201 41) - 1) fun x1 =>
  zLq2 (fun r4 x2 x3 =>
    if x3 < 0 then
      some x2
    else
      if zIn x3 24 then
        zLet (fun (x7 : Int32) =>
          zLet (fun (x10 : Int32) =>
            zLet (x3 + (-1)) fun x12 =>
            r4 x10 x12) fun j11 =>
          zLet (j11 x2) fun j13 =>
          if x7 = 0 then
            j13
          else
            zLet (j11 x3) fun j15 =>
            if x2 = (-1) then
              j15
            else
              if zIn x3 24 then
                zLet (fun (x17 : Int32) =>
                  if zIn x17 24 then
                    if (zI m 226 (zIx x17)) < (zI m 226 (zIx x3)) then
                      j13
                    else
                      j15
                  else none) fun j18 =>
                if x2 = (-1) then
                  j18 0
                else
                  j18 x2
              else none) fun j8 =>
        zLet (j8 0) fun j20 =>
        if (zI m 224 (zIx x3)) = p1 then
          if zIn x3 24 then
            zLet (j8 1) fun j22 =>
            if (zI m 226 (zIx x3)) = 0 then
              j22
            else
              if zIn x3 24 then
                if zIn x3 24 then
                  if (p2 - (zI m 227 (zIx x3))) ≤ (zI m 225 (zIx x3)) then
                    j20
                  else
                    j22
                else none
              else none
          else none
        else
          j20
      else none) zFu (-1) x1
def f_Mod_peal (p1 : Int32) (p2 : Int32) (m : Mm) : Option Mm :=
  zLp1 (fun r2 x1 m3 =>
    if 6 ≤ x1 then
      some m3
    else
      if zIn p1 20 then
        if zIn x1 6 then
          zLet (fun (x6 : Int32) =>
            zLp1 (fun r9 x8 m10 =>
              if x6 ≤ x8 then
                zLet (x1 + 1) fun x12 =>
                r2 x12 m10
              else
                zBP (f_Mod_bestRinger x1 p2 m10) fun v13 =>
                if zIn (((36 * p1) + (6 * x1)) + x8) 720 then
                  zLet (wI m10 228 (zIx (((36 * p1) + (6 * x1)) + x8)) v13) fun m14 =>
                  zLet (fun (m16 : Mm) =>
                    zLet (x8 + 1) fun x18 =>
                    r9 x18 m16) fun j17 =>
                  if v13 = (-1) then
                    j17 m14
                  else
                    if zIn v13 24 then
                      if zIn v13 24 then
                        zLet (wI m14 226 (zIx v13) ((zI m14 226 (zIx v13)) + 1)) fun m19 =>
                        zBP (f_Mod_isNight p1 m19) fun v20 =>
                        zLet (fun (x22 : Int32) =>
                          if zIn v13 24 then
                            zLet (wI m19 227 (zIx v13) x22) fun m24 =>
                            j17 m24
                          else none) fun j23 =>
                        if v20 = 0 then
                          j23 p2
                        else
                          j23 (p2 + 1)
                      else none
                    else none
                else none) zFu 0 m3) fun j7 =>
          if (zI m3 223 (zIx x1)) ≤ (zI m3 208 (zIx p1)) then
            if zIn x1 6 then
              j7 (zI m3 223 (zIx x1))
            else none
          else
            if zIn p1 20 then
              j7 (zI m3 208 (zIx p1))
            else none
        else none
      else none) zFu 0 m
def f_Mod_ringsAll (p1 : Int32) (m : Mm) : Option Mm :=
  zBV (f_Mod_finds p1 (1 - (zI m 201 1)) m) fun m1 =>
  zBV (f_Mod_places p1 m1) fun m2 =>
  zLp1 (fun r4 x3 m5 =>
    if 720 ≤ x3 then
      zLp1 (fun r8 x7 m9 =>
        if (zI m9 201 41) ≤ x7 then
          zLp1 (fun r12 x11 m13 =>
            zBP (f_Mod_lengthOf p1 m13) fun v14 =>
            if v14 ≤ x11 then
              some m13
            else
              zLp1 (fun r17 x16 m18 =>
                if (zI m18 201 19) ≤ x16 then
                  zLet (x11 + 1) fun x20 =>
                  r12 x20 m18
                else
                  if zIn x16 20 then
                    zLet (fun (m22 : Mm) =>
                      zLet (x16 + 1) fun x24 =>
                      r17 x24 m22) fun j23 =>
                    if (zI m18 219 (zIx x16)) = x11 then
                      zBV (f_Mod_peal x16 x11 m18) fun m25 =>
                      j23 m25
                    else
                      j23 m18
                  else none) zFu 0 m13) zFu 0 m9
        else
          if zIn x7 24 then
            zLet (wI m9 226 (zIx x7) 0) fun m26 =>
            zLet (x7 + 1) fun x27 =>
            r8 x27 m26
          else none) zFu 0 m5
    else
      if zIn x3 720 then
        zLet (wI m5 228 (zIx x3) (-2)) fun m28 =>
        zLet (x3 + 1) fun x29 =>
        r4 x29 m28
      else none) zFu 0 m2
def f_Mod_rings (p1 : Int32) (p2 : Int32) (p3 : Int32) (p4 : Int32) (m : Mm) : Option (Int32 × Mm) :=
  zBP (f_Mod_isFeast p1 m) fun v1 =>
  zLet (fun (x3 : Int32) =>
    zLet (fun (x6 : Int32) =>
      zLet (wI m 201 0 x6) fun m8 =>
      if (zI m8 201 0) ≤ 0 then
        zBV (f_Mod_ringsAll p2 m8) fun m10 =>
        if zIn (((36 * p1) + (6 * p3)) + p4) 720 then
          zLet (zI m10 228 (zIx (((36 * p1) + (6 * p3)) + p4))) fun x11 =>
          if 0 ≤ x11 then
            some (x11, m10)
          else
            some ((-1), m10)
        else none
      else
        some (0, m8)) fun j7 =>
    if x3 = 0 then
      j7 1
    else
      zBP (f_Mod_isYear p2 m) fun v13 =>
      zLet (j7 2) fun j15 =>
      if v13 = 0 then
        j15
      else
        zBP (f_Mod_isIn p4 0 5 m) fun v16 =>
        if v16 = 0 then
          j15
        else
          j7 0) fun j4 =>
  zLet (j4 0) fun j18 =>
  if v1 = 0 then
    j18
  else
    zBP (f_Mod_isIn p3 0 5 m) fun v19 =>
    if v19 = 0 then
      j18
    else
      j4 1
def f_Mod_silent (p1 : Int32) (m : Mm) : Option (Int32 × Mm) :=
  zBP (f_Mod_isYear p1 m) fun v1 =>
  zLet (fun (x3 : Int32) =>
    zLet (wI m 201 0 x3) fun m5 =>
    if (zI m5 201 0) ≤ 0 then
      zBV (f_Mod_ringsAll p1 m5) fun m7 =>
      zLq2 (fun r10 x8 x9 =>
        if (36 * (zI m7 201 19)) ≤ x9 then
          some (x8, m7)
        else
          if zIn x9 720 then
            zLet (fun (x13 : Int32) =>
              zLet (x8 + x13) fun x15 =>
              zLet (x9 + 1) fun x16 =>
              r10 x15 x16) fun j14 =>
            if (zI m7 228 (zIx x9)) = (-1) then
              j14 1
            else
              j14 0
          else none) zFu 0 0
    else
      some (0, m5)) fun j4 =>
  if v1 = 0 then
    j4 1
  else
    j4 0
def f_Mod_peals (p1 : Int32) (p2 : Int32) (m : Mm) : Option (Int32 × Mm) :=
  zBP (f_Mod_isIn p1 0 ((zI m 201 41) - 1) m) fun v1 =>
  zLet (fun (x3 : Int32) =>
    zLet (wI m 201 0 x3) fun m5 =>
    if (zI m5 201 0) ≤ 0 then
      zBV (f_Mod_ringsAll p2 m5) fun m7 =>
      if zIn p1 24 then
        some ((zI m7 226 (zIx p1)), m7)
      else none
    else
      some (0, m5)) fun j4 =>
  if v1 = 0 then
    j4 1
  else
    zBP (f_Mod_isYear p2 m) fun v8 =>
    if v8 = 0 then
      j4 2
    else
      j4 0
