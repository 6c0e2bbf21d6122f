/-! LOOPS: their bodies by name -/
def l_Cal_dateOf_0 (v1 : Int32) (m : Mm) (p2 : Int32) : (Int32 → Option (Int32)) → Int32 → Option (Int32) :=
  fun r5 x4 =>
  if x4 < 1 then
    some (-1)
  else
    zBP (f_Cal_monthStart v1 x4 m) fun v7 =>
    if p2 < v7 then
      zLet (x4 + (-1)) fun x9 =>
      r5 x9
    else
      some ((((100 * x4) + p2) - v7) + 1)
theorem e_Cal_dateOf (p1 : Int32) (p2 : Int32) (m : Mm) : f_Cal_dateOf p1 p2 m =
  zBP (f_Cal_isLeap p1 m) fun v1 =>
    zBP (f_Cal_monthStart v1 13 m) fun v2 =>
    if p2 < v2 then
      zLq1 (l_Cal_dateOf_0 v1 m p2) zFu 12
    else
      some (-1) := by
  unfold f_Cal_dateOf l_Cal_dateOf_0
  rfl
def l_Par_takesPart_0 (s2 : Nat) (p1 : Int32) : (Int32 → Int32 → Mm → Option ((Int32 × Mm))) → Int32 → Int32 → Mm → Option ((Int32 × Mm)) :=
  fun r4 x2 x3 m5 =>
  if (zSl s2) ≤ x3 then
    zBI (f_Cod_add 20 p1 x2 m5) fun v8 m7 =>
    if zBo v8 then some (v8, m7) else none
  else
    if zIn x3 (zSLn.getD s2 0) then
      zLet (zSc s2 x3) fun x9 =>
      zLet (fun (x11 : Int32) =>
        zLet (fun (m14 : Mm) =>
          zLet (fun (x17 : Int32) =>
            zLet ((x17 * x2) + (zI m14 19 3)) fun x19 =>
            zLet (x3 + 1) fun x20 =>
            r4 x19 x20 m14) fun j18 =>
          if x11 = 0 then
            j18 100
          else
            j18 10) fun j15 =>
        if x11 = 0 then
          zBI (f_Par_takesTwoDigits x9 m5) fun v22 m21 =>
          if v22 = 0 then
            some (0, m21)
          else
            j15 m21
        else
          zBI (f_Par_takesOneDigit x9 m5) fun v25 m24 =>
          if v25 = 0 then
            some (0, m24)
          else
            j15 m24) fun j12 =>
      zLet (j12 1) fun j27 =>
      if x9 = 110 then
        j27
      else
        if x9 = 119 then
          j27
        else
          j12 0
    else none
theorem e_Par_takesPart (p1 : Int32) (s2 : Nat) (m : Mm) : f_Par_takesPart p1 s2 m =
  zLet (wI m 19 2 ((zI m 19 2) + 1)) fun m1 =>
    zLp2 (l_Par_takesPart_0 s2 p1) zFu 0 0 m1 := by
  unfold f_Par_takesPart l_Par_takesPart_0
  rfl
def l_Par_takesDayCount_0  : (Int32 → Int32 → Mm → Option ((Int32 × Mm))) → Int32 → Int32 → Mm → Option ((Int32 × Mm)) :=
  fun r7 x5 x6 m8 =>
  zLet (fun (m10 : Mm) =>
    zLet (wI m10 19 3 x5) fun m12 =>
    some (1, m12)) fun j11 =>
  if 2 ≤ x6 then
    j11 m8
  else
    zBP (f_Mat_min (366 - (10 * x5)) 9 m8) fun v13 =>
    zBI (f_Par_takesDigit 0 v13 m8) fun v15 m14 =>
    if v15 = 0 then
      j11 m14
    else
      zLet ((10 * x5) + (zI m14 19 3)) fun x17 =>
      zLet (x6 + 1) fun x18 =>
      r7 x17 x18 m14
theorem e_Par_takesDayCount (m : Mm) : f_Par_takesDayCount m =
  zBI (f_Par_takesDigit 0 9 m) fun v2 m1 =>
    if v2 = 0 then
      some (0, m1)
    else
      zLet (zI m1 19 3) fun x4 =>
      zLp2 (l_Par_takesDayCount_0) zFu x4 0 m1 := by
  unfold f_Par_takesDayCount l_Par_takesDayCount_0
  rfl
def l_Par_takesDays_0  : (Int32 → Int32 → Mm → Option ((Int32 × Mm))) → Int32 → Int32 → Mm → Option ((Int32 × Mm)) :=
  fun r3 x1 x2 m4 =>
  zLet (zLet (fun (m8 : Mm) =>
    some (1, m8)) fun j9 =>
  if x1 = 0 then
    j9 m4
  else
    zBI (f_Cod_add 20 5 (5000 + x1) m4) fun v11 m10 =>
    if v11 = 0 then
      some (0, m10)
    else
      j9 m10) fun j6 =>
  if 40 ≤ x2 then
    j6
  else
    zGR 8 (zR m4 19 1) fun q13 =>
    zBP (f_Txt_at q13 (zI m4 19 2) m4) fun v14 =>
    zLet (zLet (wI m4 19 2 ((zI m4 19 2) + 1)) fun m17 =>
    zBI (f_Par_takesDayCount m17) fun v19 m18 =>
    if v19 = 0 then
      some (0, m18)
    else
      zLet (fun (x22 : Int32) =>
        zLet (x1 + x22) fun x24 =>
        zLet (x2 + 1) fun x25 =>
        r3 x24 x25 m18) fun j23 =>
      if v14 = 43 then
        j23 (zI m18 19 3)
      else
        j23 (-(zI m18 19 3))) fun j16 =>
    if v14 = 43 then
      j16
    else
      if v14 = 45 then
        j16
      else
        j6
theorem e_Par_takesDays (m : Mm) : f_Par_takesDays m =
  zLp2 (l_Par_takesDays_0) zFu 0 0 m := by
  unfold f_Par_takesDays l_Par_takesDays_0
  rfl
def l_g_Par_takesSteps_0 (c_takesBranch : Int32 → Mm → Option (Int32 × Mm)) (p1 : Int32) : (Int32 → Int32 → Mm → Option ((Int32 × Mm))) → Int32 → Int32 → Mm → Option ((Int32 × Mm)) :=
  fun r6 x4 x5 m7 =>
  if 40 ≤ x5 then
    if zBo x4 then some (x4, m7) else none
  else
    if x4 = 0 then
      if zBo x4 then some (x4, m7) else none
    else
      zGR 8 (zR m7 19 1) fun q10 =>
      zBP (f_Txt_at q10 (zI m7 19 2) m7) fun v11 =>
      zLet (fun (x12 : Int32) (m13 : Mm) =>
        zLet (x5 + 1) fun x15 =>
        r6 x12 x15 m13) fun j14 =>
      if v11 = 43 then
        zBI (f_Par_takesDays m7) fun v18 m17 =>
        j14 v18 m17
      else
        if v11 = 45 then
          zBI (f_Par_takesDays m7) fun v21 m20 =>
          j14 v21 m20
        else
          if v11 = 60 then
            zBI (f_Par_takesPart 7 4 m7) fun v24 m23 =>
            j14 v24 m23
          else
            if v11 = 62 then
              zBI (f_Par_takesPart 6 4 m7) fun v27 m26 =>
              j14 v27 m26
            else
              if v11 = 63 then
                zBI (c_takesBranch (p1 + 1) m7) fun v30 m29 =>
                j14 v30 m29
              else
                if v11 = 79 then
                  zBI (f_Par_takesPart 10 5 m7) fun v33 m32 =>
                  j14 v33 m32
                else
                  if v11 = 81 then
                    zBI (f_Par_takesPart 11 5 m7) fun v36 m35 =>
                    j14 v36 m35
                  else
                    if v11 = 88 then
                      zBI (f_Par_takesPart 12 5 m7) fun v39 m38 =>
                      j14 v39 m38
                    else
                      if v11 = 91 then
                        zBI (f_Par_takesPart 9 4 m7) fun v42 m41 =>
                        j14 v42 m41
                      else
                        if v11 = 93 then
                          zBI (f_Par_takesPart 8 4 m7) fun v45 m44 =>
                          j14 v45 m44
                        else
                          some (1, m7)
theorem e_g_Par_takesSteps (c_takesBranch : Int32 → Mm → Option (Int32 × Mm)) (p1 : Int32) (m : Mm) : g_Par_takesSteps c_takesBranch p1 m =
  zLet (fun (x2 : Int32) =>
      zLp2 (l_g_Par_takesSteps_0 c_takesBranch p1) zFu x2 0 m) fun j3 =>
    if 41 < p1 then
      j3 0
    else
      j3 1 := by
  unfold g_Par_takesSteps l_g_Par_takesSteps_0
  rfl
def l_Alm_firstReady_0 (m : Mm) (p1 : Int32) (p2 : Int32) (p3 : Int32) : (Int32 → Option (Int32)) → Int32 → Option (Int32) :=
  fun r2 x1 =>
  if (zI m 25 3) ≤ x1 then
    some (-1)
  else
    zLet (fun (x5 : Int32) =>
      zLet (fun (x8 : Int32) =>
        zLet (zLet (x1 + 1) fun x12 =>
        r2 x12) fun j11 =>
        if x8 = 0 then
          if (x5 &&& (p1 ^^^ (-1))) = 0 then
            some x1
          else
            j11
        else
          j11) fun j9 =>
      if (((p1.toUInt32 >>> (x1.toUInt32 &&& Int32.toUInt32 31)).toInt32) &&& 1) = 0 then
        j9 0
      else
        j9 1) fun j6 =>
    if x1 = p2 then
      j6 p3
    else
      if zIn x1 20 then
        zBP (f_Cod_named (32 + 6 * zIx x1 + 3) m) fun v15 =>
        j6 v15
      else none
theorem e_Alm_firstReady (p1 : Int32) (p2 : Int32) (p3 : Int32) (m : Mm) : f_Alm_firstReady p1 p2 p3 m =
  zLq1 (l_Alm_firstReady_0 m p1 p2 p3) zFu 0 := by
  unfold f_Alm_firstReady l_Alm_firstReady_0
  rfl
def l_Alm_draftOrderWith_0 (p1 : Int32) (p2 : Int32) : (Int32 → Int32 → Mm → Option ((Int32 × Mm))) → Int32 → Int32 → Mm → Option ((Int32 × Mm)) :=
  fun r3 x1 x2 m4 =>
  if (zI m4 25 3) ≤ x2 then
    some (1, m4)
  else
    zBP (f_Alm_firstReady x1 p1 p2 m4) fun v6 =>
    if v6 = (-1) then
      some (0, m4)
    else
      if zIn x2 20 then
        zLet (wI m4 28 (zIx x2) v6) fun m8 =>
        zLet (x1 ||| (1 <<< (v6 &&& 31))) fun x9 =>
        zLet (x2 + 1) fun x10 =>
        r3 x9 x10 m8
      else none
theorem e_Alm_draftOrderWith (p1 : Int32) (p2 : Int32) (m : Mm) : f_Alm_draftOrderWith p1 p2 m =
  zLp2 (l_Alm_draftOrderWith_0 p1 p2) zFu 0 0 m := by
  unfold f_Alm_draftOrderWith l_Alm_draftOrderWith_0
  rfl
def l_Alm_hasOneNear_0 (m : Mm) (p1 : Int32) (p2 : Int32) : (Int32 → Option (Int32)) → Int32 → Option (Int32) :=
  fun r2 x1 =>
  if (zI m 25 7) ≤ x1 then
    some 0
  else
    if zIn x1 30 then
      zLet (zLet (x1 + 1) fun x6 =>
      r2 x6) fun j5 =>
      if (zI m 29 (zIx x1)) = p1 then
        if zIn x1 30 then
          zBP (f_Mat_abs ((zI m 30 (zIx x1)) - p2) m) fun v7 =>
          if 10 ≤ v7 then
            j5
          else
            some 1
        else none
      else
        j5
    else none
theorem e_Alm_hasOneNear (p1 : Int32) (p2 : Int32) (m : Mm) : f_Alm_hasOneNear p1 p2 m =
  zLq1 (l_Alm_hasOneNear_0 m p1 p2) zFu 0 := by
  unfold f_Alm_hasOneNear l_Alm_hasOneNear_0
  rfl
def l_Alm_dispensationFor_0 (m : Mm) (p1 : Int32) (p2 : Int32) : (Int32 → Option (Int32)) → Int32 → Option (Int32) :=
  fun r2 x1 =>
  if (zI m 25 7) ≤ x1 then
    some (-1)
  else
    if zIn x1 30 then
      zLet (zLet (x1 + 1) fun x6 =>
      r2 x6) fun j5 =>
      if (zI m 29 (zIx x1)) = p1 then
        if zIn x1 30 then
          if (zI m 30 (zIx x1)) = p2 then
            some x1
          else
            j5
        else none
      else
        j5
    else none
theorem e_Alm_dispensationFor (p1 : Int32) (p2 : Int32) (m : Mm) : f_Alm_dispensationFor p1 p2 m =
  zLq1 (l_Alm_dispensationFor_0 m p1 p2) zFu 0 := by
  unfold f_Alm_dispensationFor l_Alm_dispensationFor_0
  rfl
def l_Boo_goThrough_0 (o1 : Nat) (a : Nat) : (Int32 → Int32 → Int32 → Int32 → Mm → Option ((Int32 × Mm))) → Int32 → Int32 → Int32 → Int32 → Mm → Option ((Int32 × Mm)) :=
  fun r5 x1 x2 x3 x4 m6 =>
  zBP (f_Cod_size o1 m6) fun v7 =>
  if v7 ≤ x4 then
    some (x1, m6)
  else
    zBP (f_Cod_size o1 m6) fun v9 =>
    if v9 ≤ x3 then
      some (x1, m6)
    else
      zBP (f_Cod_kindAt o1 x3 m6) fun v11 =>
      zBP (f_Cod_argumentAt o1 x3 m6) fun v12 =>
      zLet (fun (x14 : Int32) =>
        zLet (x1 + x14) fun x16 =>
        zLet (fun (x18 : Int32) (m19 : Mm) =>
          zBP (f_Cod_placeAfter o1 x3 x18 m19) fun v21 =>
          zLet (x4 + 1) fun x22 =>
          r5 x16 x18 v21 x22 m19) fun j20 =>
        if v11 = 17 then
          zLet (fun (x31 : Int32) =>
            j20 x31 m6) fun j32 =>
          if x2 = 0 then
            j32 1
          else
            j32 0
        else
          zLet (if 4 < v11 then
            zBV (f_Boo_move a v11 v12 m6) fun m26 =>
            j20 x2 m26
          else
            zBV (f_Boo_goToStart a v11 v12 m6) fun m27 =>
            j20 x2 m27) fun j24 =>
          if v11 < 13 then
            j24
          else
            if 16 < v11 then
              j24
            else
              zBP (f_Boo_conditionHolds a v11 v12 m6) fun v29 =>
              j20 v29 m6) fun j15 =>
      zLet (j15 0) fun j33 =>
      if v11 < 0 then
        j33
      else
        if 21 ≤ v11 then
          j33
        else
          if zIn v11 21 then
            j15 (zCst v11)
          else none
theorem e_Boo_goThrough (a : Nat) (o1 : Nat) (m : Mm) : f_Boo_goThrough a o1 m =
  zLp4 (l_Boo_goThrough_0 o1 a) zFu 0 0 0 0 m := by
  unfold f_Boo_goThrough l_Boo_goThrough_0
  rfl
def l_Boo_reckon_0 (a : Nat) (p2 : Int32) : (Int32 → Mm → Option (Mm)) → Int32 → Mm → Option (Mm) :=
  fun r5 x4 m6 =>
  zBP (f_Alm_size m6) fun v7 =>
  if v7 ≤ x4 then
    some m6
  else
    zBP (f_Alm_inOrder x4 m6) fun v9 =>
    zBV (f_Wal_enter (a + 1) (zI m6 a 6) p2 m6) fun m10 =>
    zBQ 3 (f_Alm_code v9 m10) fun q11 =>
    zBI (f_Boo_goThrough a q11 m10) fun v13 m12 =>
    if zIn v9 20 then
      zLet (wI m12 (a + 3) (zIx v9) v13) fun m14 =>
      zBP (f_Wal_today (a + 1) m14) fun v15 =>
      zBP (f_Alm_bend v9 (zI m14 a 6) v15 m14) fun v16 =>
      if zIn v9 20 then
        zLet (wI m14 (a + 2) (zIx v9) v16) fun m17 =>
        zLet (x4 + 1) fun x18 =>
        r5 x18 m17
      else none
    else none
theorem e_Boo_reckon (a : Nat) (p1 : Int32) (p2 : Int32) (m : Mm) : f_Boo_reckon a p1 p2 m =
  zLet (wI m a 6 p1) fun m1 =>
    zBP (f_Cal_lengthOf (zI m1 a 6) m1) fun v2 =>
    zLet (wI m1 a 7 v2) fun m3 =>
    zLp1 (l_Boo_reckon_0 a p2) zFu 0 m3 := by
  unfold f_Boo_reckon l_Boo_reckon_0
  rfl
def l_Boo_place_0 (x6 : Int32) (m2 : Mm) (a : Nat) (p1 : Int32) : (Int32 → Option (Mm)) → Int32 → Option (Mm) :=
  fun r9 x8 =>
  if x6 < x8 then
    some m2
  else
    if (zI m2 a 7) ≤ x8 then
      some m2
    else
      if zIn x8 366 then
        if (zI m2 (a + 5) (zIx x8)) = (-1) then
          if zIn x8 366 then
            zLet (wI m2 (a + 5) (zIx x8) p1) fun m14 =>
            if zIn p1 20 then
              zLet (wI m14 (a + 4) (zIx p1) x8) fun m15 =>
              some m15
            else none
          else none
        else
          zLet (x8 + 1) fun x13 =>
          r9 x13
      else none
theorem e_Boo_place (a : Nat) (p1 : Int32) (m : Mm) : f_Boo_place a p1 m =
  if zIn p1 20 then
      zLet (zI m (a + 2) (zIx p1)) fun x1 =>
      if zIn p1 20 then
        zLet (wI m (a + 4) (zIx p1) (-1)) fun m2 =>
        if x1 = (-1) then
          some m2
        else
          zBP (f_Alm_canMove p1 m2) fun v4 =>
          zLet (fun (x6 : Int32) =>
            zLq1 (l_Boo_place_0 x6 m2 a p1) zFu x1) fun j7 =>
          if v4 = 0 then
            j7 x1
          else
            j7 (x1 + 20)
      else none
    else none := by
  unfold f_Boo_place l_Boo_place_0
  rfl
def l_Boo_placeAll_0 (x5 : Int32) (r6 : Int32 → Mm → Option (Mm)) (a : Nat) : (Int32 → Mm → Option (Mm)) → Int32 → Mm → Option (Mm) :=
  fun r10 x9 m11 =>
  zBP (f_Alm_size m11) fun v12 =>
  if v12 ≤ x9 then
    zLet (x5 + (-1)) fun x14 =>
    r6 x14 m11
  else
    zBP (f_Alm_rankOf x9 m11) fun v15 =>
    zLet (fun (m17 : Mm) =>
      zLet (x9 + 1) fun x19 =>
      r10 x19 m17) fun j18 =>
    if v15 = x5 then
      zBV (f_Boo_place a x9 m11) fun m20 =>
      j18 m20
    else
      j18 m11
def l_Boo_placeAll_1 (a : Nat) : (Int32 → Mm → Option (Mm)) → Int32 → Mm → Option (Mm) :=
  fun r6 x5 m7 =>
  if x5 < 0 then
    some m7
  else
    zLp1 (l_Boo_placeAll_0 x5 r6 a) zFu 0 m7
def l_Boo_placeAll_2 (a : Nat) : (Int32 → Mm → Option (Mm)) → Int32 → Mm → Option (Mm) :=
  fun r2 x1 m3 =>
  if 366 ≤ x1 then
    zLp1 (l_Boo_placeAll_1 a) zFu 9 m3
  else
    if zIn x1 366 then
      zLet (wI m3 (a + 5) (zIx x1) (-1)) fun m21 =>
      zLet (x1 + 1) fun x22 =>
      r2 x22 m21
    else none
theorem e_Boo_placeAll (a : Nat) (m : Mm) : f_Boo_placeAll a m =
  zLp1 (l_Boo_placeAll_2 a) zFu 0 m := by
  unfold f_Boo_placeAll l_Boo_placeAll_2 l_Boo_placeAll_1 l_Boo_placeAll_0
  rfl
def l_Boo_countClashes_0 (m : Mm) (x2 : Int32) (r3 : Int32 → Int32 → Option (Int32)) (a : Nat) : (Int32 → Int32 → Option (Int32)) → Int32 → Int32 → Option (Int32) :=
  fun r9 x7 x8 =>
  zBP (f_Alm_size m) fun v10 =>
  if v10 ≤ x8 then
    zLet (x2 + 1) fun x12 =>
    r3 x7 x12
  else
    if zIn x2 20 then
      zLet (fun (x14 : Int32) =>
        zLet (x8 + 1) fun x16 =>
        r9 x14 x16) fun j15 =>
      if (zI m (a + 2) (zIx x2)) = (-1) then
        j15 x7
      else
        if zIn x2 20 then
          if zIn x8 20 then
            if (zI m (a + 2) (zIx x2)) = (zI m (a + 2) (zIx x8)) then
              zLet (x7 + 1) fun x18 =>
              j15 x18
            else
              j15 x7
          else none
        else none
    else none
def l_Boo_countClashes_1 (m : Mm) (a : Nat) : (Int32 → Int32 → Option (Int32)) → Int32 → Int32 → Option (Int32) :=
  fun r3 x1 x2 =>
  zBP (f_Alm_size m) fun v4 =>
  if v4 ≤ x2 then
    some x1
  else
    zLet (x2 + 1) fun x6 =>
    zLq2 (l_Boo_countClashes_0 m x2 r3 a) zFu x1 x6
theorem e_Boo_countClashes (a : Nat) (m : Mm) : f_Boo_countClashes a m =
  zLq2 (l_Boo_countClashes_1 m a) zFu 0 0 := by
  unfold f_Boo_countClashes l_Boo_countClashes_1 l_Boo_countClashes_0
  rfl
def l_Boo_costOfAll_0 (m : Mm) (a : Nat) : (Int32 → Int32 → Option (Int32)) → Int32 → Int32 → Option (Int32) :=
  fun r3 x1 x2 =>
  zBP (f_Alm_size m) fun v4 =>
  if v4 ≤ x2 then
    some x1
  else
    if zIn x2 20 then
      zLet (x1 + (zI m (a + 3) (zIx x2))) fun x6 =>
      zLet (x2 + 1) fun x7 =>
      r3 x6 x7
    else none
theorem e_Boo_costOfAll (a : Nat) (m : Mm) : f_Boo_costOfAll a m =
  zLq2 (l_Boo_costOfAll_0 m a) zFu 1 0 := by
  unfold f_Boo_costOfAll l_Boo_costOfAll_0
  rfl
def l_Pla_nextNumber_0 (p1 : Int32) : (Int32 → Int32 → Mm → Option ((Int32 × Mm))) → Int32 → Int32 → Mm → Option ((Int32 × Mm)) :=
  fun r3 x1 x2 m4 =>
  if p1 ≤ x2 then
    some (x1, m4)
  else
    zGR 8 (zR m4 164 4) fun q6 =>
    zBP (f_Txt_at q6 (zI m4 164 5) m4) fun v7 =>
    if v7 < 48 then
      some (x1, m4)
    else
      if v7 ≤ 57 then
        zLet (((10 * x1) + v7) - 48) fun x10 =>
        zLet (wI m4 164 5 ((zI m4 164 5) + 1)) fun m11 =>
        zLet (x2 + 1) fun x12 =>
        r3 x10 x12 m11
      else
        some (x1, m4)
theorem e_Pla_nextNumber (p1 : Int32) (m : Mm) : f_Pla_nextNumber p1 m =
  zLp2 (l_Pla_nextNumber_0 p1) zFu 0 0 m := by
  unfold f_Pla_nextNumber l_Pla_nextNumber_0
  rfl
def l_Pla_readDays_0 (p1 : Int32) : (Int32 → Int32 → Mm → Option (Mm)) → Int32 → Int32 → Mm → Option (Mm) :=
  fun r3 x1 x2 m4 =>
  zLet (if p1 = 0 then
    some m4
  else
    zBV (f_Wal_toLater 165 x1 m4) fun m8 =>
    some m8) fun j6 =>
  if 40 ≤ x2 then
    j6
  else
    zGR 8 (zR m4 164 4) fun q9 =>
    zBP (f_Txt_at q9 (zI m4 164 5) m4) fun v10 =>
    zLet (zBI (f_Pla_nextSign m4) fun v14 m13 =>
    zLet (fun (x16 : Int32) =>
      zBI (f_Pla_nextNumber 3 m13) fun v19 m18 =>
      zLet (fun (x21 : Int32) =>
        zLet (x1 + x21) fun x23 =>
        zLet (x2 + 1) fun x24 =>
        r3 x23 x24 m18) fun j22 =>
      if x16 = 0 then
        j22 (-v19)
      else
        j22 v19) fun j17 =>
    if v14 = 43 then
      j17 1
    else
      j17 0) fun j12 =>
    if v10 = 43 then
      j12
    else
      zGR 8 (zR m4 164 4) fun q25 =>
      zBP (f_Txt_at q25 (zI m4 164 5) m4) fun v26 =>
      if v26 = 45 then
        j12
      else
        j6
theorem e_Pla_readDays (p1 : Int32) (m : Mm) : f_Pla_readDays p1 m =
  zLp2 (l_Pla_readDays_0 p1) zFu 0 0 m := by
  unfold f_Pla_readDays l_Pla_readDays_0
  rfl
def l_g_Pla_readSteps_0 (p2 : Int32) (c_readBranch : Int32 → Int32 → Mm → Option Mm) (p1 : Int32) : (Int32 → Mm → Option (Mm)) → Int32 → Mm → Option (Mm) :=
  fun r2 x1 m3 =>
  if 40 ≤ x1 then
    some m3
  else
    if 41 < p2 then
      some m3
    else
      zGR 8 (zR m3 164 4) fun q6 =>
      zBP (f_Txt_at q6 (zI m3 164 5) m3) fun v7 =>
      if v7 = 125 then
        some m3
      else
        if v7 = 0 then
          some m3
        else
          zLet (fun (m11 : Mm) =>
            zLet (x1 + 1) fun x13 =>
            r2 x13 m11) fun j12 =>
          if v7 = 63 then
            zLet (wI m3 164 5 ((zI m3 164 5) + 1)) fun m20 =>
            zBV (c_readBranch p1 (p2 + 1) m20) fun m21 =>
            j12 m21
          else
            zLet (zBV (f_Pla_readDays p1 m3) fun m16 =>
            j12 m16) fun j15 =>
            if v7 = 43 then
              j15
            else
              if v7 = 45 then
                j15
              else
                zLet (wI m3 164 5 ((zI m3 164 5) + 1)) fun m18 =>
                zBV (f_Pla_readMove v7 p1 m18) fun m19 =>
                j12 m19
theorem e_g_Pla_readSteps (c_readBranch : Int32 → Int32 → Mm → Option Mm) (p1 : Int32) (p2 : Int32) (m : Mm) : g_Pla_readSteps c_readBranch p1 p2 m =
  zLp1 (l_g_Pla_readSteps_0 p2 c_readBranch p1) zFu 0 m := by
  unfold g_Pla_readSteps l_g_Pla_readSteps_0
  rfl
def l_Pla_readAll_0 (p1 : Int32) (p2 : Int32) : (Int32 → Mm → Option (Mm)) → Int32 → Mm → Option (Mm) :=
  fun r2 x1 m3 =>
  zBP (f_Alm_size m3) fun v4 =>
  if v4 ≤ x1 then
    some m3
  else
    zBP (f_Alm_inOrder x1 m3) fun v6 =>
    zBV (f_Wal_enter 165 p1 p2 m3) fun m7 =>
    zBQ 8 (f_Alm_rule v6 m7) fun q8 =>
    zLet (wR m7 164 4 q8) fun m9 =>
    zLet (wI m9 164 5 0) fun m10 =>
    zBV (f_Pla_readStart m10) fun m11 =>
    zBV (f_Pla_readSteps 1 0 m11) fun m12 =>
    zBP (f_Wal_today 165 m12) fun v13 =>
    zBP (f_Alm_bend v6 p1 v13 m12) fun v14 =>
    if zIn v6 20 then
      zLet (wI m12 166 (zIx v6) v14) fun m15 =>
      zLet (x1 + 1) fun x16 =>
      r2 x16 m15
    else none
theorem e_Pla_readAll (p1 : Int32) (p2 : Int32) (m : Mm) : f_Pla_readAll p1 p2 m =
  zLp1 (l_Pla_readAll_0 p1 p2) zFu 0 m := by
  unfold f_Pla_readAll l_Pla_readAll_0
  rfl
def l_Pla_bestOn_0 (m : Mm) (p1 : Int32) : (Int32 → Int32 → Option (Int32)) → Int32 → Int32 → Option (Int32) :=
  fun r3 x1 x2 =>
  zBP (f_Alm_size m) fun v4 =>
  if v4 ≤ x2 then
    some x1
  else
    zBP (f_Pla_asksFor x2 p1 m) fun v6 =>
    zLet (fun (x8 : Int32) =>
      zLet (x2 + 1) fun x10 =>
      r3 x8 x10) fun j9 =>
    if v6 = 0 then
      j9 x1
    else
      zLet (j9 x2) fun j12 =>
      if x1 = (-1) then
        j12
      else
        zBP (f_Alm_rankOf x2 m) fun v13 =>
        zBP (f_Alm_rankOf x1 m) fun v14 =>
        if v13 ≤ v14 then
          j9 x1
        else
          j12
theorem e_Pla_bestOn (p1 : Int32) (m : Mm) : f_Pla_bestOn p1 m =
  zLq2 (l_Pla_bestOn_0 m p1) zFu (-1) 0 := by
  unfold f_Pla_bestOn l_Pla_bestOn_0
  rfl
def l_Pla_goThroughDays_0 (v6 : Int32) : (Int32 → Mm → Option (Mm)) → Int32 → Mm → Option (Mm) :=
  fun r8 x7 m9 =>
  if v6 ≤ x7 then
    some m9
  else
    zBP (f_Pla_bestOn x7 m9) fun v11 =>
    zLet (fun (m13 : Mm) =>
      zLet (x7 + 1) fun x15 =>
      r8 x15 m13) fun j14 =>
    if v11 = (-1) then
      j14 m9
    else
      if zIn v11 20 then
        zLet (wI m9 167 (zIx v11) x7) fun m16 =>
        j14 m16
      else none
def l_Pla_goThroughDays_1 (p1 : Int32) : (Int32 → Mm → Option (Mm)) → Int32 → Mm → Option (Mm) :=
  fun r2 x1 m3 =>
  zBP (f_Alm_size m3) fun v4 =>
  if v4 ≤ x1 then
    zBP (f_Cal_lengthOf p1 m3) fun v6 =>
    zLp1 (l_Pla_goThroughDays_0 v6) zFu 0 m3
  else
    if zIn x1 20 then
      zLet (wI m3 167 (zIx x1) (-1)) fun m17 =>
      zLet (x1 + 1) fun x18 =>
      r2 x18 m17
    else none
theorem e_Pla_goThroughDays (p1 : Int32) (m : Mm) : f_Pla_goThroughDays p1 m =
  zLp1 (l_Pla_goThroughDays_1 p1) zFu 0 m := by
  unfold f_Pla_goThroughDays l_Pla_goThroughDays_1 l_Pla_goThroughDays_0
  rfl
def l_Sol_questionHolds_0 (o1 : Nat) : (Int32 → Int32 → Int32 → Mm → Option ((Int32 × Mm))) → Int32 → Int32 → Int32 → Mm → Option ((Int32 × Mm)) :=
  fun r4 x1 x2 x3 m5 =>
  zBP (f_Cod_size 171 m5) fun v6 =>
  if v6 ≤ x3 then
    if zBo x1 then some (x1, m5) else none
  else
    zBP (f_Cod_size 171 m5) fun v8 =>
    if v8 ≤ x2 then
      if zBo x1 then some (x1, m5) else none
    else
      zBP (f_Cod_kindAt 171 x2 m5) fun v10 =>
      zLet (fun (x12 : Int32) (m13 : Mm) =>
        zBP (f_Cod_placeAfter 171 x2 x12 m13) fun v15 =>
        zLet (x3 + 1) fun x16 =>
        r4 x12 v15 x16 m13) fun j14 =>
      if v10 = 17 then
        zLet (fun (x22 : Int32) =>
          j14 x22 m5) fun j23 =>
        if x1 = 0 then
          j23 1
        else
          j23 0
      else
        if v10 < 21 then
          j14 x1 m5
        else
          zBP (f_Cod_argumentAt 171 x2 m5) fun v18 =>
          zBI (f_Boo_claimHolds o1 v10 v18 m5) fun v20 m19 =>
          j14 v20 m19
theorem e_Sol_questionHolds (o1 : Nat) (m : Mm) : f_Sol_questionHolds o1 m =
  zLp3 (l_Sol_questionHolds_0 o1) zFu 0 0 0 m := by
  unfold f_Sol_questionHolds l_Sol_questionHolds_0
  rfl
def l_Sol_look_0 (o2 : Nat) (p3 : Int32) : (Int32 → Int32 → Mm → Option ((Int32 × Mm))) → Int32 → Int32 → Mm → Option ((Int32 × Mm)) :=
  fun r4 x2 x3 m5 =>
  if 399 < x3 then
    some ((-1), m5)
  else
    zBV (f_Boo_reckon o2 x3 p3 m5) fun m7 =>
    zBP (f_Boo_costOfAll o2 m7) fun v8 =>
    if v8 ≤ x2 then
      zLet (x2 - v8) fun x10 =>
      zLet (wL m7 170 3 ((zL m7 170 3) + (v8.toInt64))) fun m11 =>
      zLet (wI m11 170 2 (x3 + 1)) fun m12 =>
      zBV (f_Boo_placeAll o2 m12) fun m13 =>
      zBI (f_Sol_questionHolds o2 m13) fun v15 m14 =>
      if v15 = 0 then
        zLet (x3 + 1) fun x17 =>
        r4 x10 x17 m14
      else
        some (x3, m14)
    else
      some ((-2), m7)
theorem e_Sol_look (p1 : Int32) (o2 : Nat) (p3 : Int32) (m : Mm) : f_Sol_look p1 o2 p3 m =
  zLet (zI m 170 2) fun x1 =>
    zLp2 (l_Sol_look_0 o2 p3) zFu p1 x1 m := by
  unfold f_Sol_look l_Sol_look_0
  rfl
def l_Bel_forgetYear_0 (x6 : Int32) (r7 : Int32 → Mm → Option (Mm)) : (Int32 → Mm → Option (Mm)) → Int32 → Mm → Option (Mm) :=
  fun r11 x10 m12 =>
  if 36 ≤ x10 then
    zLet (x6 + 1) fun x14 =>
    r7 x14 m12
  else
    if zIn x6 20 then
      if zIn x10 36 then
        zLet (wI m12 (181 + zIx x6) (zIx x10) (-1)) fun m16 =>
        zLet (x10 + 1) fun x17 =>
        r11 x17 m16
      else none
    else none
def l_Bel_forgetYear_1  : (Int32 → Mm → Option (Mm)) → Int32 → Mm → Option (Mm) :=
  fun r7 x6 m8 =>
  if 20 ≤ x6 then
    some m8
  else
    zLp1 (l_Bel_forgetYear_0 x6 r7) zFu 0 m8
def l_Bel_forgetYear_2  : (Int32 → Mm → Option (Mm)) → Int32 → Mm → Option (Mm) :=
  fun r3 x2 m4 =>
  if 24 ≤ x2 then
    zLp1 (l_Bel_forgetYear_1) zFu 0 m4
  else
    if zIn x2 24 then
      zLet (wI m4 178 (zIx x2) (-1)) fun m18 =>
      if zIn x2 24 then
        zLet (wI m18 179 (zIx x2) 0) fun m19 =>
        zLet (x2 + 1) fun x20 =>
        r3 x20 m19
      else none
    else none
theorem e_Bel_forgetYear (m : Mm) : f_Bel_forgetYear m =
  zLet (wI m 174 7 0) fun m1 =>
    zLp1 (l_Bel_forgetYear_2) zFu 0 m1 := by
  unfold f_Bel_forgetYear l_Bel_forgetYear_2 l_Bel_forgetYear_1 l_Bel_forgetYear_0
  rfl
def l_Bel_ringerFor_0 (m : Mm) (p1 : Int32) (p2 : Int32) : (Int32 → Int32 → Option (Int32)) → Int32 → Int32 → Option (Int32) :=
  fun r3 x1 x2 =>
  if (zI m 174 3) ≤ x2 then
    some x1
  else
    if zIn x2 24 then
      zLet (fun (x6 : Int32) =>
        zLet (fun (x9 : Int32) =>
          zLet (x2 + 1) fun x11 =>
          r3 x9 x11) fun j10 =>
        if x6 = 0 then
          j10 x1
        else
          zLet (j10 x2) fun j13 =>
          if x1 = (-1) then
            j13
          else
            if zIn x2 24 then
              if zIn x1 24 then
                if (zI m 179 (zIx x1)) ≤ (zI m 179 (zIx x2)) then
                  j10 x1
                else
                  j13
              else none
            else none) fun j7 =>
      zLet (j7 0) fun j15 =>
      if (zI m 176 (zIx x2)) = p1 then
        zBP (f_Bel_isRested x2 p2 m) fun v16 =>
        if v16 = 0 then
          j15
        else
          j7 1
      else
        j15
    else none
theorem e_Bel_ringerFor (p1 : Int32) (p2 : Int32) (m : Mm) : f_Bel_ringerFor p1 p2 m =
  zLq2 (l_Bel_ringerFor_0 m p1 p2) zFu (-1) 0 := by
  unfold f_Bel_ringerFor l_Bel_ringerFor_0
  rfl
def l_Bel_ringFeast_0 (x1 : Int32) (r2 : Int32 → Mm → Option (Mm)) (p2 : Int32) (p3 : Int32) (p1 : Int32) (p4 : Int32) : (Int32 → Mm → Option (Mm)) → Int32 → Mm → Option (Mm) :=
  fun r6 x5 m7 =>
  zLet (zLet (x1 + 1) fun x10 =>
  r2 x10 m7) fun j9 =>
  if p2 ≤ x5 then
    j9
  else
    if zIn x1 6 then
      if (zI m7 175 (zIx x1)) ≤ x5 then
        j9
      else
        zBP (f_Bel_ringerFor x1 p3 m7) fun v12 =>
        if zIn p1 20 then
          if zIn ((6 * x1) + x5) 36 then
            zLet (wI m7 (181 + zIx p1) (zIx ((6 * x1) + x5)) v12) fun m14 =>
            zLet (fun (m16 : Mm) =>
              zLet (x5 + 1) fun x18 =>
              r6 x18 m16) fun j17 =>
            if v12 = (-1) then
              zLet (wI m14 174 7 ((zI m14 174 7) + 1)) fun m21 =>
              j17 m21
            else
              if zIn v12 24 then
                if zIn v12 24 then
                  zLet (wI m14 179 (zIx v12) ((zI m14 179 (zIx v12)) + 1)) fun m19 =>
                  if zIn v12 24 then
                    zLet (wI m19 178 (zIx v12) p4) fun m20 =>
                    j17 m20
                  else none
                else none
              else none
          else none
        else none
    else none
def l_Bel_ringFeast_1 (p2 : Int32) (p3 : Int32) (p1 : Int32) (p4 : Int32) : (Int32 → Mm → Option (Mm)) → Int32 → Mm → Option (Mm) :=
  fun r2 x1 m3 =>
  if 6 ≤ x1 then
    some m3
  else
    zLp1 (l_Bel_ringFeast_0 x1 r2 p2 p3 p1 p4) zFu 0 m3
theorem e_Bel_ringFeast (p1 : Int32) (p2 : Int32) (p3 : Int32) (p4 : Int32) (m : Mm) : f_Bel_ringFeast p1 p2 p3 p4 m =
  zLp1 (l_Bel_ringFeast_1 p2 p3 p1 p4) zFu 0 m := by
  unfold f_Bel_ringFeast l_Bel_ringFeast_1 l_Bel_ringFeast_0
  rfl
def l_Bel_ringYear_0 (o2 : Nat) (o3 : Nat) : (Int32 → Mm → Option (Mm)) → Int32 → Mm → Option (Mm) :=
  fun r3 x2 m4 =>
  if 365 < x2 then
    some m4
  else
    zBP (f_Boo_feastOn o2 x2 m4) fun v6 =>
    zLet (fun (m8 : Mm) =>
      zLet (x2 + 1) fun x10 =>
      r3 x10 m8) fun j9 =>
    if v6 = (-1) then
      j9 m4
    else
      zBP (f_Boo_isNextTo o2 o3 v6 m4) fun v11 =>
      zLet (fun (x13 : Int32) =>
        zBP (f_Alm_rankOf v6 m4) fun v15 =>
        zBV (f_Bel_ringFeast v6 v15 x2 x13 m4) fun m16 =>
        j9 m16) fun j14 =>
      if v11 = 0 then
        j14 x2
      else
        j14 (x2 + 1)
theorem e_Bel_ringYear (o2 : Nat) (o3 : Nat) (m : Mm) : f_Bel_ringYear o2 o3 m =
  zBV (f_Bel_forgetYear m) fun m1 =>
    zLp1 (l_Bel_ringYear_0 o2 o3) zFu 0 m1 := by
  unfold f_Bel_ringYear l_Bel_ringYear_0
  rfl
def l_Mod_beginOfMonth_0 (p2 : Int32) (p1 : Int32) (m : Mm) : (Int32 → Int32 → Option (Int32)) → Int32 → Int32 → Option (Int32) :=
  fun r3 x1 x2 =>
  if p2 ≤ x2 then
    some x1
  else
    zBP (f_Mod_isLeap p1 m) fun v5 =>
    zBP (f_Mod_lengthOfMonth x2 v5 m) fun v6 =>
    zLet (x1 + v6) fun x7 =>
    zLet (x2 + 1) fun x8 =>
    r3 x7 x8
theorem e_Mod_beginOfMonth (p1 : Int32) (p2 : Int32) (m : Mm) : f_Mod_beginOfMonth p1 p2 m =
  zLq2 (l_Mod_beginOfMonth_0 p2 p1 m) zFu 0 1 := by
  unfold f_Mod_beginOfMonth l_Mod_beginOfMonth_0
  rfl
def l_Mod_dateOf_0 (p1 : Int32) (m : Mm) : (Int32 → Int32 → Option (Int32)) → Int32 → Int32 → Option (Int32) :=
  fun r3 x1 x2 =>
  zBP (f_Mod_isLeap p1 m) fun v4 =>
  zBP (f_Mod_lengthOfMonth x1 v4 m) fun v5 =>
  if x2 < v5 then
    some (((100 * x1) + x2) + 1)
  else
    zBP (f_Mod_isLeap p1 m) fun v7 =>
    zBP (f_Mod_lengthOfMonth x1 v7 m) fun v8 =>
    zLet (x2 - v8) fun x9 =>
    zLet (x1 + 1) fun x10 =>
    r3 x10 x9
theorem e_Mod_dateOf (p1 : Int32) (p2 : Int32) (m : Mm) : f_Mod_dateOf p1 p2 m =
  zLq2 (l_Mod_dateOf_0 p1 m) zFu 1 p2 := by
  unfold f_Mod_dateOf l_Mod_dateOf_0
  rfl
def l_Mod_acts_0  : (Mm → Option (Mm)) → Mm → Option (Mm) :=
  fun r6 m7 =>
  if (zI m7 201 6) ≤ 0 then
    some m7
  else
    if zIn ((zI m7 201 6) - 1) 500 then
      if (zI m7 203 (zIx ((zI m7 201 6) - 1))) = 10 then
        zLet (wI m7 201 6 ((zI m7 201 6) - 1)) fun m10 =>
        if zIn (zI m10 201 6) 500 then
          zBV (f_Mod_emits (zI m10 204 (zIx (zI m10 201 6))) (zI m10 201 12) m10) fun m11 =>
          zLet (wI m11 201 12 0) fun m12 =>
          r6 m12
        else none
      else
        some m7
    else none
theorem e_Mod_acts (m : Mm) : f_Mod_acts m =
  if (zI m 201 6) ≤ 0 then
      some m
    else
      if zIn ((zI m 201 6) - 1) 500 then
        if (zI m 203 (zIx ((zI m 201 6) - 1))) = 10 then
          zLet (wI m 201 6 ((zI m 201 6) - 1)) fun m3 =>
          if zIn (zI m3 201 6) 500 then
            zBV (f_Mod_emits (zI m3 204 (zIx (zI m3 201 6))) (zI m3 201 12) m3) fun m4 =>
            zLet (wI m4 201 12 0) fun m5 =>
            zLp0 (l_Mod_acts_0) zFu m5
          else none
        else
          some m
      else none := by
  unfold f_Mod_acts l_Mod_acts_0
  rfl
def l_Mod_leaves_0 (p1 : Int32) : (Int32 → Mm → Option (Mm)) → Int32 → Mm → Option (Mm) :=
  fun r2 x1 m3 =>
  if x1 = 0 then
    some m3
  else
    if (zI m3 201 6) ≤ 0 then
      some m3
    else
      if zIn ((zI m3 201 6) - 1) 500 then
        zLet (zI m3 203 (zIx ((zI m3 201 6) - 1))) fun x6 =>
        zBP (f_Mod_isIn p1 48 57 m3) fun v7 =>
        zLet (zLet (if x6 = 2 then
          if p1 = 125 then
            zBV (f_Mod_endsDays m3) fun m14 =>
            zLet (wI m14 201 6 ((zI m14 201 6) - 1)) fun m15 =>
            r2 0 m15
          else
            r2 0 m3
        else
          r2 0 m3) fun j11 =>
        if x6 = 6 then
          if p1 = 123 then
            j11
          else
            zBV (f_Mod_lands m3) fun m17 =>
            zLet (wI m17 201 6 ((zI m17 201 6) - 1)) fun m18 =>
            r2 1 m18
        else
          j11) fun j9 =>
        if x6 = 11 then
          if (zI m3 201 18) ≤ 0 then
            j9
          else
            if v7 = 0 then
              if zIn ((zI m3 201 6) - 1) 500 then
                zLet (wI m3 201 16 ((zI m3 201 16) + ((zI m3 204 (zIx ((zI m3 201 6) - 1))) * (zI m3 201 17)))) fun m21 =>
                zLet (wI m21 201 6 ((zI m21 201 6) - 1)) fun m22 =>
                r2 1 m22
              else none
            else
              j9
        else
          j9
      else none
theorem e_Mod_leaves (p1 : Int32) (m : Mm) : f_Mod_leaves p1 m =
  zLp1 (l_Mod_leaves_0 p1) zFu 1 m := by
  unfold f_Mod_leaves l_Mod_leaves_0
  rfl
def l_Mod_reads_0  : (Int32 → Mm → Option ((Int32 × Mm))) → Int32 → Mm → Option ((Int32 × Mm)) :=
  fun r10 x9 m11 =>
  if (zI m11 201 3) ≤ x9 then
    zBV (f_Mod_leaves 0 m11) fun m13 =>
    zLet (if (zI m13 201 6) = 0 then
      some ((-1), m13)
    else
      some ((zI m13 201 3), m13)) fun j15 =>
    if (zI m13 201 6) = 1 then
      if zIn 0 500 then
        if (zI m13 203 (zIx 0)) = 1 then
          zBV (f_Mod_endsDays m13) fun m18 =>
          some ((-1), m18)
        else
          j15
      else none
    else
      j15
  else
    if zIn x9 40 then
      zBI (f_Mod_takes (zI m11 202 (zIx x9)) m11) fun v20 m19 =>
      if v20 = 0 then
        some (x9, m19)
      else
        zBV (f_Mod_acts m19) fun m22 =>
        zLet (x9 + 1) fun x23 =>
        r10 x23 m22
    else none
theorem e_Mod_reads (p1 : Int32) (m : Mm) : f_Mod_reads p1 m =
  zLet (wI m 201 6 0) fun m1 =>
    zLet (wI m1 201 8 0) fun m2 =>
    zLet (wI m2 201 11 0) fun m3 =>
    zLet (wI m3 201 12 0) fun m4 =>
    zLet (wI m4 201 14 0) fun m5 =>
    zLet (wI m5 201 15 0) fun m6 =>
    zLet (wI m6 201 16 0) fun m7 =>
    zBV (f_Mod_push p1 0 m7) fun m8 =>
    zLp1 (l_Mod_reads_0) zFu 0 m8 := by
  unfold f_Mod_reads l_Mod_reads_0
  rfl
def l_Mod_areThere_0 (m : Mm) : (Int32 → Int32 → Option (Int32)) → Int32 → Int32 → Option (Int32) :=
  fun r3 x1 x2 =>
  if (zI m 201 11) ≤ x2 then
    if zBo x1 then some x1 else none
  else
    zLet (fun (x6 : Int32) =>
      zLet (x2 + 1) fun x8 =>
      r3 x6 x8) fun j7 =>
    zLet (j7 0) fun j9 =>
    if x1 = 0 then
      j9
    else
      if zIn x2 80 then
        zLet (j7 1) fun j11 =>
        zLet (if zIn x2 80 then
          if (zI m 201 19) ≤ (zI m 207 (zIx x2)) then
            j9
          else
            j11
        else none) fun j12 =>
        if (zI m 206 (zIx x2)) = 4 then
          j12
        else
          if zIn x2 80 then
            if (zI m 206 (zIx x2)) = 15 then
              j12
            else
              j11
          else none
      else none
theorem e_Mod_areThere (m : Mm) : f_Mod_areThere m =
  zLq2 (l_Mod_areThere_0 m) zFu 1 0 := by
  unfold f_Mod_areThere l_Mod_areThere_0
  rfl
def l_Mod_keeps_0 (p1 : Int32) : (Int32 → Mm → Option (Mm)) → Int32 → Mm → Option (Mm) :=
  fun r3 x2 m4 =>
  if (zI m4 201 11) ≤ x2 then
    zLet (wI m4 201 3 0) fun m6 =>
    some m6
  else
    if zIn x2 80 then
      if zIn ((80 * p1) + x2) 1600 then
        zLet (wI m4 211 (zIx ((80 * p1) + x2)) (zI m4 206 (zIx x2))) fun m7 =>
        if zIn x2 80 then
          if zIn ((80 * p1) + x2) 1600 then
            zLet (wI m7 212 (zIx ((80 * p1) + x2)) (zI m7 207 (zIx x2))) fun m8 =>
            zLet (x2 + 1) fun x9 =>
            r3 x9 m8
          else none
        else none
      else none
    else none
theorem e_Mod_keeps (p1 : Int32) (m : Mm) : f_Mod_keeps p1 m =
  if zIn p1 20 then
      zLet (wI m 210 (zIx p1) (zI m 201 11)) fun m1 =>
      zLp1 (l_Mod_keeps_0 p1) zFu 0 m1
    else none := by
  unfold f_Mod_keeps l_Mod_keeps_0
  rfl
def l_Mod_named_0 (p1 : Int32) (m : Mm) : (Int32 → Int32 → Option (Int32)) → Int32 → Int32 → Option (Int32) :=
  fun r3 x1 x2 =>
  if zIn p1 20 then
    if (zI m 210 (zIx p1)) ≤ x2 then
      some x1
    else
      if zIn ((80 * p1) + x2) 1600 then
        zLet (zI m 211 (zIx ((80 * p1) + x2))) fun x5 =>
        zLet (fun (x7 : Int32) =>
          zLet (x1 ||| x7) fun x9 =>
          zLet (x2 + 1) fun x10 =>
          r3 x9 x10) fun j8 =>
        zLet (if zIn ((80 * p1) + x2) 1600 then
          j8 (1 <<< ((zI m 212 (zIx ((80 * p1) + x2))) &&& 31))
        else none) fun j11 =>
        if x5 = 4 then
          j11
        else
          if x5 = 15 then
            j11
          else
            j8 0
      else none
  else none
theorem e_Mod_named (p1 : Int32) (m : Mm) : f_Mod_named p1 m =
  zLq2 (l_Mod_named_0 p1 m) zFu 0 0 := by
  unfold f_Mod_named l_Mod_named_0
  rfl
def l_Mod_needsItself_0 (m : Mm) (x6 : Int32) (r7 : Int32 → Int32 → Option (Int32)) (p1 : Int32) : (Int32 → Int32 → Option (Int32)) → Int32 → Int32 → Option (Int32) :=
  fun r12 x10 x11 =>
  if (zI m 201 19) ≤ x11 then
    zLet (x6 + 1) fun x14 =>
    r7 x10 x14
  else
    zLet (fun (x16 : Int32) =>
      zLet (x10 ||| x16) fun x18 =>
      zLet (x11 + 1) fun x19 =>
      r12 x18 x19) fun j17 =>
    zLet (j17 0) fun j20 =>
    if ((x10 >>> (x11 &&& 31)) &&& 1) = 1 then
      if x11 = p1 then
        j20
      else
        zBP (f_Mod_named x11 m) fun v22 =>
        j17 v22
    else
      j20
def l_Mod_needsItself_1 (m : Mm) (p1 : Int32) : (Int32 → Int32 → Option (Int32)) → Int32 → Int32 → Option (Int32) :=
  fun r7 x5 x6 =>
  if (zI m 201 19) ≤ x6 then
    if ((x5 >>> (p1 &&& 31)) &&& 1) = 1 then
      some 1
    else
      some 0
  else
    zLq2 (l_Mod_needsItself_0 m x6 r7 p1) zFu x5 0
def l_Mod_needsItself_2 (m : Mm) (p1 : Int32) : (Int32 → Int32 → Option (Int32)) → Int32 → Int32 → Option (Int32) :=
  fun r3 x1 x2 =>
  if (zI m 201 11) ≤ x2 then
    zLq2 (l_Mod_needsItself_1 m p1) zFu x1 0
  else
    if zIn x2 80 then
      zLet (fun (x24 : Int32) =>
        zLet (x1 ||| x24) fun x26 =>
        zLet (x2 + 1) fun x27 =>
        r3 x26 x27) fun j25 =>
      zLet (if zIn x2 80 then
        j25 (1 <<< ((zI m 207 (zIx x2)) &&& 31))
      else none) fun j28 =>
      if (zI m 206 (zIx x2)) = 4 then
        j28
      else
        if zIn x2 80 then
          if (zI m 206 (zIx x2)) = 15 then
            j28
          else
            j25 0
        else none
    else none
theorem e_Mod_needsItself (p1 : Int32) (m : Mm) : f_Mod_needsItself p1 m =
  zLq2 (l_Mod_needsItself_2 m p1) zFu 0 0 := by
  unfold f_Mod_needsItself l_Mod_needsItself_2 l_Mod_needsItself_1 l_Mod_needsItself_0
  rfl
def l_Mod_dispense_0 (m5 : Mm) (p1 : Int32) (p2 : Int32) (p3 : Int32) : (Int32 → Int32 → Option ((Int32 × Mm))) → Int32 → Int32 → Option ((Int32 × Mm)) :=
  fun r12 x10 x11 =>
  if (zI m5 201 25) ≤ x11 then
    zLet (fun (x15 : Int32) =>
      zLet (wI m5 201 0 x15) fun m17 =>
      if (zI m17 201 0) ≤ 0 then
        if zIn (zI m17 201 25) 30 then
          zLet (wI m17 213 (zIx (zI m17 201 25)) p1) fun m19 =>
          if zIn (zI m19 201 25) 30 then
            zLet (wI m19 214 (zIx (zI m19 201 25)) p2) fun m20 =>
            if zIn (zI m20 201 25) 30 then
              zLet (wI m20 215 (zIx (zI m20 201 25)) p3) fun m21 =>
              zLet (wI m21 201 25 ((zI m21 201 25) + 1)) fun m22 =>
              some ((zI m22 201 25), m22)
            else none
          else none
        else none
      else
        some (0, m17)) fun j16 =>
    if x10 = 0 then
      j16 3
    else
      j16 0
  else
    if zIn x11 30 then
      zLet ((zI m5 214 (zIx x11)) - p2) fun x23 =>
      zLet (fun (x25 : Int32) =>
        zLet (x11 + 1) fun x27 =>
        r12 x25 x27) fun j26 =>
      zLet (j26 0) fun j28 =>
      if x10 = 0 then
        j28
      else
        if zIn x11 30 then
          zLet (j26 1) fun j30 =>
          if (zI m5 213 (zIx x11)) = p1 then
            if 10 ≤ x23 then
              j30
            else
              if (-10) < x23 then
                j28
              else
                j30
          else
            j30
        else none
    else none
theorem e_Mod_dispense (p1 : Int32) (p2 : Int32) (p3 : Int32) (m : Mm) : f_Mod_dispense p1 p2 p3 m =
  zBP (f_Mod_isFeast p1 m) fun v1 =>
    zLet (fun (x3 : Int32) =>
      zLet (wI m 201 0 x3) fun m5 =>
      if (zI m5 201 0) ≤ 0 then
        zLet (fun (x8 : Int32) =>
          zLq2 (l_Mod_dispense_0 m5 p1 p2 p3) zFu x8 0) fun j9 =>
        if 30 ≤ (zI m5 201 25) then
          j9 0
        else
          j9 1
      else
        some (0, m5)) fun j4 =>
    if v1 = 0 then
      j4 1
    else
      zBP (f_Mod_isYear p2 m) fun v33 =>
      zLet (j4 2) fun j35 =>
      if v33 = 0 then
        j35
      else
        zBP (f_Mod_isIn p3 (-30) 30 m) fun v36 =>
        zLet (j4 0) fun j38 =>
        if v36 = 0 then
          if p3 = 99 then
            j38
          else
            j35
        else
          j38 := by
  unfold f_Mod_dispense l_Mod_dispense_0
  rfl
def l_Mod_bendOf_0 (m : Mm) (p1 : Int32) (p2 : Int32) : (Int32 → Int32 → Option (Int32)) → Int32 → Int32 → Option (Int32) :=
  fun r3 x1 x2 =>
  if (zI m 201 25) ≤ x2 then
    some x1
  else
    if zIn x2 30 then
      zLet (fun (x6 : Int32) =>
        zLet (x2 + 1) fun x8 =>
        r3 x6 x8) fun j7 =>
      zLet (j7 x1) fun j9 =>
      if (zI m 213 (zIx x2)) = p1 then
        if zIn x2 30 then
          if (zI m 214 (zIx x2)) = p2 then
            j7 x2
          else
            j9
        else none
      else
        j9
    else none
theorem e_Mod_bendOf (p1 : Int32) (p2 : Int32) (m : Mm) : f_Mod_bendOf p1 p2 m =
  zLq2 (l_Mod_bendOf_0 m p1 p2) zFu (-1) 0 := by
  unfold f_Mod_bendOf l_Mod_bendOf_0
  rfl
def l_Mod_goesThrough_0 (p1 : Int32) (m : Mm) (p2 : Int32) (p3 : Int32) : (Int32 → Int32 → Int32 → Int32 → Option (Mm)) → Int32 → Int32 → Int32 → Int32 → Option (Mm) :=
  fun r5 x1 x2 x3 x4 =>
  if zIn p1 20 then
    if (zI m 210 (zIx p1)) ≤ x4 then
      zBP (f_Mod_bendOf p1 p2 m) fun v7 =>
      zLet (fun (x9 : Int32) =>
        if zIn ((20 * p3) + p1) 40 then
          zLet (wI m 216 (zIx ((20 * p3) + p1)) x9) fun m11 =>
          if zIn p1 20 then
            zLet (wI m11 218 (zIx p1) x3) fun m12 =>
            some m12
          else none
        else none) fun j10 =>
      if v7 = (-1) then
        j10 x1
      else
        if x1 = (-1) then
          j10 x1
        else
          if zIn v7 30 then
            zLet (fun (x15 : Int32) =>
              j10 x15) fun j16 =>
            if (zI m 215 (zIx v7)) = 99 then
              j16 (-1)
            else
              if zIn v7 30 then
                zBP (f_Mod_within p2 (x1 + (zI m 215 (zIx v7))) m) fun v17 =>
                j16 v17
              else none
          else none
    else
      if zIn ((80 * p1) + x4) 1600 then
        zLet (zI m 211 (zIx ((80 * p1) + x4))) fun x18 =>
        if zIn ((80 * p1) + x4) 1600 then
          zLet (zI m 212 (zIx ((80 * p1) + x4))) fun x19 =>
          zBP (f_Mod_costOf x18 m) fun v20 =>
          zLet (x3 + v20) fun x21 =>
          zLet (x4 + 1) fun x22 =>
          if 3 < x18 then
            if x18 = 4 then
              if zIn ((20 * p3) + x19) 40 then
                zLet (zI m 216 (zIx ((20 * p3) + x19))) fun x40 =>
                r5 x40 x2 x21 x22
              else none
            else
              if 12 < x18 then
                if 16 < x18 then
                  if x18 = 17 then
                    zLet (fun (x36 : Int32) =>
                      r5 x1 x36 x21 x22) fun j37 =>
                    if x2 = 0 then
                      j37 1
                    else
                      j37 0
                  else
                    zLet (r5 x1 x2 x21 x19) fun j29 =>
                    if x18 = 18 then
                      j29
                    else
                      zLet (if x18 = 20 then
                        if x2 = 0 then
                          r5 x1 x2 x21 x22
                        else
                          j29
                      else
                        r5 x1 x2 x21 x22) fun j31 =>
                      if x18 = 19 then
                        if x2 = 0 then
                          j29
                        else
                          j31
                      else
                        j31
                else
                  zBP (f_Mod_isSo x18 x19 p2 x1 p3 m) fun v38 =>
                  r5 x1 v38 x21 x22
              else
                zBP (f_Mod_moved x18 x19 p2 x1 p3 m) fun v39 =>
                r5 v39 x2 x21 x22
          else
            zBP (f_Mod_starts x18 x19 p2 m) fun v41 =>
            r5 v41 x2 x21 x22
        else none
      else none
  else none
theorem e_Mod_goesThrough (p1 : Int32) (p2 : Int32) (p3 : Int32) (m : Mm) : f_Mod_goesThrough p1 p2 p3 m =
  zLq4 (l_Mod_goesThrough_0 p1 m p2 p3) zFu (-1) 0 0 0 := by
  unfold f_Mod_goesThrough l_Mod_goesThrough_0
  rfl
def l_Mod_isReady_0 (m : Mm) (v1 : Int32) : (Int32 → Int32 → Option (Int32)) → Int32 → Int32 → Option (Int32) :=
  fun r7 x5 x6 =>
  if (zI m 201 19) ≤ x6 then
    if zBo x5 then some x5 else none
  else
    zLet (fun (x10 : Int32) =>
      zLet (x6 + 1) fun x12 =>
      r7 x10 x12) fun j11 =>
    zLet (j11 0) fun j13 =>
    if x5 = 0 then
      j13
    else
      zLet (j11 1) fun j15 =>
      if ((v1 >>> (x6 &&& 31)) &&& 1) = 0 then
        j15
      else
        if zIn x6 20 then
          if (zI m 217 (zIx x6)) = 0 then
            j13
          else
            j15
        else none
theorem e_Mod_isReady (p1 : Int32) (m : Mm) : f_Mod_isReady p1 m =
  zBP (f_Mod_named p1 m) fun v1 =>
    if zIn p1 20 then
      zLet (fun (x3 : Int32) =>
        zLq2 (l_Mod_isReady_0 m v1) zFu x3 0) fun j4 =>
      if (zI m 217 (zIx p1)) = 0 then
        j4 1
      else
        j4 0
    else none := by
  unfold f_Mod_isReady l_Mod_isReady_0
  rfl
def l_Mod_finds_0 (x5 : Int32) (r6 : Int32 → Mm → Option (Mm)) (p1 : Int32) (p2 : Int32) : (Int32 → Mm → Option (Mm)) → Int32 → Mm → Option (Mm) :=
  fun r10 x9 m11 =>
  if (zI m11 201 19) ≤ x9 then
    zLet (x5 + 1) fun x13 =>
    r6 x13 m11
  else
    zBP (f_Mod_isReady x9 m11) fun v14 =>
    zLet (fun (m16 : Mm) =>
      zLet (x9 + 1) fun x18 =>
      r10 x18 m16) fun j17 =>
    if v14 = 0 then
      j17 m11
    else
      zBV (f_Mod_goesThrough x9 p1 p2 m11) fun m19 =>
      if zIn x9 20 then
        zLet (wI m19 217 (zIx x9) 1) fun m20 =>
        j17 m20
      else none
def l_Mod_finds_1 (p1 : Int32) (p2 : Int32) : (Int32 → Mm → Option (Mm)) → Int32 → Mm → Option (Mm) :=
  fun r6 x5 m7 =>
  if (zI m7 201 19) ≤ x5 then
    some m7
  else
    zLp1 (l_Mod_finds_0 x5 r6 p1 p2) zFu 0 m7
def l_Mod_finds_2 (p1 : Int32) (p2 : Int32) : (Int32 → Mm → Option (Mm)) → Int32 → Mm → Option (Mm) :=
  fun r2 x1 m3 =>
  if (zI m3 201 19) ≤ x1 then
    zLp1 (l_Mod_finds_1 p1 p2) zFu 0 m3
  else
    if zIn x1 20 then
      zLet (wI m3 217 (zIx x1) 0) fun m21 =>
      zLet (x1 + 1) fun x22 =>
      r2 x22 m21
    else none
theorem e_Mod_finds (p1 : Int32) (p2 : Int32) (m : Mm) : f_Mod_finds p1 p2 m =
  zLp1 (l_Mod_finds_2 p1 p2) zFu 0 m := by
  unfold f_Mod_finds l_Mod_finds_2 l_Mod_finds_1 l_Mod_finds_0
  rfl
def l_Mod_isTaken_0 (m : Mm) (p1 : Int32) : (Int32 → Int32 → Option (Int32)) → Int32 → Int32 → Option (Int32) :=
  fun r3 x1 x2 =>
  if (zI m 201 19) ≤ x2 then
    if zBo x1 then some x1 else none
  else
    zLet (fun (x6 : Int32) =>
      zLet (x2 + 1) fun x8 =>
      r3 x6 x8) fun j7 =>
    zLet (j7 1) fun j9 =>
    if x1 = 0 then
      if zIn x2 20 then
        if (zI m 219 (zIx x2)) = p1 then
          j9
        else
          j7 0
      else none
    else
      j9
theorem e_Mod_isTaken (p1 : Int32) (m : Mm) : f_Mod_isTaken p1 m =
  zLq2 (l_Mod_isTaken_0 m p1) zFu 0 0 := by
  unfold f_Mod_isTaken l_Mod_isTaken_0
  rfl
def l_Mod_placeFor_0 (x4 : Int32) (p2 : Int32) (x1 : Int32) (m : Mm) : (Int32 → Option (Int32)) → Int32 → Option (Int32) :=
  fun r7 x6 =>
  if x4 < x6 then
    some (-1)
  else
    zBP (f_Mod_within p2 (x1 + x6) m) fun v9 =>
    zLet (zLet (x6 + 1) fun x12 =>
    r7 x12) fun j11 =>
    if v9 = (-1) then
      j11
    else
      zBP (f_Mod_isTaken (x1 + x6) m) fun v13 =>
      if v13 = 0 then
        some (x1 + x6)
      else
        j11
theorem e_Mod_placeFor (p1 : Int32) (p2 : Int32) (m : Mm) : f_Mod_placeFor p1 p2 m =
  if zIn ((20 * (zI m 201 1)) + p1) 40 then
      zLet (zI m 216 (zIx ((20 * (zI m 201 1)) + p1))) fun x1 =>
      if x1 = (-1) then
        some (-1)
      else
        if zIn p1 20 then
          zLet (fun (x4 : Int32) =>
            zLq1 (l_Mod_placeFor_0 x4 p2 x1 m) zFu 0) fun j5 =>
          if (zI m 209 (zIx p1)) = 0 then
            j5 0
          else
            j5 20
        else none
    else none := by
  unfold f_Mod_placeFor l_Mod_placeFor_0
  rfl
def l_Mod_places_0 (x6 : Int32) (r7 : Int32 → Mm → Option (Mm)) (p1 : Int32) : (Int32 → Mm → Option (Mm)) → Int32 → Mm → Option (Mm) :=
  fun r11 x10 m12 =>
  if (zI m12 201 19) ≤ x10 then
    zLet (x6 + (-1)) fun x14 =>
    r7 x14 m12
  else
    if zIn x10 20 then
      zLet (fun (x16 : Int32) =>
        if zIn x10 20 then
          zLet (wI m12 219 (zIx x10) x16) fun m18 =>
          zLet (x10 + 1) fun x19 =>
          r11 x19 m18
        else none) fun j17 =>
      if (zI m12 208 (zIx x10)) = x6 then
        zBP (f_Mod_placeFor x10 p1 m12) fun v20 =>
        j17 v20
      else
        if zIn x10 20 then
          j17 (zI m12 219 (zIx x10))
        else none
    else none
def l_Mod_places_1 (p1 : Int32) : (Int32 → Mm → Option (Mm)) → Int32 → Mm → Option (Mm) :=
  fun r7 x6 m8 =>
  if x6 < 0 then
    some m8
  else
    zLp1 (l_Mod_places_0 x6 r7 p1) zFu 0 m8
def l_Mod_places_2 (p1 : Int32) : (Int32 → Mm → Option (Mm)) → Int32 → Mm → Option (Mm) :=
  fun r3 x2 m4 =>
  if (zI m4 201 19) ≤ x2 then
    zLp1 (l_Mod_places_1 p1) zFu 9 m4
  else
    if zIn x2 20 then
      zLet (wI m4 219 (zIx x2) (-1)) fun m21 =>
      zLet (x2 + 1) fun x22 =>
      r3 x22 m21
    else none
theorem e_Mod_places (p1 : Int32) (m : Mm) : f_Mod_places p1 m =
  zBV (f_Mod_finds p1 (zI m 201 1) m) fun m1 =>
    zLp1 (l_Mod_places_2 p1) zFu 0 m1 := by
  unfold f_Mod_places l_Mod_places_2 l_Mod_places_1 l_Mod_places_0
  rfl
def l_Mod_clashesNow_0 (m : Mm) (x2 : Int32) (r3 : Int32 → Int32 → Option (Int32)) : (Int32 → Int32 → Option (Int32)) → Int32 → Int32 → Option (Int32) :=
  fun r8 x6 x7 =>
  if (zI m 201 19) ≤ x7 then
    zLet (x2 + 1) fun x10 =>
    r3 x6 x10
  else
    if zIn ((20 * (zI m 201 1)) + x2) 40 then
      zLet (zI m 216 (zIx ((20 * (zI m 201 1)) + x2))) fun x11 =>
      zLet (fun (x13 : Int32) =>
        zLet (x6 + x13) fun x15 =>
        zLet (x7 + 1) fun x16 =>
        r8 x15 x16) fun j14 =>
      zLet (j14 0) fun j17 =>
      if x11 = (-1) then
        j17
      else
        if zIn ((20 * (zI m 201 1)) + x7) 40 then
          if x11 = (zI m 216 (zIx ((20 * (zI m 201 1)) + x7))) then
            j14 1
          else
            j17
        else none
    else none
def l_Mod_clashesNow_1 (m : Mm) : (Int32 → Int32 → Option (Int32)) → Int32 → Int32 → Option (Int32) :=
  fun r3 x1 x2 =>
  if (zI m 201 19) ≤ x2 then
    some x1
  else
    zLet (x2 + 1) fun x5 =>
    zLq2 (l_Mod_clashesNow_0 m x2 r3) zFu x1 x5
theorem e_Mod_clashesNow (m : Mm) : f_Mod_clashesNow m =
  zLq2 (l_Mod_clashesNow_1 m) zFu 0 0 := by
  unfold f_Mod_clashesNow l_Mod_clashesNow_1 l_Mod_clashesNow_0
  rfl
def l_Mod_costNow_0 (m : Mm) : (Int32 → Int32 → Option (Int32)) → Int32 → Int32 → Option (Int32) :=
  fun r3 x1 x2 =>
  if (zI m 201 19) ≤ x2 then
    some x1
  else
    if zIn x2 20 then
      zLet (x1 + (zI m 218 (zIx x2))) fun x5 =>
      zLet (x2 + 1) fun x6 =>
      r3 x5 x6
    else none
theorem e_Mod_costNow (m : Mm) : f_Mod_costNow m =
  zLq2 (l_Mod_costNow_0 m) zFu 1 0 := by
  unfold f_Mod_costNow l_Mod_costNow_0
  rfl
def l_Mod_namesThere_0 (m : Mm) : (Int32 → Int32 → Option (Int32)) → Int32 → Int32 → Option (Int32) :=
  fun r3 x1 x2 =>
  if (zI m 201 11) ≤ x2 then
    if zBo x1 then some x1 else none
  else
    if zIn x2 80 then
      zLet (fun (x6 : Int32) =>
        if zIn x2 80 then
          zLet (fun (x9 : Int32) =>
            zLet (fun (x12 : Int32) =>
              zLet (x2 + 1) fun x14 =>
              r3 x12 x14) fun j13 =>
            zLet (j13 0) fun j15 =>
            if x1 = 0 then
              j15
            else
              if (zI m 201 19) ≤ x6 then
                j15
              else
                if (zI m 201 19) ≤ x9 then
                  j15
                else
                  j13 1) fun j10 =>
          if (zI m 206 (zIx x2)) = 5 then
            if zIn x2 80 then
              j10 ((zI m 207 (zIx x2)) % 100)
            else none
          else
            j10 (-1)
        else none) fun j7 =>
      if (zI m 206 (zIx x2)) = 2 then
        if zIn x2 80 then
          j7 ((zI m 207 (zIx x2)) / 10000)
        else none
      else
        if zIn x2 80 then
          if (zI m 206 (zIx x2)) = 3 then
            if zIn x2 80 then
              j7 ((zI m 207 (zIx x2)) / 10)
            else none
          else
            if zIn x2 80 then
              if (zI m 206 (zIx x2)) = 4 then
                if zIn x2 80 then
                  j7 (zI m 207 (zIx x2))
                else none
              else
                if zIn x2 80 then
                  if (zI m 206 (zIx x2)) = 5 then
                    if zIn x2 80 then
                      j7 ((zI m 207 (zIx x2)) / 100)
                    else none
                  else
                    j7 (-1)
                else none
            else none
        else none
    else none
theorem e_Mod_namesThere (m : Mm) : f_Mod_namesThere m =
  zLq2 (l_Mod_namesThere_0 m) zFu 1 0 := by
  unfold f_Mod_namesThere l_Mod_namesThere_0
  rfl
def l_Mod_search_0 (p1 : Int32) : (Int32 → Mm → Option ((Int32 × Mm))) → Int32 → Mm → Option ((Int32 × Mm)) :=
  fun r10 x9 m11 =>
  if (zI m11 201 11) ≤ x9 then
    zLet (wI m11 201 3 0) fun m13 =>
    zLet (wI m13 201 33 1) fun m14 =>
    zLet (wI m14 201 38 p1) fun m15 =>
    zBV (f_Mod_finds p1 (zI m15 201 1) m15) fun m16 =>
    zBP (f_Mod_costNow m16) fun v17 =>
    some (v17, m16)
  else
    if zIn x9 80 then
      if zIn x9 80 then
        zLet (wI m11 220 (zIx x9) (zI m11 206 (zIx x9))) fun m18 =>
        if zIn x9 80 then
          if zIn x9 80 then
            zLet (wI m18 221 (zIx x9) (zI m18 207 (zIx x9))) fun m19 =>
            zLet (x9 + 1) fun x20 =>
            r10 x20 m19
          else none
        else none
      else none
    else none
theorem e_Mod_search (p1 : Int32) (m : Mm) : f_Mod_search p1 m =
  zBP (f_Mod_isYear p1 m) fun v1 =>
    zLet (fun (x3 : Int32) (m4 : Mm) =>
      zLet (wI m4 201 0 x3) fun m6 =>
      if (zI m6 201 0) ≤ 0 then
        zLet (wI m6 201 34 (zI m6 201 11)) fun m8 =>
        zLp1 (l_Mod_search_0 p1) zFu 0 m8
      else
        some (0, m6)) fun j5 =>
    zLet (fun (m21 : Mm) =>
      j5 1 m21) fun j22 =>
    if v1 = 0 then
      j22 m
    else
      zBI (f_Mod_reads 20 m) fun v24 m23 =>
      if v24 = (-1) then
        zBP (f_Mod_namesThere m23) fun v26 =>
        if v26 = 0 then
          j5 2 m23
        else
          j5 0 m23
      else
        j22 m23 := by
  unfold f_Mod_search l_Mod_search_0
  rfl
def l_Mod_holdsFor_0 (p1 : Int32) : (Int32 → Int32 → Mm → Option ((Int32 × Mm))) → Int32 → Int32 → Mm → Option ((Int32 × Mm)) :=
  fun r4 x2 x3 m5 =>
  if (zI m5 201 34) ≤ x3 then
    if zIn 0 80 then
      if zBo (zI m5 222 (zIx 0)) then some ((zI m5 222 (zIx 0)), m5) else none
    else none
  else
    if zIn x3 80 then
      zLet (zI m5 220 (zIx x3)) fun x7 =>
      zLet (fun (x9 : Int32) (m10 : Mm) =>
        zLet (x3 + 1) fun x12 =>
        r4 x9 x12 m10) fun j11 =>
      if 5 < x7 then
        if x7 = 6 then
          if zIn (x2 - 1) 80 then
            zLet (fun (x28 : Int32) =>
              if zBo x28 then
                if zIn (x2 - 1) 80 then
                  zLet (wI m5 222 (zIx (x2 - 1)) x28) fun m30 =>
                  j11 x2 m30
                else none
              else none) fun j29 =>
            if (zI m5 222 (zIx (x2 - 1))) = 0 then
              j29 1
            else
              j29 0
          else none
        else
          zLet (x2 + (-1)) fun x14 =>
          if zIn (x14 - 1) 80 then
            zLet (zI m5 222 (zIx (x14 - 1))) fun x15 =>
            if zIn x14 80 then
              zLet (zI m5 222 (zIx x14)) fun x16 =>
              zLet (fun (x18 : Int32) =>
                if zBo x18 then
                  if zIn (x14 - 1) 80 then
                    zLet (wI m5 222 (zIx (x14 - 1)) x18) fun m20 =>
                    j11 x14 m20
                  else none
                else none) fun j19 =>
              if x7 = 7 then
                zLet (j19 0) fun j25 =>
                if x15 = 0 then
                  j25
                else
                  if x16 = 0 then
                    j25
                  else
                    j19 1
              else
                zLet (j19 1) fun j22 =>
                if x15 = 0 then
                  if x16 = 0 then
                    j19 0
                  else
                    j22
                else
                  j22
            else none
          else none
      else
        if zIn x3 80 then
          zBP (f_Mod_isAnswered x7 (zI m5 221 (zIx x3)) p1 m5) fun v31 =>
          if zBo v31 then
            if zIn x2 80 then
              zLet (wI m5 222 (zIx x2) v31) fun m32 =>
              zLet (x2 + 1) fun x33 =>
              j11 x33 m32
            else none
          else none
        else none
    else none
theorem e_Mod_holdsFor (p1 : Int32) (m : Mm) : f_Mod_holdsFor p1 m =
  zBV (f_Mod_places p1 m) fun m1 =>
    zLp2 (l_Mod_holdsFor_0 p1) zFu 0 0 m1 := by
  unfold f_Mod_holdsFor l_Mod_holdsFor_0
  rfl
def l_Mod_goOn_0  : (Int32 → Mm → Option ((Int32 × Mm))) → Int32 → Mm → Option ((Int32 × Mm)) :=
  fun r8 x7 m9 =>
  if 400 ≤ (zI m9 201 38) then
    some ((-1), m9)
  else
    zBV (f_Mod_finds (zI m9 201 38) (zI m9 201 1) m9) fun m11 =>
    zBP (f_Mod_costNow m11) fun v12 =>
    if v12 ≤ x7 then
      zLet (x7 - v12) fun x14 =>
      zLet (wL m11 201 39 ((zL m11 201 39) + (v12.toInt64))) fun m15 =>
      zLet (wI m15 201 38 ((zI m15 201 38) + 1)) fun m16 =>
      zBI (f_Mod_holdsFor ((zI m16 201 38) - 1) m16) fun v18 m17 =>
      if v18 = 0 then
        r8 x14 m17
      else
        some (((zI m17 201 38) - 1), m17)
    else
      some ((-2), m11)
theorem e_Mod_goOn (p1 : Int32) (m : Mm) : f_Mod_goOn p1 m =
  zBP (f_Mod_isIn p1 1 100000 m) fun v1 =>
    zLet (fun (x3 : Int32) =>
      zLet (wI m 201 0 x3) fun m5 =>
      if (zI m5 201 0) ≤ 0 then
        zLp1 (l_Mod_goOn_0) zFu p1 m5
      else
        some (0, m5)) fun j4 =>
    if v1 = 0 then
      j4 1
    else
      if (zI m 201 33) = 0 then
        j4 2
      else
        j4 0 := by
  unfold f_Mod_goOn l_Mod_goOn_0
  rfl
def l_Mod_bestRinger_0 (m : Mm) (p1 : Int32) (p2 : Int32) : (Int32 → Int32 → Option (Int32)) → Int32 → Int32 → Option (Int32) :=
  fun r4 x2 x3 =>
  if x3 < 0 then
    some x2
  else
    if zIn x3 24 then
      zLet (fun (x7 : Int32) =>
        zLet (fun (x10 : Int32) =>
          zLet (x3 + (-1)) fun x12 =>
          r4 x10 x12) fun j11 =>
        zLet (j11 x2) fun j13 =>
        if x7 = 0 then
          j13
        else
          zLet (j11 x3) fun j15 =>
          if x2 = (-1) then
            j15
          else
            if zIn x3 24 then
              zLet (fun (x17 : Int32) =>
                if zIn x17 24 then
                  if (zI m 226 (zIx x17)) < (zI m 226 (zIx x3)) then
                    j13
                  else
                    j15
                else none) fun j18 =>
              if x2 = (-1) then
                j18 0
              else
                j18 x2
            else none) fun j8 =>
      zLet (j8 0) fun j20 =>
      if (zI m 224 (zIx x3)) = p1 then
        if zIn x3 24 then
          zLet (j8 1) fun j22 =>
          if (zI m 226 (zIx x3)) = 0 then
            j22
          else
            if zIn x3 24 then
              if zIn x3 24 then
                if (p2 - (zI m 227 (zIx x3))) ≤ (zI m 225 (zIx x3)) then
                  j20
                else
                  j22
              else none
            else none
        else none
      else
        j20
    else none
theorem e_Mod_bestRinger (p1 : Int32) (p2 : Int32) (m : Mm) : f_Mod_bestRinger p1 p2 m =
  zLet ((zI m 201 41) - 1) fun x1 =>
    zLq2 (l_Mod_bestRinger_0 m p1 p2) zFu (-1) x1 := by
  unfold f_Mod_bestRinger l_Mod_bestRinger_0
  rfl
def l_Mod_peal_0 (x6 : Int32) (x1 : Int32) (r2 : Int32 → Mm → Option (Mm)) (p2 : Int32) (p1 : Int32) : (Int32 → Mm → Option (Mm)) → Int32 → Mm → Option (Mm) :=
  fun r9 x8 m10 =>
  if x6 ≤ x8 then
    zLet (x1 + 1) fun x12 =>
    r2 x12 m10
  else
    zBP (f_Mod_bestRinger x1 p2 m10) fun v13 =>
    if zIn (((36 * p1) + (6 * x1)) + x8) 720 then
      zLet (wI m10 228 (zIx (((36 * p1) + (6 * x1)) + x8)) v13) fun m14 =>
      zLet (fun (m16 : Mm) =>
        zLet (x8 + 1) fun x18 =>
        r9 x18 m16) fun j17 =>
      if v13 = (-1) then
        j17 m14
      else
        if zIn v13 24 then
          if zIn v13 24 then
            zLet (wI m14 226 (zIx v13) ((zI m14 226 (zIx v13)) + 1)) fun m19 =>
            zBP (f_Mod_isNight p1 m19) fun v20 =>
            zLet (fun (x22 : Int32) =>
              if zIn v13 24 then
                zLet (wI m19 227 (zIx v13) x22) fun m24 =>
                j17 m24
              else none) fun j23 =>
            if v20 = 0 then
              j23 p2
            else
              j23 (p2 + 1)
          else none
        else none
    else none
def l_Mod_peal_1 (p1 : Int32) (p2 : Int32) : (Int32 → Mm → Option (Mm)) → Int32 → Mm → Option (Mm) :=
  fun r2 x1 m3 =>
  if 6 ≤ x1 then
    some m3
  else
    if zIn p1 20 then
      if zIn x1 6 then
        zLet (fun (x6 : Int32) =>
          zLp1 (l_Mod_peal_0 x6 x1 r2 p2 p1) zFu 0 m3) fun j7 =>
        if (zI m3 223 (zIx x1)) ≤ (zI m3 208 (zIx p1)) then
          if zIn x1 6 then
            j7 (zI m3 223 (zIx x1))
          else none
        else
          if zIn p1 20 then
            j7 (zI m3 208 (zIx p1))
          else none
      else none
    else none
theorem e_Mod_peal (p1 : Int32) (p2 : Int32) (m : Mm) : f_Mod_peal p1 p2 m =
  zLp1 (l_Mod_peal_1 p1 p2) zFu 0 m := by
  unfold f_Mod_peal l_Mod_peal_1 l_Mod_peal_0
  rfl
def l_Mod_ringsAll_0 (x11 : Int32) (r12 : Int32 → Mm → Option (Mm)) : (Int32 → Mm → Option (Mm)) → Int32 → Mm → Option (Mm) :=
  fun r17 x16 m18 =>
  if (zI m18 201 19) ≤ x16 then
    zLet (x11 + 1) fun x20 =>
    r12 x20 m18
  else
    if zIn x16 20 then
      zLet (fun (m22 : Mm) =>
        zLet (x16 + 1) fun x24 =>
        r17 x24 m22) fun j23 =>
      if (zI m18 219 (zIx x16)) = x11 then
        zBV (f_Mod_peal x16 x11 m18) fun m25 =>
        j23 m25
      else
        j23 m18
    else none
def l_Mod_ringsAll_1 (p1 : Int32) : (Int32 → Mm → Option (Mm)) → Int32 → Mm → Option (Mm) :=
  fun r12 x11 m13 =>
  zBP (f_Mod_lengthOf p1 m13) fun v14 =>
  if v14 ≤ x11 then
    some m13
  else
    zLp1 (l_Mod_ringsAll_0 x11 r12) zFu 0 m13
def l_Mod_ringsAll_2 (p1 : Int32) : (Int32 → Mm → Option (Mm)) → Int32 → Mm → Option (Mm) :=
  fun r8 x7 m9 =>
  if (zI m9 201 41) ≤ x7 then
    zLp1 (l_Mod_ringsAll_1 p1) zFu 0 m9
  else
    if zIn x7 24 then
      zLet (wI m9 226 (zIx x7) 0) fun m26 =>
      zLet (x7 + 1) fun x27 =>
      r8 x27 m26
    else none
def l_Mod_ringsAll_3 (p1 : Int32) : (Int32 → Mm → Option (Mm)) → Int32 → Mm → Option (Mm) :=
  fun r4 x3 m5 =>
  if 720 ≤ x3 then
    zLp1 (l_Mod_ringsAll_2 p1) zFu 0 m5
  else
    if zIn x3 720 then
      zLet (wI m5 228 (zIx x3) (-2)) fun m28 =>
      zLet (x3 + 1) fun x29 =>
      r4 x29 m28
    else none
theorem e_Mod_ringsAll (p1 : Int32) (m : Mm) : f_Mod_ringsAll p1 m =
  zBV (f_Mod_finds p1 (1 - (zI m 201 1)) m) fun m1 =>
    zBV (f_Mod_places p1 m1) fun m2 =>
    zLp1 (l_Mod_ringsAll_3 p1) zFu 0 m2 := by
  unfold f_Mod_ringsAll l_Mod_ringsAll_3 l_Mod_ringsAll_2 l_Mod_ringsAll_1 l_Mod_ringsAll_0
  rfl
def l_Mod_silent_0 (m7 : Mm) : (Int32 → Int32 → Option ((Int32 × Mm))) → Int32 → Int32 → Option ((Int32 × Mm)) :=
  fun r10 x8 x9 =>
  if (36 * (zI m7 201 19)) ≤ x9 then
    some (x8, m7)
  else
    if zIn x9 720 then
      zLet (fun (x13 : Int32) =>
        zLet (x8 + x13) fun x15 =>
        zLet (x9 + 1) fun x16 =>
        r10 x15 x16) fun j14 =>
      if (zI m7 228 (zIx x9)) = (-1) then
        j14 1
      else
        j14 0
    else none
theorem e_Mod_silent (p1 : Int32) (m : Mm) : f_Mod_silent p1 m =
  zBP (f_Mod_isYear p1 m) fun v1 =>
    zLet (fun (x3 : Int32) =>
      zLet (wI m 201 0 x3) fun m5 =>
      if (zI m5 201 0) ≤ 0 then
        zBV (f_Mod_ringsAll p1 m5) fun m7 =>
        zLq2 (l_Mod_silent_0 m7) zFu 0 0
      else
        some (0, m5)) fun j4 =>
    if v1 = 0 then
      j4 1
    else
      j4 0 := by
  unfold f_Mod_silent l_Mod_silent_0
  rfl
