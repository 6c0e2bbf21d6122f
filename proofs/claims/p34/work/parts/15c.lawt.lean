/-! TEXTS: calls that throw nothing; the law -/
def n_Loo_checkYear (p1 : Int32) (m : Mm) : Option Mm :=
  zLet (none) fun j2 =>
  if p1 < 0 then
    j2
  else
    if p1 ≤ 399 then
      some m
    else
      j2
def n_Loo_begin (p1 : Int32) (m : Mm) : Option (Int32 × Mm) :=
  zBV (n_Loo_checkYear p1 m) fun m1 =>
  zBP (f_Cal_firstDayOf p1 m1) fun v2 =>
  some (v2, m1)
def n_Loo_date (p1 : Int32) (p2 : Int32) (m : Mm) : Option (Int32 × Mm) :=
  zBV (n_Loo_checkYear p1 m) fun m1 =>
  zLet (none) fun j3 =>
  if p2 < 0 then
    j3
  else
    if p2 ≤ 365 then
      zBP (f_Cal_dateOf p1 p2 m1) fun v5 =>
      some (v5, m1)
    else
      j3
def n_Loo_checkTable (p1 : Int32) (m : Mm) : Option Mm :=
  if p1 = 0 then
    some m
  else
    if p1 = 1 then
      some m
    else
      none
def n_Loo_age (p1 : Int32) (p2 : Int32) (m : Mm) : Option (Int32 × Mm) :=
  zLet (none) fun j2 =>
  if p1 < 0 then
    j2
  else
    if p1 ≤ 146096 then
      zBV (n_Loo_checkTable p2 m) fun m4 =>
      zBP (f_Cal_ageOf p1 p2 m4) fun v5 =>
      some (v5, m4)
    else
      j2
def n_Loo_table (p1 : Int32) (m : Mm) : Option (Int32 × Mm) :=
  zBV (n_Loo_checkTable p1 m) fun m1 =>
  zLet (zI m1 16 8) fun x2 =>
  zLet (wI m1 16 8 p1) fun m3 =>
  some (x2, m3)
def n_Loo_type (p1 : Int32) (m : Mm) : Option (Int32 × Mm) :=
  zLet (none) fun j2 =>
  if p1 < 33 then
    j2
  else
    if p1 ≤ 126 then
      zBI (f_Txt_append 17 p1 m) fun v5 m4 =>
      if v5 = 0 then
        none
      else
        zBP (f_Txt_length 17 m4) fun v7 =>
        some (v7, m4)
    else
      j2
def n_Loo_checkRank (p1 : Int32) (m : Mm) : Option Mm :=
  zLet (none) fun j2 =>
  if p1 < 0 then
    j2
  else
    if p1 ≤ 9 then
      some m
    else
      j2
def n_Loo_checkNames (m : Mm) : Option Mm :=
  zBQ 3 (f_Par_code m) fun q1 =>
  zBP (f_Alm_size m) fun v2 =>
  zBP (f_Cod_namesBeyond q1 v2 m) fun v3 =>
  if v3 = 0 then
    some m
  else
    none
def n_Loo_feast (p1 : Int32) (p2 : Int32) (m : Mm) : Option (Int32 × Mm) :=
  zBV (n_Loo_checkRank p1 m) fun m1 =>
  zBI (f_Par_readRule 17 m1) fun v3 m2 =>
  if v3 = (-1) then
    zBP (f_Alm_isFull m2) fun v5 =>
    if v5 = 0 then
      zBV (n_Loo_checkNames m2) fun m7 =>
      zBQ 3 (f_Par_code m7) fun q8 =>
      zBI (f_Alm_add 17 q8 m7) fun v10 m9 =>
      zBV (f_Alm_setRank v10 p1 p2 m9) fun m11 =>
      zBV (f_Txt_clear 17 m11) fun m12 =>
      some (v10, m12)
    else
      none
  else
    none
def n_Loo_checkFeast (p1 : Int32) (m : Mm) : Option Mm :=
  zLet (none) fun j2 =>
  if p1 < 0 then
    j2
  else
    zBP (f_Alm_size m) fun v3 =>
    if p1 < v3 then
      some m
    else
      j2
def n_Loo_rank (p1 : Int32) (p2 : Int32) (p3 : Int32) (m : Mm) : Option (Int32 × Mm) :=
  zBV (n_Loo_checkFeast p1 m) fun m1 =>
  zBV (n_Loo_checkRank p2 m1) fun m2 =>
  zBP (f_Alm_rankOf p1 m2) fun v3 =>
  zBV (f_Alm_setRank p1 p2 p3 m2) fun m4 =>
  some (v3, m4)
def n_Loo_dispense (p1 : Int32) (p2 : Int32) (p3 : Int32) (m : Mm) : Option (Int32 × Mm) :=
  zBV (n_Loo_checkFeast p1 m) fun m1 =>
  zBV (n_Loo_checkYear p2 m1) fun m2 =>
  zLet (zBI (f_Alm_grant p1 p2 p3 m2) fun v6 m5 =>
  if v6 = 0 then
    none
  else
    zBP (f_Alm_dispensations m5) fun v8 =>
    some (v8, m5)) fun j4 =>
  if p3 = 99 then
    j4
  else
    zLet (none) fun j10 =>
    if p3 < (-30) then
      j10
    else
      if p3 ≤ 30 then
        j4
      else
        j10
def n_Loo_takeBack (p1 : Int32) (p2 : Int32) (m : Mm) : Option (Int32 × Mm) :=
  zBV (n_Loo_checkFeast p1 m) fun m1 =>
  zBV (n_Loo_checkYear p2 m1) fun m2 =>
  zBP (f_Alm_dispensationFor p1 p2 m2) fun v3 =>
  if v3 = (-1) then
    none
  else
    zBI (f_Alm_revoke v3 m2) fun v6 m5 =>
    some (v6, m5)
def n_Loo_bent (p1 : Int32) (p2 : Int32) (m : Mm) : Option (Int32 × Mm) :=
  zBV (n_Loo_checkFeast p1 m) fun m1 =>
  zBV (n_Loo_checkYear p2 m1) fun m2 =>
  zBV (f_Boo_reckon 152 p2 (zI m2 16 8) m2) fun m3 =>
  zBP (f_Boo_bentDay 152 p1 m3) fun v4 =>
  some (v4, m3)
def n_Loo_day (p1 : Int32) (p2 : Int32) (m : Mm) : Option (Int32 × Mm) :=
  zBV (n_Loo_checkFeast p1 m) fun m1 =>
  zBV (n_Loo_checkYear p2 m1) fun m2 =>
  zBV (f_Boo_reckon 152 p2 (zI m2 16 8) m2) fun m3 =>
  zBV (f_Boo_placeAll 152 m3) fun m4 =>
  zBP (f_Boo_placedDay 152 p1 m4) fun v5 =>
  some (v5, m4)
def n_Loo_dayByDays (p1 : Int32) (p2 : Int32) (m : Mm) : Option (Int32 × Mm) :=
  zBV (n_Loo_checkFeast p1 m) fun m1 =>
  zBV (n_Loo_checkYear p2 m1) fun m2 =>
  zBV (f_Pla_readAll p2 (zI m2 16 8) m2) fun m3 =>
  zBV (f_Pla_goThroughDays p2 m3) fun m4 =>
  zBP (f_Pla_placedDay p1 m4) fun v5 =>
  some (v5, m4)
def n_Loo_clashes (p1 : Int32) (m : Mm) : Option (Int32 × Mm) :=
  zBV (n_Loo_checkYear p1 m) fun m1 =>
  zBV (f_Boo_reckon 152 p1 (zI m1 16 8) m1) fun m2 =>
  zBP (f_Boo_countClashes 152 m2) fun v3 =>
  some (v3, m2)
def n_Loo_isMidnight (p1 : Int32) (p2 : Int32) (m : Mm) : Option (Int32 × Mm) :=
  zBV (n_Loo_checkFeast p1 m) fun m1 =>
  zBV (n_Loo_checkYear p2 m1) fun m2 =>
  zBV (f_Boo_reckon 152 p2 (zI m2 16 8) m2) fun m3 =>
  zBP (f_Loo_otherTable m3) fun v4 =>
  zBV (f_Boo_reckon 158 p2 v4 m3) fun m5 =>
  zBP (f_Boo_isNextTo 152 158 p1 m5) fun v6 =>
  if zBo v6 then some (v6, m5) else none
def n_Loo_cost (p1 : Int32) (p2 : Int32) (m : Mm) : Option (Int32 × Mm) :=
  zBV (n_Loo_checkFeast p1 m) fun m1 =>
  zBV (n_Loo_checkYear p2 m1) fun m2 =>
  zBV (f_Boo_reckon 152 p2 (zI m2 16 8) m2) fun m3 =>
  zBP (f_Boo_costOf 152 p1 m3) fun v4 =>
  some (v4, m3)
def n_Loo_yearCost (p1 : Int32) (m : Mm) : Option (Int32 × Mm) :=
  zBV (n_Loo_checkYear p1 m) fun m1 =>
  zBV (f_Boo_reckon 152 p1 (zI m1 16 8) m1) fun m2 =>
  zBP (f_Boo_costOfAll 152 m2) fun v3 =>
  some (v3, m2)
def n_Loo_search (p1 : Int32) (m : Mm) : Option (Int32 × Mm) :=
  zBV (n_Loo_checkYear p1 m) fun m1 =>
  zBI (f_Par_readQuestion 17 m1) fun v3 m2 =>
  if v3 = (-1) then
    zBV (n_Loo_checkNames m2) fun m5 =>
    zBQ 3 (f_Par_code m5) fun q6 =>
    zBV (f_Sol_start q6 p1 m5) fun m7 =>
    zBV (f_Txt_clear 17 m7) fun m8 =>
    zBV (f_Boo_reckon 152 p1 (zI m8 16 8) m8) fun m9 =>
    zBP (f_Boo_costOfAll 152 m9) fun v10 =>
    some (v10, m9)
  else
    none
def n_Loo_goOn (p1 : Int32) (m : Mm) : Option (Int32 × Mm) :=
  zLet (none) fun j2 =>
  if p1 < 1 then
    j2
  else
    if p1 ≤ 100000 then
      zBP (f_Sol_isStarted m) fun v4 =>
      if v4 = 0 then
        none
      else
        zBI (f_Sol_look p1 152 (zI m 16 8) m) fun v7 m6 =>
        some (v7, m6)
    else
      j2
def n_Loo_checkParish (p1 : Int32) (m : Mm) : Option Mm :=
  zLet (none) fun j2 =>
  if p1 < 0 then
    j2
  else
    if p1 < 6 then
      some m
    else
      j2
def n_Loo_bells (p1 : Int32) (p2 : Int32) (m : Mm) : Option (Int32 × Mm) :=
  zBV (n_Loo_checkParish p1 m) fun m1 =>
  zLet (none) fun j3 =>
  if p2 < 0 then
    j3
  else
    if p2 ≤ 6 then
      zBI (f_Bel_hang p1 p2 m1) fun v6 m5 =>
      some (v6, m5)
    else
      j3
def n_Loo_ringer (p1 : Int32) (p2 : Int32) (m : Mm) : Option (Int32 × Mm) :=
  zBV (n_Loo_checkParish p1 m) fun m1 =>
  zLet (none) fun j3 =>
  if p2 < 0 then
    j3
  else
    if p2 ≤ 6 then
      zBI (f_Bel_hire p1 p2 m1) fun v6 m5 =>
      if v6 = (-1) then
        none
      else
        some (v6, m5)
    else
      j3
def n_Loo_rings (p1 : Int32) (p2 : Int32) (p3 : Int32) (p4 : Int32) (m : Mm) : Option (Int32 × Mm) :=
  zBV (n_Loo_checkFeast p1 m) fun m1 =>
  zBV (n_Loo_checkParish p3 m1) fun m2 =>
  zBV (n_Loo_checkYear p2 m2) fun m3 =>
  zLet (none) fun j5 =>
  if p4 < 0 then
    j5
  else
    if p4 < 6 then
      zBV (f_Loo_ringYear p2 m3) fun m7 =>
      zBP (f_Bel_ringerAt p1 p3 p4 m7) fun v8 =>
      some (v8, m7)
    else
      j5
def n_Loo_silent (p1 : Int32) (m : Mm) : Option (Int32 × Mm) :=
  zBV (n_Loo_checkYear p1 m) fun m1 =>
  zBV (f_Loo_ringYear p1 m1) fun m2 =>
  zBP (f_Bel_silences m2) fun v3 =>
  some (v3, m2)
def n_Loo_peals (p1 : Int32) (p2 : Int32) (m : Mm) : Option (Int32 × Mm) :=
  zLet (none) fun j2 =>
  if p1 < 0 then
    j2
  else
    zBP (f_Bel_size m) fun v3 =>
    if p1 < v3 then
      zBV (n_Loo_checkYear p2 m) fun m5 =>
      zBV (f_Loo_ringYear p2 m5) fun m6 =>
      zBP (f_Bel_countOf p1 m6) fun v7 =>
      some (v7, m6)
    else
      j2
def f_Law_cell (ω : Wd) (p2 : Int32) (m : Mm) : Option Int32 :=
  if (Int32.ofNat (oL ω)) ≤ p2 then
    some ((1000308263 * (p2 + 1)) + 751363437)
  else
    if zIn p2 (oL ω) then
      some (ox ω (zIx p2))
    else none
def f_Law_low (p1 : Int32) (p2 : Int32) (m : Mm) : Option Int32 :=
  if ¬ p2 = 0 then
    some ((p1 &&& 2147483647) % p2)
  else none
def f_Law_leap (p1 : Int32) (m : Mm) : Option Int32 :=
  zLet (some 1) fun j2 =>
  if (p1 % 400) = 0 then
    j2
  else
    zLet (some 0) fun j4 =>
    if (p1 % 4) = 0 then
      if (p1 % 100) ≤ 0 then
        j4
      else
        j2
    else
      j4
def f_Law_month (p1 : Int32) (p2 : Int32) (m : Mm) : Option Int32 :=
  if p2 = 2 then
    zBP (f_Law_leap p1 m) fun v2 =>
    if v2 = 0 then
      some 28
    else
      some 29
  else
    some (30 + ((p2 + (p2 / 8)) % 2))
def f_Law_days (p1 : Int32) (m : Mm) : Option Int32 :=
  zBP (f_Law_leap p1 m) fun v1 =>
  if v1 = 0 then
    some 365
  else
    some 366
def f_Law_great (p1 : Int32) (m : Mm) : Option Int32 :=
  zLq2 (fun r3 x1 x2 =>
    if p1 ≤ x2 then
      some x1
    else
      zBP (f_Law_days x2 m) fun v5 =>
      zLet (x1 + v5) fun x6 =>
      zLet (x2 + 1) fun x7 =>
      r3 x6 x7) zFu 0 0
def f_Law_day (p1 : Int32) (p2 : Int32) (m : Mm) : Option Int32 :=
  zLet ((p2 % 100) - 1) fun x1 =>
  zLq2 (fun r4 x2 x3 =>
    if (p2 / 100) ≤ x3 then
      zBP (f_Law_month p1 (p2 / 100) m) fun v6 =>
      if (p2 % 100) ≤ v6 then
        some x2
      else
        some (-1)
    else
      zBP (f_Law_month p1 x3 m) fun v8 =>
      zLet (x2 + v8) fun x9 =>
      zLet (x3 + 1) fun x10 =>
      r4 x9 x10) zFu x1 1
def f_Law_date (p1 : Int32) (p2 : Int32) (m : Mm) : Option Int32 :=
  zLq2 (fun r3 x1 x2 =>
    zBP (f_Law_month p1 x1 m) fun v4 =>
    if x2 < v4 then
      some (((100 * x1) + x2) + 1)
    else
      zBP (f_Law_month p1 x1 m) fun v6 =>
      zLet (x2 - v6) fun x7 =>
      zLet (x1 + 1) fun x8 =>
      r3 x8 x7) zFu 1 p2
def f_Law_isNew (p1 : Int32) (p2 : Int32) (m : Mm) : Option Int32 :=
  zLet (fun (x2 : Int32) =>
    zLet (fun (x5 : Int32) =>
      zLet (fun (x8 : Int32) =>
        zLet ((p1 - x8) + x2) fun x10 =>
        if ¬ x2 = 0 then
          zLet ((((x10 * x5) + x2) - 1) / x2) fun x11 =>
          if ¬ x5 = 0 then
            if ((x2 * x11) / x5) = x10 then
              some 1
            else
              some 0
          else none
        else none) fun j9 =>
      if p2 = 0 then
        j9 5
      else
        j9 6) fun j6 =>
    if p2 = 0 then
      j6 32
    else
      j6 235) fun j3 =>
  if p2 = 0 then
    j3 945
  else
    j3 6940
def f_Law_age (p1 : Int32) (p2 : Int32) (m : Mm) : Option Int32 :=
  zLq1 (fun r2 x1 =>
    zBP (f_Law_isNew (p1 - x1) p2 m) fun v3 =>
    if v3 = 0 then
      zLet (x1 + 1) fun x5 =>
      r2 x5
    else
      some x1) zFu 0
def f_Law_in (p1 : Int32) (p2 : Int32) (m : Mm) : Option Int32 :=
  zLet (some (-1)) fun j2 =>
  if p2 < 0 then
    j2
  else
    zBP (f_Law_days p1 m) fun v3 =>
    if p2 < v3 then
      some p2
    else
      j2
def f_Law_begin (p1 : Int32) (p2 : Int32) (t3 : Nat) (m : Mm) : Option Int32 :=
  zLet (p2 / 10000) fun x1 =>
  zLet (p2 % 10000) fun x2 =>
  if x1 = 1 then
    zBP (f_Law_day p1 x2 m) fun v22 =>
    some v22
  else
    if x1 = 4 then
      if zIn x2 10 then
        some (zI m (207 + t3) (zIx x2))
      else none
    else
      zLq3 (fun r8 x5 x6 x7 =>
        zBP (f_Law_month p1 (x2 % 100) m) fun v9 =>
        if v9 < x7 then
          some x6
        else
          zBP (f_Law_day p1 (((x2 % 100) * 100) + x7) m) fun v11 =>
          zBP (f_Law_great p1 m) fun v12 =>
          zLet (fun (x14 x15 : Int32) =>
            zLet (x7 + 1) fun x17 =>
            r8 x14 x15 x17) fun j16 =>
          if (((v12 + v11) + 6) % 7) = ((x2 / 100) % 10) then
            zLet (x5 + 1) fun x18 =>
            zLet (j16 x18 v11) fun j20 =>
            if x1 = 3 then
              j20
            else
              if x18 = (x2 / 1000) then
                j20
              else
                j16 x18 x6
          else
            j16 x5 x6) zFu 0 (-1) 1
def f_Law_walk (p1 : Int32) (p2 : Int32) (p3 : Int32) (p4 : Int32) (m : Mm) : Option Int32 :=
  zLet (p4 / 1000) fun x1 =>
  zLet (p4 % 1000) fun x2 =>
  if p3 < 0 then
    some (-1)
  else
    if x1 = 8 then
      some (-1)
    else
      if x1 = 0 then
        some p3
      else
        if x1 = 1 then
          zBP (f_Law_in p1 ((p3 + x2) - 400) m) fun v34 =>
          some v34
        else
          zBP (f_Law_great p1 m) fun v7 =>
          zLet (v7 + p3) fun x8 =>
          zLet (fun (x10 : Int32) =>
            zLet (fun (x13 : Int32) =>
              zLq1 (fun r16 x15 =>
                zLet (zBP (f_Law_great p1 m) fun v19 =>
                zBP (f_Law_in p1 (x15 - v19) m) fun v20 =>
                some v20) fun j18 =>
                zLet (zLet (x15 + x10) fun x22 =>
                r16 x22) fun j21 =>
                if 6 ≤ x1 then
                  zBP (f_Law_age x15 p2 m) fun v23 =>
                  zLet (fun (x25 : Int32) =>
                    if v23 = x25 then
                      j18
                    else
                      j21) fun j26 =>
                  if x1 = 6 then
                    j26 14
                  else
                    j26 0
                else
                  if ((x15 + 13) % 7) = x2 then
                    j18
                  else
                    j21) zFu x13) fun j14 =>
            zLet (zLet (x8 + x10) fun x30 =>
            j14 x30) fun j29 =>
            if x1 = 2 then
              j29
            else
              if x1 = 3 then
                j29
              else
                j14 x8) fun j11 =>
          zLet (j11 (-1)) fun j32 =>
          if x1 = 3 then
            j32
          else
            if x1 = 5 then
              j32
            else
              j11 1
def f_Law_holds (p1 : Int32) (p2 : Int32) (p3 : Int32) (t4 : Nat) (m : Mm) : Option Int32 :=
  zLet (p3 / 10000) fun x1 =>
  zLet (p3 % 10000) fun x2 =>
  if x1 = 14 then
    zBP (f_Law_leap p1 m) fun v12 =>
    if zBo v12 then some v12 else none
  else
    if 0 ≤ p2 then
      if x1 = 13 then
        zBP (f_Law_great p1 m) fun v10 =>
        if (((v10 + p2) + 6) % 7) = x2 then
          some 1
        else
          some 0
      else
        if x1 = 15 then
          if zIn x2 10 then
            if (zI m (207 + t4) (zIx x2)) = p2 then
              some 1
            else
              some 0
          else none
        else
          zBP (f_Law_date p1 p2 m) fun v7 =>
          if x2 ≤ v7 then
            some 0
          else
            some 1
    else
      some 0
def f_Law_price (p1 : Int32) (m : Mm) : Option Int32 :=
  zLet (p1 / 1000) fun x1 =>
  zLet (some 0) fun j3 =>
  if x1 = 0 then
    j3
  else
    if p1 = 1400 then
      j3
    else
      zLet (some 1) fun j6 =>
      if x1 = 1 then
        j6
      else
        if x1 = 8 then
          j6
        else
          if 6 ≤ x1 then
            some 6
          else
            some 2
def f_Law_bents (p4 : Int32) (p5 : Int32) (t6 : Nat) (t7 : Nat) (m : Mm) : Option Mm :=
  zLp1 (fun r2 x1 m3 =>
    if zIn 0 6 then
      if (zI m3 204 (zIx 0)) ≤ x1 then
        some m3
      else
        if zIn (6 * x1) 60 then
          zBP (f_Law_begin p4 (zI m3 201 (zIx (6 * x1))) t6 m3) fun v5 =>
          if zIn ((6 * x1) + 1) 60 then
            zLet (zI m3 201 (zIx ((6 * x1) + 1))) fun x6 =>
            if zIn (6 * x1) 60 then
              zLet (fun (x8 : Int32) =>
                if zIn ((6 * x1) + 2) 60 then
                  zLet (zI m3 201 (zIx ((6 * x1) + 2))) fun x10 =>
                  zLet (fun (x12 x13 : Int32) =>
                    zLq3 (fun r18 x15 x16 x17 =>
                      if 3 ≤ x17 then
                        zLq2 (fun r22 x20 x21 =>
                          if zIn 1 6 then
                            if (zI m3 204 (zIx 1)) ≤ x21 then
                              if zIn x1 10 then
                                zLet (wI m3 (207 + t6) (zIx x1) x20) fun m24 =>
                                if zIn x1 10 then
                                  zLet (wI m24 (207 + t7) (zIx x1) x16) fun m25 =>
                                  zLet (x1 + 1) fun x26 =>
                                  r2 x26 m25
                                else none
                              else none
                            else
                              if zIn (3 * x21) 30 then
                                zLet (fun (x28 : Int32) =>
                                  zLet (x21 + 1) fun x30 =>
                                  r22 x28 x30) fun j29 =>
                                if (zI m3 203 (zIx (3 * x21))) = x1 then
                                  if zIn ((3 * x21) + 1) 30 then
                                    if (zI m3 203 (zIx ((3 * x21) + 1))) = p4 then
                                      if x20 < 0 then
                                        j29 x20
                                      else
                                        if zIn ((3 * x21) + 2) 30 then
                                          zLet (fun (x34 : Int32) =>
                                            j29 x34) fun j35 =>
                                          if (zI m3 203 (zIx ((3 * x21) + 2))) = 99 then
                                            j35 (-1)
                                          else
                                            if zIn ((3 * x21) + 2) 30 then
                                              zBP (f_Law_in p4 (x20 + (zI m3 203 (zIx ((3 * x21) + 2)))) m3) fun v36 =>
                                              j35 v36
                                            else none
                                        else none
                                    else
                                      j29 x20
                                  else none
                                else
                                  j29 x20
                              else none
                          else none) zFu x15 0
                      else
                        zLet (fun (x38 : Int32) =>
                          zBP (f_Law_walk p4 p5 x15 x38 m3) fun v40 =>
                          zBP (f_Law_price x38 m3) fun v41 =>
                          zLet (x16 + v41) fun x42 =>
                          zLet (x17 + 1) fun x43 =>
                          r18 v40 x42 x43) fun j39 =>
                        if x17 = 0 then
                          j39 x13
                        else
                          if zIn (((6 * x1) + 3) + x17) 60 then
                            j39 (zI m3 201 (zIx (((6 * x1) + 3) + x17)))
                          else none) zFu v5 x12 0) fun j14 =>
                  if x6 = 0 then
                    j14 x8 x10
                  else
                    zLet (fun (x45 : Int32) =>
                      zBP (f_Law_holds p4 v5 x45 t6 m3) fun v47 =>
                      zLet (fun (x49 : Int32) =>
                        zLet (fun (x52 : Int32) =>
                          zLet (fun (x55 : Int32) =>
                            zLet (fun (x58 : Int32) =>
                              zLet (fun (x61 : Int32) =>
                                zLet (fun (x64 : Int32) =>
                                  zLet (x8 + (((1 + x55) + x61) + x64)) fun x66 =>
                                  zLet (fun (x68 : Int32) =>
                                    j14 x66 x68) fun j69 =>
                                  if x52 = 0 then
                                    if zIn ((6 * x1) + 3) 60 then
                                      if 0 ≤ (zI m3 201 (zIx ((6 * x1) + 3))) then
                                        if zIn ((6 * x1) + 3) 60 then
                                          j69 (zI m3 201 (zIx ((6 * x1) + 3)))
                                        else none
                                      else
                                        j69 0
                                    else none
                                  else
                                    j69 x10) fun j65 =>
                                zLet (j65 0) fun j71 =>
                                if x52 = 0 then
                                  j71
                                else
                                  if zIn ((6 * x1) + 3) 60 then
                                    if (zI m3 201 (zIx ((6 * x1) + 3))) < 0 then
                                      j71
                                    else
                                      j65 1
                                  else none) fun j62 =>
                              if (x58 / 10000) = 15 then
                                j62 2
                              else
                                j62 1) fun j59 =>
                            if 0 ≤ x6 then
                              j59 x6
                            else
                              j59 (-x6)) fun j56 =>
                          if 0 ≤ x6 then
                            j56 0
                          else
                            j56 1) fun j53 =>
                        if v47 = x49 then
                          j53 1
                        else
                          j53 0) fun j50 =>
                      if x6 ≤ 0 then
                        j50 0
                      else
                        j50 1) fun j46 =>
                    if 0 ≤ x6 then
                      j46 x6
                    else
                      j46 (-x6)
                else none) fun j9 =>
              if ((zI m3 201 (zIx (6 * x1))) / 10000) = 1 then
                j9 1
              else
                if zIn (6 * x1) 60 then
                  if ((zI m3 201 (zIx (6 * x1))) / 10000) = 4 then
                    j9 2
                  else
                    j9 3
                else none
            else none
          else none
        else none
    else none) zFu 0 m
def f_Law_place (p3 : Int32) (t4 : Nat) (t5 : Nat) (m : Mm) : Option Mm :=
  zLp1 (fun r2 x1 m3 =>
    if zIn 0 6 then
      if (zI m3 204 (zIx 0)) ≤ x1 then
        zLp1 (fun r6 x5 m7 =>
          if x5 < 0 then
            some m7
          else
            zLp1 (fun r10 x9 m11 =>
              if zIn 0 6 then
                if (zI m11 204 (zIx 0)) ≤ x9 then
                  zLet (x5 + (-1)) fun x13 =>
                  r6 x13 m11
                else
                  if zIn x9 10 then
                    zLet (fun (m15 : Mm) =>
                      zLet (x9 + 1) fun x17 =>
                      r10 x17 m15) fun j16 =>
                    if ((zI m11 202 (zIx x9)) / 2) = x5 then
                      if zIn x9 10 then
                        if 0 ≤ (zI m11 (207 + t4) (zIx x9)) then
                          if zIn x9 10 then
                            zLet (zI m11 (207 + t4) (zIx x9)) fun x19 =>
                            zLp1 (fun r21 x20 m22 =>
                              if zIn x9 10 then
                                if zIn x9 10 then
                                  if ((zI m22 (207 + t4) (zIx x9)) + (20 * ((zI m22 202 (zIx x9)) % 2))) < x20 then
                                    j16 m22
                                  else
                                    zBP (f_Law_days p3 m22) fun v24 =>
                                    if v24 ≤ x20 then
                                      j16 m22
                                    else
                                      if zIn x9 10 then
                                        if 0 ≤ (zI m22 (207 + t5) (zIx x9)) then
                                          j16 m22
                                        else
                                          zLq2 (fun r29 x27 x28 =>
                                            if zIn 0 6 then
                                              if (zI m22 204 (zIx 0)) ≤ x28 then
                                                zLet (fun (m32 : Mm) =>
                                                  zLet (x20 + 1) fun x34 =>
                                                  r21 x34 m32) fun j33 =>
                                                if x27 = 0 then
                                                  j33 m22
                                                else
                                                  if zIn x9 10 then
                                                    zLet (wI m22 (207 + t5) (zIx x9) x20) fun m35 =>
                                                    j33 m35
                                                  else none
                                              else
                                                zLet (fun (x37 : Int32) =>
                                                  zLet (x28 + 1) fun x39 =>
                                                  r29 x37 x39) fun j38 =>
                                                zLet (j38 0) fun j40 =>
                                                if x27 = 0 then
                                                  j40
                                                else
                                                  if zIn x28 10 then
                                                    if (zI m22 (207 + t5) (zIx x28)) = x20 then
                                                      j40
                                                    else
                                                      j38 1
                                                  else none
                                            else none) zFu 1 0
                                      else none
                                else none
                              else none) zFu x19 m11
                          else none
                        else
                          j16 m11
                      else none
                    else
                      j16 m11
                  else none
              else none) zFu 0 m7) zFu 9 m3
      else
        if zIn x1 10 then
          zLet (wI m3 (207 + t5) (zIx x1) (-1)) fun m42 =>
          zLet (x1 + 1) fun x43 =>
          r2 x43 m42
        else none
    else none) zFu 0 m
def f_Law_clashes (t2 : Nat) (m : Mm) : Option Int32 :=
  zLq2 (fun r3 x1 x2 =>
    if zIn 0 6 then
      if (zI m 204 (zIx 0)) ≤ x2 then
        some x1
      else
        zLq2 (fun r7 x5 x6 =>
          if x2 ≤ x6 then
            zLet (x2 + 1) fun x9 =>
            r3 x5 x9
          else
            if zIn x2 10 then
              zLet (fun (x11 : Int32) =>
                zLet (x5 + x11) fun x13 =>
                zLet (x6 + 1) fun x14 =>
                r7 x13 x14) fun j12 =>
              zLet (j12 0) fun j15 =>
              if (zI m (207 + t2) (zIx x2)) < 0 then
                j15
              else
                if zIn x2 10 then
                  if zIn x6 10 then
                    if (zI m (207 + t2) (zIx x2)) = (zI m (207 + t2) (zIx x6)) then
                      j12 1
                    else
                      j15
                  else none
                else none
            else none) zFu x1 0
    else none) zFu 0 0
def f_Law_asked (p2 : Int32) (p3 : Int32) (t5 : Nat) (t6 : Nat) (m : Mm) : Option Int32 :=
  if zIn (p2 + 1) 9 then
    zLet (zI m 205 (zIx (p2 + 1))) fun x1 =>
    zLet (fun (x3 : Int32) =>
      if zIn (p2 + 3) 9 then
        zLet (zI m 205 (zIx (p2 + 3))) fun x5 =>
        zLet (fun (x7 : Int32) =>
          if zIn p2 9 then
            zLet (fun (x10 : Int32) =>
              if x7 = x10 then
                some 0
              else
                some 1) fun j11 =>
            if (zI m 205 (zIx p2)) = 1 then
              j11 1
            else
              j11 0
          else none) fun j8 =>
        if x1 = 1 then
          zBP (f_Law_clashes t5 m) fun v25 =>
          if v25 = 0 then
            j8 1
          else
            j8 0
        else
          if x1 = 4 then
            if 0 ≤ x3 then
              j8 0
            else
              j8 1
          else
            zLet (j8 0) fun j15 =>
            if x3 < 0 then
              j15
            else
              zLet (j8 1) fun j17 =>
              if x1 = 2 then
                zBP (f_Law_date p3 x3 m) fun v22 =>
                if v22 = x5 then
                  j17
                else
                  j15
              else
                if x1 = 3 then
                  zBP (f_Law_great p3 m) fun v20 =>
                  if (((v20 + x3) + 6) % 7) = x5 then
                    j17
                  else
                    j15
                else
                  if zIn x5 10 then
                    if (zI m (207 + t6) (zIx x5)) ≤ x3 then
                      j15
                    else
                      j17
                  else none
      else none) fun j4 =>
    if x1 = 1 then
      j4 (-1)
    else
      if zIn (p2 + 2) 9 then
        if zIn (zI m 205 (zIx (p2 + 2))) 10 then
          j4 (zI m (207 + t6) (zIx (zI m 205 (zIx (p2 + 2)))))
        else none
      else none
  else none
def f_Law_digits (p2 : Int32) (p3 : Int32) (m : Mm) : Option Mm :=
  zLet (fun (x2 : Int32) =>
    zLp1 (fun r5 x4 m6 =>
      if x4 ≤ 0 then
        some m6
      else
        if ¬ x4 = 0 then
          zBI (n_Loo_type (((48 + ((p2 / x4) % 10)).toUInt32 % 65536).toInt32) m6) fun v9 m8 =>
          zLet (x4 / 10) fun x10 =>
          r5 x10 m8
        else none) zFu x2 m) fun j3 =>
  if p3 = 4 then
    j3 1000
  else
    if p3 = 3 then
      j3 100
    else
      if p3 = 2 then
        j3 10
      else
        j3 1
def f_Law_step (p2 : Int32) (m : Mm) : Option Mm :=
  zLet (p2 / 1000) fun x1 =>
  zLet (p2 % 1000) fun x2 =>
  if x1 = 0 then
    some m
  else
    if x1 = 1 then
      zLet (fun (x18 : Int32) =>
        zLet (fun (x21 : Int32) =>
          zBI (n_Loo_type x21 m) fun v24 m23 =>
          zLet (fun (x26 : Int32) =>
            zBV (f_Law_digits x18 x26 m23) fun m28 =>
            some m28) fun j27 =>
          if x18 ≤ 99 then
            if x18 ≤ 9 then
              j27 1
            else
              j27 2
          else
            j27 3) fun j22 =>
        if 400 ≤ x2 then
          j22 43
        else
          j22 45) fun j19 =>
      if 400 ≤ x2 then
        j19 (x2 - 400)
      else
        j19 (400 - x2)
    else
      zLet (fun (x6 : Int32) =>
        zBI (n_Loo_type x6 m) fun v9 m8 =>
        if 6 ≤ x1 then
          some m8
        else
          zBV (f_Law_digits x2 1 m8) fun m11 =>
          some m11) fun j7 =>
      if x1 = 2 then
        j7 62
      else
        if x1 = 3 then
          j7 60
        else
          if x1 = 4 then
            j7 93
          else
            if x1 = 5 then
              j7 91
            else
              if x1 = 6 then
                j7 79
              else
                if x1 = 7 then
                  j7 81
                else
                  j7 88
def f_Law_rule (p3 : Int32) (m : Mm) : Option Mm :=
  if zIn (6 * p3) 60 then
    zLet ((zI m 201 (zIx (6 * p3))) / 10000) fun x1 =>
    zLet (fun (x3 : Int32) =>
      zBI (n_Loo_type x3 m) fun v6 m5 =>
      if zIn (6 * p3) 60 then
        zLet (fun (x8 : Int32) =>
          zBV (f_Law_digits ((zI m5 201 (zIx (6 * p3))) % 10000) x8 m5) fun m10 =>
          if zIn ((6 * p3) + 1) 60 then
            zLet (zI m10 201 (zIx ((6 * p3) + 1))) fun x11 =>
            zLet (fun (m13 : Mm) =>
              if zIn ((6 * p3) + 2) 60 then
                zBV (f_Law_step (zI m13 201 (zIx ((6 * p3) + 2))) m13) fun m15 =>
                zLet (fun (m17 : Mm) =>
                  zLet (fun (m20 : Mm) =>
                    if zIn ((6 * p3) + 4) 60 then
                      zBV (f_Law_step (zI m20 201 (zIx ((6 * p3) + 4))) m20) fun m22 =>
                      if zIn ((6 * p3) + 5) 60 then
                        zBV (f_Law_step (zI m22 201 (zIx ((6 * p3) + 5))) m22) fun m23 =>
                        some m23
                      else none
                    else none) fun j21 =>
                  if x11 = 0 then
                    j21 m17
                  else
                    if zIn ((6 * p3) + 3) 60 then
                      if (zI m17 201 (zIx ((6 * p3) + 3))) < 0 then
                        j21 m17
                      else
                        zBI (n_Loo_type 123 m17) fun v26 m25 =>
                        if zIn ((6 * p3) + 3) 60 then
                          zBV (f_Law_step (zI m25 201 (zIx ((6 * p3) + 3))) m25) fun m27 =>
                          zBI (n_Loo_type 125 m27) fun v29 m28 =>
                          j21 m28
                        else none
                    else none) fun j18 =>
                if x11 = 0 then
                  j18 m15
                else
                  zBI (n_Loo_type 125 m15) fun v31 m30 =>
                  j18 m30
              else none) fun j14 =>
            if x11 = 0 then
              j14 m10
            else
              zLet (fun (x33 : Int32) =>
                zLet (x33 / 10000) fun x35 =>
                zBI (n_Loo_type 63 m10) fun v37 m36 =>
                zLet (fun (m39 : Mm) =>
                  zLet (fun (x42 : Int32) =>
                    zBI (n_Loo_type x42 m39) fun v45 m44 =>
                    zLet (fun (m47 : Mm) =>
                      zBI (n_Loo_type 123 m47) fun v50 m49 =>
                      j14 m49) fun j48 =>
                    if x35 = 14 then
                      j48 m44
                    else
                      zLet (fun (x52 : Int32) =>
                        zBV (f_Law_digits (x33 % 10000) x52 m44) fun m54 =>
                        j48 m54) fun j53 =>
                      if x35 = 13 then
                        j53 1
                      else
                        if x35 = 15 then
                          j53 2
                        else
                          j53 4) fun j43 =>
                  if x35 = 13 then
                    j43 87
                  else
                    if x35 = 14 then
                      j43 89
                    else
                      if x35 = 15 then
                        j43 65
                      else
                        j43 69) fun j40 =>
                if 0 ≤ x11 then
                  j40 m36
                else
                  zBI (n_Loo_type 33 m36) fun v59 m58 =>
                  j40 m58) fun j34 =>
              if 0 ≤ x11 then
                j34 x11
              else
                j34 (-x11)
          else none) fun j9 =>
        if x1 = 3 then
          j9 3
        else
          if x1 = 4 then
            j9 2
          else
            j9 4
      else none) fun j4 =>
    if x1 = 1 then
      j4 68
    else
      if x1 = 2 then
        j4 78
      else
        if x1 = 3 then
          j4 76
        else
          j4 70
  else none
def f_Law_ask (p3 : Int32) (m : Mm) : Option Mm :=
  if zIn p3 9 then
    zLet (fun (m2 : Mm) =>
      if zIn (p3 + 1) 9 then
        zLet (zI m2 205 (zIx (p3 + 1))) fun x4 =>
        zLet (fun (x6 : Int32) =>
          zBI (n_Loo_type x6 m2) fun v9 m8 =>
          zLet (fun (m11 : Mm) =>
            zLet (fun (m14 : Mm) =>
              zLet (fun (m17 : Mm) =>
                if x4 = 5 then
                  if zIn (p3 + 3) 9 then
                    zBV (f_Law_digits (zI m17 205 (zIx (p3 + 3))) 2 m17) fun m20 =>
                    some m20
                  else none
                else
                  some m17) fun j18 =>
              if x4 = 3 then
                if zIn (p3 + 3) 9 then
                  zBV (f_Law_digits (zI m14 205 (zIx (p3 + 3))) 1 m14) fun m21 =>
                  j18 m21
                else none
              else
                j18 m14) fun j15 =>
            if x4 = 2 then
              if zIn (p3 + 3) 9 then
                zBV (f_Law_digits (zI m11 205 (zIx (p3 + 3))) 4 m11) fun m22 =>
                j15 m22
              else none
            else
              j15 m11) fun j12 =>
          if x4 ≤ 1 then
            j12 m8
          else
            if zIn (p3 + 2) 9 then
              zBV (f_Law_digits (zI m8 205 (zIx (p3 + 2))) 2 m8) fun m23 =>
              j12 m23
            else none) fun j7 =>
        if x4 = 1 then
          j7 67
        else
          if x4 = 2 then
            j7 68
          else
            if x4 = 3 then
              j7 87
            else
              if x4 = 4 then
                j7 78
              else
                j7 66
      else none) fun j3 =>
    if (zI m 205 (zIx p3)) = 1 then
      zBI (n_Loo_type 33 m) fun v28 m27 =>
      j3 m27
    else
      j3 m
  else none
def f_Law_drawDate (p1 : Int32) (m : Mm) : Option Int32 :=
  zBP (f_Law_low (p1 >>> (6 &&& 31)) 12 m) fun v1 =>
  zLet (1 + v1) fun x2 =>
  zLet (fun (x4 : Int32) =>
    zBP (f_Law_low p1 x4 m) fun v6 =>
    some (((100 * x2) + 1) + v6)) fun j5 =>
  if x2 = 2 then
    j5 29
  else
    zLet (j5 30) fun j8 =>
    if x2 = 4 then
      j8
    else
      if x2 = 6 then
        j8
      else
        if x2 = 9 then
          j8
        else
          if x2 = 11 then
            j8
          else
            j5 31
def f_Law_drawStep (p1 : Int32) (m : Mm) : Option Int32 :=
  zBP (f_Law_low p1 9 m) fun v1 =>
  if v1 = 1 then
    zBP (f_Law_low (p1 >>> (4 &&& 31)) 3 m) fun v7 =>
    zLet (fun (x9 : Int32) =>
      zBP (f_Law_low (p1 >>> (5 &&& 31)) x9 m) fun v11 =>
      zBP (f_Law_low (p1 >>> (4 &&& 31)) 3 m) fun v12 =>
      zLet (fun (x14 : Int32) =>
        some ((1400 + v11) - x14)) fun j15 =>
      if v12 = 0 then
        j15 366
      else
        j15 20) fun j10 =>
    if v7 = 0 then
      j10 733
    else
      j10 41
  else
    zLet (some (1000 * v1)) fun j4 =>
    if 6 ≤ v1 then
      j4
    else
      if v1 ≤ 0 then
        j4
      else
        zBP (f_Law_low (p1 >>> (5 &&& 31)) 7 m) fun v6 =>
        some ((1000 * v1) + v6)
/-- a call's answer, given on: a value to K, an exception to KX -/
def hB {α : Type} (K : Int32 → Mm → Option α) (KX : Nat → Mm → Option α) (f : Option ((Int32 ⊕ Nat) × Mm)) : Option α := f.bind fun r => match r.1 with | .inl v => K v r.2 | .inr e => KX e r.2
def hR0 (v : Int32) (m : Mm) : Option (Int32 × Mm) := some (v * 0, m)
def kRef (e : Nat) (m : Mm) : Option (Int32 × Mm) := if e = 2 then some (1, m) else if e = 0 then some (2, m) else if e = 1 then some (3, m) else none
def f_Law_refused (p2 p3 p4 p5 : Int32) (m : Mm) : Option (Int32 × Mm) :=
  if p2 = 0 then hB hR0 kRef (f_Loo_dispense p3 p4 p5 m)
  else if p2 = 1 then hB hR0 kRef (f_Loo_takeBack p3 p4 m)
  else if p2 = 2 then hB hR0 kRef (f_Loo_goOn p3 m)
  else hB hR0 kRef (f_Loo_feast p3 0 m)

def f_Law_year (p7 : Int32) (m : Mm) : Option (Int32 × Mm) :=
  zLet (zNt m (207 + 0)) fun m1 =>
  zLet (zNt m1 (207 + 1)) fun m3 =>
  zLet (zNt m3 (207 + 2)) fun m5 =>
  zLet (zNt m5 (207 + 3)) fun m7 =>
  if zIn 2 6 then
    zBV (f_Law_bents p7 (1 - (zI m7 204 (zIx 2))) 0 2 m7) fun m9 =>
    if zIn 2 6 then
      zBV (f_Law_bents p7 (zI m9 204 (zIx 2)) 1 2 m9) fun m10 =>
      zBV (f_Law_place p7 1 3 m10) fun m11 =>
      zLp2 (fun r14 x12 x13 m15 =>
        if zIn 0 6 then
          if (zI m15 204 (zIx 0)) ≤ x13 then
            zBI (n_Loo_yearCost p7 m15) fun v18 m17 =>
            if v18 = x12 then
              zBI (n_Loo_clashes p7 m17) fun v21 m20 =>
              zBP (f_Law_clashes 1 m20) fun v22 =>
              if v21 = v22 then
                zLet (zNt m20 (207 + 4)) fun m24 =>
                zLet (zNt m24 (207 + 5)) fun m26 =>
                zLp3 (fun r31 x28 x29 x30 m32 =>
                  zBP (f_Law_days p7 m32) fun v33 =>
                  if v33 ≤ x30 then
                    zLp1 (fun r36 x35 m37 =>
                      if zIn 3 6 then
                        if (zI m37 204 (zIx 3)) ≤ x35 then
                          zBI (n_Loo_silent p7 m37) fun v40 m39 =>
                          zLet (fun (m42 : Mm) =>
                            some (0, m42)) fun j43 =>
                          if v40 = x28 then
                            zBI (n_Loo_begin p7 m39) fun v45 m44 =>
                            zBP (f_Law_great p7 m44) fun v46 =>
                            if v45 = v46 then
                              zBP (f_Law_great p7 m44) fun v48 =>
                              if zIn 2 6 then
                                zBI (n_Loo_age v48 (zI m44 204 (zIx 2)) m44) fun v50 m49 =>
                                zBP (f_Law_great p7 m49) fun v51 =>
                                if zIn 2 6 then
                                  zBP (f_Law_age v51 (zI m49 204 (zIx 2)) m49) fun v52 =>
                                  if v50 = v52 then
                                    zBI (n_Loo_date p7 364 m49) fun v55 m54 =>
                                    zBP (f_Law_date p7 364 m54) fun v56 =>
                                    if v55 = v56 then
                                      zBI (n_Loo_date p7 365 m54) fun v59 m58 =>
                                      zBP (f_Law_leap p7 m58) fun v60 =>
                                      zLet (fun (x62 : Int32) =>
                                        if v59 = x62 then
                                          some (1, m58)
                                        else
                                          j43 m58) fun j63 =>
                                      if v60 = 0 then
                                        j63 (-1)
                                      else
                                        j63 1231
                                    else
                                      j43 m54
                                  else
                                    j43 m49
                                else none
                              else none
                            else
                              j43 m44
                          else
                            j43 m39
                        else
                          zBI (n_Loo_peals x35 p7 m37) fun v66 m65 =>
                          if zIn x35 10 then
                            if v66 = (zI m65 (207 + 4) (zIx x35)) then
                              zLet (x35 + 1) fun x68 =>
                              r36 x68 m65
                            else
                              some (0, m65)
                          else none
                      else none) zFu 0 m32
                  else
                    zLp3 (fun r72 x69 x70 x71 m73 =>
                      if zIn 0 6 then
                        if (zI m73 204 (zIx 0)) ≤ x71 then
                          zLet (x30 + 1) fun x75 =>
                          r31 x69 x70 x75 m73
                        else
                          if zIn x71 10 then
                            zLet (fun (x77 x78 : Int32) (m79 : Mm) =>
                              zLet (x71 + 1) fun x81 =>
                              r72 x77 x78 x81 m79) fun j80 =>
                            if (zI m73 (207 + 3) (zIx x71)) = x30 then
                              if zIn x71 10 then
                                zLet (fun (x83 : Int32) =>
                                  zLp3 (fun r88 x85 x86 x87 m89 =>
                                    if 6 ≤ x87 then
                                      j80 x85 x86 m89
                                    else
                                      zLp3 (fun r94 x91 x92 x93 m95 =>
                                        if 6 ≤ x93 then
                                          zLet (x87 + 1) fun x97 =>
                                          r88 x91 x92 x97 m95
                                        else
                                          if zIn x87 26 then
                                            zLet (fun (x99 : Int32) =>
                                              zLq2 (fun r103 x101 x102 =>
                                                if zIn 3 6 then
                                                  zLet (zLet (fun (x107 : Int32) (m108 : Mm) =>
                                                    zLet (fun (x111 : Int32) =>
                                                      zLet (x91 + x111) fun x113 =>
                                                      zLet (fun (m115 : Mm) =>
                                                        zLet (x93 + 1) fun x117 =>
                                                        r94 x113 x107 x117 m115) fun j116 =>
                                                      if 0 ≤ x101 then
                                                        if zIn x101 10 then
                                                          if zIn x101 10 then
                                                            zLet (wI m108 (207 + 4) (zIx x101) ((zI m108 (207 + 4) (zIx x101)) + 1)) fun m118 =>
                                                            if zIn x101 10 then
                                                              zLet (wI m118 (207 + 5) (zIx x101) (x30 + x83)) fun m119 =>
                                                              j116 m119
                                                            else none
                                                          else none
                                                        else none
                                                      else
                                                        j116 m108) fun j112 =>
                                                    zLet (j112 0) fun j120 =>
                                                    if x99 = 0 then
                                                      j120
                                                    else
                                                      if 0 ≤ x101 then
                                                        j120
                                                      else
                                                        j112 1) fun j109 =>
                                                  if 12 ≤ x92 then
                                                    j109 x92 m95
                                                  else
                                                    zLet (zBI (n_Loo_rings x71 p7 x87 x93 m95) fun v125 m124 =>
                                                    if v125 = x101 then
                                                      zLet (x92 + 1) fun x127 =>
                                                      j109 x127 m124
                                                    else
                                                      some (0, m124)) fun j123 =>
                                                    if x99 = 0 then
                                                      if x93 = 5 then
                                                        if x87 = (x71 % 6) then
                                                          j123
                                                        else
                                                          j109 x92 m95
                                                      else
                                                        j109 x92 m95
                                                    else
                                                      j123) fun j105 =>
                                                  if (zI m95 204 (zIx 3)) ≤ x102 then
                                                    j105
                                                  else
                                                    if x99 = 0 then
                                                      j105
                                                    else
                                                      if zIn (6 + (2 * x102)) 26 then
                                                        zLet (fun (x132 : Int32) =>
                                                          zLet (x102 + 1) fun x134 =>
                                                          r103 x132 x134) fun j133 =>
                                                        if (zI m95 206 (zIx (6 + (2 * x102)))) = x87 then
                                                          if zIn x102 10 then
                                                            zLet (zLet (j133 x102) fun j138 =>
                                                            if x101 < 0 then
                                                              j138
                                                            else
                                                              if zIn x102 10 then
                                                                if zIn x101 10 then
                                                                  if (zI m95 (207 + 4) (zIx x101)) ≤ (zI m95 (207 + 4) (zIx x102)) then
                                                                    j133 x101
                                                                  else
                                                                    j138
                                                                else none
                                                              else none) fun j136 =>
                                                            if (zI m95 (207 + 4) (zIx x102)) ≤ 0 then
                                                              j136
                                                            else
                                                              if zIn x102 10 then
                                                                if zIn (7 + (2 * x102)) 26 then
                                                                  if (zI m95 206 (zIx (7 + (2 * x102)))) < (x30 - (zI m95 (207 + 5) (zIx x102))) then
                                                                    j136
                                                                  else
                                                                    j133 x101
                                                                else none
                                                              else none
                                                          else none
                                                        else
                                                          j133 x101
                                                      else none
                                                else none) zFu (-1) 0) fun j100 =>
                                            zLet (j100 0) fun j141 =>
                                            if (zI m95 206 (zIx x87)) ≤ x93 then
                                              j141
                                            else
                                              if zIn x71 10 then
                                                if ((zI m95 202 (zIx x71)) / 2) ≤ x93 then
                                                  j141
                                                else
                                                  j100 1
                                              else none
                                          else none) zFu x85 x86 0 m89) zFu x69 x70 0 m73) fun j84 =>
                                zLet (j84 0) fun j143 =>
                                if (zI m73 (207 + 0) (zIx x71)) < 0 then
                                  j143
                                else
                                  if zIn x71 10 then
                                    if zIn x71 10 then
                                      if zIn x71 10 then
                                        if zIn x71 10 then
                                          if (((zI m73 (207 + 0) (zIx x71)) - (zI m73 (207 + 1) (zIx x71))) * ((zI m73 (207 + 0) (zIx x71)) - (zI m73 (207 + 1) (zIx x71)))) = 1 then
                                            j84 1
                                          else
                                            j143
                                        else none
                                      else none
                                    else none
                                  else none
                              else none
                            else
                              j80 x69 x70 m73
                          else none
                      else none) zFu x28 x29 0 m32) zFu 0 0 0 m26
              else
                some (0, m20)
            else
              some (0, m17)
          else
            if zIn x13 10 then
              if zIn x13 10 then
                zLet ((zI m15 (207 + 0) (zIx x13)) - (zI m15 (207 + 1) (zIx x13))) fun x145 =>
                zBI (n_Loo_bent x13 p7 m15) fun v147 m146 =>
                if zIn x13 10 then
                  if v147 = (zI m146 (207 + 1) (zIx x13)) then
                    zBI (n_Loo_day x13 p7 m146) fun v150 m149 =>
                    if zIn x13 10 then
                      if v150 = (zI m149 (207 + 3) (zIx x13)) then
                        zBI (n_Loo_dayByDays x13 p7 m149) fun v153 m152 =>
                        if zIn x13 10 then
                          if v153 = (zI m152 (207 + 3) (zIx x13)) then
                            zBI (n_Loo_cost x13 p7 m152) fun v156 m155 =>
                            if zIn x13 10 then
                              if v156 = (zI m155 (207 + 2) (zIx x13)) then
                                zBI (n_Loo_isMidnight x13 p7 m155) fun v159 m158 =>
                                if zIn x13 10 then
                                  zLet (fun (x161 : Int32) =>
                                    if v159 = x161 then
                                      if zIn x13 10 then
                                        zLet (x12 + (zI m158 (207 + 2) (zIx x13))) fun x164 =>
                                        zLet (x13 + 1) fun x165 =>
                                        r14 x164 x165 m158
                                      else none
                                    else
                                      some (0, m158)) fun j162 =>
                                  zLet (j162 0) fun j166 =>
                                  if (zI m158 (207 + 0) (zIx x13)) < 0 then
                                    j166
                                  else
                                    if zIn x13 10 then
                                      if (zI m158 (207 + 1) (zIx x13)) < 0 then
                                        j166
                                      else
                                        if (x145 * x145) = 1 then
                                          j162 1
                                        else
                                          j166
                                    else none
                                else none
                              else
                                some (0, m155)
                            else none
                          else
                            some (0, m152)
                        else none
                      else
                        some (0, m149)
                    else none
                  else
                    some (0, m146)
                else none
              else none
            else none
        else none) zFu 1 0 m11
    else none
  else none
def f_Law_law (ω : Wd) (m : Mm) : Option (Int32 × Mm) :=
  if zIn 4 6 then
    zLet (wI m 204 (zIx 4) (-1)) fun m1 =>
    zLp1 (fun r3 x2 m4 =>
      if 28 ≤ x2 then
        some (1, m4)
      else
        zBP (f_Law_cell ω (3 * x2) m4) fun v7 =>
        zBP (f_Law_cell ω ((3 * x2) + 1) m4) fun v8 =>
        zBP (f_Law_cell ω ((3 * x2) + 2) m4) fun v9 =>
        zLet (fun (x11 : Int32) =>
          if zIn 0 6 then
            zLet (fun (x14 : Int32) =>
              zBP (f_Law_low (v9 >>> (3 &&& 31)) 400 m4) fun v16 =>
              zLet (fun (m18 : Mm) =>
                zLet (x2 + 1) fun x20 =>
                r3 x20 m18) fun j19 =>
              zLet (fun (x21 : Int32) (m22 : Mm) =>
                zBI (f_Law_year x21 m22) fun v25 m24 =>
                if v25 = 0 then
                  some (0, m24)
                else
                  j19 m24) fun j23 =>
              if 5 ≤ x11 then
                if x11 = 5 then
                  if zIn x14 10 then
                    zLet ((zI m4 202 (zIx x14)) / 2) fun x213 =>
                    zBP (f_Law_low v8 20 m4) fun v214 =>
                    if zIn x14 10 then
                      zLet (wI m4 202 (zIx x14) v214) fun m215 =>
                      if zIn x14 10 then
                        if zIn x14 10 then
                          zLet (fun (x217 : Int32) =>
                            zBI (n_Loo_rank x14 ((zI m215 202 (zIx x14)) / 2) x217 m215) fun v220 m219 =>
                            if v220 = x213 then
                              j23 v16 m219
                            else
                              some (0, m219)) fun j218 =>
                          if ((zI m215 202 (zIx x14)) % 2) = 1 then
                            j218 1
                          else
                            j218 0
                        else none
                      else none
                    else none
                  else none
                else
                  if 8 ≤ x11 then
                    if x11 = 8 then
                      if zIn 1 6 then
                        if (zI m4 204 (zIx 1)) = 0 then
                          zBI (f_Law_refused 1 x14 v16 0 m4) fun v180 m179 =>
                          if v180 = 3 then
                            j19 m179
                          else
                            some (0, m179)
                        else
                          if zIn 1 6 then
                            zBP (f_Law_low v8 (zI m4 204 (zIx 1)) m4) fun v167 =>
                            if zIn ((3 * v167) + 2) 30 then
                              zLet (zI m4 203 (zIx ((3 * v167) + 2))) fun x168 =>
                              if zIn (3 * v167) 30 then
                                if zIn ((3 * v167) + 1) 30 then
                                  zBI (n_Loo_takeBack (zI m4 203 (zIx (3 * v167))) (zI m4 203 (zIx ((3 * v167) + 1))) m4) fun v170 m169 =>
                                  if v170 = x168 then
                                    if zIn 1 6 then
                                      if zIn 1 6 then
                                        zLet (wI m169 204 (zIx 1) ((zI m169 204 (zIx 1)) - 1)) fun m172 =>
                                        zLp1 (fun r174 x173 m175 =>
                                          if 3 ≤ x173 then
                                            j23 v16 m175
                                          else
                                            if zIn 1 6 then
                                              if zIn ((3 * (zI m175 204 (zIx 1))) + x173) 30 then
                                                if zIn ((3 * v167) + x173) 30 then
                                                  zLet (wI m175 203 (zIx ((3 * v167) + x173)) (zI m175 203 (zIx ((3 * (zI m175 204 (zIx 1))) + x173)))) fun m177 =>
                                                  zLet (x173 + 1) fun x178 =>
                                                  r174 x178 m177
                                                else none
                                              else none
                                            else none) zFu 0 m172
                                      else none
                                    else none
                                  else
                                    some (0, m169)
                                else none
                              else none
                            else none
                          else none
                      else none
                    else
                      if x11 = 9 then
                        if zIn 2 6 then
                          zLet (zI m4 204 (zIx 2)) fun x160 =>
                          zBP (f_Law_low v8 2 m4) fun v161 =>
                          if zIn 2 6 then
                            zLet (wI m4 204 (zIx 2) v161) fun m162 =>
                            if zIn 2 6 then
                              zBI (n_Loo_table (zI m162 204 (zIx 2)) m162) fun v164 m163 =>
                              if v164 = x160 then
                                j23 v16 m163
                              else
                                some (0, m163)
                            else none
                          else none
                        else none
                      else
                        if x11 = 10 then
                          zBP (f_Law_low v8 6 m4) fun v145 =>
                          if zIn v145 26 then
                            zLet (zI m4 206 (zIx v145)) fun x146 =>
                            zBP (f_Law_low (v8 >>> (3 &&& 31)) 7 m4) fun v147 =>
                            if zIn v145 26 then
                              zLet (wI m4 206 (zIx v145) v147) fun m148 =>
                              if zIn v145 26 then
                                zBI (n_Loo_bells v145 (zI m148 206 (zIx v145)) m148) fun v150 m149 =>
                                if v150 = x146 then
                                  if zIn 3 6 then
                                    if 10 ≤ (zI m149 204 (zIx 3)) then
                                      j23 v16 m149
                                    else
                                      if zIn 3 6 then
                                        if zIn (6 + (2 * (zI m149 204 (zIx 3)))) 26 then
                                          zLet (wI m149 206 (zIx (6 + (2 * (zI m149 204 (zIx 3))))) v145) fun m153 =>
                                          if zIn 3 6 then
                                            zBP (f_Law_low (v8 >>> (6 &&& 31)) 7 m153) fun v154 =>
                                            if zIn (7 + (2 * (zI m153 204 (zIx 3)))) 26 then
                                              zLet (wI m153 206 (zIx (7 + (2 * (zI m153 204 (zIx 3))))) v154) fun m155 =>
                                              if zIn 3 6 then
                                                if zIn 3 6 then
                                                  zLet (wI m155 204 (zIx 3) ((zI m155 204 (zIx 3)) + 1)) fun m156 =>
                                                  if zIn 3 6 then
                                                    if zIn (5 + (2 * (zI m156 204 (zIx 3)))) 26 then
                                                      zBI (n_Loo_ringer v145 (zI m156 206 (zIx (5 + (2 * (zI m156 204 (zIx 3)))))) m156) fun v158 m157 =>
                                                      if zIn 3 6 then
                                                        if v158 = ((zI m157 204 (zIx 3)) - 1) then
                                                          j23 v16 m157
                                                        else
                                                          some (0, m157)
                                                      else none
                                                    else none
                                                  else none
                                                else none
                                              else none
                                            else none
                                          else none
                                        else none
                                      else none
                                  else none
                                else
                                  some (0, m149)
                              else none
                            else none
                          else none
                        else
                          if 13 ≤ x11 then
                            if zIn 4 6 then
                              if 0 ≤ (zI m4 204 (zIx 4)) then
                                zBP (f_Law_low v8 200 m4) fun v34 =>
                                zLet (1 + v34) fun x35 =>
                                zLp1 (fun r37 x36 m38 =>
                                  zLet (fun (x41 : Int32) (m42 : Mm) =>
                                    zBI (n_Loo_goOn x35 m42) fun v45 m44 =>
                                    if v45 = x41 then
                                      zBP (f_Loo_spent m44) fun v47 =>
                                      if zIn 5 6 then
                                        if (lg_cmp v47 ((zI m44 204 (zIx 5)).toInt64)) = 0 then
                                          j23 v16 m44
                                        else
                                          some (0, m44)
                                      else none
                                    else
                                      some (0, m44)) fun j43 =>
                                  if (-2) = (-2) then
                                    if zIn 4 6 then
                                      if (zI m38 204 (zIx 4)) = 400 then
                                        j43 (-1) m38
                                      else
                                        zLet (zNt m38 (207 + 0)) fun m50 =>
                                        zLet (zNt m50 (207 + 1)) fun m52 =>
                                        zLet (zNt m52 (207 + 2)) fun m54 =>
                                        if zIn 4 6 then
                                          if zIn 2 6 then
                                            zBV (f_Law_bents (zI m54 204 (zIx 4)) (zI m54 204 (zIx 2)) 0 1 m54) fun m56 =>
                                            zLq2 (fun r59 x57 x58 =>
                                              if zIn 0 6 then
                                                if (zI m56 204 (zIx 0)) ≤ x58 then
                                                  if x57 ≤ x36 then
                                                    zLet (x36 - x57) fun x62 =>
                                                    if zIn 5 6 then
                                                      if zIn 5 6 then
                                                        zLet (wI m56 204 (zIx 5) ((zI m56 204 (zIx 5)) + x57)) fun m63 =>
                                                        if zIn 4 6 then
                                                          zBV (f_Law_place (zI m63 204 (zIx 4)) 0 2 m63) fun m64 =>
                                                          if zIn 4 6 then
                                                            zBP (f_Law_asked 1 (zI m64 204 (zIx 4)) 0 2 m64) fun v65 =>
                                                            if zIn 0 9 then
                                                              zLet (fun (x67 : Int32) =>
                                                                if zIn 4 6 then
                                                                  if zIn 4 6 then
                                                                    zLet (wI m64 204 (zIx 4) ((zI m64 204 (zIx 4)) + 1)) fun m69 =>
                                                                    if zIn 0 9 then
                                                                      zLet (if zIn 4 6 then
                                                                        zLet ((zI m69 204 (zIx 4)) - 1) fun x72 =>
                                                                        j43 x72 m69
                                                                      else none) fun j71 =>
                                                                      if (zI m69 205 (zIx 0)) = 1 then
                                                                        if v65 = 0 then
                                                                          r37 x62 m69
                                                                        else
                                                                          if x67 = 0 then
                                                                            r37 x62 m69
                                                                          else
                                                                            j71
                                                                      else
                                                                        if v65 = 0 then
                                                                          if x67 = 0 then
                                                                            r37 x62 m69
                                                                          else
                                                                            j71
                                                                        else
                                                                          j71
                                                                    else none
                                                                  else none
                                                                else none) fun j68 =>
                                                              zLet (j68 0) fun j77 =>
                                                              if (zI m64 205 (zIx 0)) ≤ 0 then
                                                                j77
                                                              else
                                                                if zIn 4 6 then
                                                                  zBP (f_Law_asked 5 (zI m64 204 (zIx 4)) 0 2 m64) fun v78 =>
                                                                  if v78 = 0 then
                                                                    j77
                                                                  else
                                                                    j68 1
                                                                else none
                                                            else none
                                                          else none
                                                        else none
                                                      else none
                                                    else none
                                                  else
                                                    j43 (-2) m56
                                                else
                                                  if zIn x58 10 then
                                                    zLet (x57 + (zI m56 (207 + 1) (zIx x58))) fun x80 =>
                                                    zLet (x58 + 1) fun x81 =>
                                                    r59 x80 x81
                                                  else none
                                              else none) zFu 1 0
                                          else none
                                        else none
                                    else none
                                  else
                                    j43 (-2) m38) 210 x35 m4
                              else
                                zBI (f_Law_refused 2 5 0 0 m4) fun v83 m82 =>
                                if v83 = 3 then
                                  j23 v16 m82
                                else
                                  some (0, m82)
                            else none
                          else
                            zBP (f_Law_low v8 3 m4) fun v85 =>
                            if zIn 0 9 then
                              zLet (wI m4 205 (zIx 0) v85) fun m86 =>
                              zLp1 (fun r88 x87 m89 =>
                                if 2 ≤ x87 then
                                  if zIn 0 9 then
                                    zLet (fun (m92 : Mm) =>
                                      zBV (f_Law_ask 1 m92) fun m94 =>
                                      if zIn 0 9 then
                                        zLet (fun (m96 : Mm) =>
                                          zBP (f_Law_low (v7 >>> (9 &&& 31)) 390 m96) fun v98 =>
                                          if zIn 4 6 then
                                            zLet (wI m96 204 (zIx 4) v98) fun m99 =>
                                            zLet (zNt m99 (207 + 0)) fun m100 =>
                                            zLet (zNt m100 (207 + 1)) fun m102 =>
                                            if zIn 4 6 then
                                              if zIn 2 6 then
                                                zBV (f_Law_bents (zI m102 204 (zIx 4)) (zI m102 204 (zIx 2)) 0 1 m102) fun m104 =>
                                                zLq2 (fun r107 x105 x106 =>
                                                  if zIn 0 6 then
                                                    if (zI m104 204 (zIx 0)) ≤ x106 then
                                                      zBI (f_Loo_questionFault m104) fun v110 m109 =>
                                                      if v110 = (-1) then
                                                        if zIn 4 6 then
                                                          zBI (n_Loo_search (zI m109 204 (zIx 4)) m109) fun v113 m112 =>
                                                          if v113 = x105 then
                                                            j23 v16 m112
                                                          else
                                                            some (0, m112)
                                                        else none
                                                      else
                                                        some (0, m109)
                                                    else
                                                      if zIn x106 10 then
                                                        zLet (x105 + (zI m104 (207 + 1) (zIx x106))) fun x115 =>
                                                        zLet (x106 + 1) fun x116 =>
                                                        r107 x115 x116
                                                      else none
                                                  else none) zFu 1 0
                                              else none
                                            else none
                                          else none) fun j97 =>
                                        if (zI m94 205 (zIx 0)) ≤ 0 then
                                          j97 m94
                                        else
                                          if zIn 0 9 then
                                            zLet (fun (x118 : Int32) =>
                                              zBI (n_Loo_type x118 m94) fun v121 m120 =>
                                              zBV (f_Law_ask 5 m120) fun m122 =>
                                              zBI (n_Loo_type 41 m122) fun v124 m123 =>
                                              j97 m123) fun j119 =>
                                            if (zI m94 205 (zIx 0)) = 1 then
                                              j119 38
                                            else
                                              j119 124
                                          else none
                                      else none) fun j93 =>
                                    if (zI m89 205 (zIx 0)) ≤ 0 then
                                      j93 m89
                                    else
                                      zBI (n_Loo_type 40 m89) fun v126 m125 =>
                                      j93 m125
                                  else none
                                else
                                  zLet (fun (x128 : Int32) =>
                                    zBP (f_Law_low x128 2 m89) fun v130 =>
                                    if zIn (1 + (4 * x87)) 9 then
                                      zLet (wI m89 205 (zIx (1 + (4 * x87))) v130) fun m131 =>
                                      zBP (f_Law_low (x128 >>> (1 &&& 31)) 5 m131) fun v132 =>
                                      if zIn (2 + (4 * x87)) 9 then
                                        zLet (wI m131 205 (zIx (2 + (4 * x87))) (1 + v132)) fun m133 =>
                                        if zIn 0 6 then
                                          zBP (f_Law_low (x128 >>> (4 &&& 31)) (zI m133 204 (zIx 0)) m133) fun v134 =>
                                          if zIn (3 + (4 * x87)) 9 then
                                            zLet (wI m133 205 (zIx (3 + (4 * x87))) v134) fun m135 =>
                                            if zIn (2 + (4 * x87)) 9 then
                                              zLet (fun (x137 : Int32) =>
                                                if zIn (4 + (4 * x87)) 9 then
                                                  zLet (wI m135 205 (zIx (4 + (4 * x87))) x137) fun m139 =>
                                                  zLet (x87 + 1) fun x140 =>
                                                  r88 x140 m139
                                                else none) fun j138 =>
                                              if (zI m135 205 (zIx (2 + (4 * x87)))) = 2 then
                                                zBP (f_Law_drawDate (x128 >>> (7 &&& 31)) m135) fun v144 =>
                                                j138 v144
                                              else
                                                if zIn (2 + (4 * x87)) 9 then
                                                  if (zI m135 205 (zIx (2 + (4 * x87)))) = 3 then
                                                    zBP (f_Law_low (x128 >>> (7 &&& 31)) 7 m135) fun v143 =>
                                                    j138 v143
                                                  else
                                                    if zIn 0 6 then
                                                      zBP (f_Law_low (x128 >>> (7 &&& 31)) (zI m135 204 (zIx 0)) m135) fun v142 =>
                                                      j138 v142
                                                    else none
                                                else none
                                            else none
                                          else none
                                        else none
                                      else none
                                    else none) fun j129 =>
                                  if x87 = 0 then
                                    j129 (v8 >>> (3 &&& 31))
                                  else
                                    j129 (v9 >>> (5 &&& 31))) zFu 0 m86
                            else none
                  else
                    zBP (f_Law_low v8 8 m4) fun v182 =>
                    zLet (fun (x184 : Int32) =>
                      zBP (f_Law_low (v7 >>> (9 &&& 31)) 2 m4) fun v186 =>
                      zLet (fun (x188 : Int32) =>
                        zLq2 (fun r192 x190 x191 =>
                          if zIn 1 6 then
                            if (zI m4 204 (zIx 1)) ≤ x191 then
                              if x190 ≤ 0 then
                                if zIn 1 6 then
                                  if (zI m4 204 (zIx 1)) = 10 then
                                    j19 m4
                                  else
                                    if zIn 1 6 then
                                      if zIn (3 * (zI m4 204 (zIx 1))) 30 then
                                        zLet (wI m4 203 (zIx (3 * (zI m4 204 (zIx 1)))) x14) fun m196 =>
                                        if zIn 1 6 then
                                          if zIn ((3 * (zI m196 204 (zIx 1))) + 1) 30 then
                                            zLet (wI m196 203 (zIx ((3 * (zI m196 204 (zIx 1))) + 1)) x188) fun m197 =>
                                            if zIn 1 6 then
                                              if zIn ((3 * (zI m197 204 (zIx 1))) + 2) 30 then
                                                zLet (wI m197 203 (zIx ((3 * (zI m197 204 (zIx 1))) + 2)) x184) fun m198 =>
                                                if zIn 1 6 then
                                                  if zIn 1 6 then
                                                    zLet (wI m198 204 (zIx 1) ((zI m198 204 (zIx 1)) + 1)) fun m199 =>
                                                    zBI (n_Loo_dispense x14 x188 x184 m199) fun v201 m200 =>
                                                    if zIn 1 6 then
                                                      if v201 = (zI m200 204 (zIx 1)) then
                                                        j23 x188 m200
                                                      else
                                                        some (0, m200)
                                                    else none
                                                  else none
                                                else none
                                              else none
                                            else none
                                          else none
                                        else none
                                      else none
                                    else none
                                else none
                              else
                                zBI (f_Law_refused 0 x14 x188 x184 m4) fun v204 m203 =>
                                if v204 = 3 then
                                  j19 m203
                                else
                                  some (0, m203)
                            else
                              if zIn (3 * x191) 30 then
                                zLet (fun (x207 : Int32) =>
                                  zLet (x191 + 1) fun x209 =>
                                  r192 x207 x209) fun j208 =>
                                if (zI m4 203 (zIx (3 * x191))) = x14 then
                                  if zIn ((3 * x191) + 1) 30 then
                                    if 10 ≤ ((zI m4 203 (zIx ((3 * x191) + 1))) - x188) then
                                      j208 x190
                                    else
                                      if zIn ((3 * x191) + 1) 30 then
                                        if 10 ≤ (x188 - (zI m4 203 (zIx ((3 * x191) + 1)))) then
                                          j208 x190
                                        else
                                          j208 3
                                      else none
                                  else none
                                else
                                  j208 x190
                              else none
                          else none) zFu 0 0) fun j189 =>
                      if v186 = 0 then
                        j189 40
                      else
                        j189 v16) fun j185 =>
                    if v182 = 0 then
                      j185 99
                    else
                      zBP (f_Law_low (v8 >>> (3 &&& 31)) 61 m4) fun v212 =>
                      j185 (v212 - 30)
              else
                if zIn 0 6 then
                  if (zI m4 204 (zIx 0)) = 10 then
                    j19 m4
                  else
                    if zIn 0 6 then
                      zLet (6 * (zI m4 204 (zIx 0))) fun x223 =>
                      if zIn 0 6 then
                        zLet (fun (x225 : Int32) =>
                          zBP (f_Law_low (v7 >>> (7 &&& 31)) x225 m4) fun v227 =>
                          zLet (fun (x229 : Int32) =>
                            if zIn x223 60 then
                              zLet (wI m4 201 (zIx x223) x229) fun m231 =>
                              zBP (f_Law_low (v7 >>> (10 &&& 31)) 7 m231) fun v232 =>
                              zLet (fun (x234 : Int32) =>
                                if zIn (x223 + 1) 60 then
                                  zLet (wI m231 201 (zIx (x223 + 1)) x234) fun m236 =>
                                  zBP (f_Law_low (v7 >>> (13 &&& 31)) 2 m236) fun v237 =>
                                  zLet (fun (m239 : Mm) =>
                                    zBP (f_Law_drawStep v9 m239) fun v241 =>
                                    if zIn (x223 + 2) 60 then
                                      zLet (wI m239 201 (zIx (x223 + 2)) v241) fun m242 =>
                                      zBP (f_Law_low (v7 >>> (14 &&& 31)) 2 m242) fun v243 =>
                                      zLet (fun (x245 : Int32) =>
                                        if zIn (x223 + 3) 60 then
                                          zLet (wI m242 201 (zIx (x223 + 3)) x245) fun m247 =>
                                          zBP (f_Law_low (v7 >>> (15 &&& 31)) 2 m247) fun v248 =>
                                          zLet (fun (x250 : Int32) =>
                                            if zIn (x223 + 4) 60 then
                                              zLet (wI m247 201 (zIx (x223 + 4)) x250) fun m252 =>
                                              zBP (f_Law_low (v7 >>> (16 &&& 31)) 3 m252) fun v253 =>
                                              zLet (fun (x255 : Int32) =>
                                                if zIn (x223 + 5) 60 then
                                                  zLet (wI m252 201 (zIx (x223 + 5)) x255) fun m257 =>
                                                  if zIn (x223 + 4) 60 then
                                                    zLet (fun (m259 : Mm) =>
                                                      if zIn (x223 + 5) 60 then
                                                        zLet (fun (m262 : Mm) =>
                                                          if zIn 0 6 then
                                                            zBV (f_Law_rule (zI m262 204 (zIx 0)) m262) fun m264 =>
                                                            if zIn 0 6 then
                                                              zBP (f_Law_low (v7 >>> (18 &&& 31)) 10 m264) fun v265 =>
                                                              zBP (f_Law_low (v7 >>> (22 &&& 31)) 2 m264) fun v266 =>
                                                              if zIn (zI m264 204 (zIx 0)) 10 then
                                                                zLet (wI m264 202 (zIx (zI m264 204 (zIx 0))) ((2 * v265) + v266)) fun m267 =>
                                                                if zIn 0 6 then
                                                                  if zIn 0 6 then
                                                                    zLet (wI m267 204 (zIx 0) ((zI m267 204 (zIx 0)) + 1)) fun m268 =>
                                                                    zBI (f_Loo_fault m268) fun v270 m269 =>
                                                                    if v270 = (-1) then
                                                                      if zIn 0 6 then
                                                                        if zIn ((zI m269 204 (zIx 0)) - 1) 10 then
                                                                          if zIn 0 6 then
                                                                            if zIn ((zI m269 204 (zIx 0)) - 1) 10 then
                                                                              zLet (fun (x273 : Int32) =>
                                                                                zBI (n_Loo_feast ((zI m269 202 (zIx ((zI m269 204 (zIx 0)) - 1))) / 2) x273 m269) fun v276 m275 =>
                                                                                if zIn 0 6 then
                                                                                  if v276 = ((zI m275 204 (zIx 0)) - 1) then
                                                                                    zBI (f_Loo_wipe m275) fun v279 m278 =>
                                                                                    if v279 = 0 then
                                                                                      j23 v16 m278
                                                                                    else
                                                                                      some (0, m278)
                                                                                  else
                                                                                    some (0, m275)
                                                                                else none) fun j274 =>
                                                                              if ((zI m269 202 (zIx ((zI m269 204 (zIx 0)) - 1))) % 2) = 1 then
                                                                                j274 1
                                                                              else
                                                                                j274 0
                                                                            else none
                                                                          else none
                                                                        else none
                                                                      else none
                                                                    else
                                                                      some (0, m269)
                                                                  else none
                                                                else none
                                                              else none
                                                            else none
                                                          else none) fun j263 =>
                                                        if ((zI m259 201 (zIx (x223 + 5))) / 1000) = 1 then
                                                          if zIn (x223 + 5) 60 then
                                                            zLet (wI m259 201 (zIx (x223 + 5)) 6000) fun m281 =>
                                                            j263 m281
                                                          else none
                                                        else
                                                          j263 m259
                                                      else none) fun j260 =>
                                                    if ((zI m257 201 (zIx (x223 + 4))) / 1000) = 1 then
                                                      if zIn (x223 + 1) 60 then
                                                        if (zI m257 201 (zIx (x223 + 1))) = 0 then
                                                          if zIn (x223 + 4) 60 then
                                                            zLet (wI m257 201 (zIx (x223 + 4)) 4003) fun m283 =>
                                                            j260 m283
                                                          else none
                                                        else
                                                          j260 m257
                                                      else none
                                                    else
                                                      j260 m257
                                                  else none
                                                else none) fun j256 =>
                                              if v253 = 0 then
                                                zBP (f_Law_drawStep (v8 >>> (17 &&& 31)) m252) fun v284 =>
                                                j256 v284
                                              else
                                                j256 0
                                            else none) fun j251 =>
                                          if v248 = 0 then
                                            j251 0
                                          else
                                            zBP (f_Law_drawStep (v8 >>> (12 &&& 31)) m247) fun v285 =>
                                            j251 v285
                                        else none) fun j246 =>
                                      if v243 = 0 then
                                        j246 (-1)
                                      else
                                        zBP (f_Law_drawStep (v9 >>> (9 &&& 31)) m242) fun v286 =>
                                        j246 v286
                                    else none) fun j240 =>
                                  if v237 = 0 then
                                    if zIn (x223 + 1) 60 then
                                      if zIn (x223 + 1) 60 then
                                        zLet (wI m236 201 (zIx (x223 + 1)) (-(zI m236 201 (zIx (x223 + 1))))) fun m287 =>
                                        j240 m287
                                      else none
                                    else none
                                  else
                                    j240 m236
                                else none) fun j235 =>
                              if v232 = 0 then
                                zBP (f_Law_low (v8 >>> (9 &&& 31)) 7 m231) fun v294 =>
                                j235 (130000 + v294)
                              else
                                if v232 = 1 then
                                  j235 140000
                                else
                                  zLet (if v232 = 3 then
                                    zBP (f_Law_drawDate (v8 >>> (9 &&& 31)) m231) fun v292 =>
                                    j235 (160000 + v292)
                                  else
                                    j235 0) fun j290 =>
                                  if v232 = 2 then
                                    if zIn 0 6 then
                                      if (zI m231 204 (zIx 0)) ≤ 0 then
                                        j290
                                      else
                                        j235 (150000 + x14)
                                    else none
                                  else
                                    j290
                            else none) fun j230 =>
                          if v227 = 0 then
                            zBP (f_Law_drawDate v8 m4) fun v302 =>
                            j230 (10000 + v302)
                          else
                            if v227 = 1 then
                              zBP (f_Law_low v8 5 m4) fun v299 =>
                              zBP (f_Law_low (v8 >>> (3 &&& 31)) 7 m4) fun v300 =>
                              zBP (f_Law_low (v8 >>> (6 &&& 31)) 12 m4) fun v301 =>
                              j230 ((((20000 + (1000 * (1 + v299))) + (100 * v300)) + 1) + v301)
                            else
                              if v227 = 2 then
                                zBP (f_Law_low (v8 >>> (3 &&& 31)) 7 m4) fun v297 =>
                                zBP (f_Law_low (v8 >>> (6 &&& 31)) 12 m4) fun v298 =>
                                j230 (((30000 + (100 * v297)) + 1) + v298)
                              else
                                j230 (40000 + x14)) fun j226 =>
                        if (zI m4 204 (zIx 0)) ≤ 0 then
                          j226 3
                        else
                          j226 5
                      else none
                    else none
                else none) fun j15 =>
            if (zI m4 204 (zIx 0)) = 0 then
              j15 0
            else
              if zIn 0 6 then
                zBP (f_Law_low (v7 >>> (5 &&& 31)) (zI m4 204 (zIx 0)) m4) fun v303 =>
                j15 v303
              else none
          else none) fun j12 =>
        if 2 ≤ x2 then
          zBP (f_Law_low v7 14 m4) fun v304 =>
          j12 v304
        else
          j12 0) 30 0 m1
  else none
