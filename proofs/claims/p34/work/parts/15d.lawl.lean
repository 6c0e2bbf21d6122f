/-! LOOPS: their bodies by name -/
def l_Law_great_0 (p1 : Int32) (m : Mm) : (Int32 → Int32 → Option (Int32)) → Int32 → Int32 → Option (Int32) :=
  fun r3 x1 x2 =>
  if p1 ≤ x2 then
    some x1
  else
    zBP (f_Law_days x2 m) fun v5 =>
    zLet (x1 + v5) fun x6 =>
    zLet (x2 + 1) fun x7 =>
    r3 x6 x7
theorem e_Law_great (p1 : Int32) (m : Mm) : f_Law_great p1 m =
  zLq2 (l_Law_great_0 p1 m) zFu 0 0 := by
  unfold f_Law_great l_Law_great_0
  rfl
def l_Law_day_0 (p2 : Int32) (p1 : Int32) (m : Mm) : (Int32 → Int32 → Option (Int32)) → Int32 → Int32 → Option (Int32) :=
  fun r4 x2 x3 =>
  if (p2 / 100) ≤ x3 then
    zBP (f_Law_month p1 (p2 / 100) m) fun v6 =>
    if (p2 % 100) ≤ v6 then
      some x2
    else
      some (-1)
  else
    zBP (f_Law_month p1 x3 m) fun v8 =>
    zLet (x2 + v8) fun x9 =>
    zLet (x3 + 1) fun x10 =>
    r4 x9 x10
theorem e_Law_day (p1 : Int32) (p2 : Int32) (m : Mm) : f_Law_day p1 p2 m =
  zLet ((p2 % 100) - 1) fun x1 =>
    zLq2 (l_Law_day_0 p2 p1 m) zFu x1 1 := by
  unfold f_Law_day l_Law_day_0
  rfl
def l_Law_date_0 (p1 : Int32) (m : Mm) : (Int32 → Int32 → Option (Int32)) → Int32 → Int32 → Option (Int32) :=
  fun r3 x1 x2 =>
  zBP (f_Law_month p1 x1 m) fun v4 =>
  if x2 < v4 then
    some (((100 * x1) + x2) + 1)
  else
    zBP (f_Law_month p1 x1 m) fun v6 =>
    zLet (x2 - v6) fun x7 =>
    zLet (x1 + 1) fun x8 =>
    r3 x8 x7
theorem e_Law_date (p1 : Int32) (p2 : Int32) (m : Mm) : f_Law_date p1 p2 m =
  zLq2 (l_Law_date_0 p1 m) zFu 1 p2 := by
  unfold f_Law_date l_Law_date_0
  rfl
def l_Law_age_0 (p1 : Int32) (p2 : Int32) (m : Mm) : (Int32 → Option (Int32)) → Int32 → Option (Int32) :=
  fun r2 x1 =>
  zBP (f_Law_isNew (p1 - x1) p2 m) fun v3 =>
  if v3 = 0 then
    zLet (x1 + 1) fun x5 =>
    r2 x5
  else
    some x1
theorem e_Law_age (p1 : Int32) (p2 : Int32) (m : Mm) : f_Law_age p1 p2 m =
  zLq1 (l_Law_age_0 p1 p2 m) zFu 0 := by
  unfold f_Law_age l_Law_age_0
  rfl
def l_Law_begin_0 (p1 : Int32) (x2 : Int32) (m : Mm) (x1 : Int32) : (Int32 → Int32 → Int32 → Option (Int32)) → Int32 → Int32 → Int32 → Option (Int32) :=
  fun r8 x5 x6 x7 =>
  zBP (f_Law_month p1 (x2 % 100) m) fun v9 =>
  if v9 < x7 then
    some x6
  else
    zBP (f_Law_day p1 (((x2 % 100) * 100) + x7) m) fun v11 =>
    zBP (f_Law_great p1 m) fun v12 =>
    zLet (fun (x14 x15 : Int32) =>
      zLet (x7 + 1) fun x17 =>
      r8 x14 x15 x17) fun j16 =>
    if (((v12 + v11) + 6) % 7) = ((x2 / 100) % 10) then
      zLet (x5 + 1) fun x18 =>
      zLet (j16 x18 v11) fun j20 =>
      if x1 = 3 then
        j20
      else
        if x18 = (x2 / 1000) then
          j20
        else
          j16 x18 x6
    else
      j16 x5 x6
theorem e_Law_begin (p1 : Int32) (p2 : Int32) (t3 : Nat) (m : Mm) : f_Law_begin p1 p2 t3 m =
  zLet (p2 / 10000) fun x1 =>
    zLet (p2 % 10000) fun x2 =>
    if x1 = 1 then
      zBP (f_Law_day p1 x2 m) fun v22 =>
      some v22
    else
      if x1 = 4 then
        if zIn x2 10 then
          some (zI m (207 + t3) (zIx x2))
        else none
      else
        zLq3 (l_Law_begin_0 p1 x2 m x1) zFu 0 (-1) 1 := by
  unfold f_Law_begin l_Law_begin_0
  rfl
def l_Law_walk_0 (p1 : Int32) (m : Mm) (x10 : Int32) (x1 : Int32) (p2 : Int32) (x2 : Int32) : (Int32 → Option (Int32)) → Int32 → Option (Int32) :=
  fun r16 x15 =>
  zLet (zBP (f_Law_great p1 m) fun v19 =>
  zBP (f_Law_in p1 (x15 - v19) m) fun v20 =>
  some v20) fun j18 =>
  zLet (zLet (x15 + x10) fun x22 =>
  r16 x22) fun j21 =>
  if 6 ≤ x1 then
    zBP (f_Law_age x15 p2 m) fun v23 =>
    zLet (fun (x25 : Int32) =>
      if v23 = x25 then
        j18
      else
        j21) fun j26 =>
    if x1 = 6 then
      j26 14
    else
      j26 0
  else
    if ((x15 + 13) % 7) = x2 then
      j18
    else
      j21
theorem e_Law_walk (p1 : Int32) (p2 : Int32) (p3 : Int32) (p4 : Int32) (m : Mm) : f_Law_walk p1 p2 p3 p4 m =
  zLet (p4 / 1000) fun x1 =>
    zLet (p4 % 1000) fun x2 =>
    if p3 < 0 then
      some (-1)
    else
      if x1 = 8 then
        some (-1)
      else
        if x1 = 0 then
          some p3
        else
          if x1 = 1 then
            zBP (f_Law_in p1 ((p3 + x2) - 400) m) fun v34 =>
            some v34
          else
            zBP (f_Law_great p1 m) fun v7 =>
            zLet (v7 + p3) fun x8 =>
            zLet (fun (x10 : Int32) =>
              zLet (fun (x13 : Int32) =>
                zLq1 (l_Law_walk_0 p1 m x10 x1 p2 x2) zFu x13) fun j14 =>
              zLet (zLet (x8 + x10) fun x30 =>
              j14 x30) fun j29 =>
              if x1 = 2 then
                j29
              else
                if x1 = 3 then
                  j29
                else
                  j14 x8) fun j11 =>
            zLet (j11 (-1)) fun j32 =>
            if x1 = 3 then
              j32
            else
              if x1 = 5 then
                j32
              else
                j11 1 := by
  unfold f_Law_walk l_Law_walk_0
  rfl
def l_Law_bents_0 (m3 : Mm) (x1 : Int32) (t6 : Nat) (t7 : Nat) (x16 : Int32) (r2 : Int32 → Mm → Option (Mm)) (p4 : Int32) : (Int32 → Int32 → Option (Mm)) → Int32 → Int32 → Option (Mm) :=
  fun r22 x20 x21 =>
  if zIn 1 6 then
    if (zI m3 204 (zIx 1)) ≤ x21 then
      if zIn x1 10 then
        zLet (wI m3 (207 + t6) (zIx x1) x20) fun m24 =>
        if zIn x1 10 then
          zLet (wI m24 (207 + t7) (zIx x1) x16) fun m25 =>
          zLet (x1 + 1) fun x26 =>
          r2 x26 m25
        else none
      else none
    else
      if zIn (3 * x21) 30 then
        zLet (fun (x28 : Int32) =>
          zLet (x21 + 1) fun x30 =>
          r22 x28 x30) fun j29 =>
        if (zI m3 203 (zIx (3 * x21))) = x1 then
          if zIn ((3 * x21) + 1) 30 then
            if (zI m3 203 (zIx ((3 * x21) + 1))) = p4 then
              if x20 < 0 then
                j29 x20
              else
                if zIn ((3 * x21) + 2) 30 then
                  zLet (fun (x34 : Int32) =>
                    j29 x34) fun j35 =>
                  if (zI m3 203 (zIx ((3 * x21) + 2))) = 99 then
                    j35 (-1)
                  else
                    if zIn ((3 * x21) + 2) 30 then
                      zBP (f_Law_in p4 (x20 + (zI m3 203 (zIx ((3 * x21) + 2)))) m3) fun v36 =>
                      j35 v36
                    else none
                else none
            else
              j29 x20
          else none
        else
          j29 x20
      else none
  else none
def l_Law_bents_1 (m3 : Mm) (x1 : Int32) (t6 : Nat) (t7 : Nat) (r2 : Int32 → Mm → Option (Mm)) (p4 : Int32) (p5 : Int32) (x13 : Int32) : (Int32 → Int32 → Int32 → Option (Mm)) → Int32 → Int32 → Int32 → Option (Mm) :=
  fun r18 x15 x16 x17 =>
  if 3 ≤ x17 then
    zLq2 (l_Law_bents_0 m3 x1 t6 t7 x16 r2 p4) zFu x15 0
  else
    zLet (fun (x38 : Int32) =>
      zBP (f_Law_walk p4 p5 x15 x38 m3) fun v40 =>
      zBP (f_Law_price x38 m3) fun v41 =>
      zLet (x16 + v41) fun x42 =>
      zLet (x17 + 1) fun x43 =>
      r18 v40 x42 x43) fun j39 =>
    if x17 = 0 then
      j39 x13
    else
      if zIn (((6 * x1) + 3) + x17) 60 then
        j39 (zI m3 201 (zIx (((6 * x1) + 3) + x17)))
      else none
def l_Law_bents_2 (p4 : Int32) (t6 : Nat) (t7 : Nat) (p5 : Int32) : (Int32 → Mm → Option (Mm)) → Int32 → Mm → Option (Mm) :=
  fun r2 x1 m3 =>
  if zIn 0 6 then
    if (zI m3 204 (zIx 0)) ≤ x1 then
      some m3
    else
      if zIn (6 * x1) 60 then
        zBP (f_Law_begin p4 (zI m3 201 (zIx (6 * x1))) t6 m3) fun v5 =>
        if zIn ((6 * x1) + 1) 60 then
          zLet (zI m3 201 (zIx ((6 * x1) + 1))) fun x6 =>
          if zIn (6 * x1) 60 then
            zLet (fun (x8 : Int32) =>
              if zIn ((6 * x1) + 2) 60 then
                zLet (zI m3 201 (zIx ((6 * x1) + 2))) fun x10 =>
                zLet (fun (x12 x13 : Int32) =>
                  zLq3 (l_Law_bents_1 m3 x1 t6 t7 r2 p4 p5 x13) zFu v5 x12 0) fun j14 =>
                if x6 = 0 then
                  j14 x8 x10
                else
                  zLet (fun (x45 : Int32) =>
                    zBP (f_Law_holds p4 v5 x45 t6 m3) fun v47 =>
                    zLet (fun (x49 : Int32) =>
                      zLet (fun (x52 : Int32) =>
                        zLet (fun (x55 : Int32) =>
                          zLet (fun (x58 : Int32) =>
                            zLet (fun (x61 : Int32) =>
                              zLet (fun (x64 : Int32) =>
                                zLet (x8 + (((1 + x55) + x61) + x64)) fun x66 =>
                                zLet (fun (x68 : Int32) =>
                                  j14 x66 x68) fun j69 =>
                                if x52 = 0 then
                                  if zIn ((6 * x1) + 3) 60 then
                                    if 0 ≤ (zI m3 201 (zIx ((6 * x1) + 3))) then
                                      if zIn ((6 * x1) + 3) 60 then
                                        j69 (zI m3 201 (zIx ((6 * x1) + 3)))
                                      else none
                                    else
                                      j69 0
                                  else none
                                else
                                  j69 x10) fun j65 =>
                              zLet (j65 0) fun j71 =>
                              if x52 = 0 then
                                j71
                              else
                                if zIn ((6 * x1) + 3) 60 then
                                  if (zI m3 201 (zIx ((6 * x1) + 3))) < 0 then
                                    j71
                                  else
                                    j65 1
                                else none) fun j62 =>
                            if (x58 / 10000) = 15 then
                              j62 2
                            else
                              j62 1) fun j59 =>
                          if 0 ≤ x6 then
                            j59 x6
                          else
                            j59 (-x6)) fun j56 =>
                        if 0 ≤ x6 then
                          j56 0
                        else
                          j56 1) fun j53 =>
                      if v47 = x49 then
                        j53 1
                      else
                        j53 0) fun j50 =>
                    if x6 ≤ 0 then
                      j50 0
                    else
                      j50 1) fun j46 =>
                  if 0 ≤ x6 then
                    j46 x6
                  else
                    j46 (-x6)
              else none) fun j9 =>
            if ((zI m3 201 (zIx (6 * x1))) / 10000) = 1 then
              j9 1
            else
              if zIn (6 * x1) 60 then
                if ((zI m3 201 (zIx (6 * x1))) / 10000) = 4 then
                  j9 2
                else
                  j9 3
              else none
          else none
        else none
      else none
  else none
theorem e_Law_bents (p4 : Int32) (p5 : Int32) (t6 : Nat) (t7 : Nat) (m : Mm) : f_Law_bents p4 p5 t6 t7 m =
  zLp1 (l_Law_bents_2 p4 t6 t7 p5) zFu 0 m := by
  unfold f_Law_bents l_Law_bents_2 l_Law_bents_1 l_Law_bents_0
  rfl
def l_Law_place_0 (m22 : Mm) (x20 : Int32) (r21 : Int32 → Mm → Option (Mm)) (x9 : Int32) (t5 : Nat) : (Int32 → Int32 → Option (Mm)) → Int32 → Int32 → Option (Mm) :=
  fun r29 x27 x28 =>
  if zIn 0 6 then
    if (zI m22 204 (zIx 0)) ≤ x28 then
      zLet (fun (m32 : Mm) =>
        zLet (x20 + 1) fun x34 =>
        r21 x34 m32) fun j33 =>
      if x27 = 0 then
        j33 m22
      else
        if zIn x9 10 then
          zLet (wI m22 (207 + t5) (zIx x9) x20) fun m35 =>
          j33 m35
        else none
    else
      zLet (fun (x37 : Int32) =>
        zLet (x28 + 1) fun x39 =>
        r29 x37 x39) fun j38 =>
      zLet (j38 0) fun j40 =>
      if x27 = 0 then
        j40
      else
        if zIn x28 10 then
          if (zI m22 (207 + t5) (zIx x28)) = x20 then
            j40
          else
            j38 1
        else none
  else none
def l_Law_place_1 (x9 : Int32) (t4 : Nat) (j16 : Mm → Option (Mm)) (p3 : Int32) (t5 : Nat) : (Int32 → Mm → Option (Mm)) → Int32 → Mm → Option (Mm) :=
  fun r21 x20 m22 =>
  if zIn x9 10 then
    if zIn x9 10 then
      if ((zI m22 (207 + t4) (zIx x9)) + (20 * ((zI m22 202 (zIx x9)) % 2))) < x20 then
        j16 m22
      else
        zBP (f_Law_days p3 m22) fun v24 =>
        if v24 ≤ x20 then
          j16 m22
        else
          if zIn x9 10 then
            if 0 ≤ (zI m22 (207 + t5) (zIx x9)) then
              j16 m22
            else
              zLq2 (l_Law_place_0 m22 x20 r21 x9 t5) zFu 1 0
          else none
    else none
  else none
def l_Law_place_2 (x5 : Int32) (r6 : Int32 → Mm → Option (Mm)) (t4 : Nat) (p3 : Int32) (t5 : Nat) : (Int32 → Mm → Option (Mm)) → Int32 → Mm → Option (Mm) :=
  fun r10 x9 m11 =>
  if zIn 0 6 then
    if (zI m11 204 (zIx 0)) ≤ x9 then
      zLet (x5 + (-1)) fun x13 =>
      r6 x13 m11
    else
      if zIn x9 10 then
        zLet (fun (m15 : Mm) =>
          zLet (x9 + 1) fun x17 =>
          r10 x17 m15) fun j16 =>
        if ((zI m11 202 (zIx x9)) / 2) = x5 then
          if zIn x9 10 then
            if 0 ≤ (zI m11 (207 + t4) (zIx x9)) then
              if zIn x9 10 then
                zLet (zI m11 (207 + t4) (zIx x9)) fun x19 =>
                zLp1 (l_Law_place_1 x9 t4 j16 p3 t5) zFu x19 m11
              else none
            else
              j16 m11
          else none
        else
          j16 m11
      else none
  else none
def l_Law_place_3 (t4 : Nat) (p3 : Int32) (t5 : Nat) : (Int32 → Mm → Option (Mm)) → Int32 → Mm → Option (Mm) :=
  fun r6 x5 m7 =>
  if x5 < 0 then
    some m7
  else
    zLp1 (l_Law_place_2 x5 r6 t4 p3 t5) zFu 0 m7
def l_Law_place_4 (t4 : Nat) (p3 : Int32) (t5 : Nat) : (Int32 → Mm → Option (Mm)) → Int32 → Mm → Option (Mm) :=
  fun r2 x1 m3 =>
  if zIn 0 6 then
    if (zI m3 204 (zIx 0)) ≤ x1 then
      zLp1 (l_Law_place_3 t4 p3 t5) zFu 9 m3
    else
      if zIn x1 10 then
        zLet (wI m3 (207 + t5) (zIx x1) (-1)) fun m42 =>
        zLet (x1 + 1) fun x43 =>
        r2 x43 m42
      else none
  else none
theorem e_Law_place (p3 : Int32) (t4 : Nat) (t5 : Nat) (m : Mm) : f_Law_place p3 t4 t5 m =
  zLp1 (l_Law_place_4 t4 p3 t5) zFu 0 m := by
  unfold f_Law_place l_Law_place_4 l_Law_place_3 l_Law_place_2 l_Law_place_1 l_Law_place_0
  rfl
def l_Law_clashes_0 (x2 : Int32) (r3 : Int32 → Int32 → Option (Int32)) (m : Mm) (t2 : Nat) : (Int32 → Int32 → Option (Int32)) → Int32 → Int32 → Option (Int32) :=
  fun r7 x5 x6 =>
  if x2 ≤ x6 then
    zLet (x2 + 1) fun x9 =>
    r3 x5 x9
  else
    if zIn x2 10 then
      zLet (fun (x11 : Int32) =>
        zLet (x5 + x11) fun x13 =>
        zLet (x6 + 1) fun x14 =>
        r7 x13 x14) fun j12 =>
      zLet (j12 0) fun j15 =>
      if (zI m (207 + t2) (zIx x2)) < 0 then
        j15
      else
        if zIn x2 10 then
          if zIn x6 10 then
            if (zI m (207 + t2) (zIx x2)) = (zI m (207 + t2) (zIx x6)) then
              j12 1
            else
              j15
          else none
        else none
    else none
def l_Law_clashes_1 (m : Mm) (t2 : Nat) : (Int32 → Int32 → Option (Int32)) → Int32 → Int32 → Option (Int32) :=
  fun r3 x1 x2 =>
  if zIn 0 6 then
    if (zI m 204 (zIx 0)) ≤ x2 then
      some x1
    else
      zLq2 (l_Law_clashes_0 x2 r3 m t2) zFu x1 0
  else none
theorem e_Law_clashes (t2 : Nat) (m : Mm) : f_Law_clashes t2 m =
  zLq2 (l_Law_clashes_1 m t2) zFu 0 0 := by
  unfold f_Law_clashes l_Law_clashes_1 l_Law_clashes_0
  rfl
def l_Law_digits_0 (p2 : Int32) : (Int32 → Mm → Option (Mm)) → Int32 → Mm → Option (Mm) :=
  fun r5 x4 m6 =>
  if x4 ≤ 0 then
    some m6
  else
    if ¬ x4 = 0 then
      zBI (n_Loo_type (((48 + ((p2 / x4) % 10)).toUInt32 % 65536).toInt32) m6) fun v9 m8 =>
      zLet (x4 / 10) fun x10 =>
      r5 x10 m8
    else none
theorem e_Law_digits (p2 : Int32) (p3 : Int32) (m : Mm) : f_Law_digits p2 p3 m =
  zLet (fun (x2 : Int32) =>
      zLp1 (l_Law_digits_0 p2) zFu x2 m) fun j3 =>
    if p3 = 4 then
      j3 1000
    else
      if p3 = 3 then
        j3 100
      else
        if p3 = 2 then
          j3 10
        else
          j3 1 := by
  unfold f_Law_digits l_Law_digits_0
  rfl
def l_Law_year_0 (p7 : Int32) (x28 : Int32) : (Int32 → Mm → Option ((Int32 × Mm))) → Int32 → Mm → Option ((Int32 × Mm)) :=
  fun r36 x35 m37 =>
  if zIn 3 6 then
    if (zI m37 204 (zIx 3)) ≤ x35 then
      zBI (n_Loo_silent p7 m37) fun v40 m39 =>
      zLet (fun (m42 : Mm) =>
        some (0, m42)) fun j43 =>
      if v40 = x28 then
        zBI (n_Loo_begin p7 m39) fun v45 m44 =>
        zBP (f_Law_great p7 m44) fun v46 =>
        if v45 = v46 then
          zBP (f_Law_great p7 m44) fun v48 =>
          if zIn 2 6 then
            zBI (n_Loo_age v48 (zI m44 204 (zIx 2)) m44) fun v50 m49 =>
            zBP (f_Law_great p7 m49) fun v51 =>
            if zIn 2 6 then
              zBP (f_Law_age v51 (zI m49 204 (zIx 2)) m49) fun v52 =>
              if v50 = v52 then
                zBI (n_Loo_date p7 364 m49) fun v55 m54 =>
                zBP (f_Law_date p7 364 m54) fun v56 =>
                if v55 = v56 then
                  zBI (n_Loo_date p7 365 m54) fun v59 m58 =>
                  zBP (f_Law_leap p7 m58) fun v60 =>
                  zLet (fun (x62 : Int32) =>
                    if v59 = x62 then
                      some (1, m58)
                    else
                      j43 m58) fun j63 =>
                  if v60 = 0 then
                    j63 (-1)
                  else
                    j63 1231
                else
                  j43 m54
              else
                j43 m49
            else none
          else none
        else
          j43 m44
      else
        j43 m39
    else
      zBI (n_Loo_peals x35 p7 m37) fun v66 m65 =>
      if zIn x35 10 then
        if v66 = (zI m65 (207 + 4) (zIx x35)) then
          zLet (x35 + 1) fun x68 =>
          r36 x68 m65
        else
          some (0, m65)
      else none
  else none
def l_Law_year_1 (x91 : Int32) (x93 : Int32) (r94 : Int32 → Int32 → Int32 → Mm → Option ((Int32 × Mm))) (x30 : Int32) (x83 : Int32) (x99 : Int32) (x92 : Int32) (m95 : Mm) (x71 : Int32) (p7 : Int32) (x87 : Int32) : (Int32 → Int32 → Option ((Int32 × Mm))) → Int32 → Int32 → Option ((Int32 × Mm)) :=
  fun r103 x101 x102 =>
  if zIn 3 6 then
    zLet (zLet (fun (x107 : Int32) (m108 : Mm) =>
      zLet (fun (x111 : Int32) =>
        zLet (x91 + x111) fun x113 =>
        zLet (fun (m115 : Mm) =>
          zLet (x93 + 1) fun x117 =>
          r94 x113 x107 x117 m115) fun j116 =>
        if 0 ≤ x101 then
          if zIn x101 10 then
            if zIn x101 10 then
              zLet (wI m108 (207 + 4) (zIx x101) ((zI m108 (207 + 4) (zIx x101)) + 1)) fun m118 =>
              if zIn x101 10 then
                zLet (wI m118 (207 + 5) (zIx x101) (x30 + x83)) fun m119 =>
                j116 m119
              else none
            else none
          else none
        else
          j116 m108) fun j112 =>
      zLet (j112 0) fun j120 =>
      if x99 = 0 then
        j120
      else
        if 0 ≤ x101 then
          j120
        else
          j112 1) fun j109 =>
    if 12 ≤ x92 then
      j109 x92 m95
    else
      zLet (zBI (n_Loo_rings x71 p7 x87 x93 m95) fun v125 m124 =>
      if v125 = x101 then
        zLet (x92 + 1) fun x127 =>
        j109 x127 m124
      else
        some (0, m124)) fun j123 =>
      if x99 = 0 then
        if x93 = 5 then
          if x87 = (x71 % 6) then
            j123
          else
            j109 x92 m95
        else
          j109 x92 m95
      else
        j123) fun j105 =>
    if (zI m95 204 (zIx 3)) ≤ x102 then
      j105
    else
      if x99 = 0 then
        j105
      else
        if zIn (6 + (2 * x102)) 26 then
          zLet (fun (x132 : Int32) =>
            zLet (x102 + 1) fun x134 =>
            r103 x132 x134) fun j133 =>
          if (zI m95 206 (zIx (6 + (2 * x102)))) = x87 then
            if zIn x102 10 then
              zLet (zLet (j133 x102) fun j138 =>
              if x101 < 0 then
                j138
              else
                if zIn x102 10 then
                  if zIn x101 10 then
                    if (zI m95 (207 + 4) (zIx x101)) ≤ (zI m95 (207 + 4) (zIx x102)) then
                      j133 x101
                    else
                      j138
                  else none
                else none) fun j136 =>
              if (zI m95 (207 + 4) (zIx x102)) ≤ 0 then
                j136
              else
                if zIn x102 10 then
                  if zIn (7 + (2 * x102)) 26 then
                    if (zI m95 206 (zIx (7 + (2 * x102)))) < (x30 - (zI m95 (207 + 5) (zIx x102))) then
                      j136
                    else
                      j133 x101
                  else none
                else none
            else none
          else
            j133 x101
        else none
  else none
def l_Law_year_2 (x87 : Int32) (r88 : Int32 → Int32 → Int32 → Mm → Option ((Int32 × Mm))) (x30 : Int32) (x83 : Int32) (x71 : Int32) (p7 : Int32) : (Int32 → Int32 → Int32 → Mm → Option ((Int32 × Mm))) → Int32 → Int32 → Int32 → Mm → Option ((Int32 × Mm)) :=
  fun r94 x91 x92 x93 m95 =>
  if 6 ≤ x93 then
    zLet (x87 + 1) fun x97 =>
    r88 x91 x92 x97 m95
  else
    if zIn x87 26 then
      zLet (fun (x99 : Int32) =>
        zLq2 (l_Law_year_1 x91 x93 r94 x30 x83 x99 x92 m95 x71 p7 x87) zFu (-1) 0) fun j100 =>
      zLet (j100 0) fun j141 =>
      if (zI m95 206 (zIx x87)) ≤ x93 then
        j141
      else
        if zIn x71 10 then
          if ((zI m95 202 (zIx x71)) / 2) ≤ x93 then
            j141
          else
            j100 1
        else none
    else none
def l_Law_year_3 (j80 : Int32 → Int32 → Mm → Option ((Int32 × Mm))) (x30 : Int32) (x83 : Int32) (x71 : Int32) (p7 : Int32) : (Int32 → Int32 → Int32 → Mm → Option ((Int32 × Mm))) → Int32 → Int32 → Int32 → Mm → Option ((Int32 × Mm)) :=
  fun r88 x85 x86 x87 m89 =>
  if 6 ≤ x87 then
    j80 x85 x86 m89
  else
    zLp3 (l_Law_year_2 x87 r88 x30 x83 x71 p7) zFu x85 x86 0 m89
def l_Law_year_4 (x30 : Int32) (r31 : Int32 → Int32 → Int32 → Mm → Option ((Int32 × Mm))) (p7 : Int32) : (Int32 → Int32 → Int32 → Mm → Option ((Int32 × Mm))) → Int32 → Int32 → Int32 → Mm → Option ((Int32 × Mm)) :=
  fun r72 x69 x70 x71 m73 =>
  if zIn 0 6 then
    if (zI m73 204 (zIx 0)) ≤ x71 then
      zLet (x30 + 1) fun x75 =>
      r31 x69 x70 x75 m73
    else
      if zIn x71 10 then
        zLet (fun (x77 x78 : Int32) (m79 : Mm) =>
          zLet (x71 + 1) fun x81 =>
          r72 x77 x78 x81 m79) fun j80 =>
        if (zI m73 (207 + 3) (zIx x71)) = x30 then
          if zIn x71 10 then
            zLet (fun (x83 : Int32) =>
              zLp3 (l_Law_year_3 j80 x30 x83 x71 p7) zFu x69 x70 0 m73) fun j84 =>
            zLet (j84 0) fun j143 =>
            if (zI m73 (207 + 0) (zIx x71)) < 0 then
              j143
            else
              if zIn x71 10 then
                if zIn x71 10 then
                  if zIn x71 10 then
                    if zIn x71 10 then
                      if (((zI m73 (207 + 0) (zIx x71)) - (zI m73 (207 + 1) (zIx x71))) * ((zI m73 (207 + 0) (zIx x71)) - (zI m73 (207 + 1) (zIx x71)))) = 1 then
                        j84 1
                      else
                        j143
                    else none
                  else none
                else none
              else none
          else none
        else
          j80 x69 x70 m73
      else none
  else none
def l_Law_year_5 (p7 : Int32) : (Int32 → Int32 → Int32 → Mm → Option ((Int32 × Mm))) → Int32 → Int32 → Int32 → Mm → Option ((Int32 × Mm)) :=
  fun r31 x28 x29 x30 m32 =>
  zBP (f_Law_days p7 m32) fun v33 =>
  if v33 ≤ x30 then
    zLp1 (l_Law_year_0 p7 x28) zFu 0 m32
  else
    zLp3 (l_Law_year_4 x30 r31 p7) zFu x28 x29 0 m32
def l_Law_year_6 (p7 : Int32) : (Int32 → Int32 → Mm → Option ((Int32 × Mm))) → Int32 → Int32 → Mm → Option ((Int32 × Mm)) :=
  fun r14 x12 x13 m15 =>
  if zIn 0 6 then
    if (zI m15 204 (zIx 0)) ≤ x13 then
      zBI (n_Loo_yearCost p7 m15) fun v18 m17 =>
      if v18 = x12 then
        zBI (n_Loo_clashes p7 m17) fun v21 m20 =>
        zBP (f_Law_clashes 1 m20) fun v22 =>
        if v21 = v22 then
          zLet (zNt m20 (207 + 4)) fun m24 =>
          zLet (zNt m24 (207 + 5)) fun m26 =>
          zLp3 (l_Law_year_5 p7) zFu 0 0 0 m26
        else
          some (0, m20)
      else
        some (0, m17)
    else
      if zIn x13 10 then
        if zIn x13 10 then
          zLet ((zI m15 (207 + 0) (zIx x13)) - (zI m15 (207 + 1) (zIx x13))) fun x145 =>
          zBI (n_Loo_bent x13 p7 m15) fun v147 m146 =>
          if zIn x13 10 then
            if v147 = (zI m146 (207 + 1) (zIx x13)) then
              zBI (n_Loo_day x13 p7 m146) fun v150 m149 =>
              if zIn x13 10 then
                if v150 = (zI m149 (207 + 3) (zIx x13)) then
                  zBI (n_Loo_dayByDays x13 p7 m149) fun v153 m152 =>
                  if zIn x13 10 then
                    if v153 = (zI m152 (207 + 3) (zIx x13)) then
                      zBI (n_Loo_cost x13 p7 m152) fun v156 m155 =>
                      if zIn x13 10 then
                        if v156 = (zI m155 (207 + 2) (zIx x13)) then
                          zBI (n_Loo_isMidnight x13 p7 m155) fun v159 m158 =>
                          if zIn x13 10 then
                            zLet (fun (x161 : Int32) =>
                              if v159 = x161 then
                                if zIn x13 10 then
                                  zLet (x12 + (zI m158 (207 + 2) (zIx x13))) fun x164 =>
                                  zLet (x13 + 1) fun x165 =>
                                  r14 x164 x165 m158
                                else none
                              else
                                some (0, m158)) fun j162 =>
                            zLet (j162 0) fun j166 =>
                            if (zI m158 (207 + 0) (zIx x13)) < 0 then
                              j166
                            else
                              if zIn x13 10 then
                                if (zI m158 (207 + 1) (zIx x13)) < 0 then
                                  j166
                                else
                                  if (x145 * x145) = 1 then
                                    j162 1
                                  else
                                    j166
                              else none
                          else none
                        else
                          some (0, m155)
                      else none
                    else
                      some (0, m152)
                  else none
                else
                  some (0, m149)
              else none
            else
              some (0, m146)
          else none
        else none
      else none
  else none
theorem e_Law_year (p7 : Int32) (m : Mm) : f_Law_year p7 m =
  zLet (zNt m (207 + 0)) fun m1 =>
    zLet (zNt m1 (207 + 1)) fun m3 =>
    zLet (zNt m3 (207 + 2)) fun m5 =>
    zLet (zNt m5 (207 + 3)) fun m7 =>
    if zIn 2 6 then
      zBV (f_Law_bents p7 (1 - (zI m7 204 (zIx 2))) 0 2 m7) fun m9 =>
      if zIn 2 6 then
        zBV (f_Law_bents p7 (zI m9 204 (zIx 2)) 1 2 m9) fun m10 =>
        zBV (f_Law_place p7 1 3 m10) fun m11 =>
        zLp2 (l_Law_year_6 p7) zFu 1 0 m11
      else none
    else none := by
  unfold f_Law_year l_Law_year_6 l_Law_year_5 l_Law_year_4 l_Law_year_3 l_Law_year_2 l_Law_year_1 l_Law_year_0
  rfl
def l_Law_law_0 (j23 : Int32 → Mm → Option ((Int32 × Mm))) (v16 : Int32) (v167 : Int32) : (Int32 → Mm → Option ((Int32 × Mm))) → Int32 → Mm → Option ((Int32 × Mm)) :=
  fun r174 x173 m175 =>
  if 3 ≤ x173 then
    j23 v16 m175
  else
    if zIn 1 6 then
      if zIn ((3 * (zI m175 204 (zIx 1))) + x173) 30 then
        if zIn ((3 * v167) + x173) 30 then
          zLet (wI m175 203 (zIx ((3 * v167) + x173)) (zI m175 203 (zIx ((3 * (zI m175 204 (zIx 1))) + x173)))) fun m177 =>
          zLet (x173 + 1) fun x178 =>
          r174 x178 m177
        else none
      else none
    else none
def l_Law_law_1 (m56 : Mm) (x36 : Int32) (j43 : Int32 → Mm → Option ((Int32 × Mm))) (r37 : Int32 → Mm → Option ((Int32 × Mm))) : (Int32 → Int32 → Option ((Int32 × Mm))) → Int32 → Int32 → Option ((Int32 × Mm)) :=
  fun r59 x57 x58 =>
  if zIn 0 6 then
    if (zI m56 204 (zIx 0)) ≤ x58 then
      if x57 ≤ x36 then
        zLet (x36 - x57) fun x62 =>
        if zIn 5 6 then
          if zIn 5 6 then
            zLet (wI m56 204 (zIx 5) ((zI m56 204 (zIx 5)) + x57)) fun m63 =>
            if zIn 4 6 then
              zBV (f_Law_place (zI m63 204 (zIx 4)) 0 2 m63) fun m64 =>
              if zIn 4 6 then
                zBP (f_Law_asked 1 (zI m64 204 (zIx 4)) 0 2 m64) fun v65 =>
                if zIn 0 9 then
                  zLet (fun (x67 : Int32) =>
                    if zIn 4 6 then
                      if zIn 4 6 then
                        zLet (wI m64 204 (zIx 4) ((zI m64 204 (zIx 4)) + 1)) fun m69 =>
                        if zIn 0 9 then
                          zLet (if zIn 4 6 then
                            zLet ((zI m69 204 (zIx 4)) - 1) fun x72 =>
                            j43 x72 m69
                          else none) fun j71 =>
                          if (zI m69 205 (zIx 0)) = 1 then
                            if v65 = 0 then
                              r37 x62 m69
                            else
                              if x67 = 0 then
                                r37 x62 m69
                              else
                                j71
                          else
                            if v65 = 0 then
                              if x67 = 0 then
                                r37 x62 m69
                              else
                                j71
                            else
                              j71
                        else none
                      else none
                    else none) fun j68 =>
                  zLet (j68 0) fun j77 =>
                  if (zI m64 205 (zIx 0)) ≤ 0 then
                    j77
                  else
                    if zIn 4 6 then
                      zBP (f_Law_asked 5 (zI m64 204 (zIx 4)) 0 2 m64) fun v78 =>
                      if v78 = 0 then
                        j77
                      else
                        j68 1
                    else none
                else none
              else none
            else none
          else none
        else none
      else
        j43 (-2) m56
    else
      if zIn x58 10 then
        zLet (x57 + (zI m56 (207 + 1) (zIx x58))) fun x80 =>
        zLet (x58 + 1) fun x81 =>
        r59 x80 x81
      else none
  else none
def l_Law_law_2 (x35 : Int32) (j23 : Int32 → Mm → Option ((Int32 × Mm))) (v16 : Int32) : (Int32 → Mm → Option ((Int32 × Mm))) → Int32 → Mm → Option ((Int32 × Mm)) :=
  fun r37 x36 m38 =>
  zLet (fun (x41 : Int32) (m42 : Mm) =>
    zBI (n_Loo_goOn x35 m42) fun v45 m44 =>
    if v45 = x41 then
      zBP (f_Loo_spent m44) fun v47 =>
      if zIn 5 6 then
        if (lg_cmp v47 ((zI m44 204 (zIx 5)).toInt64)) = 0 then
          j23 v16 m44
        else
          some (0, m44)
      else none
    else
      some (0, m44)) fun j43 =>
  if (-2) = (-2) then
    if zIn 4 6 then
      if (zI m38 204 (zIx 4)) = 400 then
        j43 (-1) m38
      else
        zLet (zNt m38 (207 + 0)) fun m50 =>
        zLet (zNt m50 (207 + 1)) fun m52 =>
        zLet (zNt m52 (207 + 2)) fun m54 =>
        if zIn 4 6 then
          if zIn 2 6 then
            zBV (f_Law_bents (zI m54 204 (zIx 4)) (zI m54 204 (zIx 2)) 0 1 m54) fun m56 =>
            zLq2 (l_Law_law_1 m56 x36 j43 r37) zFu 1 0
          else none
        else none
    else none
  else
    j43 (-2) m38
def l_Law_law_3 (m104 : Mm) (j23 : Int32 → Mm → Option ((Int32 × Mm))) (v16 : Int32) : (Int32 → Int32 → Option ((Int32 × Mm))) → Int32 → Int32 → Option ((Int32 × Mm)) :=
  fun r107 x105 x106 =>
  if zIn 0 6 then
    if (zI m104 204 (zIx 0)) ≤ x106 then
      zBI (f_Loo_questionFault m104) fun v110 m109 =>
      if v110 = (-1) then
        if zIn 4 6 then
          zBI (n_Loo_search (zI m109 204 (zIx 4)) m109) fun v113 m112 =>
          if v113 = x105 then
            j23 v16 m112
          else
            some (0, m112)
        else none
      else
        some (0, m109)
    else
      if zIn x106 10 then
        zLet (x105 + (zI m104 (207 + 1) (zIx x106))) fun x115 =>
        zLet (x106 + 1) fun x116 =>
        r107 x115 x116
      else none
  else none
def l_Law_law_4 (v7 : Int32) (j23 : Int32 → Mm → Option ((Int32 × Mm))) (v16 : Int32) (v8 : Int32) (v9 : Int32) : (Int32 → Mm → Option ((Int32 × Mm))) → Int32 → Mm → Option ((Int32 × Mm)) :=
  fun r88 x87 m89 =>
  if 2 ≤ x87 then
    if zIn 0 9 then
      zLet (fun (m92 : Mm) =>
        zBV (f_Law_ask 1 m92) fun m94 =>
        if zIn 0 9 then
          zLet (fun (m96 : Mm) =>
            zBP (f_Law_low (v7 >>> (9 &&& 31)) 390 m96) fun v98 =>
            if zIn 4 6 then
              zLet (wI m96 204 (zIx 4) v98) fun m99 =>
              zLet (zNt m99 (207 + 0)) fun m100 =>
              zLet (zNt m100 (207 + 1)) fun m102 =>
              if zIn 4 6 then
                if zIn 2 6 then
                  zBV (f_Law_bents (zI m102 204 (zIx 4)) (zI m102 204 (zIx 2)) 0 1 m102) fun m104 =>
                  zLq2 (l_Law_law_3 m104 j23 v16) zFu 1 0
                else none
              else none
            else none) fun j97 =>
          if (zI m94 205 (zIx 0)) ≤ 0 then
            j97 m94
          else
            if zIn 0 9 then
              zLet (fun (x118 : Int32) =>
                zBI (n_Loo_type x118 m94) fun v121 m120 =>
                zBV (f_Law_ask 5 m120) fun m122 =>
                zBI (n_Loo_type 41 m122) fun v124 m123 =>
                j97 m123) fun j119 =>
              if (zI m94 205 (zIx 0)) = 1 then
                j119 38
              else
                j119 124
            else none
        else none) fun j93 =>
      if (zI m89 205 (zIx 0)) ≤ 0 then
        j93 m89
      else
        zBI (n_Loo_type 40 m89) fun v126 m125 =>
        j93 m125
    else none
  else
    zLet (fun (x128 : Int32) =>
      zBP (f_Law_low x128 2 m89) fun v130 =>
      if zIn (1 + (4 * x87)) 9 then
        zLet (wI m89 205 (zIx (1 + (4 * x87))) v130) fun m131 =>
        zBP (f_Law_low (x128 >>> (1 &&& 31)) 5 m131) fun v132 =>
        if zIn (2 + (4 * x87)) 9 then
          zLet (wI m131 205 (zIx (2 + (4 * x87))) (1 + v132)) fun m133 =>
          if zIn 0 6 then
            zBP (f_Law_low (x128 >>> (4 &&& 31)) (zI m133 204 (zIx 0)) m133) fun v134 =>
            if zIn (3 + (4 * x87)) 9 then
              zLet (wI m133 205 (zIx (3 + (4 * x87))) v134) fun m135 =>
              if zIn (2 + (4 * x87)) 9 then
                zLet (fun (x137 : Int32) =>
                  if zIn (4 + (4 * x87)) 9 then
                    zLet (wI m135 205 (zIx (4 + (4 * x87))) x137) fun m139 =>
                    zLet (x87 + 1) fun x140 =>
                    r88 x140 m139
                  else none) fun j138 =>
                if (zI m135 205 (zIx (2 + (4 * x87)))) = 2 then
                  zBP (f_Law_drawDate (x128 >>> (7 &&& 31)) m135) fun v144 =>
                  j138 v144
                else
                  if zIn (2 + (4 * x87)) 9 then
                    if (zI m135 205 (zIx (2 + (4 * x87)))) = 3 then
                      zBP (f_Law_low (x128 >>> (7 &&& 31)) 7 m135) fun v143 =>
                      j138 v143
                    else
                      if zIn 0 6 then
                        zBP (f_Law_low (x128 >>> (7 &&& 31)) (zI m135 204 (zIx 0)) m135) fun v142 =>
                        j138 v142
                      else none
                  else none
              else none
            else none
          else none
        else none
      else none) fun j129 =>
    if x87 = 0 then
      j129 (v8 >>> (3 &&& 31))
    else
      j129 (v9 >>> (5 &&& 31))
def l_Law_law_5 (m4 : Mm) (j19 : Mm → Option ((Int32 × Mm))) (x14 : Int32) (x188 : Int32) (x184 : Int32) (j23 : Int32 → Mm → Option ((Int32 × Mm))) : (Int32 → Int32 → Option ((Int32 × Mm))) → Int32 → Int32 → Option ((Int32 × Mm)) :=
  fun r192 x190 x191 =>
  if zIn 1 6 then
    if (zI m4 204 (zIx 1)) ≤ x191 then
      if x190 ≤ 0 then
        if zIn 1 6 then
          if (zI m4 204 (zIx 1)) = 10 then
            j19 m4
          else
            if zIn 1 6 then
              if zIn (3 * (zI m4 204 (zIx 1))) 30 then
                zLet (wI m4 203 (zIx (3 * (zI m4 204 (zIx 1)))) x14) fun m196 =>
                if zIn 1 6 then
                  if zIn ((3 * (zI m196 204 (zIx 1))) + 1) 30 then
                    zLet (wI m196 203 (zIx ((3 * (zI m196 204 (zIx 1))) + 1)) x188) fun m197 =>
                    if zIn 1 6 then
                      if zIn ((3 * (zI m197 204 (zIx 1))) + 2) 30 then
                        zLet (wI m197 203 (zIx ((3 * (zI m197 204 (zIx 1))) + 2)) x184) fun m198 =>
                        if zIn 1 6 then
                          if zIn 1 6 then
                            zLet (wI m198 204 (zIx 1) ((zI m198 204 (zIx 1)) + 1)) fun m199 =>
                            zBI (n_Loo_dispense x14 x188 x184 m199) fun v201 m200 =>
                            if zIn 1 6 then
                              if v201 = (zI m200 204 (zIx 1)) then
                                j23 x188 m200
                              else
                                some (0, m200)
                            else none
                          else none
                        else none
                      else none
                    else none
                  else none
                else none
              else none
            else none
        else none
      else
        zBI (f_Law_refused 0 x14 x188 x184 m4) fun v204 m203 =>
        if v204 = 3 then
          j19 m203
        else
          some (0, m203)
    else
      if zIn (3 * x191) 30 then
        zLet (fun (x207 : Int32) =>
          zLet (x191 + 1) fun x209 =>
          r192 x207 x209) fun j208 =>
        if (zI m4 203 (zIx (3 * x191))) = x14 then
          if zIn ((3 * x191) + 1) 30 then
            if 10 ≤ ((zI m4 203 (zIx ((3 * x191) + 1))) - x188) then
              j208 x190
            else
              if zIn ((3 * x191) + 1) 30 then
                if 10 ≤ (x188 - (zI m4 203 (zIx ((3 * x191) + 1)))) then
                  j208 x190
                else
                  j208 3
              else none
          else none
        else
          j208 x190
      else none
  else none
def l_Law_law_6 (ω : Wd) : (Int32 → Mm → Option ((Int32 × Mm))) → Int32 → Mm → Option ((Int32 × Mm)) :=
  fun r3 x2 m4 =>
  if 28 ≤ x2 then
    some (1, m4)
  else
    zBP (f_Law_cell ω (3 * x2) m4) fun v7 =>
    zBP (f_Law_cell ω ((3 * x2) + 1) m4) fun v8 =>
    zBP (f_Law_cell ω ((3 * x2) + 2) m4) fun v9 =>
    zLet (fun (x11 : Int32) =>
      if zIn 0 6 then
        zLet (fun (x14 : Int32) =>
          zBP (f_Law_low (v9 >>> (3 &&& 31)) 400 m4) fun v16 =>
          zLet (fun (m18 : Mm) =>
            zLet (x2 + 1) fun x20 =>
            r3 x20 m18) fun j19 =>
          zLet (fun (x21 : Int32) (m22 : Mm) =>
            zBI (f_Law_year x21 m22) fun v25 m24 =>
            if v25 = 0 then
              some (0, m24)
            else
              j19 m24) fun j23 =>
          if 5 ≤ x11 then
            if x11 = 5 then
              if zIn x14 10 then
                zLet ((zI m4 202 (zIx x14)) / 2) fun x213 =>
                zBP (f_Law_low v8 20 m4) fun v214 =>
                if zIn x14 10 then
                  zLet (wI m4 202 (zIx x14) v214) fun m215 =>
                  if zIn x14 10 then
                    if zIn x14 10 then
                      zLet (fun (x217 : Int32) =>
                        zBI (n_Loo_rank x14 ((zI m215 202 (zIx x14)) / 2) x217 m215) fun v220 m219 =>
                        if v220 = x213 then
                          j23 v16 m219
                        else
                          some (0, m219)) fun j218 =>
                      if ((zI m215 202 (zIx x14)) % 2) = 1 then
                        j218 1
                      else
                        j218 0
                    else none
                  else none
                else none
              else none
            else
              if 8 ≤ x11 then
                if x11 = 8 then
                  if zIn 1 6 then
                    if (zI m4 204 (zIx 1)) = 0 then
                      zBI (f_Law_refused 1 x14 v16 0 m4) fun v180 m179 =>
                      if v180 = 3 then
                        j19 m179
                      else
                        some (0, m179)
                    else
                      if zIn 1 6 then
                        zBP (f_Law_low v8 (zI m4 204 (zIx 1)) m4) fun v167 =>
                        if zIn ((3 * v167) + 2) 30 then
                          zLet (zI m4 203 (zIx ((3 * v167) + 2))) fun x168 =>
                          if zIn (3 * v167) 30 then
                            if zIn ((3 * v167) + 1) 30 then
                              zBI (n_Loo_takeBack (zI m4 203 (zIx (3 * v167))) (zI m4 203 (zIx ((3 * v167) + 1))) m4) fun v170 m169 =>
                              if v170 = x168 then
                                if zIn 1 6 then
                                  if zIn 1 6 then
                                    zLet (wI m169 204 (zIx 1) ((zI m169 204 (zIx 1)) - 1)) fun m172 =>
                                    zLp1 (l_Law_law_0 j23 v16 v167) zFu 0 m172
                                  else none
                                else none
                              else
                                some (0, m169)
                            else none
                          else none
                        else none
                      else none
                  else none
                else
                  if x11 = 9 then
                    if zIn 2 6 then
                      zLet (zI m4 204 (zIx 2)) fun x160 =>
                      zBP (f_Law_low v8 2 m4) fun v161 =>
                      if zIn 2 6 then
                        zLet (wI m4 204 (zIx 2) v161) fun m162 =>
                        if zIn 2 6 then
                          zBI (n_Loo_table (zI m162 204 (zIx 2)) m162) fun v164 m163 =>
                          if v164 = x160 then
                            j23 v16 m163
                          else
                            some (0, m163)
                        else none
                      else none
                    else none
                  else
                    if x11 = 10 then
                      zBP (f_Law_low v8 6 m4) fun v145 =>
                      if zIn v145 26 then
                        zLet (zI m4 206 (zIx v145)) fun x146 =>
                        zBP (f_Law_low (v8 >>> (3 &&& 31)) 7 m4) fun v147 =>
                        if zIn v145 26 then
                          zLet (wI m4 206 (zIx v145) v147) fun m148 =>
                          if zIn v145 26 then
                            zBI (n_Loo_bells v145 (zI m148 206 (zIx v145)) m148) fun v150 m149 =>
                            if v150 = x146 then
                              if zIn 3 6 then
                                if 10 ≤ (zI m149 204 (zIx 3)) then
                                  j23 v16 m149
                                else
                                  if zIn 3 6 then
                                    if zIn (6 + (2 * (zI m149 204 (zIx 3)))) 26 then
                                      zLet (wI m149 206 (zIx (6 + (2 * (zI m149 204 (zIx 3))))) v145) fun m153 =>
                                      if zIn 3 6 then
                                        zBP (f_Law_low (v8 >>> (6 &&& 31)) 7 m153) fun v154 =>
                                        if zIn (7 + (2 * (zI m153 204 (zIx 3)))) 26 then
                                          zLet (wI m153 206 (zIx (7 + (2 * (zI m153 204 (zIx 3))))) v154) fun m155 =>
                                          if zIn 3 6 then
                                            if zIn 3 6 then
                                              zLet (wI m155 204 (zIx 3) ((zI m155 204 (zIx 3)) + 1)) fun m156 =>
                                              if zIn 3 6 then
                                                if zIn (5 + (2 * (zI m156 204 (zIx 3)))) 26 then
                                                  zBI (n_Loo_ringer v145 (zI m156 206 (zIx (5 + (2 * (zI m156 204 (zIx 3)))))) m156) fun v158 m157 =>
                                                  if zIn 3 6 then
                                                    if v158 = ((zI m157 204 (zIx 3)) - 1) then
                                                      j23 v16 m157
                                                    else
                                                      some (0, m157)
                                                  else none
                                                else none
                                              else none
                                            else none
                                          else none
                                        else none
                                      else none
                                    else none
                                  else none
                              else none
                            else
                              some (0, m149)
                          else none
                        else none
                      else none
                    else
                      if 13 ≤ x11 then
                        if zIn 4 6 then
                          if 0 ≤ (zI m4 204 (zIx 4)) then
                            zBP (f_Law_low v8 200 m4) fun v34 =>
                            zLet (1 + v34) fun x35 =>
                            zLp1 (l_Law_law_2 x35 j23 v16) 210 x35 m4
                          else
                            zBI (f_Law_refused 2 5 0 0 m4) fun v83 m82 =>
                            if v83 = 3 then
                              j23 v16 m82
                            else
                              some (0, m82)
                        else none
                      else
                        zBP (f_Law_low v8 3 m4) fun v85 =>
                        if zIn 0 9 then
                          zLet (wI m4 205 (zIx 0) v85) fun m86 =>
                          zLp1 (l_Law_law_4 v7 j23 v16 v8 v9) zFu 0 m86
                        else none
              else
                zBP (f_Law_low v8 8 m4) fun v182 =>
                zLet (fun (x184 : Int32) =>
                  zBP (f_Law_low (v7 >>> (9 &&& 31)) 2 m4) fun v186 =>
                  zLet (fun (x188 : Int32) =>
                    zLq2 (l_Law_law_5 m4 j19 x14 x188 x184 j23) zFu 0 0) fun j189 =>
                  if v186 = 0 then
                    j189 40
                  else
                    j189 v16) fun j185 =>
                if v182 = 0 then
                  j185 99
                else
                  zBP (f_Law_low (v8 >>> (3 &&& 31)) 61 m4) fun v212 =>
                  j185 (v212 - 30)
          else
            if zIn 0 6 then
              if (zI m4 204 (zIx 0)) = 10 then
                j19 m4
              else
                if zIn 0 6 then
                  zLet (6 * (zI m4 204 (zIx 0))) fun x223 =>
                  if zIn 0 6 then
                    zLet (fun (x225 : Int32) =>
                      zBP (f_Law_low (v7 >>> (7 &&& 31)) x225 m4) fun v227 =>
                      zLet (fun (x229 : Int32) =>
                        if zIn x223 60 then
                          zLet (wI m4 201 (zIx x223) x229) fun m231 =>
                          zBP (f_Law_low (v7 >>> (10 &&& 31)) 7 m231) fun v232 =>
                          zLet (fun (x234 : Int32) =>
                            if zIn (x223 + 1) 60 then
                              zLet (wI m231 201 (zIx (x223 + 1)) x234) fun m236 =>
                              zBP (f_Law_low (v7 >>> (13 &&& 31)) 2 m236) fun v237 =>
                              zLet (fun (m239 : Mm) =>
                                zBP (f_Law_drawStep v9 m239) fun v241 =>
                                if zIn (x223 + 2) 60 then
                                  zLet (wI m239 201 (zIx (x223 + 2)) v241) fun m242 =>
                                  zBP (f_Law_low (v7 >>> (14 &&& 31)) 2 m242) fun v243 =>
                                  zLet (fun (x245 : Int32) =>
                                    if zIn (x223 + 3) 60 then
                                      zLet (wI m242 201 (zIx (x223 + 3)) x245) fun m247 =>
                                      zBP (f_Law_low (v7 >>> (15 &&& 31)) 2 m247) fun v248 =>
                                      zLet (fun (x250 : Int32) =>
                                        if zIn (x223 + 4) 60 then
                                          zLet (wI m247 201 (zIx (x223 + 4)) x250) fun m252 =>
                                          zBP (f_Law_low (v7 >>> (16 &&& 31)) 3 m252) fun v253 =>
                                          zLet (fun (x255 : Int32) =>
                                            if zIn (x223 + 5) 60 then
                                              zLet (wI m252 201 (zIx (x223 + 5)) x255) fun m257 =>
                                              if zIn (x223 + 4) 60 then
                                                zLet (fun (m259 : Mm) =>
                                                  if zIn (x223 + 5) 60 then
                                                    zLet (fun (m262 : Mm) =>
                                                      if zIn 0 6 then
                                                        zBV (f_Law_rule (zI m262 204 (zIx 0)) m262) fun m264 =>
                                                        if zIn 0 6 then
                                                          zBP (f_Law_low (v7 >>> (18 &&& 31)) 10 m264) fun v265 =>
                                                          zBP (f_Law_low (v7 >>> (22 &&& 31)) 2 m264) fun v266 =>
                                                          if zIn (zI m264 204 (zIx 0)) 10 then
                                                            zLet (wI m264 202 (zIx (zI m264 204 (zIx 0))) ((2 * v265) + v266)) fun m267 =>
                                                            if zIn 0 6 then
                                                              if zIn 0 6 then
                                                                zLet (wI m267 204 (zIx 0) ((zI m267 204 (zIx 0)) + 1)) fun m268 =>
                                                                zBI (f_Loo_fault m268) fun v270 m269 =>
                                                                if v270 = (-1) then
                                                                  if zIn 0 6 then
                                                                    if zIn ((zI m269 204 (zIx 0)) - 1) 10 then
                                                                      if zIn 0 6 then
                                                                        if zIn ((zI m269 204 (zIx 0)) - 1) 10 then
                                                                          zLet (fun (x273 : Int32) =>
                                                                            zBI (n_Loo_feast ((zI m269 202 (zIx ((zI m269 204 (zIx 0)) - 1))) / 2) x273 m269) fun v276 m275 =>
                                                                            if zIn 0 6 then
                                                                              if v276 = ((zI m275 204 (zIx 0)) - 1) then
                                                                                zBI (f_Loo_wipe m275) fun v279 m278 =>
                                                                                if v279 = 0 then
                                                                                  j23 v16 m278
                                                                                else
                                                                                  some (0, m278)
                                                                              else
                                                                                some (0, m275)
                                                                            else none) fun j274 =>
                                                                          if ((zI m269 202 (zIx ((zI m269 204 (zIx 0)) - 1))) % 2) = 1 then
                                                                            j274 1
                                                                          else
                                                                            j274 0
                                                                        else none
                                                                      else none
                                                                    else none
                                                                  else none
                                                                else
                                                                  some (0, m269)
                                                              else none
                                                            else none
                                                          else none
                                                        else none
                                                      else none) fun j263 =>
                                                    if ((zI m259 201 (zIx (x223 + 5))) / 1000) = 1 then
                                                      if zIn (x223 + 5) 60 then
                                                        zLet (wI m259 201 (zIx (x223 + 5)) 6000) fun m281 =>
                                                        j263 m281
                                                      else none
                                                    else
                                                      j263 m259
                                                  else none) fun j260 =>
                                                if ((zI m257 201 (zIx (x223 + 4))) / 1000) = 1 then
                                                  if zIn (x223 + 1) 60 then
                                                    if (zI m257 201 (zIx (x223 + 1))) = 0 then
                                                      if zIn (x223 + 4) 60 then
                                                        zLet (wI m257 201 (zIx (x223 + 4)) 4003) fun m283 =>
                                                        j260 m283
                                                      else none
                                                    else
                                                      j260 m257
                                                  else none
                                                else
                                                  j260 m257
                                              else none
                                            else none) fun j256 =>
                                          if v253 = 0 then
                                            zBP (f_Law_drawStep (v8 >>> (17 &&& 31)) m252) fun v284 =>
                                            j256 v284
                                          else
                                            j256 0
                                        else none) fun j251 =>
                                      if v248 = 0 then
                                        j251 0
                                      else
                                        zBP (f_Law_drawStep (v8 >>> (12 &&& 31)) m247) fun v285 =>
                                        j251 v285
                                    else none) fun j246 =>
                                  if v243 = 0 then
                                    j246 (-1)
                                  else
                                    zBP (f_Law_drawStep (v9 >>> (9 &&& 31)) m242) fun v286 =>
                                    j246 v286
                                else none) fun j240 =>
                              if v237 = 0 then
                                if zIn (x223 + 1) 60 then
                                  if zIn (x223 + 1) 60 then
                                    zLet (wI m236 201 (zIx (x223 + 1)) (-(zI m236 201 (zIx (x223 + 1))))) fun m287 =>
                                    j240 m287
                                  else none
                                else none
                              else
                                j240 m236
                            else none) fun j235 =>
                          if v232 = 0 then
                            zBP (f_Law_low (v8 >>> (9 &&& 31)) 7 m231) fun v294 =>
                            j235 (130000 + v294)
                          else
                            if v232 = 1 then
                              j235 140000
                            else
                              zLet (if v232 = 3 then
                                zBP (f_Law_drawDate (v8 >>> (9 &&& 31)) m231) fun v292 =>
                                j235 (160000 + v292)
                              else
                                j235 0) fun j290 =>
                              if v232 = 2 then
                                if zIn 0 6 then
                                  if (zI m231 204 (zIx 0)) ≤ 0 then
                                    j290
                                  else
                                    j235 (150000 + x14)
                                else none
                              else
                                j290
                        else none) fun j230 =>
                      if v227 = 0 then
                        zBP (f_Law_drawDate v8 m4) fun v302 =>
                        j230 (10000 + v302)
                      else
                        if v227 = 1 then
                          zBP (f_Law_low v8 5 m4) fun v299 =>
                          zBP (f_Law_low (v8 >>> (3 &&& 31)) 7 m4) fun v300 =>
                          zBP (f_Law_low (v8 >>> (6 &&& 31)) 12 m4) fun v301 =>
                          j230 ((((20000 + (1000 * (1 + v299))) + (100 * v300)) + 1) + v301)
                        else
                          if v227 = 2 then
                            zBP (f_Law_low (v8 >>> (3 &&& 31)) 7 m4) fun v297 =>
                            zBP (f_Law_low (v8 >>> (6 &&& 31)) 12 m4) fun v298 =>
                            j230 (((30000 + (100 * v297)) + 1) + v298)
                          else
                            j230 (40000 + x14)) fun j226 =>
                    if (zI m4 204 (zIx 0)) ≤ 0 then
                      j226 3
                    else
                      j226 5
                  else none
                else none
            else none) fun j15 =>
        if (zI m4 204 (zIx 0)) = 0 then
          j15 0
        else
          if zIn 0 6 then
            zBP (f_Law_low (v7 >>> (5 &&& 31)) (zI m4 204 (zIx 0)) m4) fun v303 =>
            j15 v303
          else none
      else none) fun j12 =>
    if 2 ≤ x2 then
      zBP (f_Law_low v7 14 m4) fun v304 =>
      j12 v304
    else
      j12 0
theorem e_Law_law (ω : Wd) (m : Mm) : f_Law_law ω m =
  if zIn 4 6 then
      zLet (wI m 204 (zIx 4) (-1)) fun m1 =>
      zLp1 (l_Law_law_6 ω) 30 0 m1
    else none := by
  unfold f_Law_law l_Law_law_6 l_Law_law_5 l_Law_law_4 l_Law_law_3 l_Law_law_2 l_Law_law_1 l_Law_law_0
  rfl
