/-! THE LAW'S TURN, CUT INTO ITS KINDS -/
def kc_F (v7 : Int32) (v8 : Int32) (v9 : Int32) (x14 : Int32) (v16 : Int32) (m4 : Mm) (j19 : Mm → Option (Int32 × Mm)) (j23 : Int32 → Mm → Option (Int32 × Mm)) : Option (Int32 × Mm) :=
  if zIn 0 6 then
    if (zI m4 204 (zIx 0)) = 10 then
      j19 m4
    else
      if zIn 0 6 then
        zLet (6 * (zI m4 204 (zIx 0))) fun x223 =>
        if zIn 0 6 then
          zLet (fun (x225 : Int32) =>
            zBP (f_Law_low (v7 >>> (7 &&& 31)) x225 m4) fun v227 =>
            zLet (fun (x229 : Int32) =>
              if zIn x223 60 then
                zLet (wI m4 201 (zIx x223) x229) fun m231 =>
                zBP (f_Law_low (v7 >>> (10 &&& 31)) 7 m231) fun v232 =>
                zLet (fun (x234 : Int32) =>
                  if zIn (x223 + 1) 60 then
                    zLet (wI m231 201 (zIx (x223 + 1)) x234) fun m236 =>
                    zBP (f_Law_low (v7 >>> (13 &&& 31)) 2 m236) fun v237 =>
                    zLet (fun (m239 : Mm) =>
                      zBP (f_Law_drawStep v9 m239) fun v241 =>
                      if zIn (x223 + 2) 60 then
                        zLet (wI m239 201 (zIx (x223 + 2)) v241) fun m242 =>
                        zBP (f_Law_low (v7 >>> (14 &&& 31)) 2 m242) fun v243 =>
                        zLet (fun (x245 : Int32) =>
                          if zIn (x223 + 3) 60 then
                            zLet (wI m242 201 (zIx (x223 + 3)) x245) fun m247 =>
                            zBP (f_Law_low (v7 >>> (15 &&& 31)) 2 m247) fun v248 =>
                            zLet (fun (x250 : Int32) =>
                              if zIn (x223 + 4) 60 then
                                zLet (wI m247 201 (zIx (x223 + 4)) x250) fun m252 =>
                                zBP (f_Law_low (v7 >>> (16 &&& 31)) 3 m252) fun v253 =>
                                zLet (fun (x255 : Int32) =>
                                  if zIn (x223 + 5) 60 then
                                    zLet (wI m252 201 (zIx (x223 + 5)) x255) fun m257 =>
                                    if zIn (x223 + 4) 60 then
                                      zLet (fun (m259 : Mm) =>
                                        if zIn (x223 + 5) 60 then
                                          zLet (fun (m262 : Mm) =>
                                            if zIn 0 6 then
                                              zBV (f_Law_rule (zI m262 204 (zIx 0)) m262) fun m264 =>
                                              if zIn 0 6 then
                                                zBP (f_Law_low (v7 >>> (18 &&& 31)) 10 m264) fun v265 =>
                                                zBP (f_Law_low (v7 >>> (22 &&& 31)) 2 m264) fun v266 =>
                                                if zIn (zI m264 204 (zIx 0)) 10 then
                                                  zLet (wI m264 202 (zIx (zI m264 204 (zIx 0))) ((2 * v265) + v266)) fun m267 =>
                                                  if zIn 0 6 then
                                                    if zIn 0 6 then
                                                      zLet (wI m267 204 (zIx 0) ((zI m267 204 (zIx 0)) + 1)) fun m268 =>
                                                      zBI (f_Loo_fault m268) fun v270 m269 =>
                                                      if v270 = (-1) then
                                                        if zIn 0 6 then
                                                          if zIn ((zI m269 204 (zIx 0)) - 1) 10 then
                                                            if zIn 0 6 then
                                                              if zIn ((zI m269 204 (zIx 0)) - 1) 10 then
                                                                zLet (fun (x273 : Int32) =>
                                                                  zBI (n_Loo_feast ((zI m269 202 (zIx ((zI m269 204 (zIx 0)) - 1))) / 2) x273 m269) fun v276 m275 =>
                                                                  if zIn 0 6 then
                                                                    if v276 = ((zI m275 204 (zIx 0)) - 1) then
                                                                      zBI (f_Loo_wipe m275) fun v279 m278 =>
                                                                      if v279 = 0 then
                                                                        j23 v16 m278
                                                                      else
                                                                        some (0, m278)
                                                                    else
                                                                      some (0, m275)
                                                                  else none) fun j274 =>
                                                                if ((zI m269 202 (zIx ((zI m269 204 (zIx 0)) - 1))) % 2) = 1 then
                                                                  j274 1
                                                                else
                                                                  j274 0
                                                              else none
                                                            else none
                                                          else none
                                                        else none
                                                      else
                                                        some (0, m269)
                                                    else none
                                                  else none
                                                else none
                                              else none
                                            else none) fun j263 =>
                                          if ((zI m259 201 (zIx (x223 + 5))) / 1000) = 1 then
                                            if zIn (x223 + 5) 60 then
                                              zLet (wI m259 201 (zIx (x223 + 5)) 6000) fun m281 =>
                                              j263 m281
                                            else none
                                          else
                                            j263 m259
                                        else none) fun j260 =>
                                      if ((zI m257 201 (zIx (x223 + 4))) / 1000) = 1 then
                                        if zIn (x223 + 1) 60 then
                                          if (zI m257 201 (zIx (x223 + 1))) = 0 then
                                            if zIn (x223 + 4) 60 then
                                              zLet (wI m257 201 (zIx (x223 + 4)) 4003) fun m283 =>
                                              j260 m283
                                            else none
                                          else
                                            j260 m257
                                        else none
                                      else
                                        j260 m257
                                    else none
                                  else none) fun j256 =>
                                if v253 = 0 then
                                  zBP (f_Law_drawStep (v8 >>> (17 &&& 31)) m252) fun v284 =>
                                  j256 v284
                                else
                                  j256 0
                              else none) fun j251 =>
                            if v248 = 0 then
                              j251 0
                            else
                              zBP (f_Law_drawStep (v8 >>> (12 &&& 31)) m247) fun v285 =>
                              j251 v285
                          else none) fun j246 =>
                        if v243 = 0 then
                          j246 (-1)
                        else
                          zBP (f_Law_drawStep (v9 >>> (9 &&& 31)) m242) fun v286 =>
                          j246 v286
                      else none) fun j240 =>
                    if v237 = 0 then
                      if zIn (x223 + 1) 60 then
                        if zIn (x223 + 1) 60 then
                          zLet (wI m236 201 (zIx (x223 + 1)) (-(zI m236 201 (zIx (x223 + 1))))) fun m287 =>
                          j240 m287
                        else none
                      else none
                    else
                      j240 m236
                  else none) fun j235 =>
                if v232 = 0 then
                  zBP (f_Law_low (v8 >>> (9 &&& 31)) 7 m231) fun v294 =>
                  j235 (130000 + v294)
                else
                  if v232 = 1 then
                    j235 140000
                  else
                    zLet (if v232 = 3 then
                      zBP (f_Law_drawDate (v8 >>> (9 &&& 31)) m231) fun v292 =>
                      j235 (160000 + v292)
                    else
                      j235 0) fun j290 =>
                    if v232 = 2 then
                      if zIn 0 6 then
                        if (zI m231 204 (zIx 0)) ≤ 0 then
                          j290
                        else
                          j235 (150000 + x14)
                      else none
                    else
                      j290
              else none) fun j230 =>
            if v227 = 0 then
              zBP (f_Law_drawDate v8 m4) fun v302 =>
              j230 (10000 + v302)
            else
              if v227 = 1 then
                zBP (f_Law_low v8 5 m4) fun v299 =>
                zBP (f_Law_low (v8 >>> (3 &&& 31)) 7 m4) fun v300 =>
                zBP (f_Law_low (v8 >>> (6 &&& 31)) 12 m4) fun v301 =>
                j230 ((((20000 + (1000 * (1 + v299))) + (100 * v300)) + 1) + v301)
              else
                if v227 = 2 then
                  zBP (f_Law_low (v8 >>> (3 &&& 31)) 7 m4) fun v297 =>
                  zBP (f_Law_low (v8 >>> (6 &&& 31)) 12 m4) fun v298 =>
                  j230 (((30000 + (100 * v297)) + 1) + v298)
                else
                  j230 (40000 + x14)) fun j226 =>
          if (zI m4 204 (zIx 0)) ≤ 0 then
            j226 3
          else
            j226 5
        else none
      else none
  else none
def kc_5 (v8 : Int32) (x14 : Int32) (v16 : Int32) (m4 : Mm) (j23 : Int32 → Mm → Option (Int32 × Mm)) : Option (Int32 × Mm) :=
  if zIn x14 10 then
    zLet ((zI m4 202 (zIx x14)) / 2) fun x213 =>
    zBP (f_Law_low v8 20 m4) fun v214 =>
    if zIn x14 10 then
      zLet (wI m4 202 (zIx x14) v214) fun m215 =>
      if zIn x14 10 then
        if zIn x14 10 then
          zLet (fun (x217 : Int32) =>
            zBI (n_Loo_rank x14 ((zI m215 202 (zIx x14)) / 2) x217 m215) fun v220 m219 =>
            if v220 = x213 then
              j23 v16 m219
            else
              some (0, m219)) fun j218 =>
          if ((zI m215 202 (zIx x14)) % 2) = 1 then
            j218 1
          else
            j218 0
        else none
      else none
    else none
  else none
def kc_67 (v7 : Int32) (v8 : Int32) (x14 : Int32) (v16 : Int32) (m4 : Mm) (j19 : Mm → Option (Int32 × Mm)) (j23 : Int32 → Mm → Option (Int32 × Mm)) : Option (Int32 × Mm) :=
  zBP (f_Law_low v8 8 m4) fun v182 =>
  zLet (fun (x184 : Int32) =>
    zBP (f_Law_low (v7 >>> (9 &&& 31)) 2 m4) fun v186 =>
    zLet (fun (x188 : Int32) =>
      zLq2 (l_Law_law_5 m4 j19 x14 x188 x184 j23) zFu 0 0) fun j189 =>
    if v186 = 0 then
      j189 40
    else
      j189 v16) fun j185 =>
  if v182 = 0 then
    j185 99
  else
    zBP (f_Law_low (v8 >>> (3 &&& 31)) 61 m4) fun v212 =>
    j185 (v212 - 30)
def kc_8 (v8 : Int32) (x14 : Int32) (v16 : Int32) (m4 : Mm) (j19 : Mm → Option (Int32 × Mm)) (j23 : Int32 → Mm → Option (Int32 × Mm)) : Option (Int32 × Mm) :=
  if zIn 1 6 then
    if (zI m4 204 (zIx 1)) = 0 then
      zBI (f_Law_refused 1 x14 v16 0 m4) fun v180 m179 =>
      if v180 = 3 then
        j19 m179
      else
        some (0, m179)
    else
      if zIn 1 6 then
        zBP (f_Law_low v8 (zI m4 204 (zIx 1)) m4) fun v167 =>
        if zIn ((3 * v167) + 2) 30 then
          zLet (zI m4 203 (zIx ((3 * v167) + 2))) fun x168 =>
          if zIn (3 * v167) 30 then
            if zIn ((3 * v167) + 1) 30 then
              zBI (n_Loo_takeBack (zI m4 203 (zIx (3 * v167))) (zI m4 203 (zIx ((3 * v167) + 1))) m4) fun v170 m169 =>
              if v170 = x168 then
                if zIn 1 6 then
                  if zIn 1 6 then
                    zLet (wI m169 204 (zIx 1) ((zI m169 204 (zIx 1)) - 1)) fun m172 =>
                    zLp1 (l_Law_law_0 j23 v16 v167) zFu 0 m172
                  else none
                else none
              else
                some (0, m169)
            else none
          else none
        else none
      else none
  else none
def kc_9 (v8 : Int32) (v16 : Int32) (m4 : Mm) (j23 : Int32 → Mm → Option (Int32 × Mm)) : Option (Int32 × Mm) :=
  if zIn 2 6 then
    zLet (zI m4 204 (zIx 2)) fun x160 =>
    zBP (f_Law_low v8 2 m4) fun v161 =>
    if zIn 2 6 then
      zLet (wI m4 204 (zIx 2) v161) fun m162 =>
      if zIn 2 6 then
        zBI (n_Loo_table (zI m162 204 (zIx 2)) m162) fun v164 m163 =>
        if v164 = x160 then
          j23 v16 m163
        else
          some (0, m163)
      else none
    else none
  else none
def kc_10 (v8 : Int32) (v16 : Int32) (m4 : Mm) (j23 : Int32 → Mm → Option (Int32 × Mm)) : Option (Int32 × Mm) :=
  zBP (f_Law_low v8 6 m4) fun v145 =>
  if zIn v145 26 then
    zLet (zI m4 206 (zIx v145)) fun x146 =>
    zBP (f_Law_low (v8 >>> (3 &&& 31)) 7 m4) fun v147 =>
    if zIn v145 26 then
      zLet (wI m4 206 (zIx v145) v147) fun m148 =>
      if zIn v145 26 then
        zBI (n_Loo_bells v145 (zI m148 206 (zIx v145)) m148) fun v150 m149 =>
        if v150 = x146 then
          if zIn 3 6 then
            if 10 ≤ (zI m149 204 (zIx 3)) then
              j23 v16 m149
            else
              if zIn 3 6 then
                if zIn (6 + (2 * (zI m149 204 (zIx 3)))) 26 then
                  zLet (wI m149 206 (zIx (6 + (2 * (zI m149 204 (zIx 3))))) v145) fun m153 =>
                  if zIn 3 6 then
                    zBP (f_Law_low (v8 >>> (6 &&& 31)) 7 m153) fun v154 =>
                    if zIn (7 + (2 * (zI m153 204 (zIx 3)))) 26 then
                      zLet (wI m153 206 (zIx (7 + (2 * (zI m153 204 (zIx 3))))) v154) fun m155 =>
                      if zIn 3 6 then
                        if zIn 3 6 then
                          zLet (wI m155 204 (zIx 3) ((zI m155 204 (zIx 3)) + 1)) fun m156 =>
                          if zIn 3 6 then
                            if zIn (5 + (2 * (zI m156 204 (zIx 3)))) 26 then
                              zBI (n_Loo_ringer v145 (zI m156 206 (zIx (5 + (2 * (zI m156 204 (zIx 3)))))) m156) fun v158 m157 =>
                              if zIn 3 6 then
                                if v158 = ((zI m157 204 (zIx 3)) - 1) then
                                  j23 v16 m157
                                else
                                  some (0, m157)
                              else none
                            else none
                          else none
                        else none
                      else none
                    else none
                  else none
                else none
              else none
          else none
        else
          some (0, m149)
      else none
    else none
  else none
def kc_13 (v8 : Int32) (v16 : Int32) (m4 : Mm) (j23 : Int32 → Mm → Option (Int32 × Mm)) : Option (Int32 × Mm) :=
  if zIn 4 6 then
    if 0 ≤ (zI m4 204 (zIx 4)) then
      zBP (f_Law_low v8 200 m4) fun v34 =>
      zLet (1 + v34) fun x35 =>
      zLp1 (l_Law_law_2 x35 j23 v16) 210 x35 m4
    else
      zBI (f_Law_refused 2 5 0 0 m4) fun v83 m82 =>
      if v83 = 3 then
        j23 v16 m82
      else
        some (0, m82)
  else none
def kc_12 (v7 : Int32) (v8 : Int32) (v9 : Int32) (v16 : Int32) (m4 : Mm) (j23 : Int32 → Mm → Option (Int32 × Mm)) : Option (Int32 × Mm) :=
  zBP (f_Law_low v8 3 m4) fun v85 =>
  if zIn 0 9 then
    zLet (wI m4 205 (zIx 0) v85) fun m86 =>
    zLp1 (l_Law_law_4 v7 j23 v16 v8 v9) zFu 0 m86
  else none
theorem e_turn (ω : Wd) (r3 : Int32 → Mm → Option (Int32 × Mm)) (x2 : Int32) (m4 : Mm) : l_Law_law_6 ω r3 x2 m4 =
  if 28 ≤ x2 then
    (some (1, m4) : Option (Int32 × Mm))
  else
    zBP (f_Law_cell ω (3 * x2) m4) fun v7 =>
    zBP (f_Law_cell ω ((3 * x2) + 1) m4) fun v8 =>
    zBP (f_Law_cell ω ((3 * x2) + 2) m4) fun v9 =>
    zLet (fun (x11 : Int32) =>
      if zIn 0 6 then
        zLet (fun (x14 : Int32) =>
          zBP (f_Law_low (v9 >>> (3 &&& 31)) 400 m4) fun v16 =>
          zLet (fun (m18 : Mm) =>
            zLet (x2 + 1) fun x20 =>
            r3 x20 m18) fun j19 =>
          zLet (fun (x21 : Int32) (m22 : Mm) =>
            zBI (f_Law_year x21 m22) fun v25 m24 =>
            if v25 = 0 then
              some (0, m24)
            else
              j19 m24) fun j23 =>
          if 5 ≤ x11 then
            if x11 = 5 then
              kc_5 v8 x14 v16 m4 j23
            else
              if 8 ≤ x11 then
                if x11 = 8 then
                  kc_8 v8 x14 v16 m4 j19 j23
                else
                  if x11 = 9 then
                    kc_9 v8 v16 m4 j23
                  else
                    if x11 = 10 then
                      kc_10 v8 v16 m4 j23
                    else
                      if 13 ≤ x11 then
                        kc_13 v8 v16 m4 j23
                      else
                        kc_12 v7 v8 v9 v16 m4 j23
              else
                kc_67 v7 v8 x14 v16 m4 j19 j23
          else
            kc_F v7 v8 v9 x14 v16 m4 j19 j23) fun j15 =>
        if (zI m4 204 (zIx 0)) = 0 then
          j15 0
        else
          if zIn 0 6 then
            zBP (f_Law_low (v7 >>> (5 &&& 31)) (zI m4 204 (zIx 0)) m4) fun v303 =>
            j15 v303
          else none
      else none) fun j12 =>
    if 2 ≤ x2 then
      zBP (f_Law_low v7 14 m4) fun v304 =>
      j12 v304
    else
      j12 0 := by
  unfold l_Law_law_6 kc_F kc_5 kc_67 kc_8 kc_9 kc_10 kc_13 kc_12
  rfl
