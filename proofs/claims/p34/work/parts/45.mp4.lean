/-! THE REFERENCE'S READING: steps, numbers, digits, marks, starts -/
def kDg (p1 x1 x3 : Int32) (m : Mm) : Option (Int32 × Mm) :=
  zBP (f_Mod_lengthOfMonth x3 1 m) fun v5 =>
  zBP (f_Mod_isIn x1 0 9 m) fun v6 =>
  zLet (fun (x8 : Int32) =>
    if x8 = 0 then
      if zBo x8 then some (x8, m) else none
    else
      zLet (fun (x12 : Int32) =>
        zLet (wI m 201 14 x12) fun m14 =>
        zLet (wI m14 201 13 x1) fun m15 =>
        zLet (wI m15 201 12 ((10 * (zI m15 201 12)) + x1)) fun m16 =>
        zLet (wI m16 201 6 ((zI m16 201 6) - 1)) fun m17 =>
        if zBo x8 then some (x8, m17) else none) fun j13 =>
      if p1 = 13 then
        j13 ((10 * (zI m 201 13)) + x1)
      else
        j13 (zI m 201 14)) fun j9 =>
  if p1 = 12 then
    zLet (fun (x60 : Int32) =>
      j9 x60) fun j61 =>
    zLet (j61 0) fun j62 =>
    if v6 = 0 then
      j62
    else
      if 1 < x1 then
        j62
      else
        j61 1
  else
    if p1 = 13 then
      zLet (fun (x52 : Int32) =>
        j9 x52) fun j53 =>
      zLet (j53 0) fun j54 =>
      if v6 = 0 then
        j54
      else
        zLet (j53 1) fun j56 =>
        if (zI m 201 13) = 0 then
          if x1 ≤ 0 then
            j54
          else
            j56
        else
          if 2 < x1 then
            j54
          else
            j56
    else
      if p1 = 14 then
        zLet (fun (x47 : Int32) =>
          j9 x47) fun j48 =>
        zLet (j48 0) fun j49 =>
        if v6 = 0 then
          j49
        else
          if (v5 / 10) < x1 then
            j49
          else
            j48 1
      else
        if p1 = 15 then
          zLet (fun (x41 : Int32) =>
            j9 x41) fun j42 =>
          zLet (j42 0) fun j43 =>
          if v6 = 0 then
            j43
          else
            if ((10 * (zI m 201 13)) + x1) < 1 then
              j43
            else
              if v5 < ((10 * (zI m 201 13)) + x1) then
                j43
              else
                j42 1
        else
          if p1 = 16 then
            zLet (fun (x35 : Int32) =>
              j9 x35) fun j36 =>
            zLet (j36 0) fun j37 =>
            if v6 = 0 then
              j37
            else
              zBP (f_Mod_isIn x1 1 5 m) fun v38 =>
              if v38 = 0 then
                j37
              else
                j36 1
          else
            if p1 = 17 then
              zLet (fun (x30 : Int32) =>
                j9 x30) fun j31 =>
              zLet (j31 0) fun j32 =>
              if v6 = 0 then
                j32
              else
                if 6 < x1 then
                  j32
                else
                  j31 1
            else
              if p1 = 18 then
                zLet (fun (x25 : Int32) =>
                  j9 x25) fun j26 =>
                zLet (j26 0) fun j27 =>
                if v6 = 0 then
                  j27
                else
                  if 1 < x1 then
                    j27
                  else
                    j26 1
              else
                j9 v6
theorem kDg_eq (p1 p2 : Int32) (m : Mm) : f_Mod_takesDigit p1 p2 m = if (zI m 201 14) = 0 then kDg p1 (p2 - 48) 1 m else kDg p1 (p2 - 48) (zI m 201 14) m := by
  unfold f_Mod_takesDigit kDg
  simp only [zLet]
section KT2
variable {m M : Mm} {S : List (Int × Int)} {J : List Int} {C : Cx} {ar dg mo : Int} {D : Bool} {sm nu dn : Int} {c : Int}
theorem kt_step {t x : Int} (ht : t = 1 ∨ t = 2) (h : RQ m ((t, x) :: S) J C ar dg mo D sm nu dn M) (hS : S.length < 460) (hC : C.length < 78) (hs : -1000000 ≤ sm ∧ sm ≤ 1000000) (hc : 0 ≤ c ∧ c ≤ 126) :
    if c = 43 ∨ c = 45 then KO m c M ((11, if c = 43 then 1 else -1) :: (t, x) :: S) J C ar dg mo true sm 0 0
    else if c = 63 then KO m c M ((3, 0) :: (4, 0) :: (2, 0) :: (5, 0) :: (6, 0) :: (t, x) :: S) J (C ++ cEnd D sm) ar dg mo false 0 nu dn
    else if mvK c = 0 then KN m c dg mo nu dn M
    else if 10 ≤ mvK c then KO m c M ((t, x) :: S) J (C ++ cEnd D sm ++ [(mvK c, 0)]) ar dg mo false 0 nu dn
    else KO m c M ((17, 0) :: (10, mvK c) :: (t, x) :: S) J (C ++ cEnd D sm) ar dg mo false 0 nu dn := by
  have hk := kT_eq (c := c) h (by omega)
  rw [if_neg (show ¬ t = 0 by omega), if_pos ht] at hk
  have hl : ((t, x) :: S).length = S.length + 1 := rfl
  have hce : (cEnd D sm).length ≤ 1 := by unfold cEnd; split <;> simp
  have hcl : (C ++ cEnd D sm).length ≤ C.length + 1 := by rw [List.length_append]; omega
  by_cases h4 : c = 43 ∨ c = 45
  · rw [if_pos h4]
    have h9 : RQ m ((t, x) :: S) J C ar dg mo true sm 0 0 (wI (wI (wI M 201 15 (i3 1)) 201 17 (i3 0)) 201 18 (i3 0)) := by
      obtain ⟨F3, F4, F5, F6, F7, rfl, h1, h2, h3⟩ := h
      exact ⟨F3, F4, F5, F6, F7, by rw [qM_w15, qM_w17, qM_w18]; rfl, h1, h2, h3⟩
    obtain ⟨M1, e1, h1⟩ := mp_push h9 (by omega) (w := 11) (i := if c = 43 then 1 else -1) (by omega)
    refine ⟨M1, ?_, h1⟩
    rw [hk]
    unfold f_Mod_takesStep
    simp only [zLet]
    rcases h4 with rfl | rfl
    · rw [if_pos (show i3 43 = 43 from rfl), if_pos (show i3 43 = 43 from rfl)]
      rw [show (1 : Int32) = i3 1 from rfl, show (0 : Int32) = i3 0 from rfl, show (11 : Int32) = i3 11 from rfl]
      rw [if_pos rfl] at e1
      rw [e1, zBV_some, wB_1]
    · rw [if_neg (show ¬ i3 45 = 43 by decide), if_pos (show i3 45 = 45 from rfl), if_neg (show ¬ i3 45 = 43 by decide)]
      rw [show (-1 : Int32) = i3 (-1) from rfl, show (1 : Int32) = i3 1 from rfl, show (0 : Int32) = i3 0 from rfl, show (11 : Int32) = i3 11 from rfl]
      rw [if_neg (by decide)] at e1
      rw [e1, zBV_some, wB_1]
  rw [if_neg h4]
  obtain ⟨Me, ee, he⟩ := mp_ends h (by omega) hs
  have e : f_Mod_takesStep (i3 c) M = (if mvK c < 10 then (if mvK c ≤ 0 then (if c = 63 then (zBV (f_Mod_push (i3 6) (i3 0) Me) fun m23 => zBV (f_Mod_push (i3 5) (i3 0) m23) fun m24 => zBV (f_Mod_push (i3 2) (i3 0) m24) fun m25 => zBV (f_Mod_push (i3 4) (i3 0) m25) fun m26 => zBV (f_Mod_push (i3 3) (i3 0) m26) fun m27 => some (i3 1, m27)) else some (i3 0, Me))
      else (zBV (f_Mod_push (i3 10) (i3 (mvK c)) Me) fun m28 => zBV (f_Mod_push (i3 17) (i3 0) m28) fun m29 => some (i3 1, m29))) else (zBV (f_Mod_emits (i3 (mvK c)) (i3 0) Me) fun m30 => some (i3 1, m30))) := by
    unfold f_Mod_takesStep mvK
    have e43 : (i3 c = 43) ↔ c = 43 := i3_eq (b := 43) ⟨by omega, by omega⟩ ⟨by decide, by decide⟩
    have e45 : (i3 c = 45) ↔ c = 45 := i3_eq (b := 45) ⟨by omega, by omega⟩ ⟨by decide, by decide⟩
    have e62 : (i3 c = 62) ↔ c = 62 := i3_eq (b := 62) ⟨by omega, by omega⟩ ⟨by decide, by decide⟩
    have e60 : (i3 c = 60) ↔ c = 60 := i3_eq (b := 60) ⟨by omega, by omega⟩ ⟨by decide, by decide⟩
    have e93 : (i3 c = 93) ↔ c = 93 := i3_eq (b := 93) ⟨by omega, by omega⟩ ⟨by decide, by decide⟩
    have e91 : (i3 c = 91) ↔ c = 91 := i3_eq (b := 91) ⟨by omega, by omega⟩ ⟨by decide, by decide⟩
    have e79 : (i3 c = 79) ↔ c = 79 := i3_eq (b := 79) ⟨by omega, by omega⟩ ⟨by decide, by decide⟩
    have e81 : (i3 c = 81) ↔ c = 81 := i3_eq (b := 81) ⟨by omega, by omega⟩ ⟨by decide, by decide⟩
    have e88 : (i3 c = 88) ↔ c = 88 := i3_eq (b := 88) ⟨by omega, by omega⟩ ⟨by decide, by decide⟩
    have e63 : (i3 c = 63) ↔ c = 63 := i3_eq (b := 63) ⟨by omega, by omega⟩ ⟨by decide, by decide⟩
    simp only [zLet, ee, zBV_some]
    simp only [e43, e45, e62, e60, e93, e91, e79, e81, e88, e63]
    simp only [i3_lit]
    rw [if_neg (show ¬ c = 43 by omega), if_neg (show ¬ c = 45 by omega)]
    by_cases c62 : c = 62
    · subst c62; rfl
    by_cases c60 : c = 60
    · subst c60; rfl
    by_cases c93 : c = 93
    · subst c93; rfl
    by_cases c91 : c = 91
    · subst c91; rfl
    by_cases c79 : c = 79
    · subst c79; rfl
    by_cases c81 : c = 81
    · subst c81; rfl
    by_cases c88 : c = 88
    · subst c88; rfl
    simp only [if_neg c62, if_neg c60, if_neg c93, if_neg c91, if_neg c79, if_neg c81, if_neg c88]
    rw [if_pos (show i3 0 < i3 10 by decide), if_pos (show i3 0 ≤ i3 0 by decide), if_pos (show (0 : Int) < 10 by decide), if_pos (show (0 : Int) ≤ 0 by decide)]
    by_cases c63 : c = 63
    · simp only [if_pos c63, show (i3 0 < i3 0) = False from eq_false (by decide), reduceIte]
    · simp only [if_neg c63]
      rw [if_neg (show ¬ i3 0 < i3 0 by decide)]
  rw [e] at hk
  by_cases h63 : c = 63
  · rw [if_pos h63]
    obtain ⟨M1, e1, h1⟩ := mp_push he (by omega) (w := 6) (i := 0) (by omega)
    obtain ⟨M2, e2, h2⟩ := mp_push h1 (by simp; omega) (w := 5) (i := 0) (by omega)
    obtain ⟨M3, e3, h3⟩ := mp_push h2 (by simp; omega) (w := 2) (i := 0) (by omega)
    obtain ⟨M4, e4, h4⟩ := mp_push h3 (by simp; omega) (w := 4) (i := 0) (by omega)
    obtain ⟨M5, e5, h5⟩ := mp_push h4 (by simp; omega) (w := 3) (i := 0) (by omega)
    refine ⟨M5, ?_, h5⟩
    have : mvK c = 0 := by rw [h63]; rfl
    rw [hk, this, if_pos (by decide), if_pos (by decide), if_pos h63, e1, zBV_some, e2, zBV_some, e3, zBV_some, e4, zBV_some, e5, zBV_some, wB_1]
  rw [if_neg h63]
  by_cases h0 : mvK c = 0
  · rw [if_pos h0]
    refine ⟨Me, ?_, he.qf⟩
    rw [hk, h0, if_pos (by decide), if_pos (by decide), if_neg h63, wB_0]
  rw [if_neg h0]
  have hkb : 0 ≤ mvK c ∧ mvK c ≤ 12 := by
    unfold mvK
    repeat (first | omega | split)
  by_cases h10 : 10 ≤ mvK c
  · rw [if_pos h10]
    obtain ⟨M1, e1, h1⟩ := mp_emits he (by omega) (k := mvK c) (x := 0)
    refine ⟨M1, ?_, h1⟩
    rw [hk, if_neg (by omega), e1, zBV_some, wB_1]
  · rw [if_neg h10]
    obtain ⟨M1, e1, h1⟩ := mp_push he (by omega) (w := 10) (i := mvK c) (by omega)
    obtain ⟨M2, e2, h2⟩ := mp_push h1 (by simp; omega) (w := 17) (i := 0) (by omega)
    refine ⟨M2, ?_, h2⟩
    rw [hk, if_pos (by omega), if_neg (by omega), e1, zBV_some, e2, zBV_some, wB_1]
theorem kt_num {x : Int} (h : RQ m ((11, x) :: S) J C ar dg mo D sm nu dn M) (hS : S.length < 460) (hc : 0 ≤ c ∧ c ≤ 126) (hn : 0 ≤ nu ∧ nu ≤ 366) (hd : 0 ≤ dn ∧ dn ≤ 3) :
    if (48 ≤ c ∧ c ≤ 57) ∧ dn ≠ 3 ∧ 10 * nu + (c - 48) ≤ 366 then KO m c M ((11, x) :: S) J C ar dg mo D sm (10 * nu + (c - 48)) (dn + 1) else KN m c dg mo nu dn M := by
  have hk := kT_eq (c := c) h (by omega)
  simp only [Int.reduceEq, reduceIte, or_self] at hk
  obtain ⟨u1, u2, u3, -⟩ := mp_18 h
  have hI := mod_isIn (a := c - 48) (b := 0) (c := 9) (by omega) (by omega) (by omega) M
  have e : f_Mod_takesNumber (i3 c) M = if (48 ≤ c ∧ c ≤ 57) ∧ dn ≠ 3 ∧ 10 * nu + (c - 48) ≤ 366 then some (i3 1, wI (wI M 201 17 (i3 (10 * nu + (c - 48)))) 201 18 (i3 (dn + 1))) else some (i3 0, M) := by
    unfold f_Mod_takesNumber
    simp only [zLet]
    simp only [i3_lit, i3_sub, hI, zBP_some, u1, u2, i3_mul, i3_add, b3_i0, zI_nk (show (18 : Nat) ≠ 17 by decide)]
    simp (disch := omega) only [i3_eq, i3_le]
    by_cases c1 : 48 ≤ c ∧ c ≤ 57
    · rw [decide_eq_true (show 0 ≤ c - 48 ∧ c - 48 ≤ 9 by omega), if_neg (by decide)]
      by_cases c2 : dn = 3
      · rw [if_pos c2, if_neg (by omega)]
      · rw [if_neg c2]
        by_cases c3 : 10 * nu + (c - 48) ≤ 366
        · rw [if_pos c3, if_pos (by omega)]
        · rw [if_neg c3, if_neg (by omega)]
    · rw [decide_eq_false (show ¬ (0 ≤ c - 48 ∧ c - 48 ≤ 9) by omega), if_pos rfl, if_neg (by omega)]
  rw [e] at hk
  by_cases q : (48 ≤ c ∧ c ≤ 57) ∧ dn ≠ 3 ∧ 10 * nu + (c - 48) ≤ 366
  · rw [if_pos q] at hk ⊢
    obtain ⟨F3, F4, F5, F6, F7, rfl, h1, h2, h3⟩ := h
    exact ⟨_, by rw [hk, wB_1], F3, F4, F5, F6, F7, by rw [qM_w17, qM_w18], h1, h2, h3⟩
  · rw [if_neg q] at hk ⊢
    exact ⟨M, by rw [hk, wB_0], h.qf⟩
theorem kt_else {x k y : Int} {A B : Cx} (h : RQ m ((6, x) :: S) ((A.length : Int) :: J) (A ++ [(k, y)] ++ B) ar dg mo D sm nu dn M) (hS : S.length < 460) (hJ : J.length < 95) (hC : A.length + 1 + B.length < 79) :
    KO m c M ((2, 0) :: (7, x) :: S) (((A.length + 1 + B.length : Nat) : Int) :: J) (A ++ [(k, ((A.length + 1 + B.length + 1 : Nat) : Int))] ++ B ++ [(18, 0)]) ar dg mo D sm nu dn := by
  have hk := kT_eq (c := c) h (by omega)
  simp only [Int.reduceEq, reduceIte, or_self] at hk
  have hl : (A ++ [(k, y)] ++ B).length = A.length + 1 + B.length := by simp; omega
  obtain ⟨F3, F4, F5, F6, F7, rfl, h1, h2, h3⟩ := h
  have ej : i3 (((A.length : Int) :: J).length : Nat) - 1 = i3 (J.length : Int) := by
    rw [i3_sub1]
    congr 1
    simp
  have hin : zIn (i3 (J.length : Int)) 100 := (i3_in ⟨by omega, by omega⟩).mpr ⟨by omega, by omega⟩
  have hix : zIx (i3 (J.length : Int)) = J.length := by rw [i3_ix ⟨by omega, by omega⟩, Int.toNat_natCast]
  have hin2 : zIn (i3 (A.length : Int)) 80 := (i3_in ⟨by omega, by omega⟩).mpr ⟨by omega, by omega⟩
  have hix2 : zIx (i3 (A.length : Int)) = A.length := by rw [i3_ix ⟨by omega, by omega⟩, Int.toNat_natCast]
  have hin3 : zIn (i3 (S.length : Int)) 500 := (i3_in ⟨by omega, by omega⟩).mpr ⟨by omega, by omega⟩
  have hix3 : zIx (i3 (S.length : Int)) = S.length := by rw [i3_ix ⟨by omega, by omega⟩, Int.toNat_natCast]
  have h9 : RQ m ((6, x) :: S) J (A ++ [(k, y)] ++ B) ar dg mo D sm nu dn (qM m (i3 (((6, x) :: S).length : Nat)) (i3 J.length) (i3 ((A ++ [(k, y)] ++ B).length : Nat)) (i3 ar) (i3 dg) (i3 mo) (b3 D) (i3 sm) (i3 nu) (i3 dn) F3 F4 F5 F6 F7) := ⟨F3, F4, F5, F6, F7, rfl, h1, h2.2, h3⟩
  obtain ⟨M1, e1, h10⟩ := mp_jumps h9 (by omega) (by omega) (k := 18)
  obtain ⟨G3, G4, G5, G6, G7, rfl, g1, g2, g3⟩ := h10
  have es : i3 (((6, x) :: S).length : Nat) - 1 = i3 (S.length : Int) := by
    rw [i3_sub1]
    congr 1
    simp
  have hl2 : (A ++ [(k, y)] ++ B ++ [((18 : Int), (0 : Int))]).length = A.length + 1 + B.length + 1 := by simp; omega
  have hl3 : (A ++ [(k, ((A.length + 1 + B.length + 1 : Nat) : Int))] ++ B ++ [((18 : Int), (0 : Int))]).length = A.length + 1 + B.length + 1 := by simp; omega
  have h11 : RQ m ((7, x) :: S) (((A.length + 1 + B.length : Nat) : Int) :: J) (A ++ [(k, ((A.length + 1 + B.length + 1 : Nat) : Int))] ++ B ++ [(18, 0)]) ar dg mo D sm nu dn (qM m (i3 (((6, x) :: S).length : Nat)) (i3 ((((A ++ [(k, y)] ++ B).length : Int) :: J).length : Nat)) (i3 ((A ++ [(k, y)] ++ B ++ [((18 : Int), (0 : Int))]).length : Nat)) (i3 ar) (i3 dg) (i3 mo) (b3 D) (i3 sm) (i3 nu) (i3 dn) (up G3 S.length (i3 7)) G4 G5 G6 (up G7 A.length (i3 ((A.length + 1 + B.length + 1 : Nat) : Int)))) := by
    refine ⟨up G3 S.length (i3 7), G4, G5, G6, up G7 A.length (i3 ((A.length + 1 + B.length + 1 : Nat) : Int)), by rw [hl2, hl3]; rfl, ⟨⟨up_eq _ _ _, g1.1.2.1, by omega, by omega⟩, SA_up3 S _ (Nat.le_refl _) g1.2⟩, ?_, ?_⟩
    · rw [hl] at g2
      exact g2
    · rw [List.append_assoc (A ++ [(k, y)])] at g3
      have := g3.set (x := ((A.length + 1 + B.length + 1 : Nat) : Int))
      rw [Nat.zero_add, ← List.append_assoc] at this
      exact this
  obtain ⟨M2, e2, h12⟩ := mp_push h11 (by simp; omega) (w := 2) (i := 0) (by omega)
  refine ⟨M2, ?_, h12⟩
  rw [hk]
  unfold kElse
  simp only [zLet]
  rw [qM_8, ej, if_pos hin, hix, qM_5, h2.1, qM_w8, show (18 : Int32) = i3 18 from rfl, e1, zBV_some, if_pos hin2, hix2, qM_11, qM_a7, qM_6, es, if_pos hin3, hix3, qM_a3, show (2 : Int32) = i3 2 from rfl, show (0 : Int32) = i3 0 from rfl, show (7 : Int32) = i3 7 from rfl]
  rw [hl2] at e2 ⊢
  rw [e2]
  rfl
/-- whether a digit fits -/
def okD (w c dg mo : Int) : Prop := (48 ≤ c ∧ c ≤ 57) ∧ (w = 12 → c ≤ 49) ∧ (w = 13 → (dg = 0 → 48 < c) ∧ (dg ≠ 0 → c ≤ 50)) ∧ (w = 14 → c - 48 ≤ sMost (if mo = 0 then 1 else mo) / 10) ∧ (w = 15 → 1 ≤ 10 * dg + (c - 48) ∧ 10 * dg + (c - 48) ≤ sMost (if mo = 0 then 1 else mo)) ∧ (w = 16 → 49 ≤ c ∧ c ≤ 53) ∧ (w = 17 → c ≤ 54) ∧ (w = 18 → c ≤ 49)
set_option maxHeartbeats 2000000 in
theorem kt_digit {w x : Int} (hw : 12 ≤ w ∧ w ≤ 19) (h : RQ m ((w, x) :: S) J C ar dg mo D sm nu dn M) (hS : S.length < 460) (hc : 0 ≤ c ∧ c ≤ 126) (hg : 0 ≤ dg ∧ dg ≤ 9) (hm : 0 ≤ mo ∧ mo ≤ 12) :
    (okD w c dg mo → KO m c M S J C (10 * ar + (c - 48)) (c - 48) (if w = 13 then 10 * dg + (c - 48) else mo) D sm nu dn) ∧ (¬ okD w c dg mo → KN m c dg mo nu dn M) := by
  have hk := kT_eq (c := c) h (by omega)
  simp only [if_neg (show ¬ w = 0 by omega), if_neg (show ¬ (w = 1 ∨ w = 2) by omega), if_neg (show ¬ w = 3 by omega), if_neg (show ¬ w = 11 by omega), if_neg (show ¬ w = 6 by omega), if_pos hw] at hk
  by_cases h20 : w = 20
  · omega
  rw [if_neg h20] at hk
  have hI := mod_isIn (a := c - 48) (b := 0) (c := 9) (by omega) (by omega) (by omega) M
  have hI5 := mod_isIn (a := c - 48) (b := 1) (c := 5) (by omega) (by omega) (by omega) M
  have hmm : vMo (if mo = 0 then 1 else mo) := by unfold vMo; split <;> omega
  have hsb := sMost_bd (v := if mo = 0 then 1 else mo) hmm
  have hL := mod_mlen' (b := true) hmm M
  rw [show b3 true = i3 1 from by decide] at hL
  change f_Mod_lengthOfMonth _ _ M = some (i3 (sMost (if mo = 0 then 1 else mo))) at hL
  obtain ⟨p1, p2⟩ := mp_pop h
  have hg13 : zI M 201 13 = i3 dg ∧ zI M 201 14 = i3 mo ∧ zI M 201 12 = i3 ar := by
    obtain ⟨F3, F4, F5, F6, F7, rfl, -⟩ := h
    exact ⟨rfl, rfl, rfl⟩
  obtain ⟨g13, g14, g12⟩ := hg13
  -- what is left when it fits
  have done : ∀ v : Int, RQ m S J C (10 * ar + (c - 48)) (c - 48) v D sm nu dn (wI (wI (wI (wI M 201 14 (i3 v)) 201 13 (i3 (c - 48))) 201 12 (i3 (10 * ar + (c - 48)))) 201 6 (i3 S.length)) := by
    intro v
    obtain ⟨F3, F4, F5, F6, F7, rfl, h1, h2, h3⟩ := h
    exact ⟨F3, F4, F5, F6, F7, by rw [qM_w14, qM_w13, qM_w12, qM_w6], h1.2, h2, h3⟩
  have fin : ∀ (b : Bool) (v : Int), (if b3 b = i3 0 then (if zBo (b3 b) then some (b3 b, M) else none) else (if zBo (b3 b) then some (b3 b, wI (wI (wI (wI M 201 14 (i3 v)) 201 13 (i3 (c - 48))) 201 12 (i3 (10 * ar + (c - 48)))) 201 6 (i3 S.length)) else none)) = some (b3 b, if b = true then wI (wI (wI (wI M 201 14 (i3 v)) 201 13 (i3 (c - 48))) 201 12 (i3 (10 * ar + (c - 48)))) 201 6 (i3 S.length) else M) := by
    intro b v
    cases b
    · rw [if_pos (by decide), if_pos (by decide)]; rfl
    · rw [if_neg (by decide), if_pos (by decide)]; rfl
  have z12 : ∀ v : Int32, zI (wI (wI M 201 14 v) 201 13 (i3 (c - 48))) 201 12 = i3 ar := fun v => by rw [zI_nk (by decide), zI_nk (by decide), g12]
  have z6 : ∀ (v w' : Int32), zI (wI (wI (wI M 201 14 v) 201 13 (i3 (c - 48))) 201 12 w') 201 6 - i3 1 = i3 S.length := fun v w' => by rw [zI_nk (by decide), zI_nk (by decide), zI_nk (by decide)]; exact p1
  obtain ⟨b, hb, e⟩ : ∃ b : Bool, (b = true ↔ okD w c dg mo) ∧ f_Mod_takesDigit (i3 w) (i3 c) M = some (b3 b, if b = true then wI (wI (wI (wI M 201 14 (i3 (if w = 13 then 10 * dg + (c - 48) else mo))) 201 13 (i3 (c - 48))) 201 12 (i3 (10 * ar + (c - 48)))) 201 6 (i3 S.length) else M) := by
    have core : ∀ k : Int, f_Mod_lengthOfMonth (i3 k) (i3 1) M = some (i3 (sMost (if mo = 0 then 1 else mo))) → ∃ b : Bool, (b = true ↔ okD w c dg mo) ∧ kDg (i3 w) (i3 (c - 48)) (i3 k) M = some (b3 b, if b = true then wI (wI (wI (wI M 201 14 (i3 (if w = 13 then 10 * dg + (c - 48) else mo))) 201 13 (i3 (c - 48))) 201 12 (i3 (10 * ar + (c - 48)))) 201 6 (i3 S.length) else M) := by
      intro k hL
      generalize hv5 : sMost (if mo = 0 then 1 else mo) = v5 at hsb hL
      have no : ¬ okD w c dg mo → ∀ Z : Option (Int32 × Mm), Z = some (b3 false, M) → ∃ b : Bool, (b = true ↔ okD w c dg mo) ∧ Z = some (b3 b, if b = true then wI (wI (wI (wI M 201 14 (i3 (if w = 13 then 10 * dg + (c - 48) else mo))) 201 13 (i3 (c - 48))) 201 12 (i3 (10 * ar + (c - 48)))) 201 6 (i3 S.length) else M) := fun hq Z hZ => ⟨false, ⟨fun z => (nomatch z), fun z => absurd z hq⟩, hZ⟩
      have yes : okD w c dg mo → ∀ Z : Option (Int32 × Mm), Z = some (b3 true, wI (wI (wI (wI M 201 14 (i3 (if w = 13 then 10 * dg + (c - 48) else mo))) 201 13 (i3 (c - 48))) 201 12 (i3 (10 * ar + (c - 48)))) 201 6 (i3 S.length)) → ∃ b : Bool, (b = true ↔ okD w c dg mo) ∧ Z = some (b3 b, if b = true then wI (wI (wI (wI M 201 14 (i3 (if w = 13 then 10 * dg + (c - 48) else mo))) 201 13 (i3 (c - 48))) 201 12 (i3 (10 * ar + (c - 48)))) 201 6 (i3 S.length) else M) := fun hq Z hZ => ⟨true, ⟨fun _ => hq, fun _ => rfl⟩, hZ⟩
      clear fin done
      have hw8 : w = 12 ∨ w = 13 ∨ w = 14 ∨ w = 15 ∨ w = 16 ∨ w = 17 ∨ w = 18 ∨ w = 19 := by omega
      unfold okD at no yes ⊢
      rw [hv5] at no yes ⊢
      unfold kDg
      simp only [zLet]
      simp only [i3_lit, hL, hI, hI5, zBP_some, g13, g14, i3_mul, i3_add, i3_sub, z12, z6]
      simp only [show (i3 0 = i3 0) = True from eq_true rfl, reduceIte]
      rcases hw8 with rfl | rfl | rfl | rfl | rfl | rfl | rfl | rfl
      · clear hk h
        rw [if_pos (show i3 12 = i3 12 from rfl)]
        by_cases c0 : 0 ≤ c - 48 ∧ c - 48 ≤ 9
        · rw [decide_eq_true c0]
          rw [if_neg (show ¬ b3 true = i3 0 by decide)]
          rw [it_lt ⟨by decide, by decide⟩ ⟨by omega, by omega⟩]
          by_cases c1 : 1 < c - 48
          · rw [if_pos c1]; exact no (by omega) _ (by rw [if_pos (show zBo (i3 0) by decide)]; rfl)
          · rw [if_neg c1]; exact yes (by omega) _ (by rw [if_neg (show ¬ i3 1 = i3 0 by decide), if_neg (show ¬ i3 12 = i3 13 by decide), if_pos (show zBo (i3 1) by decide)]; rfl)
        · rw [decide_eq_false c0, if_pos (show b3 false = i3 0 by decide)]
          exact no (by omega) _ (by rw [if_pos (show zBo (i3 0) by decide)]; rfl)
      · clear hk h
        rw [if_neg (show ¬ i3 13 = i3 12 by decide), if_pos (show i3 13 = i3 13 from rfl)]
        by_cases c0 : 0 ≤ c - 48 ∧ c - 48 ≤ 9
        · rw [decide_eq_true c0]
          rw [if_neg (show ¬ b3 true = i3 0 by decide)]
          rw [it_eq ⟨by omega, by omega⟩ ⟨by decide, by decide⟩, it_le ⟨by omega, by omega⟩ ⟨by decide, by decide⟩, it_lt ⟨by decide, by decide⟩ ⟨by omega, by omega⟩]
          by_cases c1 : dg = 0
          · rw [if_pos c1]
            by_cases c2 : c - 48 ≤ 0
            · rw [if_pos c2]
              refine no ?_ _ ?_
              · omega
              · rw [if_pos (show zBo (i3 0) by decide)]; rfl
            · rw [if_neg c2]
              refine yes ?_ _ ?_
              · omega
              · rw [if_neg (show ¬ i3 1 = i3 0 by decide), if_pos (show i3 13 = i3 13 from rfl), if_pos (show zBo (i3 1) by decide)]; rfl
          · rw [if_neg c1]
            by_cases c2 : 2 < c - 48
            · rw [if_pos c2]
              refine no ?_ _ ?_
              · omega
              · rw [if_pos (show zBo (i3 0) by decide)]; rfl
            · rw [if_neg c2]
              refine yes ?_ _ ?_
              · omega
              · rw [if_neg (show ¬ i3 1 = i3 0 by decide), if_pos (show i3 13 = i3 13 from rfl), if_pos (show zBo (i3 1) by decide)]; rfl
        · rw [decide_eq_false c0, if_pos (show b3 false = i3 0 by decide)]
          exact no (by omega) _ (by rw [if_pos (show zBo (i3 0) by decide)]; rfl)
      · clear hk h
        rw [if_neg (show ¬ i3 14 = i3 12 by decide), if_neg (show ¬ i3 14 = i3 13 by decide), if_pos (show i3 14 = i3 14 from rfl)]
        by_cases c0 : 0 ≤ c - 48 ∧ c - 48 ≤ 9
        · rw [decide_eq_true c0]
          rw [if_neg (show ¬ b3 true = i3 0 by decide)]
          rw [i3_div ⟨by omega, by omega⟩ ⟨by decide, by decide⟩, it_lt ⟨by omega, by omega⟩ ⟨by omega, by omega⟩]
          by_cases c1 : v5 / 10 < c - 48
          · rw [if_pos c1]; exact no (by omega) _ (by rw [if_pos (show zBo (i3 0) by decide)]; rfl)
          · rw [if_neg c1]; exact yes (by omega) _ (by rw [if_neg (show ¬ i3 1 = i3 0 by decide), if_neg (show ¬ i3 14 = i3 13 by decide), if_pos (show zBo (i3 1) by decide)]; rfl)
        · rw [decide_eq_false c0, if_pos (show b3 false = i3 0 by decide)]
          exact no (by omega) _ (by rw [if_pos (show zBo (i3 0) by decide)]; rfl)
      · clear hk h
        rw [if_neg (show ¬ i3 15 = i3 12 by decide), if_neg (show ¬ i3 15 = i3 13 by decide), if_neg (show ¬ i3 15 = i3 14 by decide), if_pos (show i3 15 = i3 15 from rfl)]
        by_cases c0 : 0 ≤ c - 48 ∧ c - 48 ≤ 9
        · rw [decide_eq_true c0]
          rw [if_neg (show ¬ b3 true = i3 0 by decide)]
          rw [it_lt ⟨by omega, by omega⟩ ⟨by decide, by decide⟩, it_lt ⟨by omega, by omega⟩ ⟨by omega, by omega⟩]
          by_cases c1 : 10 * dg + (c - 48) < 1
          · rw [if_pos c1]; exact no (by omega) _ (by rw [if_pos (show zBo (i3 0) by decide)]; rfl)
          · rw [if_neg c1]
            by_cases c2 : v5 < 10 * dg + (c - 48)
            · rw [if_pos c2]; exact no (by omega) _ (by rw [if_pos (show zBo (i3 0) by decide)]; rfl)
            · rw [if_neg c2]; exact yes (by omega) _ (by rw [if_neg (show ¬ i3 1 = i3 0 by decide), if_neg (show ¬ i3 15 = i3 13 by decide), if_pos (show zBo (i3 1) by decide)]; rfl)
        · rw [decide_eq_false c0, if_pos (show b3 false = i3 0 by decide)]
          exact no (by omega) _ (by rw [if_pos (show zBo (i3 0) by decide)]; rfl)
      · clear hk h
        rw [if_neg (show ¬ i3 16 = i3 12 by decide), if_neg (show ¬ i3 16 = i3 13 by decide), if_neg (show ¬ i3 16 = i3 14 by decide), if_neg (show ¬ i3 16 = i3 15 by decide), if_pos (show i3 16 = i3 16 from rfl)]
        by_cases c0 : 0 ≤ c - 48 ∧ c - 48 ≤ 9
        · rw [decide_eq_true c0]
          rw [if_neg (show ¬ b3 true = i3 0 by decide)]
          by_cases c1 : 1 ≤ c - 48 ∧ c - 48 ≤ 5
          · rw [decide_eq_true c1, if_neg (show ¬ b3 true = i3 0 by decide)]; exact yes (by omega) _ (by rw [if_neg (show ¬ i3 1 = i3 0 by decide), if_neg (show ¬ i3 16 = i3 13 by decide), if_pos (show zBo (i3 1) by decide)]; rfl)
          · rw [decide_eq_false c1, if_pos (show b3 false = i3 0 by decide)]; exact no (by omega) _ (by rw [if_pos (show zBo (i3 0) by decide)]; rfl)
        · rw [decide_eq_false c0, if_pos (show b3 false = i3 0 by decide)]
          exact no (by omega) _ (by rw [if_pos (show zBo (i3 0) by decide)]; rfl)
      · clear hk h
        rw [if_neg (show ¬ i3 17 = i3 12 by decide), if_neg (show ¬ i3 17 = i3 13 by decide), if_neg (show ¬ i3 17 = i3 14 by decide), if_neg (show ¬ i3 17 = i3 15 by decide), if_neg (show ¬ i3 17 = i3 16 by decide), if_pos (show i3 17 = i3 17 from rfl)]
        by_cases c0 : 0 ≤ c - 48 ∧ c - 48 ≤ 9
        · rw [decide_eq_true c0]
          rw [if_neg (show ¬ b3 true = i3 0 by decide)]
          rw [it_lt ⟨by decide, by decide⟩ ⟨by omega, by omega⟩]
          by_cases c1 : 6 < c - 48
          · rw [if_pos c1]; exact no (by omega) _ (by rw [if_pos (show zBo (i3 0) by decide)]; rfl)
          · rw [if_neg c1]; exact yes (by omega) _ (by rw [if_neg (show ¬ i3 1 = i3 0 by decide), if_neg (show ¬ i3 17 = i3 13 by decide), if_pos (show zBo (i3 1) by decide)]; rfl)
        · rw [decide_eq_false c0, if_pos (show b3 false = i3 0 by decide)]
          exact no (by omega) _ (by rw [if_pos (show zBo (i3 0) by decide)]; rfl)
      · clear hk h
        rw [if_neg (show ¬ i3 18 = i3 12 by decide), if_neg (show ¬ i3 18 = i3 13 by decide), if_neg (show ¬ i3 18 = i3 14 by decide), if_neg (show ¬ i3 18 = i3 15 by decide), if_neg (show ¬ i3 18 = i3 16 by decide), if_neg (show ¬ i3 18 = i3 17 by decide), if_pos (show i3 18 = i3 18 from rfl)]
        by_cases c0 : 0 ≤ c - 48 ∧ c - 48 ≤ 9
        · rw [decide_eq_true c0]
          rw [if_neg (show ¬ b3 true = i3 0 by decide)]
          rw [it_lt ⟨by decide, by decide⟩ ⟨by omega, by omega⟩]
          by_cases c1 : 1 < c - 48
          · rw [if_pos c1]; exact no (by omega) _ (by rw [if_pos (show zBo (i3 0) by decide)]; rfl)
          · rw [if_neg c1]; exact yes (by omega) _ (by rw [if_neg (show ¬ i3 1 = i3 0 by decide), if_neg (show ¬ i3 18 = i3 13 by decide), if_pos (show zBo (i3 1) by decide)]; rfl)
        · rw [decide_eq_false c0, if_pos (show b3 false = i3 0 by decide)]
          exact no (by omega) _ (by rw [if_pos (show zBo (i3 0) by decide)]; rfl)
      · clear hk h
        rw [if_neg (show ¬ i3 19 = i3 12 by decide), if_neg (show ¬ i3 19 = i3 13 by decide), if_neg (show ¬ i3 19 = i3 14 by decide), if_neg (show ¬ i3 19 = i3 15 by decide), if_neg (show ¬ i3 19 = i3 16 by decide), if_neg (show ¬ i3 19 = i3 17 by decide), if_neg (show ¬ i3 19 = i3 18 by decide)]
        by_cases c0 : 0 ≤ c - 48 ∧ c - 48 ≤ 9
        · rw [decide_eq_true c0, show b3 true = i3 1 from by decide]
          exact yes (by omega) _ (by rw [if_neg (show ¬ i3 1 = i3 0 by decide), if_neg (show ¬ i3 19 = i3 13 by decide), if_pos (show zBo (i3 1) by decide)]; rfl)
        · rw [decide_eq_false c0, show b3 false = i3 0 from by decide]
          exact no (by omega) _ (by rw [if_pos (show zBo (i3 0) by decide)]; rfl)
    rw [kDg_eq, g14, show (48 : Int32) = i3 48 from rfl, i3_sub, show (0 : Int32) = i3 0 from rfl, show (1 : Int32) = i3 1 from rfl, it_eq ⟨by omega, by omega⟩ ⟨by decide, by decide⟩]
    by_cases q0 : mo = 0
    · rw [if_pos q0]
      exact core 1 (by rw [if_pos q0] at hL ⊢; exact hL)
    · rw [if_neg q0]
      exact core mo (by rw [if_neg q0] at hL ⊢; exact hL)
  rw [e, wB_b] at hk
  refine ⟨fun q => ?_, fun q => ?_⟩
  · have : b = true := hb.mpr q
    subst this
    exact ⟨_, by rw [hk]; rfl, done _⟩
  · have : b = false := by
      cases b
      · rfl
      · exact absurd (hb.mp rfl) q
    subst this
    exact ⟨_, by rw [hk]; rfl, h.qf⟩
end KT2
