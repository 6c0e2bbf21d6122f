/-! THE REFERENCE'S READING: marks and a rule's first sign -/
section KT3
variable {m M : Mm} {S : List (Int × Int)} {J : List Int} {C : Cx} {ar dg mo : Int} {D : Bool} {sm nu dn : Int} {c : Int}
theorem kt_mk {w x : Int} (hw : w = 4 ∨ w = 5 ∨ w = 7 ∨ w = 8 ∨ w = 9 ∨ w = 21 ∨ w = 22) (h : RQ m ((w, x) :: S) J C ar dg mo D sm nu dn M) (hS : S.length < 460) : kT (i3 c) M = wB (f_Mod_takesMark (i3 w) (i3 c) M) := by
  have hk := kT_eq (c := c) h (by omega)
  simp only [if_neg (show ¬ w = 0 by omega), if_neg (show ¬ (w = 1 ∨ w = 2) by omega), if_neg (show ¬ w = 3 by omega), if_neg (show ¬ w = 20 by omega), if_neg (show ¬ w = 11 by omega), if_neg (show ¬ w = 6 by omega), if_neg (show ¬ (12 ≤ w ∧ w ≤ 19) by omega)] at hk
  exact hk
theorem kt_m4 {x : Int} (h : RQ m ((4, x) :: S) J C ar dg mo D sm nu dn M) (hS : S.length < 460) (hJ : J.length < 95) (hC : C.length < 80) (hc : 0 ≤ c ∧ c ≤ 126) :
    if c = 123 then KO m c M S ((C.length : Int) :: J) (C ++ [(19, 0)]) ar dg mo D sm nu dn else KN m c dg mo nu dn M := by
  have hk := kt_mk (c := c) (by omega) h hS
  have hp := (mp_pop h).2
  have e : f_Mod_takesMark (i3 4) (i3 c) M = if c = 123 then (zBV (f_Mod_jumps (i3 19) (wI M 201 6 (i3 S.length))) fun m44 => some (i3 1, m44)) else some (i3 0, M) := by
    unfold f_Mod_takesMark
    simp only [zLet]
    simp only [show (i3 4 = 4) = True from eq_true (by decide), show (i3 4 = 5) = False from eq_false (by decide), show (i3 4 = 7) = False from eq_false (by decide), show (i3 4 = 8) = False from eq_false (by decide), show (i3 4 = 9) = False from eq_false (by decide), show (i3 4 = 21) = False from eq_false (by decide), show (i3 4 = 22) = False from eq_false (by decide), reduceIte]
    simp only [zLet, mp_popw h]
    simp only [i3_lit]
    simp (disch := omega) only [i3_eq]
  rw [e] at hk
  by_cases q : c = 123
  · rw [if_pos q] at hk ⊢
    obtain ⟨M1, e1, h1⟩ := mp_jumps hp (by omega) hC (k := 19)
    exact ⟨M1, by rw [hk, e1, zBV_some, wB_1], h1⟩
  · rw [if_neg q] at hk ⊢
    exact ⟨M, by rw [hk, wB_0], h.qf⟩
theorem kt_m5 {x : Int} (h : RQ m ((5, x) :: S) J C ar dg mo D sm nu dn M) (hS : S.length < 460) (hc : 0 ≤ c ∧ c ≤ 126) :
    if c = 125 then KO m c M S J C ar dg mo D sm nu dn else KN m c dg mo nu dn M := by
  have hk := kt_mk (c := c) (by omega) h hS
  have hp := (mp_pop h).2
  have e : f_Mod_takesMark (i3 5) (i3 c) M = if c = 125 then some (i3 1, wI M 201 6 (i3 S.length)) else some (i3 0, M) := by
    unfold f_Mod_takesMark
    simp only [zLet]
    simp only [show (i3 5 = 4) = False from eq_false (by decide), show (i3 5 = 5) = True from eq_true (by decide), show (i3 5 = 7) = False from eq_false (by decide), show (i3 5 = 8) = False from eq_false (by decide), show (i3 5 = 9) = False from eq_false (by decide), show (i3 5 = 21) = False from eq_false (by decide), show (i3 5 = 22) = False from eq_false (by decide), reduceIte]
    simp only [zLet, mp_popw h]
    simp only [i3_lit]
    simp (disch := omega) only [i3_eq]
  rw [e] at hk
  by_cases q : c = 125
  · rw [if_pos q] at hk ⊢
    exact ⟨_, by rw [hk, wB_1], hp⟩
  · rw [if_neg q] at hk ⊢
    exact ⟨M, by rw [hk, wB_0], h.qf⟩
theorem kt_m7 {x k y : Int} {A B : Cx} (h : RQ m ((7, x) :: S) ((A.length : Int) :: J) (A ++ [(k, y)] ++ B) ar dg mo D sm nu dn M) (hS : S.length < 460) (hJ : J.length < 95) (hC : A.length < 80) (hc : 0 ≤ c ∧ c ≤ 126) :
    if c = 125 then KO m c M S J (A ++ [(k, ((A.length + 1 + B.length : Nat) : Int))] ++ B) ar dg mo D sm nu dn else KN m c dg mo nu dn M := by
  have hk := kt_mk (c := c) (by omega) h hS
  have hp := (mp_pop h).2
  have e : f_Mod_takesMark (i3 7) (i3 c) M = if c = 125 then (zBV (f_Mod_lands (wI M 201 6 (i3 S.length))) fun m40 => some (i3 1, m40)) else some (i3 0, M) := by
    unfold f_Mod_takesMark
    simp only [zLet]
    simp only [show (i3 7 = 4) = False from eq_false (by decide), show (i3 7 = 5) = False from eq_false (by decide), show (i3 7 = 7) = True from eq_true (by decide), show (i3 7 = 8) = False from eq_false (by decide), show (i3 7 = 9) = False from eq_false (by decide), show (i3 7 = 21) = False from eq_false (by decide), show (i3 7 = 22) = False from eq_false (by decide), reduceIte]
    simp only [zLet, mp_popw h]
    simp only [i3_lit]
    simp (disch := omega) only [i3_eq]
  rw [e] at hk
  by_cases q : c = 125
  · rw [if_pos q] at hk ⊢
    obtain ⟨M1, e1, h1⟩ := mp_lands hp (by omega) hC
    exact ⟨M1, by rw [hk, e1, zBV_some, wB_1], h1⟩
  · rw [if_neg q] at hk ⊢
    exact ⟨M, by rw [hk, wB_0], h.qf⟩
theorem kt_m8 {x : Int} (h : RQ m ((8, x) :: S) J C ar dg mo D sm nu dn M) (hS : S.length < 460) (hJ : J.length < 95) (hC : C.length < 80) (hc : 0 ≤ c ∧ c ≤ 126) :
    if c = 38 ∨ c = 124 then KO m c M S ((C.length : Int) :: J) (C ++ [(if c = 38 then 19 else 20, 0)]) ar dg mo D sm nu dn else KN m c dg mo nu dn M := by
  have hk := kt_mk (c := c) (by omega) h hS
  have hp := (mp_pop h).2
  have e : f_Mod_takesMark (i3 8) (i3 c) M = if c = 38 then (zBV (f_Mod_jumps (i3 19) (wI M 201 6 (i3 S.length))) fun m44 => some (i3 1, m44)) else if c = 124 then (zBV (f_Mod_jumps (i3 20) (wI M 201 6 (i3 S.length))) fun m44 => some (i3 1, m44)) else some (i3 0, M) := by
    unfold f_Mod_takesMark
    simp only [zLet]
    simp only [show (i3 8 = 4) = False from eq_false (by decide), show (i3 8 = 5) = False from eq_false (by decide), show (i3 8 = 7) = False from eq_false (by decide), show (i3 8 = 8) = True from eq_true (by decide), show (i3 8 = 9) = False from eq_false (by decide), show (i3 8 = 21) = False from eq_false (by decide), show (i3 8 = 22) = False from eq_false (by decide), reduceIte]
    simp only [zLet, mp_popw h]
    simp only [i3_lit]
    simp (disch := omega) only [i3_eq]
    by_cases q : c = 38
    · simp only [if_pos q]
    · simp only [if_neg q]
  rw [e] at hk
  by_cases q : c = 38
  · rw [if_pos q] at hk
    rw [if_pos (Or.inl q), if_pos q]
    obtain ⟨M1, e1, h1⟩ := mp_jumps hp (by omega) hC (k := 19)
    exact ⟨M1, by rw [hk, e1, zBV_some, wB_1], h1⟩
  by_cases q2 : c = 124
  · rw [if_neg q, if_pos q2] at hk
    rw [if_pos (Or.inr q2), if_neg q]
    obtain ⟨M1, e1, h1⟩ := mp_jumps hp (by omega) hC (k := 20)
    exact ⟨M1, by rw [hk, e1, zBV_some, wB_1], h1⟩
  · rw [if_neg q, if_neg q2] at hk
    rw [if_neg (by omega)]
    exact ⟨M, by rw [hk, wB_0], h.qf⟩
theorem kt_m9 {x k y : Int} {A B : Cx} (h : RQ m ((9, x) :: S) ((A.length : Int) :: J) (A ++ [(k, y)] ++ B) ar dg mo D sm nu dn M) (hS : S.length < 460) (hJ : J.length < 95) (hC : A.length < 80) (hc : 0 ≤ c ∧ c ≤ 126) :
    if c = 41 then KO m c M S J (A ++ [(k, ((A.length + 1 + B.length : Nat) : Int))] ++ B) ar dg mo D sm nu dn else KN m c dg mo nu dn M := by
  have hk := kt_mk (c := c) (by omega) h hS
  have hp := (mp_pop h).2
  have e : f_Mod_takesMark (i3 9) (i3 c) M = if c = 41 then (zBV (f_Mod_lands (wI M 201 6 (i3 S.length))) fun m40 => some (i3 1, m40)) else some (i3 0, M) := by
    unfold f_Mod_takesMark
    simp only [zLet]
    simp only [show (i3 9 = 4) = False from eq_false (by decide), show (i3 9 = 5) = False from eq_false (by decide), show (i3 9 = 7) = False from eq_false (by decide), show (i3 9 = 8) = False from eq_false (by decide), show (i3 9 = 9) = True from eq_true (by decide), show (i3 9 = 21) = False from eq_false (by decide), show (i3 9 = 22) = False from eq_false (by decide), reduceIte]
    simp only [zLet, mp_popw h]
    simp only [i3_lit]
    simp (disch := omega) only [i3_eq]
  rw [e] at hk
  by_cases q : c = 41
  · rw [if_pos q] at hk ⊢
    obtain ⟨M1, e1, h1⟩ := mp_lands hp (by omega) hC
    exact ⟨M1, by rw [hk, e1, zBV_some, wB_1], h1⟩
  · rw [if_neg q] at hk ⊢
    exact ⟨M, by rw [hk, wB_0], h.qf⟩
theorem kt_m21 {x : Int} (h : RQ m ((21, x) :: S) J C ar dg mo D sm nu dn M) (hS : S.length < 460) (hJ : J.length < 95) (hc : 0 ≤ c ∧ c ≤ 126) :
    if c = 38 ∨ c = 124 then KO m c M S ((if c = 38 then 7 else 8) :: J) C ar dg mo D sm nu dn else KN m c dg mo nu dn M := by
  have hk := kt_mk (c := c) (by omega) h hS
  have hin : zIn (i3 (J.length : Int)) 100 := (i3_in ⟨by omega, by omega⟩).mpr ⟨by omega, by omega⟩
  have hix : zIx (i3 (J.length : Int)) = J.length := by rw [i3_ix ⟨by omega, by omega⟩, Int.toNat_natCast]
  have g8 : zI M 201 8 = i3 J.length := by
    obtain ⟨F3, F4, F5, F6, F7, rfl, -⟩ := h
    rfl
  have e : f_Mod_takesMark (i3 21) (i3 c) M = if c = 38 then some (i3 1, wI (wI (wI M 201 6 (i3 S.length)) 205 J.length (i3 7)) 201 8 (i3 (J.length + 1))) else if c = 124 then some (i3 1, wI (wI (wI M 201 6 (i3 S.length)) 205 J.length (i3 8)) 201 8 (i3 (J.length + 1))) else some (i3 0, M) := by
    unfold f_Mod_takesMark
    simp only [zLet]
    simp only [show (i3 21 = 4) = False from eq_false (by decide), show (i3 21 = 5) = False from eq_false (by decide), show (i3 21 = 7) = False from eq_false (by decide), show (i3 21 = 8) = False from eq_false (by decide), show (i3 21 = 9) = False from eq_false (by decide), show (i3 21 = 21) = True from eq_true (by decide), show (i3 21 = 22) = False from eq_false (by decide), reduceIte]
    simp only [zLet, mp_popw h]
    simp only [i3_lit]
    have g9 : zI (wI M 201 6 (i3 S.length)) 201 8 = i3 J.length := by rw [zI_nk (by decide), g8]
    have g10 : ∀ v, zI (wI (wI M 201 6 (i3 S.length)) 205 J.length v) 201 8 = i3 J.length := fun v => by rw [zI_ne (by decide), g9]
    simp only [g9, if_pos hin, hix, g10, i3_add]
    simp (disch := omega) only [i3_eq]
    by_cases q : c = 38
    · simp only [if_pos q]
    · simp only [if_neg q]
  have hr : ∀ v, RQ m S (v :: J) C ar dg mo D sm nu dn (wI (wI (wI M 201 6 (i3 S.length)) 205 J.length (i3 v)) 201 8 (i3 (J.length + 1))) := by
    intro v
    obtain ⟨F3, F4, F5, F6, F7, rfl, h1, h2, h3⟩ := h
    refine ⟨F3, F4, up F5 J.length (i3 v), F6, F7, ?_, h1.2, ⟨up_eq _ _ _, JA_up J _ (Nat.le_refl _) h2⟩, h3⟩
    rw [qM_w6, qM_a5, qM_w8]
    rw [show ((v :: J).length : Int) = (J.length : Int) + 1 from by simp]
  rw [e] at hk
  by_cases q : c = 38
  · rw [if_pos q] at hk
    rw [if_pos (Or.inl q), if_pos q]
    exact ⟨_, by rw [hk, wB_1], hr 7⟩
  by_cases q2 : c = 124
  · rw [if_neg q, if_pos q2] at hk
    rw [if_pos (Or.inr q2), if_neg q]
    exact ⟨_, by rw [hk, wB_1], hr 8⟩
  · rw [if_neg q, if_neg q2] at hk
    rw [if_neg (by omega)]
    exact ⟨M, by rw [hk, wB_0], h.qf⟩
theorem kt_m22 {x o : Int} (h : RQ m ((22, x) :: S) (o :: J) C ar dg mo D sm nu dn M) (hS : S.length < 460) (hJ : J.length < 95) (hC : C.length < 80) (hc : 0 ≤ c ∧ c ≤ 126) :
    if c = 41 then KO m c M S J (C ++ [(o, 0)]) ar dg mo D sm nu dn else KN m c dg mo nu dn M := by
  have hk := kt_mk (c := c) (by omega) h hS
  have hin : zIn (i3 (J.length : Int)) 100 := (i3_in ⟨by omega, by omega⟩).mpr ⟨by omega, by omega⟩
  have hix : zIx (i3 (J.length : Int)) = J.length := by rw [i3_ix ⟨by omega, by omega⟩, Int.toNat_natCast]
  have g8 : zI M 201 8 - 1 = i3 J.length := by
    obtain ⟨F3, F4, F5, F6, F7, rfl, -⟩ := h
    rw [qM_8, i3_sub1]
    congr 1
    simp
  have g5 : zI M 205 J.length = i3 o := by
    obtain ⟨F3, F4, F5, F6, F7, rfl, h1, h2, h3⟩ := h
    exact h2.1
  have g9 : zI (wI M 201 6 (i3 S.length)) 201 8 - 1 = i3 J.length := by rw [zI_nk (by decide), g8]
  have g10 : zI (wI (wI M 201 6 (i3 S.length)) 201 8 (i3 J.length)) 205 J.length = i3 o := by rw [zI_ne (by decide), zI_ne (by decide), g5]
  have e : f_Mod_takesMark (i3 22) (i3 c) M = if c = 41 then (zBV (f_Mod_emits (i3 o) (i3 0) (wI (wI M 201 6 (i3 S.length)) 201 8 (i3 J.length))) fun m40 => some (i3 1, m40)) else some (i3 0, M) := by
    unfold f_Mod_takesMark
    simp only [zLet]
    simp only [show (i3 22 = 4) = False from eq_false (by decide), show (i3 22 = 5) = False from eq_false (by decide), show (i3 22 = 7) = False from eq_false (by decide), show (i3 22 = 8) = False from eq_false (by decide), show (i3 22 = 9) = False from eq_false (by decide), show (i3 22 = 21) = False from eq_false (by decide), show (i3 22 = 22) = True from eq_true (by decide), reduceIte]
    simp only [zLet, mp_popw h, g9]
    simp only [zI_eq, if_pos hin, hix, g10]
    simp only [i3_lit]
    simp (disch := omega) only [i3_eq]
  rw [e] at hk
  by_cases q : c = 41
  · rw [if_pos q] at hk ⊢
    have hp : RQ m S J C ar dg mo D sm nu dn (wI (wI M 201 6 (i3 S.length)) 201 8 (i3 J.length)) := by
      obtain ⟨F3, F4, F5, F6, F7, rfl, h1, h2, h3⟩ := h
      exact ⟨F3, F4, F5, F6, F7, by rw [qM_w6, qM_w8], h1.2, h2.2, h3⟩
    obtain ⟨M1, e1, h1⟩ := mp_emits hp hC (k := o) (x := 0)
    exact ⟨M1, by rw [hk, e1, zBV_some, wB_1], h1⟩
  · rw [if_neg q] at hk ⊢
    exact ⟨M, by rw [hk, wB_0], h.qf⟩
def stN (c : Int) (S : List (Int × Int)) : List (Int × Int) :=
  if c = 68 then (12, 0) :: (13, 0) :: (14, 0) :: (15, 0) :: (10, 1) :: (1, 0) :: S else if c = 78 then (16, 0) :: (17, 0) :: (12, 0) :: (13, 0) :: (10, 2) :: (1, 0) :: S else if c = 76 then (17, 0) :: (12, 0) :: (13, 0) :: (10, 3) :: (1, 0) :: S else (18, 0) :: (19, 0) :: (10, 4) :: (1, 0) :: S
theorem kt_start {x : Int} (h : RQ m ((0, x) :: S) J C ar dg mo D sm nu dn M) (hS : S.length < 450) (hc : 0 ≤ c ∧ c ≤ 126) :
    if c = 68 ∨ c = 78 ∨ c = 76 ∨ c = 70 then KO m c M (stN c S) J C ar dg mo D sm nu dn else KN m c dg mo nu dn M := by
  have hk := kT_eq (c := c) h (by omega)
  simp only [Int.reduceEq, reduceIte, or_self] at hk
  obtain ⟨M0, e0, h0⟩ := mp_push (mp_pop h).2 (by omega) (w := 1) (i := 0) (by omega)
  have e : f_Mod_takesStart (i3 c) M = (fun m2 => if c = 68 then (zBV (f_Mod_push (i3 10) (i3 1) m2) fun m16 => zBV (f_Mod_pushDate m16) fun m17 => some (i3 1, m17))
      else if c = 78 then (zBV (f_Mod_push (i3 10) (i3 2) m2) fun m12 => zBV (f_Mod_pushMonth m12) fun m13 => zBV (f_Mod_push (i3 17) (i3 0) m13) fun m14 => zBV (f_Mod_push (i3 16) (i3 0) m14) fun m15 => some (i3 1, m15))
      else if c = 76 then (zBV (f_Mod_push (i3 10) (i3 3) m2) fun m9 => zBV (f_Mod_pushMonth m9) fun m10 => zBV (f_Mod_push (i3 17) (i3 0) m10) fun m11 => some (i3 1, m11))
      else if c = 70 then (zBV (f_Mod_push (i3 10) (i3 4) m2) fun m7 => zBV (f_Mod_pushFeast m7) fun m8 => some (i3 1, m8))
      else some (i3 0, m2)) M0 := by
    unfold f_Mod_takesStart
    simp only [zLet, mp_popw h]
    simp only [i3_lit]
    simp only [e0, zBV_some]
    simp (disch := omega) only [i3_eq]
  rw [e] at hk
  simp only at hk
  by_cases h68 : c = 68
  · rw [if_pos (by omega)]
    obtain ⟨M1, e1, h1⟩ := mp_push h0 (by simp; omega) (w := 10) (i := 1) (by omega)
    obtain ⟨M2, e2, h2⟩ := mp_date h1 (by simp; omega)
    refine ⟨M2, ?_, by unfold stN; rw [if_pos h68]; exact h2⟩
    rw [hk, if_pos h68, e1, zBV_some, e2, zBV_some, wB_1]
  by_cases h78 : c = 78
  · rw [if_pos (by omega)]
    obtain ⟨M1, e1, h1⟩ := mp_push h0 (by simp; omega) (w := 10) (i := 2) (by omega)
    obtain ⟨M2, e2, h2⟩ := mp_month h1 (by simp; omega)
    obtain ⟨M3, e3, h3⟩ := mp_push h2 (by simp; omega) (w := 17) (i := 0) (by omega)
    obtain ⟨M4, e4, h4⟩ := mp_push h3 (by simp; omega) (w := 16) (i := 0) (by omega)
    refine ⟨M4, ?_, by unfold stN; rw [if_neg h68, if_pos h78]; exact h4⟩
    rw [hk, if_neg h68, if_pos h78, e1, zBV_some, e2, zBV_some, e3, zBV_some, e4, zBV_some, wB_1]
  by_cases h76 : c = 76
  · rw [if_pos (by omega)]
    obtain ⟨M1, e1, h1⟩ := mp_push h0 (by simp; omega) (w := 10) (i := 3) (by omega)
    obtain ⟨M2, e2, h2⟩ := mp_month h1 (by simp; omega)
    obtain ⟨M3, e3, h3⟩ := mp_push h2 (by simp; omega) (w := 17) (i := 0) (by omega)
    refine ⟨M3, ?_, by unfold stN; rw [if_neg h68, if_neg h78, if_pos h76]; exact h3⟩
    rw [hk, if_neg h68, if_neg h78, if_pos h76, e1, zBV_some, e2, zBV_some, e3, zBV_some, wB_1]
  by_cases h70 : c = 70
  · rw [if_pos (by omega)]
    obtain ⟨M1, e1, h1⟩ := mp_push h0 (by simp; omega) (w := 10) (i := 4) (by omega)
    obtain ⟨M2, e2, h2⟩ := mp_feast h1 (by simp; omega)
    refine ⟨M2, ?_, by unfold stN; rw [if_neg h68, if_neg h78, if_neg h76]; exact h2⟩
    rw [hk, if_neg h68, if_neg h78, if_neg h76, if_pos h70, e1, zBV_some, e2, zBV_some, wB_1]
  · rw [if_neg (by omega)]
    refine ⟨M0, ?_, h0.qf⟩
    rw [hk, if_neg h68, if_neg h78, if_neg h76, if_neg h70, wB_0]
end KT3
