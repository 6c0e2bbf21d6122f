/-! THE REFERENCE'S READING: what a sign does -/
def kT (p1 : Int32) (m1 : Mm) : Option (Int32 × Mm) :=
  if (zI m1 201 6) = 0 then
    some (0, m1)
  else
    if zIn ((zI m1 201 6) - 1) 500 then
      zLet (zI m1 203 (zIx ((zI m1 201 6) - 1))) fun x3 =>
      if x3 = 0 then
        zBI (f_Mod_takesStart p1 m1) fun v34 m33 =>
        if zBo v34 then some (v34, m33) else none
      else
        zLet (zBI (f_Mod_takesStep p1 m1) fun v8 m7 =>
        if zBo v8 then some (v8, m7) else none) fun j6 =>
        if x3 = 1 then
          j6
        else
          if x3 = 2 then
            j6
          else
            if x3 = 3 then
              zBI (f_Mod_takesCondition p1 m1) fun v32 m31 =>
              if zBo v32 then some (v32, m31) else none
            else
              if x3 = 20 then
                zBI (f_Mod_takesAsk p1 m1) fun v30 m29 =>
                if zBo v30 then some (v30, m29) else none
              else
                if x3 = 11 then
                  zBI (f_Mod_takesNumber p1 m1) fun v28 m27 =>
                  if zBo v28 then some (v28, m27) else none
                else
                  if x3 = 6 then
                    if zIn ((zI m1 201 8) - 1) 100 then
                      zLet (zI m1 205 (zIx ((zI m1 201 8) - 1))) fun x21 =>
                      zLet (wI m1 201 8 ((zI m1 201 8) - 1)) fun m22 =>
                      zBV (f_Mod_jumps 18 m22) fun m23 =>
                      if zIn x21 80 then
                        zLet (wI m23 207 (zIx x21) (zI m23 201 11)) fun m24 =>
                        if zIn ((zI m24 201 6) - 1) 500 then
                          zLet (wI m24 203 (zIx ((zI m24 201 6) - 1)) 7) fun m25 =>
                          zBV (f_Mod_push 2 0 m25) fun m26 =>
                          some (1, m26)
                        else none
                      else none
                    else none
                  else
                    zLet (zBI (f_Mod_takesMark x3 p1 m1) fun v17 m16 =>
                    if zBo v17 then some (v17, m16) else none) fun j15 =>
                    if x3 < 12 then
                      j15
                    else
                      if 19 < x3 then
                        j15
                      else
                        zBI (f_Mod_takesDigit x3 p1 m1) fun v20 m19 =>
                        if zBo v20 then some (v20, m19) else none
    else none
theorem e_takes (p1 : Int32) (m : Mm) : f_Mod_takes p1 m = zBV (f_Mod_leaves p1 m) (kT p1) := by
  unfold f_Mod_takes kT
  rfl

def LV (f : Nat) (c : Int) (M : Mm) : Option Mm := zLp1 (l_Mod_leaves_0 (i3 c)) f (i3 1) M
theorem LV_eq (c : Int) (M : Mm) : f_Mod_leaves (i3 c) M = LV zFu c M := by
  rw [e_Mod_leaves, i3_o]
  rfl
section LVS
variable {m M : Mm} {S : List (Int × Int)} {J : List Int} {C : Cx} {ar dg mo : Int} {D : Bool} {sm nu dn : Int} {c : Int}
theorem mp_18 (h : RQ m S J C ar dg mo D sm nu dn M) : zI M 201 18 = i3 dn ∧ zI M 201 17 = i3 nu ∧ zI M 201 16 = i3 sm ∧ zI M 201 6 = i3 S.length := by
  obtain ⟨F3, F4, F5, F6, F7, rfl, h1, h2, h3⟩ := h
  exact ⟨rfl, rfl, rfl, rfl⟩
theorem lv_zero (R : Int32 → Mm → Option Mm) : l_Mod_leaves_0 (i3 c) R (i3 0) M = some M := by
  unfold l_Mod_leaves_0
  exact if_pos (by decide)
theorem LV_nil (h : RQ m [] J C ar dg mo D sm nu dn M) (f : Nat) : LV (f + 1) c M = some M := by
  show l_Mod_leaves_0 (i3 c) (zLp1 (l_Mod_leaves_0 (i3 c)) f) (i3 1) M = some M
  generalize zLp1 (l_Mod_leaves_0 (i3 c)) f = R
  unfold l_Mod_leaves_0
  rw [if_neg (by decide), (mp_18 h).2.2.2, if_pos (by decide)]
/-- one turn -/
theorem lv_turn {q : Int × Int} (h : RQ m (q :: S) J C ar dg mo D sm nu dn M) (hS : S.length < 490) (hc : 0 ≤ c ∧ c ≤ 126) (hd : 0 ≤ dn ∧ dn ≤ 3) (R : Int32 → Mm → Option Mm) : l_Mod_leaves_0 (i3 c) R (i3 1) M =
    if q.1 = 11 ∧ 0 < dn ∧ ¬ (48 ≤ c ∧ c ≤ 57) then R (i3 1) (wI (wI M 201 16 (i3 sm + i3 q.2 * i3 nu)) 201 6 (i3 S.length))
    else if q.1 = 6 ∧ c ≠ 123 then (zBV (f_Mod_lands M) fun m17 => R (i3 1) (wI m17 201 6 (zI m17 201 6 - 1)))
    else if q.1 = 2 ∧ c = 125 then (zBV (f_Mod_endsDays M) fun m14 => R (i3 0) (wI m14 201 6 (zI m14 201 6 - 1)))
    else R (i3 0) M := by
  obtain ⟨t1, t2, t3, t4, t5⟩ := mp_top h (by omega)
  obtain ⟨u1, u2, u3, -⟩ := mp_18 h
  obtain ⟨p1, -⟩ := mp_pop h
  have w6 : zI (wI M 201 16 (i3 sm + i3 q.2 * i3 nu)) 201 6 = zI M 201 6 := zI_nk (by decide)
  have hI := mod_isIn (a := c) (b := 48) (c := 57) (by omega) (by omega) (by omega) M
  unfold l_Mod_leaves_0
  rw [if_neg (show ¬ i3 1 = 0 by decide), if_neg (show ¬ zI M 201 6 ≤ 0 by rw [t1, show (0 : Int32) = i3 0 from rfl, i3_le ⟨by omega, by omega⟩ ⟨by decide, by decide⟩]; omega), if_pos t2]
  rw [p1] at t2 t3 t4
  rw [i3_o] at p1
  simp only [zLet, i3_lit]
  simp only [t3, t4, hI, zBP_some, u1, u2, u3, b3_i0, if_pos t2, w6, p1]
  simp (disch := omega) only [i3_eq, i3_le]
  by_cases c11 : q.1 = 11
  · simp only [if_pos c11]
    by_cases cd : dn ≤ 0
    · simp only [if_pos cd, if_neg (show ¬ (q.1 = 11 ∧ 0 < dn ∧ ¬ (48 ≤ c ∧ c ≤ 57)) by omega), if_neg (show ¬ q.1 = 6 by omega), if_neg (show ¬ q.1 = 2 by omega), if_neg (show ¬ (q.1 = 6 ∧ c ≠ 123) by omega), if_neg (show ¬ (q.1 = 2 ∧ c = 125) by omega)]
    · by_cases cg : 48 ≤ c ∧ c ≤ 57
      · simp only [if_neg cd, decide_eq_true cg, if_neg (show ¬ (true = false) by decide), if_neg (show ¬ (q.1 = 11 ∧ 0 < dn ∧ ¬ (48 ≤ c ∧ c ≤ 57)) by omega), if_neg (show ¬ q.1 = 6 by omega), if_neg (show ¬ q.1 = 2 by omega), if_neg (show ¬ (q.1 = 6 ∧ c ≠ 123) by omega), if_neg (show ¬ (q.1 = 2 ∧ c = 125) by omega)]
      · simp only [if_neg cd, decide_eq_false cg, if_true, if_pos (show (q.1 = 11 ∧ 0 < dn ∧ ¬ (48 ≤ c ∧ c ≤ 57)) by omega)]
  · simp only [if_neg c11, if_neg (show ¬ (q.1 = 11 ∧ 0 < dn ∧ ¬ (48 ≤ c ∧ c ≤ 57)) by omega)]
    by_cases c6 : q.1 = 6
    · by_cases cc : c = 123
      · simp only [if_pos c6, if_pos cc, if_neg (show ¬ q.1 = 2 by omega), if_neg (show ¬ (q.1 = 6 ∧ c ≠ 123) by omega), if_neg (show ¬ (q.1 = 2 ∧ c = 125) by omega)]
      · simp only [if_pos c6, if_neg cc, if_pos (show (q.1 = 6 ∧ c ≠ 123) by omega)]
    · by_cases c2 : q.1 = 2
      · by_cases cc : c = 125
        · simp only [if_neg c6, if_pos c2, if_pos cc, if_neg (show ¬ (q.1 = 6 ∧ c ≠ 123) by omega), if_pos (show (q.1 = 2 ∧ c = 125) by omega)]
        · simp only [if_neg c6, if_pos c2, if_neg cc, if_neg (show ¬ (q.1 = 6 ∧ c ≠ 123) by omega), if_neg (show ¬ (q.1 = 2 ∧ c = 125) by omega)]
      · simp only [if_neg c6, if_neg c2, if_neg (show ¬ (q.1 = 6 ∧ c ≠ 123) by omega), if_neg (show ¬ (q.1 = 2 ∧ c = 125) by omega)]
theorem LV_one {q : Int × Int} (h : RQ m (q :: S) J C ar dg mo D sm nu dn M) (hS : S.length < 490) (hc : 0 ≤ c ∧ c ≤ 126) (hd : 0 ≤ dn ∧ dn ≤ 3) (f : Nat) : LV (f + 1) c M =
    if q.1 = 11 ∧ 0 < dn ∧ ¬ (48 ≤ c ∧ c ≤ 57) then LV f c (wI (wI M 201 16 (i3 sm + i3 q.2 * i3 nu)) 201 6 (i3 S.length))
    else if q.1 = 6 ∧ c ≠ 123 then (zBV (f_Mod_lands M) fun m17 => LV f c (wI m17 201 6 (zI m17 201 6 - 1)))
    else if q.1 = 2 ∧ c = 125 then (zBV (f_Mod_endsDays M) fun m14 => zLp1 (l_Mod_leaves_0 (i3 c)) f (i3 0) (wI m14 201 6 (zI m14 201 6 - 1)))
    else zLp1 (l_Mod_leaves_0 (i3 c)) f (i3 0) M := lv_turn h hS hc hd _
theorem LV_id {q : Int × Int} (h : RQ m (q :: S) J C ar dg mo D sm nu dn M) (hS : S.length < 490) (hc : 0 ≤ c ∧ c ≤ 126) (hd : 0 ≤ dn ∧ dn ≤ 3) (h1 : ¬ (q.1 = 11 ∧ 0 < dn ∧ ¬ (48 ≤ c ∧ c ≤ 57))) (h2 : ¬ (q.1 = 6 ∧ c ≠ 123)) (h3 : ¬ (q.1 = 2 ∧ c = 125)) (f : Nat) : LV (f + 2) c M = some M := by
  rw [LV_one h hS hc hd, if_neg h1, if_neg h2, if_neg h3]
  exact lv_zero _
theorem LV_end {q : Int × Int} (h : RQ m (q :: S) J C ar dg mo D sm nu dn M) (hS : S.length < 490) (hc : c = 125) (hd : 0 ≤ dn ∧ dn ≤ 3) (h2 : q.1 = 2) (f : Nat) : LV (f + 2) c M = zBV (f_Mod_endsDays M) fun m14 => some (wI m14 201 6 (zI m14 201 6 - 1)) := by
  rw [LV_one h hS (by omega) hd, if_neg (by omega), if_neg (by omega), if_pos ⟨h2, hc⟩]
  refine congrArg (zBV _) (funext fun m14 => ?_)
  exact lv_zero _
/-- at steps the fuel doesn't count -/
theorem LV_fuel {t x : Int} (ht : t = 1 ∨ t = 2) (h : RQ m ((t, x) :: S) J C ar dg mo D sm nu dn M) (hS : S.length < 490) (hc : 0 ≤ c ∧ c ≤ 126) (hd : 0 ≤ dn ∧ dn ≤ 3) (f g : Nat) : LV (f + 2) c M = LV (g + 2) c M := by
  by_cases q : t = 2 ∧ c = 125
  · rw [LV_end h hS q.2 hd q.1, LV_end h hS q.2 hd q.1]
  · rw [LV_id h hS hc hd (by omega) (by omega) q, LV_id h hS hc hd (by omega) (by omega) q]
end LVS
def nE : List (Int × Int) → Nat
  | [] => 0
  | q :: S => nE S + if q.1 = 10 then 1 else 0
/-- what needs no sign is done -/
def acS : List (Int × Int) → Int → Cx → List (Int × Int) × Int × Cx
  | [], ar, C => ([], ar, C)
  | q :: S, ar, C => if q.1 = 10 then acS S 0 (C ++ [(q.2, ar)]) else (q :: S, ar, C)
theorem acts_loop {m : Mm} {J : List Int} {dg mo : Int} {D : Bool} {sm nu dn : Int} : ∀ (S : List (Int × Int)) (C : Cx) (ar : Int) (M : Mm) (f : Nat), RQ m S J C ar dg mo D sm nu dn M → S.length < f → S.length < 490 → C.length + nE S ≤ 79 →
    ∃ M', zLp0 l_Mod_acts_0 f M = some M' ∧ RQ m (acS S ar C).1 J (acS S ar C).2.2 (acS S ar C).2.1 dg mo D sm nu dn M' := by
  intro S
  induction S with
  | nil =>
    intro C ar M f h hf _ _
    obtain ⟨g, rfl⟩ : ∃ g, f = g + 1 := ⟨f - 1, by simp at hf; omega⟩
    refine ⟨M, ?_, h⟩
    show l_Mod_acts_0 (zLp0 l_Mod_acts_0 g) M = some M
    generalize zLp0 l_Mod_acts_0 g = R
    unfold l_Mod_acts_0
    rw [(mp_18 h).2.2.2, if_pos (by decide)]
  | cons q S ih =>
    intro C ar M f h hf hS hC
    obtain ⟨g, rfl⟩ : ∃ g, f = g + 1 := ⟨f - 1, by simp at hf; omega⟩
    simp only [List.length_cons] at hf hS
    unfold nE at hC
    obtain ⟨t1, t2, t3, t4, t5⟩ := mp_top h (by omega)
    obtain ⟨p1, p2⟩ := mp_pop h
    show ∃ M', l_Mod_acts_0 (zLp0 l_Mod_acts_0 g) M = some M' ∧ _
    have key : ∀ R : Mm → Option Mm, l_Mod_acts_0 R M = if q.1 = 10 then (zBV (f_Mod_emits (i3 q.2) (i3 ar) (wI M 201 6 (i3 S.length))) fun m11 => R (wI m11 201 12 0)) else some M := by
      intro R
      have hix : zIx (i3 (S.length : Int)) = S.length := by rw [i3_ix ⟨by omega, by omega⟩, Int.toNat_natCast]
      have hin : zIn (i3 (S.length : Int)) 500 := (i3_in ⟨by omega, by omega⟩).mpr ⟨by omega, by omega⟩
      have e6 : zI (wI M 201 6 (i3 S.length)) 201 6 = i3 S.length := zI_eq
      have e4 : zI (wI M 201 6 (i3 S.length)) 204 S.length = i3 q.2 := by
        rw [zI_ne (by decide), ← hix, ← p1]
        exact t4
      have e12 : zI (wI M 201 6 (i3 S.length)) 201 12 = i3 ar := by
        rw [zI_nk (by decide)]
        obtain ⟨F3, F4, F5, F6, F7, rfl, -⟩ := h
        rfl
      unfold l_Mod_acts_0
      rw [if_neg (show ¬ zI M 201 6 ≤ 0 by rw [t1, show (0 : Int32) = i3 0 from rfl, i3_le ⟨by omega, by omega⟩ ⟨by decide, by decide⟩]; omega), if_pos t2, t3]
      simp only [zLet, p1, e6, if_pos hin, hix, e4, e12]
      rw [show (10 : Int32) = i3 10 from rfl, it_eq ⟨by omega, by omega⟩ ⟨by decide, by decide⟩]
    rw [key]
    unfold acS
    by_cases c10 : q.1 = 10
    · rw [if_pos c10] at hC
      rw [if_pos c10, if_pos c10]
      obtain ⟨M1, e1, h1⟩ := mp_emits p2 (by omega) (k := q.2) (x := ar)
      rw [e1, zBV_some]
      refine ih (C ++ [(q.2, ar)]) 0 _ g ?_ (by omega) (by omega) (by simp; omega)
      obtain ⟨F3, F4, F5, F6, F7, rfl, z1, z2, z3⟩ := h1
      exact ⟨F3, F4, F5, F6, F7, by rw [qM_w12]; rfl, z1, z2, z3⟩
    · rw [if_neg c10, if_neg c10]
      exact ⟨M, rfl, h⟩
theorem mp_acts {m M : Mm} {S : List (Int × Int)} {J : List Int} {C : Cx} {ar dg mo : Int} {D : Bool} {sm nu dn : Int} (h : RQ m S J C ar dg mo D sm nu dn M) (hS : S.length < 490) (hC : C.length + nE S ≤ 79) : ∃ M', f_Mod_acts M = some M' ∧ RQ m (acS S ar C).1 J (acS S ar C).2.2 (acS S ar C).2.1 dg mo D sm nu dn M' := by
  have e : ∀ (K : Mm → Option Mm), K = zLp0 l_Mod_acts_0 zFu → f_Mod_acts M = l_Mod_acts_0 K M := by
    intro K hK
    rw [e_Mod_acts, ← hK]
    unfold l_Mod_acts_0
    rfl
  have := acts_loop S C ar M (zFu + 1) h (by unfold zFu; omega) hS hC
  rw [e _ rfl]
  exact this
