/-! THE REFERENCE'S READING: each thing that may be to come, and the signs -/
def MT (m : Mm) (T : List Int) : Prop := T.length ≤ 40 ∧ zI m 201 3 = i3 T.length ∧ (∀ i, i < T.length → zI m 202 i = i3 (T.getD i 0)) ∧ ∀ c ∈ T, 33 ≤ c ∧ c ≤ 126
def wB (res : Option (Int32 × Mm)) : Option (Int32 × Mm) := zBI res fun v m => if zBo v then some (v, m) else none
theorem wB_b {b : Bool} {M : Mm} : wB (some (b3 b, M)) = some (b3 b, M) := by
  unfold wB
  rw [zBI_some, if_pos (b3_bo b)]
theorem wB_1 {M : Mm} : wB (some (i3 1, M)) = some (i3 1, M) := wB_b (b := true)
theorem wB_0 {M : Mm} : wB (some (i3 0, M)) = some (i3 0, M) := wB_b (b := false)
def kElse (m1 : Mm) : Option (Int32 × Mm) :=
  if zIn ((zI m1 201 8) - 1) 100 then
    zLet (zI m1 205 (zIx ((zI m1 201 8) - 1))) fun x21 =>
    zLet (wI m1 201 8 ((zI m1 201 8) - 1)) fun m22 =>
    zBV (f_Mod_jumps 18 m22) fun m23 =>
    if zIn x21 80 then
      zLet (wI m23 207 (zIx x21) (zI m23 201 11)) fun m24 =>
      if zIn ((zI m24 201 6) - 1) 500 then
        zLet (wI m24 203 (zIx ((zI m24 201 6) - 1)) 7) fun m25 =>
        zBV (f_Mod_push 2 0 m25) fun m26 =>
        some (1, m26)
      else none
    else none
  else none
section KT
variable {m M : Mm} {S : List (Int × Int)} {J : List Int} {C : Cx} {ar dg mo : Int} {D : Bool} {sm nu dn : Int} {c : Int}
theorem kT_eq {q : Int × Int} (h : RQ m (q :: S) J C ar dg mo D sm nu dn M) (hS : S.length < 490) : kT (i3 c) M =
    if q.1 = 0 then wB (f_Mod_takesStart (i3 c) M) else if q.1 = 1 ∨ q.1 = 2 then wB (f_Mod_takesStep (i3 c) M) else if q.1 = 3 then wB (f_Mod_takesCondition (i3 c) M) else if q.1 = 20 then wB (f_Mod_takesAsk (i3 c) M)
    else if q.1 = 11 then wB (f_Mod_takesNumber (i3 c) M) else if q.1 = 6 then kElse M else if 12 ≤ q.1 ∧ q.1 ≤ 19 then wB (f_Mod_takesDigit (i3 q.1) (i3 c) M) else wB (f_Mod_takesMark (i3 q.1) (i3 c) M) := by
  obtain ⟨t1, t2, t3, t4, t5⟩ := mp_top h (by omega)
  unfold kT
  rw [if_neg (show ¬ zI M 201 6 = 0 by rw [t1, show (0 : Int32) = i3 0 from rfl, i3_eq ⟨by omega, by omega⟩ ⟨by decide, by decide⟩]; omega), if_pos t2, t3]
  simp only [zLet]
  generalize f_Mod_takesStart (i3 c) M = a1
  generalize f_Mod_takesStep (i3 c) M = a2
  generalize f_Mod_takesCondition (i3 c) M = a3
  generalize f_Mod_takesAsk (i3 c) M = a4
  generalize f_Mod_takesNumber (i3 c) M = a5
  generalize f_Mod_takesDigit (i3 q.1) (i3 c) M = a6
  generalize f_Mod_takesMark (i3 q.1) (i3 c) M = a7
  have l : ∀ n : Nat, n < 40 → ((i3 q.1 = i3 n) ↔ q.1 = n) := fun n hn => i3_eq ⟨by omega, by omega⟩ ⟨by omega, by omega⟩
  have e0 : (i3 q.1 = 0) ↔ q.1 = 0 := l 0 (by omega)
  have e1 : (i3 q.1 = 1) ↔ q.1 = 1 := l 1 (by omega)
  have e2 : (i3 q.1 = 2) ↔ q.1 = 2 := l 2 (by omega)
  have e3 : (i3 q.1 = 3) ↔ q.1 = 3 := l 3 (by omega)
  have e20 : (i3 q.1 = 20) ↔ q.1 = 20 := l 20 (by omega)
  have e11 : (i3 q.1 = 11) ↔ q.1 = 11 := l 11 (by omega)
  have e6 : (i3 q.1 = 6) ↔ q.1 = 6 := l 6 (by omega)
  have e12 : (i3 q.1 < 12) ↔ q.1 < 12 := i3_lt (b := 12) ⟨by omega, by omega⟩ ⟨by decide, by decide⟩
  have e19 : ((19 : Int32) < i3 q.1) ↔ 19 < q.1 := i3_lt (a := 19) ⟨by decide, by decide⟩ ⟨by omega, by omega⟩
  simp only [e0, e1, e2, e3, e20, e11, e6, e12, e19]
  by_cases c0 : q.1 = 0
  · simp only [if_pos c0]; rfl
  by_cases c1 : q.1 = 1
  · simp only [if_neg c0, if_pos c1, if_pos (Or.inl c1 : q.1 = 1 ∨ q.1 = 2)]; rfl
  by_cases c2 : q.1 = 2
  · simp only [if_neg c0, if_neg c1, if_pos c2, if_pos (Or.inr c2 : q.1 = 1 ∨ q.1 = 2)]; rfl
  simp only [if_neg c0, if_neg c1, if_neg c2, if_neg (show ¬ (q.1 = 1 ∨ q.1 = 2) by omega)]
  by_cases c3 : q.1 = 3
  · simp only [if_pos c3]; rfl
  by_cases c20 : q.1 = 20
  · simp only [if_neg c3, if_pos c20]; rfl
  by_cases c11 : q.1 = 11
  · simp only [if_neg c3, if_neg c20, if_pos c11]; rfl
  by_cases c6 : q.1 = 6
  · simp only [if_neg c3, if_neg c20, if_neg c11, if_pos c6]
    unfold kElse
    simp only [zLet]
  simp only [if_neg c3, if_neg c20, if_neg c11, if_neg c6]
  by_cases c12 : q.1 < 12
  · simp only [if_pos c12, if_neg (show ¬ (12 ≤ q.1 ∧ q.1 ≤ 19) by omega)]; rfl
  by_cases c19 : 19 < q.1
  · simp only [if_neg c12, if_pos c19, if_neg (show ¬ (12 ≤ q.1 ∧ q.1 ≤ 19) by omega)]; rfl
  · simp only [if_neg c12, if_neg c19, if_pos (show (12 ≤ q.1 ∧ q.1 ≤ 19) by omega)]; rfl
/-- the sign is taken -/
def KO (m : Mm) (c : Int) (M : Mm) (S : List (Int × Int)) (J : List Int) (C : Cx) (ar dg mo : Int) (D : Bool) (sm nu dn : Int) : Prop := ∃ M', kT (i3 c) M = some (i3 1, M') ∧ RQ m S J C ar dg mo D sm nu dn M'
def KN (m : Mm) (c dg mo nu dn : Int) (M : Mm) : Prop := ∃ M', kT (i3 c) M = some (i3 0, M') ∧ QF m dg mo nu dn M'
theorem mp_feast (h : RQ m S J C ar dg mo D sm nu dn M) (hS : S.length < 480) : ∃ M', f_Mod_pushFeast M = some M' ∧ RQ m ((18, 0) :: (19, 0) :: S) J C ar dg mo D sm nu dn M' := by
  obtain ⟨M1, e1, h1⟩ := mp_push h (by omega) (w := 19) (i := 0) (by omega)
  obtain ⟨M2, e2, h2⟩ := mp_push h1 (by simp; omega) (w := 18) (i := 0) (by omega)
  refine ⟨M2, ?_, h2⟩
  unfold f_Mod_pushFeast
  simp only [i3_lit, e1, zBV_some, e2]
theorem mp_month (h : RQ m S J C ar dg mo D sm nu dn M) (hS : S.length < 480) : ∃ M', f_Mod_pushMonth M = some M' ∧ RQ m ((12, 0) :: (13, 0) :: S) J C ar dg mo D sm nu dn M' := by
  obtain ⟨M1, e1, h1⟩ := mp_push h (by omega) (w := 13) (i := 0) (by omega)
  obtain ⟨M2, e2, h2⟩ := mp_push h1 (by simp; omega) (w := 12) (i := 0) (by omega)
  refine ⟨M2, ?_, h2⟩
  unfold f_Mod_pushMonth
  simp only [i3_lit, e1, zBV_some, e2]
theorem mp_date (h : RQ m S J C ar dg mo D sm nu dn M) (hS : S.length < 470) : ∃ M', f_Mod_pushDate M = some M' ∧ RQ m ((12, 0) :: (13, 0) :: (14, 0) :: (15, 0) :: S) J C ar dg mo D sm nu dn M' := by
  obtain ⟨M1, e1, h1⟩ := mp_push h (by omega) (w := 15) (i := 0) (by omega)
  obtain ⟨M2, e2, h2⟩ := mp_push h1 (by simp; omega) (w := 14) (i := 0) (by omega)
  obtain ⟨M3, e3, h3⟩ := mp_month h2 (by simp; omega)
  refine ⟨M3, ?_, h3⟩
  unfold f_Mod_pushDate
  simp only [i3_lit, e1, zBV_some, e2, e3]
theorem mp_popw {q : Int × Int} (h : RQ m (q :: S) J C ar dg mo D sm nu dn M) : wI M 201 6 ((zI M 201 6) - 1) = wI M 201 6 (i3 S.length) := by rw [(mp_pop h).1]
/-- what a condition's first sign brings -/
def cdN (c : Int) (S : List (Int × Int)) : List (Int × Int) :=
  if c = 87 then (17, 0) :: (10, 13) :: S else if c = 65 then (18, 0) :: (19, 0) :: (10, 15) :: S else if c = 69 then (12, 0) :: (13, 0) :: (14, 0) :: (15, 0) :: (10, 16) :: S else if c = 33 then (3, 0) :: (10, 17) :: S else if c = 40 then (3, 0) :: (8, 0) :: (3, 0) :: (9, 0) :: S else S
theorem kt_cond {x : Int} (h : RQ m ((3, x) :: S) J C ar dg mo D sm nu dn M) (hS : S.length < 460) (hC : C.length < 80) (hc : 0 ≤ c ∧ c ≤ 126) :
    if c = 89 then KO m c M S J (C ++ [(14, 0)]) ar dg mo D sm nu dn else if c = 87 ∨ c = 65 ∨ c = 69 ∨ c = 33 ∨ c = 40 then KO m c M (cdN c S) J C ar dg mo D sm nu dn else KN m c dg mo nu dn M := by
  have hk := kT_eq (c := c) h (by omega)
  simp only [Int.reduceEq, reduceIte, or_self] at hk
  have hp := (mp_pop h).2
  have e : f_Mod_takesCondition (i3 c) M = (fun m1 => if c = 87 then (zBV (f_Mod_push (i3 10) (i3 13) m1) fun m19 => zBV (f_Mod_push (i3 17) (i3 0) m19) fun m20 => some (i3 1, m20))
      else if c = 89 then (zBV (f_Mod_emits (i3 14) (i3 0) m1) fun m18 => some (i3 1, m18))
      else if c = 65 then (zBV (f_Mod_push (i3 10) (i3 15) m1) fun m16 => zBV (f_Mod_pushFeast m16) fun m17 => some (i3 1, m17))
      else if c = 69 then (zBV (f_Mod_push (i3 10) (i3 16) m1) fun m14 => zBV (f_Mod_pushDate m14) fun m15 => some (i3 1, m15))
      else if c = 33 then (zBV (f_Mod_push (i3 10) (i3 17) m1) fun m12 => zBV (f_Mod_push (i3 3) (i3 0) m12) fun m13 => some (i3 1, m13))
      else if c = 40 then (zBV (f_Mod_push (i3 9) (i3 0) m1) fun m8 => zBV (f_Mod_push (i3 3) (i3 0) m8) fun m9 => zBV (f_Mod_push (i3 8) (i3 0) m9) fun m10 => zBV (f_Mod_push (i3 3) (i3 0) m10) fun m11 => some (i3 1, m11))
      else some (i3 0, m1)) (wI M 201 6 (i3 S.length)) := by
    unfold f_Mod_takesCondition
    simp only [zLet, mp_popw h]
    simp only [i3_lit]
    simp (disch := omega) only [i3_eq]
  rw [e] at hk
  simp only at hk
  generalize wI M 201 6 (i3 S.length) = m1 at hp hk
  by_cases h89 : c = 89
  · rw [if_pos h89]
    obtain ⟨M1, e1, h1⟩ := mp_emits hp hC (k := 14) (x := 0)
    refine ⟨M1, ?_, h1⟩
    rw [hk, if_neg (show ¬ c = 87 by omega), if_pos h89, e1, zBV_some, wB_1]
  rw [if_neg h89]
  by_cases h87 : c = 87
  · rw [if_pos (by omega)]
    obtain ⟨M1, e1, h1⟩ := mp_push hp (by omega) (w := 10) (i := 13) (by omega)
    obtain ⟨M2, e2, h2⟩ := mp_push h1 (by simp; omega) (w := 17) (i := 0) (by omega)
    refine ⟨M2, ?_, by unfold cdN; rw [if_pos h87]; exact h2⟩
    rw [hk, if_pos h87, e1, zBV_some, e2, zBV_some, wB_1]
  by_cases h65 : c = 65
  · rw [if_pos (by omega)]
    obtain ⟨M1, e1, h1⟩ := mp_push hp (by omega) (w := 10) (i := 15) (by omega)
    obtain ⟨M2, e2, h2⟩ := mp_feast h1 (by simp; omega)
    refine ⟨M2, ?_, by unfold cdN; rw [if_neg h87, if_pos h65]; exact h2⟩
    rw [hk, if_neg h87, if_neg h89, if_pos h65, e1, zBV_some, e2, zBV_some, wB_1]
  by_cases h69 : c = 69
  · rw [if_pos (by omega)]
    obtain ⟨M1, e1, h1⟩ := mp_push hp (by omega) (w := 10) (i := 16) (by omega)
    obtain ⟨M2, e2, h2⟩ := mp_date h1 (by simp; omega)
    refine ⟨M2, ?_, by unfold cdN; rw [if_neg h87, if_neg h65, if_pos h69]; exact h2⟩
    rw [hk, if_neg h87, if_neg h89, if_neg h65, if_pos h69, e1, zBV_some, e2, zBV_some, wB_1]
  by_cases h33 : c = 33
  · rw [if_pos (by omega)]
    obtain ⟨M1, e1, h1⟩ := mp_push hp (by omega) (w := 10) (i := 17) (by omega)
    obtain ⟨M2, e2, h2⟩ := mp_push h1 (by simp; omega) (w := 3) (i := 0) (by omega)
    refine ⟨M2, ?_, by unfold cdN; rw [if_neg h87, if_neg h65, if_neg h69, if_pos h33]; exact h2⟩
    rw [hk, if_neg h87, if_neg h89, if_neg h65, if_neg h69, if_pos h33, e1, zBV_some, e2, zBV_some, wB_1]
  by_cases h40 : c = 40
  · rw [if_pos (by omega)]
    obtain ⟨M1, e1, h1⟩ := mp_push hp (by omega) (w := 9) (i := 0) (by omega)
    obtain ⟨M2, e2, h2⟩ := mp_push h1 (by simp; omega) (w := 3) (i := 0) (by omega)
    obtain ⟨M3, e3, h3⟩ := mp_push h2 (by simp; omega) (w := 8) (i := 0) (by omega)
    obtain ⟨M4, e4, h4⟩ := mp_push h3 (by simp; omega) (w := 3) (i := 0) (by omega)
    refine ⟨M4, ?_, by unfold cdN; rw [if_neg h87, if_neg h65, if_neg h69, if_neg h33, if_pos h40]; exact h4⟩
    rw [hk, if_neg h87, if_neg h89, if_neg h65, if_neg h69, if_neg h33, if_pos h40, e1, zBV_some, e2, zBV_some, e3, zBV_some, e4, zBV_some, wB_1]
  · rw [if_neg (by omega)]
    refine ⟨m1, ?_, hp.qf⟩
    rw [hk, if_neg h87, if_neg h89, if_neg h65, if_neg h69, if_neg h33, if_neg h40, wB_0]
def akN (c : Int) (S : List (Int × Int)) : List (Int × Int) :=
  if c = 68 then (18, 0) :: (19, 0) :: (12, 0) :: (13, 0) :: (14, 0) :: (15, 0) :: (10, 2) :: S else if c = 87 then (18, 0) :: (19, 0) :: (17, 0) :: (10, 3) :: S else if c = 78 then (18, 0) :: (19, 0) :: (10, 4) :: S else if c = 66 then (18, 0) :: (19, 0) :: (18, 0) :: (19, 0) :: (10, 5) :: S else if c = 33 then (20, 0) :: (10, 6) :: S else if c = 40 then (20, 0) :: (21, 0) :: (20, 0) :: (22, 0) :: S else S
theorem kt_ask {x : Int} (h : RQ m ((20, x) :: S) J C ar dg mo D sm nu dn M) (hS : S.length < 450) (hC : C.length < 80) (hc : 0 ≤ c ∧ c ≤ 126) :
    if c = 67 then KO m c M S J (C ++ [(1, 0)]) ar dg mo D sm nu dn else if c = 68 ∨ c = 87 ∨ c = 78 ∨ c = 66 ∨ c = 33 ∨ c = 40 then KO m c M (akN c S) J C ar dg mo D sm nu dn else KN m c dg mo nu dn M := by
  have hk := kT_eq (c := c) h (by omega)
  simp only [Int.reduceEq, reduceIte, or_self] at hk
  have hp := (mp_pop h).2
  have e : f_Mod_takesAsk (i3 c) M = (fun m1 => if c = 67 then (zBV (f_Mod_emits (i3 1) (i3 0) m1) fun m26 => some (i3 1, m26))
      else if c = 68 then (zBV (f_Mod_push (i3 10) (i3 2) m1) fun m23 => zBV (f_Mod_pushDate m23) fun m24 => zBV (f_Mod_pushFeast m24) fun m25 => some (i3 1, m25))
      else if c = 87 then (zBV (f_Mod_push (i3 10) (i3 3) m1) fun m20 => zBV (f_Mod_push (i3 17) (i3 0) m20) fun m21 => zBV (f_Mod_pushFeast m21) fun m22 => some (i3 1, m22))
      else if c = 78 then (zBV (f_Mod_push (i3 10) (i3 4) m1) fun m18 => zBV (f_Mod_pushFeast m18) fun m19 => some (i3 1, m19))
      else if c = 66 then (zBV (f_Mod_push (i3 10) (i3 5) m1) fun m15 => zBV (f_Mod_pushFeast m15) fun m16 => zBV (f_Mod_pushFeast m16) fun m17 => some (i3 1, m17))
      else if c = 33 then (zBV (f_Mod_push (i3 10) (i3 6) m1) fun m13 => zBV (f_Mod_push (i3 20) (i3 0) m13) fun m14 => some (i3 1, m14))
      else if c = 40 then (zBV (f_Mod_push (i3 22) (i3 0) m1) fun m9 => zBV (f_Mod_push (i3 20) (i3 0) m9) fun m10 => zBV (f_Mod_push (i3 21) (i3 0) m10) fun m11 => zBV (f_Mod_push (i3 20) (i3 0) m11) fun m12 => some (i3 1, m12))
      else some (i3 0, m1)) (wI M 201 6 (i3 S.length)) := by
    unfold f_Mod_takesAsk
    simp only [zLet, mp_popw h]
    simp only [i3_lit]
    simp (disch := omega) only [i3_eq]
  rw [e] at hk
  simp only at hk
  generalize wI M 201 6 (i3 S.length) = m1 at hp hk
  by_cases h67 : c = 67
  · rw [if_pos h67]
    obtain ⟨M1, e1, h1⟩ := mp_emits hp hC (k := 1) (x := 0)
    refine ⟨M1, ?_, h1⟩
    rw [hk, if_pos h67, e1, zBV_some, wB_1]
  rw [if_neg h67]
  by_cases h68 : c = 68
  · rw [if_pos (by omega)]
    obtain ⟨M1, e1, h1⟩ := mp_push hp (by omega) (w := 10) (i := 2) (by omega)
    obtain ⟨M2, e2, h2⟩ := mp_date h1 (by simp; omega)
    obtain ⟨M3, e3, h3⟩ := mp_feast h2 (by simp; omega)
    refine ⟨M3, ?_, by unfold akN; rw [if_pos h68]; exact h3⟩
    rw [hk, if_neg h67, if_pos h68, e1, zBV_some, e2, zBV_some, e3, zBV_some, wB_1]
  by_cases h87 : c = 87
  · rw [if_pos (by omega)]
    obtain ⟨M1, e1, h1⟩ := mp_push hp (by omega) (w := 10) (i := 3) (by omega)
    obtain ⟨M2, e2, h2⟩ := mp_push h1 (by simp; omega) (w := 17) (i := 0) (by omega)
    obtain ⟨M3, e3, h3⟩ := mp_feast h2 (by simp; omega)
    refine ⟨M3, ?_, by unfold akN; rw [if_neg h68, if_pos h87]; exact h3⟩
    rw [hk, if_neg h67, if_neg h68, if_pos h87, e1, zBV_some, e2, zBV_some, e3, zBV_some, wB_1]
  by_cases h78 : c = 78
  · rw [if_pos (by omega)]
    obtain ⟨M1, e1, h1⟩ := mp_push hp (by omega) (w := 10) (i := 4) (by omega)
    obtain ⟨M2, e2, h2⟩ := mp_feast h1 (by simp; omega)
    refine ⟨M2, ?_, by unfold akN; rw [if_neg h68, if_neg h87, if_pos h78]; exact h2⟩
    rw [hk, if_neg h67, if_neg h68, if_neg h87, if_pos h78, e1, zBV_some, e2, zBV_some, wB_1]
  by_cases h66 : c = 66
  · rw [if_pos (by omega)]
    obtain ⟨M1, e1, h1⟩ := mp_push hp (by omega) (w := 10) (i := 5) (by omega)
    obtain ⟨M2, e2, h2⟩ := mp_feast h1 (by simp; omega)
    obtain ⟨M3, e3, h3⟩ := mp_feast h2 (by simp; omega)
    refine ⟨M3, ?_, by unfold akN; rw [if_neg h68, if_neg h87, if_neg h78, if_pos h66]; exact h3⟩
    rw [hk, if_neg h67, if_neg h68, if_neg h87, if_neg h78, if_pos h66, e1, zBV_some, e2, zBV_some, e3, zBV_some, wB_1]
  by_cases h33 : c = 33
  · rw [if_pos (by omega)]
    obtain ⟨M1, e1, h1⟩ := mp_push hp (by omega) (w := 10) (i := 6) (by omega)
    obtain ⟨M2, e2, h2⟩ := mp_push h1 (by simp; omega) (w := 20) (i := 0) (by omega)
    refine ⟨M2, ?_, by unfold akN; rw [if_neg h68, if_neg h87, if_neg h78, if_neg h66, if_pos h33]; exact h2⟩
    rw [hk, if_neg h67, if_neg h68, if_neg h87, if_neg h78, if_neg h66, if_pos h33, e1, zBV_some, e2, zBV_some, wB_1]
  by_cases h40 : c = 40
  · rw [if_pos (by omega)]
    obtain ⟨M1, e1, h1⟩ := mp_push hp (by omega) (w := 22) (i := 0) (by omega)
    obtain ⟨M2, e2, h2⟩ := mp_push h1 (by simp; omega) (w := 20) (i := 0) (by omega)
    obtain ⟨M3, e3, h3⟩ := mp_push h2 (by simp; omega) (w := 21) (i := 0) (by omega)
    obtain ⟨M4, e4, h4⟩ := mp_push h3 (by simp; omega) (w := 20) (i := 0) (by omega)
    refine ⟨M4, ?_, by unfold akN; rw [if_neg h68, if_neg h87, if_neg h78, if_neg h66, if_neg h33, if_pos h40]; exact h4⟩
    rw [hk, if_neg h67, if_neg h68, if_neg h87, if_neg h78, if_neg h66, if_neg h33, if_pos h40, e1, zBV_some, e2, zBV_some, e3, zBV_some, e4, zBV_some, wB_1]
  · rw [if_neg (by omega)]
    refine ⟨m1, ?_, hp.qf⟩
    rw [hk, if_neg h67, if_neg h68, if_neg h87, if_neg h78, if_neg h66, if_neg h33, if_neg h40, wB_0]
end KT
