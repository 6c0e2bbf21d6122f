/-! THE LAW'S RULES, AS CODE OF THE CLASS -/
theorem law_holds {y n : Nat} (hy : y < 400) {B : Nat → Int} {c d : Int} (hc : (c / 10000 = 13 ∧ c % 10000 ≤ 6) ∨ (c / 10000 = 14 ∧ c % 10000 = 0) ∨ (c / 10000 = 15 ∧ c % 10000 < n) ∨ (c / 10000 = 16 ∧ vDt (c % 10000))) (hn : n ≤ 10) (hd : -1 ≤ d ∧ d < sLen y) {t4 : Nat} {m : Mm} (hB : ∀ j, j < n → zI m (207 + t4) j = i3 (B j) ∧ -1 ≤ B j ∧ B j < 400) : f_Law_holds (i3 y) (i3 d) (i3 c) t4 m = some (b3 (sCond y B (c / 10000) (c % 10000) d)) := by
  have hF := sFirst_bd hy
  have hL := sLen_bd y
  have hb : 130000 ≤ c ∧ c < 170000 := by omega
  have q1 : (i3 c : Int32) / 10000 = i3 (c / 10000) := by rw [show (10000 : Int32) = i3 10000 from rfl, i3_div ⟨by omega, by omega⟩ ⟨by decide, by decide⟩]
  have q2 : (i3 c : Int32) % 10000 = i3 (c % 10000) := by rw [show (10000 : Int32) = i3 10000 from rfl, i3_mod ⟨by omega, by omega⟩ ⟨by decide, by decide⟩]
  unfold f_Law_holds
  rw [zLet_q, zLet_q, q1, q2, show (14 : Int32) = i3 14 from rfl, it_eq ⟨by omega, by omega⟩ ⟨by decide, by decide⟩, it_0le ⟨by omega, by omega⟩, show (13 : Int32) = i3 13 from rfl, it_eq ⟨by omega, by omega⟩ ⟨by decide, by decide⟩, show (15 : Int32) = i3 15 from rfl, it_eq ⟨by omega, by omega⟩ ⟨by decide, by decide⟩]
  generalize ha : c % 10000 = a at hc ⊢
  have ha2 : 0 ≤ a ∧ a < 10000 := by omega
  unfold sCond
  by_cases c14 : c / 10000 = 14
  · rw [if_pos c14, law_leap hy, zBP_some, if_pos (b3_bo _), if_neg (by omega), if_pos c14]
  rw [if_neg c14]
  by_cases cd : d = -1
  · rw [if_neg (by omega)]
    by_cases c13 : c / 10000 = 13
    · rw [if_pos c13, decide_eq_false (fun z => z.1 cd)]; rfl
    · rw [if_neg c13, if_neg c14]
      by_cases c15 : c / 10000 = 15
      · rw [if_pos c15, decide_eq_false (fun z => z.1 cd)]; rfl
      · rw [if_neg c15, decide_eq_false (fun z => z.1 cd)]; rfl
  rw [if_pos (by omega)]
  by_cases c13 : c / 10000 = 13
  · have ha6 : a ≤ 6 := by omega
    rw [if_pos c13, if_pos c13, law_great (by omega), zBP_some, i3_add, show (6 : Int32) = i3 6 from rfl, i3_add, show (7 : Int32) = i3 7 from rfl, i3_mod ⟨by omega, by omega⟩ ⟨by decide, by decide⟩, it_eq ⟨by omega, by omega⟩ ⟨by omega, by omega⟩]
    have hw := wd_iff (y := y) (d := d) (w := a) ⟨by omega, ha6⟩
    by_cases e : ((sFirst y : Int) + d + 6) % 7 = a
    · rw [if_pos e, decide_eq_true ⟨cd, hw.mp e⟩]; rfl
    · rw [if_neg e, decide_eq_false (fun z => e (hw.mpr z.2))]; rfl
  rw [if_neg c13, if_neg c13, if_neg c14]
  by_cases c15 : c / 10000 = 15
  · have han : a < n := by omega
    obtain ⟨hz, hz1, hz2⟩ := hB a.toNat (by omega)
    rw [if_pos c15, if_pos c15, if_pos ((i3_in ⟨by omega, by omega⟩).mpr ⟨by omega, by omega⟩), i3_ix ⟨by omega, by omega⟩, hz, it_eq ⟨by omega, by omega⟩ ⟨by omega, by omega⟩]
    by_cases e : B a.toNat = d
    · rw [if_pos e, decide_eq_true ⟨cd, e.symm⟩]; rfl
    · rw [if_neg e, decide_eq_false (fun z => e z.2.symm)]; rfl
  · have hvd : vDt a := by
      rcases hc with h | h | h | h
      · exact absurd h.1 c13
      · exact absurd h.1 c14
      · exact absurd h.1 c15
      · exact h.2
    obtain ⟨⟨v1, v2⟩, v3, v4⟩ := hvd
    obtain ⟨dn, rfl⟩ : ∃ dn : Nat, d = dn := ⟨d.toNat, by omega⟩
    have hdl : dn < sLenB (sLeap y) := by
      have : sLen y = sLenB (sLeap y) := rfl
      omega
    rw [if_neg c15, if_neg c15, law_date hy (by omega), zBP_some]
    have hsd := sDt_bd hdl
    rw [it_le ⟨by omega, by omega⟩ ⟨by omega, by omega⟩]
    have hlt := sDt_lt (b := sLeap y) (d := dn) (k := (a / 100).toNat) (dd := (a % 100).toNat) hdl (by omega) (by omega) (by omega) (by omega)
    have e1 : ((100 * (a / 100).toNat + (a % 100).toNat : Nat) : Int) = a := by omega
    by_cases e : (dn : Int) < (sMs (sLeap y) (a / 100).toNat : Int) + a % 100 - 1
    · have h2 : sDt (sLeap y) dn < 100 * (a / 100).toNat + (a % 100).toNat := hlt.mpr (by omega)
      rw [if_neg (by omega), decide_eq_true ⟨cd, e⟩]; rfl
    · have h2 : ¬ sDt (sLeap y) dn < 100 * (a / 100).toNat + (a % 100).toNat := fun z => e (by have := hlt.mp z; omega)
      rw [if_pos (by omega), decide_eq_false (fun z => e z.2)]; rfl
/-- a rule of the law's: start, condition (0: none; below 0: not), steps -/
def vR (n : Nat) (f : Nat → Int) : Prop := vG n (f 0) ∧ (f 1 = 0 ∨ (-170000 < f 1 ∧ f 1 < 170000 ∧ ((f 1).natAbs / 10000 = 13 ∧ (f 1).natAbs % 10000 ≤ 6 ∨ (f 1).natAbs / 10000 = 14 ∧ (f 1).natAbs % 10000 = 0 ∨ (f 1).natAbs / 10000 = 15 ∧ (f 1).natAbs % 10000 < n ∨ (f 1).natAbs / 10000 = 16 ∧ vDt ((f 1).natAbs % 10000 : Nat)))) ∧ vS (f 2) ∧ (f 3 = -1 ∨ vS (f 3)) ∧ vS (f 4) ∧ vS (f 5)
def cStp (s : Int) : Cx := if s / 1000 = 0 ∨ s = 1400 then [] else [(wK s, wV s)]
def cAtm (c : Int) : Cx := ((c.natAbs / 10000 : Nat), (c.natAbs % 10000 : Nat)) :: (if c < 0 then [(17, 0)] else [])
/-- the code of the condition with what hangs on it; at place n -/
def cBr (n : Nat) (f : Nat → Int) : Cx :=
  if f 3 < 0 then cAtm (f 1) ++ [(19, ((n + (cAtm (f 1)).length + 1 + (cStp (f 2)).length : Nat) : Int))] ++ cStp (f 2)
  else cAtm (f 1) ++ [(19, ((n + (cAtm (f 1)).length + 1 + (cStp (f 2)).length + 1 : Nat) : Int))] ++ cStp (f 2) ++ [(18, ((n + (cAtm (f 1)).length + 1 + (cStp (f 2)).length + 1 + (cStp (f 3)).length : Nat) : Int))] ++ cStp (f 3)
def lC (f : Nat → Int) : Cx := (f 0 / 10000, f 0 % 10000) :: ((if f 1 = 0 then cStp (f 2) else cBr 1 f) ++ (cStp (f 4) ++ cStp (f 5)))
/-- what the law makes of it -/
def lHo (y : Nat) (B : Nat → Int) (c d : Int) : Bool := sCond y B ((c.natAbs / 10000 : Nat)) ((c.natAbs % 10000 : Nat)) d == decide (0 < c)
def lSp (y : Nat) (B : Nat → Int) (f : Nat → Int) (d : Int) : Int := if f 1 = 0 ∨ lHo y B (f 1) d = true then f 2 else if f 3 < 0 then 0 else f 3
def lDy (y t : Nat) (B : Nat → Int) (f : Nat → Int) : Int := sStp y t (f 5) (sStp y t (f 4) (sStp y t (lSp y B f (lSt y B (f 0))) (lSt y B (f 0))))
def lC0 (f : Nat → Int) : Int := if f 0 / 10000 = 1 then 1 else if f 0 / 10000 = 4 then 2 else 3
def lC1 (y : Nat) (B : Nat → Int) (f : Nat → Int) (d : Int) : Int := if f 1 = 0 then 0 else 1 + (if f 1 < 0 then 1 else 0) + (if (f 1).natAbs / 10000 = 15 then 2 else 1) + (if lHo y B (f 1) d = true ∧ 0 ≤ f 3 then 1 else 0)
def lCo (y t : Nat) (B : Nat → Int) (f : Nat → Int) : Int := lC0 f + lC1 y B f (lSt y B (f 0)) + lPr (lSp y B f (lSt y B (f 0))) + lPr (f 4) + lPr (f 5)
/-! going through it -/
def kK (C : Cx) (i : Nat) : Int := (C.getD i (0, 0)).1
def kA (C : Cx) (i : Nat) : Int := (C.getD i (0, 0)).2
section XGL
variable {y t : Nat} {B : Nat → Int}
/-- the code C goes from one place, day, flag and cost to others, whatever fuel is left (enough of it) -/
def Rn (y t : Nat) (B : Nat → Int) (C : Cx) (pc : Nat) (d : Int) (f : Bool) (c : Int) (pc' : Nat) (d' : Int) (f' : Bool) (c' : Int) : Prop :=
  ∀ u, C.length ≤ u + pc → ∃ u', C.length ≤ u' + pc' ∧ xgo y t B (kK C) (kA C) C.length u pc d f c = xgo y t B (kK C) (kA C) C.length u' pc' d' f' c'
theorem Rn.refl {C : Cx} {pc : Nat} {d c : Int} {f : Bool} : Rn y t B C pc d f c pc d f c := fun u h => ⟨u, h, rfl⟩
theorem Rn.trans {C : Cx} {p1 p2 p3 : Nat} {d1 d2 d3 c1 c2 c3 : Int} {f1 f2 f3 : Bool} (h : Rn y t B C p1 d1 f1 c1 p2 d2 f2 c2) (h2 : Rn y t B C p2 d2 f2 c2 p3 d3 f3 c3) : Rn y t B C p1 d1 f1 c1 p3 d3 f3 c3 := fun u hu => by
  obtain ⟨u', a1, a2⟩ := h u hu
  obtain ⟨u'', b1, b2⟩ := h2 u' a1
  exact ⟨u'', b1, a2.trans b2⟩
theorem Rn.to {C : Cx} {pc p1 p2 : Nat} {d d' c c1 c2 : Int} {f f' : Bool} (h : Rn y t B C pc d f c p1 d' f' c1) (hp : p1 = p2) (hc : c1 = c2) : Rn y t B C pc d f c p2 d' f' c2 := by
  subst hp hc
  exact h
theorem Rn.one {C pre post : Cx} {pc pc' : Nat} {k a d c d' c' : Int} {f f' : Bool} (hC : C = pre ++ (k, a) :: post) (hp : pre.length = pc) (hf : xF y B k a d f = f') (hd : xD y t B k a d = d') (hn : xN k a pc f' = pc') (hlt : pc < pc') (hc : c + sCost k = c') : Rn y t B C pc d f c pc' d' f' c' := by
  intro u hu
  have hl : pc < C.length := by rw [hC, List.length_append, List.length_cons]; omega
  have hg : C.getD pc (0, 0) = (k, a) := by
    rw [hC, gD_r (by omega), hp, Nat.sub_self]
    rfl
  have e1 : kK C pc = k := by unfold kK; rw [hg]
  have e2 : kA C pc = a := by unfold kA; rw [hg]
  obtain ⟨u', rfl⟩ : ∃ u', u = u' + 1 := ⟨u - 1, by omega⟩
  refine ⟨u', by omega, ?_⟩
  rw [xgo_go hl, e1, e2, hf, hd, hn, hc]
theorem sStp_0 {s d : Int} (h : s / 1000 = 0 ∨ s = 1400) (hd : -1 ≤ d ∧ d < sLen y) : sStp y t s d = d := by
  unfold sStp
  by_cases ed : d = -1
  · rw [if_pos ed, ed]
  · rw [if_neg ed]
    rcases h with h | h
    · rw [if_pos h]
    · subst h
      rw [if_neg (by decide)]
      show sMove y t 5 5000 d = d
      unfold sMove sLater
      rw [if_pos rfl, if_neg ed, show d + ((5000 : Int) - 5000) = d by omega]
      exact sTo_in hd
theorem Rn.stp {C pre post : Cx} {pc pc' : Nat} {s d c : Int} {f : Bool} (hs : vS s) (hd : -1 ≤ d ∧ d < sLen y) (hC : C = pre ++ (cStp s ++ post)) (hp : pre.length = pc) (hp' : pc + (cStp s).length = pc') : Rn y t B C pc d f c pc' (sStp y t s d) f (c + lPr s) := by
  subst hp'
  unfold cStp at hC ⊢
  unfold lPr
  by_cases e : s / 1000 = 0 ∨ s = 1400
  · rw [if_pos e, if_pos e, sStp_0 e hd, Int.add_zero]
    exact Rn.refl
  · rw [if_neg e] at hC ⊢
    rw [if_neg e]
    have hk : 5 ≤ wK s ∧ wK s ≤ 12 := by
      unfold vS at hs
      unfold wK
      split <;> omega
    refine Rn.one (k := wK s) (a := wV s) (post := post) (by rw [hC]; rfl) hp ?_ ?_ ?_ (Nat.lt_succ_self _) rfl
    · unfold xF
      rw [if_neg (by omega), if_neg (by omega)]
    · unfold xD sStp
      rw [if_neg (by omega), if_neg (by omega), if_pos (by omega), if_neg (fun z => e (Or.inl z))]
      by_cases ed : d = -1
      · rw [if_pos ed]
        unfold sMove sLater
        rw [if_pos ed, if_pos ed, if_pos ed, if_pos ed, if_pos ed, if_pos ed, if_pos ed]
        repeat (first | rfl | split)
      · rw [if_neg ed]
    · unfold xN
      rw [if_neg (by omega)]
      rfl
theorem sCost_a {c : Int} (h : c.natAbs / 10000 = 13 ∨ c.natAbs / 10000 = 14 ∨ c.natAbs / 10000 = 15 ∨ c.natAbs / 10000 = 16) : sCost ((c.natAbs / 10000 : Nat)) = if c.natAbs / 10000 = 15 then 2 else 1 := by
  unfold sCost
  by_cases e : c.natAbs / 10000 = 15
  · rw [if_pos e, e]; rfl
  · rw [if_neg e, if_neg (by omega), if_neg (by omega), if_neg (by omega)]
/-- the condition's own code -/
theorem Rn.atm {C pre post : Cx} {pc pc' : Nat} {q d c : Int} {f : Bool} (h0 : q ≠ 0) (hq : q.natAbs / 10000 = 13 ∨ q.natAbs / 10000 = 14 ∨ q.natAbs / 10000 = 15 ∨ q.natAbs / 10000 = 16) (hC : C = pre ++ (cAtm q ++ post)) (hp : pre.length = pc) (hp' : pc + (cAtm q).length = pc') : Rn y t B C pc d f c pc' d (lHo y B q d) (c + ((if q < 0 then 1 else 0) + if q.natAbs / 10000 = 15 then 2 else 1)) := by
  subst hp'
  have hxF : ∀ g, xF y B ((q.natAbs / 10000 : Nat)) ((q.natAbs % 10000 : Nat)) d g = sCond y B ((q.natAbs / 10000 : Nat)) ((q.natAbs % 10000 : Nat)) d := fun g => by
    unfold xF
    rw [if_pos (by omega)]
  have hxD : ∀ k a : Int, 13 ≤ k → xD y t B k a d = d := fun k a hk => by
    unfold xD
    rw [if_neg (by omega), if_neg (by omega), if_neg (by omega)]
  have hxN : ∀ (k a : Int) (p : Nat) (g : Bool), 13 ≤ k → k ≤ 17 → xN k a p g = p + 1 := fun k a p g h1 h2 => by
    unfold xN
    rw [if_neg (by omega)]
  unfold cAtm at hC ⊢
  by_cases e : q < 0
  · rw [if_pos e] at hC ⊢
    rw [if_pos e]
    have h1 : Rn y t B C pc d f c (pc + 1) d (sCond y B ((q.natAbs / 10000 : Nat)) ((q.natAbs % 10000 : Nat)) d) (c + if q.natAbs / 10000 = 15 then 2 else 1) :=
      Rn.one (post := (17, 0) :: post) (by rw [hC]; rfl) hp (hxF _) (hxD _ _ (by omega)) (hxN _ _ _ _ (by omega) (by omega)) (Nat.lt_succ_self _) (by rw [sCost_a hq])
    refine h1.trans (Rn.one (pre := pre ++ [(((q.natAbs / 10000 : Nat) : Int), ((q.natAbs % 10000 : Nat) : Int))]) (k := 17) (a := 0) (post := post) (by rw [hC]; simp) (by simp [hp]) ?_ (hxD _ _ (by decide)) (hxN _ _ _ _ (by decide) (by decide)) (Nat.lt_succ_self _) ?_)
    · unfold xF lHo
      rw [if_neg (by decide), if_pos rfl, decide_eq_false (by omega)]
      cases sCond y B ((q.natAbs / 10000 : Nat)) ((q.natAbs % 10000 : Nat)) d <;> rfl
    · have : sCost 17 = 1 := by decide
      rw [this]
      omega
  · rw [if_neg e] at hC ⊢
    rw [if_neg e]
    refine Rn.one (post := post) (by rw [hC]; rfl) hp ((hxF _).trans ?_) (hxD _ _ (by omega)) (hxN _ _ _ _ (by omega) (by omega)) (Nat.lt_succ_self _) (by rw [sCost_a hq]; omega)
    unfold lHo
    rw [decide_eq_true (by omega)]
    cases sCond y B ((q.natAbs / 10000 : Nat)) ((q.natAbs % 10000 : Nat)) d <;> rfl
theorem lHo_eq {q d : Int} : lHo y B q d = true ∨ lHo y B q d = false := by cases lHo y B q d <;> simp
/-- a condition with what hangs on it -/
theorem Rn.br {C post : Cx} {pre : Cx} {pc pc' n : Nat} {f : Nat → Int} {d c : Int} {g : Bool} (hv : vR n f) (h0 : f 1 ≠ 0) (hd : -1 ≤ d ∧ d < sLen y) (hC : C = pre ++ (cBr pre.length f ++ post)) (hp : pre.length = pc) (hp' : pc + (cBr pre.length f).length = pc') : ∃ g', Rn y t B C pc d g c pc' (sStp y t (lSp y B f d) d) g' (c + (lC1 y B f d + lPr (lSp y B f d))) := by
  obtain ⟨-, hc, v2, v3, -⟩ := hv
  have hc := hc.resolve_left h0
  have hq : (f 1).natAbs / 10000 = 13 ∨ (f 1).natAbs / 10000 = 14 ∨ (f 1).natAbs / 10000 = 15 ∨ (f 1).natAbs / 10000 = 16 := by
    rcases hc.2.2 with h | h | h | h
    · exact Or.inl h.1
    · exact Or.inr (Or.inl h.1)
    · exact Or.inr (Or.inr (Or.inl h.1))
    · exact Or.inr (Or.inr (Or.inr h.1))
  subst hp hp'
  have hx19 : ∀ (a : Int) (x : Bool), xF y B 19 a d x = x := fun a x => by
    unfold xF
    rw [if_neg (by decide), if_neg (by decide)]
  have hx18 : ∀ (a e : Int) (x : Bool), xF y B 18 a e x = x := fun a e x => by
    unfold xF
    rw [if_neg (by decide), if_neg (by decide)]
  have hd19 : ∀ (a : Int), xD y t B 19 a d = d := fun a => by
    unfold xD
    rw [if_neg (by decide), if_neg (by decide), if_neg (by decide)]
  have hd18 : ∀ (a e : Int), xD y t B 18 a e = e := fun a e => by
    unfold xD
    rw [if_neg (by decide), if_neg (by decide), if_neg (by decide)]
  have c19 : sCost 19 = 1 := by decide
  have c18 : sCost 18 = 1 := by decide
  unfold cBr at hC ⊢
  by_cases e3 : f 3 < 0
  · rw [if_pos e3] at hC ⊢
    have s1 := Rn.atm (y := y) (t := t) (B := B) (C := C) (pre := pre) (post := (19, ((pre.length + (cAtm (f 1)).length + 1 + (cStp (f 2)).length : Nat) : Int)) :: (cStp (f 2) ++ post)) (d := d) (c := c) (f := g) h0 hq (by rw [hC]; simp) rfl rfl
    rcases lHo_eq (y := y) (B := B) (q := f 1) (d := d) with hh | hh
    · have s2 := Rn.one (y := y) (t := t) (B := B) (C := C) (pre := pre ++ cAtm (f 1)) (post := cStp (f 2) ++ post) (k := 19) (a := ((pre.length + (cAtm (f 1)).length + 1 + (cStp (f 2)).length : Nat) : Int)) (pc := pre.length + (cAtm (f 1)).length) (pc' := pre.length + (cAtm (f 1)).length + 1) (d := d) (d' := d) (f := lHo y B (f 1) d) (f' := lHo y B (f 1) d) (c := c + ((if f 1 < 0 then 1 else 0) + if (f 1).natAbs / 10000 = 15 then 2 else 1)) (c' := c + ((if f 1 < 0 then 1 else 0) + if (f 1).natAbs / 10000 = 15 then 2 else 1) + 1) (by rw [hC]; simp) (by simp) (hx19 _ _) (hd19 _) (by unfold xN; rw [hh]; rfl) (Nat.lt_succ_self _) (by rw [c19])
      have s3 := Rn.stp (y := y) (t := t) (B := B) (C := C) (pre := pre ++ cAtm (f 1) ++ [(19, ((pre.length + (cAtm (f 1)).length + 1 + (cStp (f 2)).length : Nat) : Int))]) (post := post) (pc := pre.length + (cAtm (f 1)).length + 1) (d := d) (c := c + ((if f 1 < 0 then 1 else 0) + if (f 1).natAbs / 10000 = 15 then 2 else 1) + 1) (f := lHo y B (f 1) d) v2 hd (by rw [hC]; simp) (by simp; omega) rfl
      have hz := (s1.trans s2).trans s3
      have e1 : lSp y B f d = f 2 := if_pos (Or.inr hh)
      have e2 : lC1 y B f d = 1 + (if f 1 < 0 then 1 else 0) + (if (f 1).natAbs / 10000 = 15 then 2 else 1) + 0 := by
        unfold lC1
        rw [if_neg h0, if_neg (show ¬ (lHo y B (f 1) d = true ∧ 0 ≤ f 3) from fun z => by omega)]
      rw [e1, e2]
      exact ⟨_, hz.to (by simp; omega) (by omega)⟩
    · have s2 := Rn.one (y := y) (t := t) (B := B) (C := C) (pre := pre ++ cAtm (f 1)) (post := cStp (f 2) ++ post) (k := 19) (a := ((pre.length + (cAtm (f 1)).length + 1 + (cStp (f 2)).length : Nat) : Int)) (pc := pre.length + (cAtm (f 1)).length) (pc' := pre.length + (cAtm (f 1)).length + 1 + (cStp (f 2)).length) (d := d) (d' := d) (f := lHo y B (f 1) d) (f' := lHo y B (f 1) d) (c := c + ((if f 1 < 0 then 1 else 0) + if (f 1).natAbs / 10000 = 15 then 2 else 1)) (c' := c + ((if f 1 < 0 then 1 else 0) + if (f 1).natAbs / 10000 = 15 then 2 else 1) + 1) (by rw [hC]; simp) (by simp) (hx19 _ _) (hd19 _) (by unfold xN; rw [if_pos (Or.inr (Or.inl ⟨rfl, hh⟩))]; omega) (by omega) (by rw [c19])
      have hz := s1.trans s2
      have hn : ¬ (f 1 = 0 ∨ lHo y B (f 1) d = true) := fun z => z.elim h0 (fun z => by rw [hh] at z; exact nomatch z)
      have e1 : lSp y B f d = 0 := by unfold lSp; rw [if_neg hn, if_pos e3]
      have e2 : lC1 y B f d = 1 + (if f 1 < 0 then 1 else 0) + (if (f 1).natAbs / 10000 = 15 then 2 else 1) + 0 := by
        unfold lC1
        rw [if_neg h0, if_neg (show ¬ (lHo y B (f 1) d = true ∧ 0 ≤ f 3) from fun z => by omega)]
      have e4 : sStp y t 0 d = d := sStp_0 (Or.inl (by decide)) hd
      have e5 : lPr 0 = 0 := by decide
      rw [e1, e2, e4, e5]
      exact ⟨_, hz.to (by simp; omega) (by omega)⟩
  · rw [if_neg e3] at hC ⊢
    have v3' := v3.resolve_left (by omega)
    have s1 := Rn.atm (y := y) (t := t) (B := B) (C := C) (pre := pre) (post := (19, ((pre.length + (cAtm (f 1)).length + 1 + (cStp (f 2)).length + 1 : Nat) : Int)) :: (cStp (f 2) ++ ((18, ((pre.length + (cAtm (f 1)).length + 1 + (cStp (f 2)).length + 1 + (cStp (f 3)).length : Nat) : Int)) :: (cStp (f 3) ++ post)))) (d := d) (c := c) (f := g) h0 hq (by rw [hC]; simp) rfl rfl
    rcases lHo_eq (y := y) (B := B) (q := f 1) (d := d) with hh | hh
    · have s2 := Rn.one (y := y) (t := t) (B := B) (C := C) (pre := pre ++ cAtm (f 1)) (post := cStp (f 2) ++ ((18, ((pre.length + (cAtm (f 1)).length + 1 + (cStp (f 2)).length + 1 + (cStp (f 3)).length : Nat) : Int)) :: (cStp (f 3) ++ post))) (k := 19) (a := ((pre.length + (cAtm (f 1)).length + 1 + (cStp (f 2)).length + 1 : Nat) : Int)) (pc := pre.length + (cAtm (f 1)).length) (pc' := pre.length + (cAtm (f 1)).length + 1) (d := d) (d' := d) (f := lHo y B (f 1) d) (f' := lHo y B (f 1) d) (c := c + ((if f 1 < 0 then 1 else 0) + if (f 1).natAbs / 10000 = 15 then 2 else 1)) (c' := c + ((if f 1 < 0 then 1 else 0) + if (f 1).natAbs / 10000 = 15 then 2 else 1) + 1) (by rw [hC]; simp) (by simp) (hx19 _ _) (hd19 _) (by unfold xN; rw [hh]; rfl) (Nat.lt_succ_self _) (by rw [c19])
      have s3 := Rn.stp (y := y) (t := t) (B := B) (C := C) (pre := pre ++ cAtm (f 1) ++ [(19, ((pre.length + (cAtm (f 1)).length + 1 + (cStp (f 2)).length + 1 : Nat) : Int))]) (post := (18, ((pre.length + (cAtm (f 1)).length + 1 + (cStp (f 2)).length + 1 + (cStp (f 3)).length : Nat) : Int)) :: (cStp (f 3) ++ post)) (pc := pre.length + (cAtm (f 1)).length + 1) (d := d) (c := c + ((if f 1 < 0 then 1 else 0) + if (f 1).natAbs / 10000 = 15 then 2 else 1) + 1) (f := lHo y B (f 1) d) v2 hd (by rw [hC]; simp) (by simp; omega) rfl
      have s4 := Rn.one (y := y) (t := t) (B := B) (C := C) (pre := pre ++ cAtm (f 1) ++ [(19, ((pre.length + (cAtm (f 1)).length + 1 + (cStp (f 2)).length + 1 : Nat) : Int))] ++ cStp (f 2)) (post := cStp (f 3) ++ post) (k := 18) (a := ((pre.length + (cAtm (f 1)).length + 1 + (cStp (f 2)).length + 1 + (cStp (f 3)).length : Nat) : Int)) (pc := pre.length + (cAtm (f 1)).length + 1 + (cStp (f 2)).length) (pc' := pre.length + (cAtm (f 1)).length + 1 + (cStp (f 2)).length + 1 + (cStp (f 3)).length) (d := sStp y t (f 2) d) (d' := sStp y t (f 2) d) (f := lHo y B (f 1) d) (f' := lHo y B (f 1) d) (c := c + ((if f 1 < 0 then 1 else 0) + if (f 1).natAbs / 10000 = 15 then 2 else 1) + 1 + lPr (f 2)) (c' := c + ((if f 1 < 0 then 1 else 0) + if (f 1).natAbs / 10000 = 15 then 2 else 1) + 1 + lPr (f 2) + 1) (by rw [hC]; simp) (by simp; omega) (hx18 _ _ _) (hd18 _ _) (by unfold xN; rw [if_pos (Or.inl rfl)]; omega) (by omega) (by rw [c18])
      have hz := ((s1.trans s2).trans s3).trans s4
      have e1 : lSp y B f d = f 2 := if_pos (Or.inr hh)
      have e2 : lC1 y B f d = 1 + (if f 1 < 0 then 1 else 0) + (if (f 1).natAbs / 10000 = 15 then 2 else 1) + 1 := by
        unfold lC1
        rw [if_neg h0, if_pos (show lHo y B (f 1) d = true ∧ 0 ≤ f 3 from ⟨hh, by omega⟩)]
      rw [e1, e2]
      exact ⟨_, hz.to (by simp; omega) (by omega)⟩
    · have s2 := Rn.one (y := y) (t := t) (B := B) (C := C) (pre := pre ++ cAtm (f 1)) (post := cStp (f 2) ++ ((18, ((pre.length + (cAtm (f 1)).length + 1 + (cStp (f 2)).length + 1 + (cStp (f 3)).length : Nat) : Int)) :: (cStp (f 3) ++ post))) (k := 19) (a := ((pre.length + (cAtm (f 1)).length + 1 + (cStp (f 2)).length + 1 : Nat) : Int)) (pc := pre.length + (cAtm (f 1)).length) (pc' := pre.length + (cAtm (f 1)).length + 1 + (cStp (f 2)).length + 1) (d := d) (d' := d) (f := lHo y B (f 1) d) (f' := lHo y B (f 1) d) (c := c + ((if f 1 < 0 then 1 else 0) + if (f 1).natAbs / 10000 = 15 then 2 else 1)) (c' := c + ((if f 1 < 0 then 1 else 0) + if (f 1).natAbs / 10000 = 15 then 2 else 1) + 1) (by rw [hC]; simp) (by simp) (hx19 _ _) (hd19 _) (by unfold xN; rw [if_pos (Or.inr (Or.inl ⟨rfl, hh⟩))]; omega) (by omega) (by rw [c19])
      have s3 := Rn.stp (y := y) (t := t) (B := B) (C := C) (pre := pre ++ cAtm (f 1) ++ [(19, ((pre.length + (cAtm (f 1)).length + 1 + (cStp (f 2)).length + 1 : Nat) : Int))] ++ cStp (f 2) ++ [(18, ((pre.length + (cAtm (f 1)).length + 1 + (cStp (f 2)).length + 1 + (cStp (f 3)).length : Nat) : Int))]) (post := post) (pc := pre.length + (cAtm (f 1)).length + 1 + (cStp (f 2)).length + 1) (d := d) (c := c + ((if f 1 < 0 then 1 else 0) + if (f 1).natAbs / 10000 = 15 then 2 else 1) + 1) (f := lHo y B (f 1) d) v3' hd (by rw [hC]; simp) (by simp; omega) rfl
      have hz := (s1.trans s2).trans s3
      have hn : ¬ (f 1 = 0 ∨ lHo y B (f 1) d = true) := fun z => z.elim h0 (fun z => by rw [hh] at z; exact nomatch z)
      have e1 : lSp y B f d = f 3 := by unfold lSp; rw [if_neg hn, if_neg e3]
      have e2 : lC1 y B f d = 1 + (if f 1 < 0 then 1 else 0) + (if (f 1).natAbs / 10000 = 15 then 2 else 1) + 0 := by
        unfold lC1
        rw [if_neg h0, if_neg (show ¬ (lHo y B (f 1) d = true ∧ 0 ≤ f 3) from fun z => by rw [hh] at z; exact nomatch z.1)]
      rw [e1, e2]
      exact ⟨_, hz.to (by simp; omega) (by omega)⟩
theorem lSt_bd {n : Nat} {s : Int} (hv : vG n s) (hB : ∀ j, j < n → -1 ≤ B j ∧ B j < sLen y) : -1 ≤ lSt y B s ∧ lSt y B s < sLen y := by
  have hb := hv.bd
  unfold lSt
  by_cases e : s / 10000 = 4
  · rw [if_pos e]
    refine hB _ ?_
    unfold vG at hv
    omega
  · rw [if_neg e]
    unfold sStart
    repeat (first | exact sTo_bd _ _ | split)
theorem lSp_ok {n : Nat} {f : Nat → Int} {d : Int} (hv : vR n f) : vS (lSp y B f d) := by
  obtain ⟨-, -, v2, v3, -⟩ := hv
  unfold lSp
  split
  · exact v2
  · split
    · exact Or.inl rfl
    · exact v3.resolve_left (by omega)
/-- going through the code of a rule is what the law makes of the rule -/
theorem lC_run {n : Nat} {f : Nat → Int} (hv : vR n f) (hB : ∀ j, j < n → -1 ≤ B j ∧ B j < sLen y) : xgo y t B (kK (lC f)) (kA (lC f)) (lC f).length (lC f).length 0 (-1) false 0 = (lDy y t B f, lCo y t B f) := by
  have hb := hv.1.bd
  have hs0 := lSt_bd (y := y) (B := B) hv.1 hB
  have hsp := lSp_ok (y := y) (B := B) (d := lSt y B (f 0)) hv
  have h1 : Rn y t B (lC f) 0 (-1) false 0 1 (lSt y B (f 0)) false (lC0 f) := by
    refine Rn.one (pre := []) (k := f 0 / 10000) (a := f 0 % 10000) (post := (if f 1 = 0 then cStp (f 2) else cBr 1 f) ++ (cStp (f 4) ++ cStp (f 5))) rfl rfl ?_ ?_ ?_ (by decide) ?_
    · unfold xF
      rw [if_neg (by omega), if_neg (by omega)]
    · unfold xD lSt
      by_cases e : f 0 / 10000 = 4
      · rw [if_neg (by omega), if_pos e, if_pos e]
      · rw [if_pos (by omega), if_neg e]
    · unfold xN
      rw [if_neg (by omega)]
    · unfold sCost lC0
      have h4 : f 0 / 10000 = 1 ∨ f 0 / 10000 = 2 ∨ f 0 / 10000 = 3 ∨ f 0 / 10000 = 4 := by omega
      rcases h4 with e | e | e | e <;> rw [e] <;> decide
  have h2 : ∃ g', Rn y t B (lC f) 1 (lSt y B (f 0)) false (lC0 f) (1 + (if f 1 = 0 then cStp (f 2) else cBr 1 f).length) (sStp y t (lSp y B f (lSt y B (f 0))) (lSt y B (f 0))) g' (lC0 f + (lC1 y B f (lSt y B (f 0)) + lPr (lSp y B f (lSt y B (f 0))))) := by
    by_cases e : f 1 = 0
    · have e1 : lSp y B f (lSt y B (f 0)) = f 2 := if_pos (Or.inl e)
      have e2 : lC1 y B f (lSt y B (f 0)) = 0 := if_pos e
      rw [e1, e2, if_pos e]
      refine ⟨false, ?_⟩
      have := Rn.stp (y := y) (t := t) (B := B) (C := lC f) (pre := [(f 0 / 10000, f 0 % 10000)]) (post := cStp (f 4) ++ cStp (f 5)) (pc := 1) (d := lSt y B (f 0)) (c := lC0 f) (f := false) hv.2.2.1 hs0 (by unfold lC; rw [if_pos e]; rfl) rfl rfl
      rw [Int.zero_add]
      exact this
    · rw [if_neg e]
      exact Rn.br (pre := [(f 0 / 10000, f 0 % 10000)]) (post := cStp (f 4) ++ cStp (f 5)) hv e hs0 (by unfold lC; rw [if_neg e]; rfl) rfl rfl
  obtain ⟨g', h2⟩ := h2
  generalize hM : (if f 1 = 0 then cStp (f 2) else cBr 1 f) = M at h2
  have hd1 := sStp_bd (y := y) t (s := lSp y B f (lSt y B (f 0))) hs0
  have hlC : lC f = (f 0 / 10000, f 0 % 10000) :: (M ++ (cStp (f 4) ++ cStp (f 5))) := by unfold lC; rw [hM]
  have h3 := Rn.stp (y := y) (t := t) (B := B) (C := lC f) (pre := (f 0 / 10000, f 0 % 10000) :: M) (post := cStp (f 5)) (pc := 1 + M.length) (d := sStp y t (lSp y B f (lSt y B (f 0))) (lSt y B (f 0))) (c := lC0 f + (lC1 y B f (lSt y B (f 0)) + lPr (lSp y B f (lSt y B (f 0))))) (f := g') hv.2.2.2.2.1 hd1 (by rw [hlC]; rfl) (by simp; omega) rfl
  have hd2 := sStp_bd (y := y) t (s := f 4) hd1
  have h4 := Rn.stp (y := y) (t := t) (B := B) (C := lC f) (pre := (f 0 / 10000, f 0 % 10000) :: (M ++ cStp (f 4))) (post := []) (pc := 1 + M.length + (cStp (f 4)).length) (d := sStp y t (f 4) (sStp y t (lSp y B f (lSt y B (f 0))) (lSt y B (f 0)))) (c := lC0 f + (lC1 y B f (lSt y B (f 0)) + lPr (lSp y B f (lSt y B (f 0)))) + lPr (f 4)) (f := g') hv.2.2.2.2.2 hd2 (by rw [hlC]; simp) (by simp; omega) rfl
  obtain ⟨u', hu, e⟩ := (((h1.trans h2).trans h3).trans h4) (lC f).length (by omega)
  rw [e, xgo_end (by rw [hlC]; simp; omega)]
  unfold lDy lCo
  congr 1
  omega
end XGL
