/-! QUESTIONS: what their code tells -/
theorem it_lt0 {α : Type} {a : Int} {x y : α} (ha : -2147483648 ≤ a ∧ a < 2147483648) : (if i3 a < 0 then x else y) = if a < 0 then x else y := it_lt (b := 0) ha ⟨by decide, by decide⟩
theorem it_0le {α : Type} {a : Int} {x y : α} (ha : -2147483648 ≤ a ∧ a < 2147483648) : (if 0 ≤ i3 a then x else y) = if 0 ≤ a then x else y := it_le (a := 0) ⟨by decide, by decide⟩ ha
theorem it_e0 {α : Type} {a : Int} {x y : α} (ha : -2147483648 ≤ a ∧ a < 2147483648) : (if i3 a = 0 then x else y) = if a = 0 then x else y := it_eq (b := 0) ha ⟨by decide, by decide⟩
theorem it_e1 {α : Type} {a : Int} {x y : α} (ha : -2147483648 ≤ a ∧ a < 2147483648) : (if i3 a = 1 then x else y) = if a = 1 then x else y := it_eq (b := 1) ha ⟨by decide, by decide⟩
theorem it_n1 {α : Type} {a : Int} {x y : α} (ha : -2147483648 ≤ a ∧ a < 2147483648) : (if i3 a = -1 then x else y) = if a = -1 then x else y := it_m1 ha
/-- a claim that may stand -/
def qCl (k x : Int) : Prop := (k = 21 ∧ x = 0) ∨ (k = 22 ∧ 0 ≤ x ∧ x ≤ 199999) ∨ (k = 23 ∧ 0 ≤ x ∧ x ≤ 199 ∧ x % 10 ≤ 6) ∨ (k = 24 ∧ 0 ≤ x ∧ x ≤ 19) ∨ (k = 25 ∧ 0 ≤ x ∧ x / 100 ≤ 19 ∧ x % 100 ≤ 19)
theorem v_ask {c x : Int} {s r : List Int} (h0 : lgK false c ≠ 0) (h : pFlds (lgF false c) 0 0 s = .inr (x, r)) : qCl (lgK false c) x := by
  unfold lgK lgF at *
  simp only [Bool.false_eq_true, if_false] at *
  by_cases c67 : c = 67
  · subst c67
    cases h
    exact Or.inl ⟨rfl, rfl⟩
  rw [if_neg c67] at h0 ⊢
  by_cases c68 : c = 68
  · rw [if_pos c68] at h ⊢
    rw [pFlds_cons ⟨by decide, by decide⟩] at h
    obtain ⟨x1, r1, h1, h2⟩ := pB_inv h
    rw [pFlds_cons ⟨by decide, by decide⟩] at h2
    obtain ⟨x2, r2, h3, h4⟩ := pB_inv h2
    rw [pFlds_cons ⟨by decide, by decide⟩] at h4
    obtain ⟨x3, r3, h5, h6⟩ := pB_inv h4
    have m0 := fe_in h1
    have m1 := mo_in h3
    have m2 := da_in m1 h5
    have hb := sMost_bd (v := x2) m1
    unfold vMo at m1
    cases h6
    refine Or.inr (Or.inl ⟨rfl, by omega, by omega⟩)
  rw [if_neg c68] at h0 h ⊢
  by_cases c87 : c = 87
  · rw [if_pos c87] at h ⊢
    rw [pFlds_cons ⟨by decide, by decide⟩] at h
    obtain ⟨x1, r1, h1, h2⟩ := pB_inv h
    rw [pFlds_w] at h2
    obtain ⟨x2, r2, h3, h4⟩ := pB_inv h2
    obtain ⟨_, _, _, a1, a2⟩ := pDig_inv h3
    have m0 := fe_in h1
    cases h4
    refine Or.inr (Or.inr (Or.inl ⟨rfl, by omega, by omega, by omega⟩))
  rw [if_neg c87] at h0 h ⊢
  by_cases c78 : c = 78
  · rw [if_pos c78] at h ⊢
    exact Or.inr (Or.inr (Or.inr (Or.inl ⟨rfl, v_feast h⟩)))
  rw [if_neg c78] at h0 h ⊢
  by_cases c66 : c = 66
  · rw [if_pos c66] at h ⊢
    rw [pFlds_cons ⟨by decide, by decide⟩] at h
    obtain ⟨x1, r1, h1, h2⟩ := pB_inv h
    rw [pFlds_cons ⟨by decide, by decide⟩] at h2
    obtain ⟨x2, r2, h3, h4⟩ := pB_inv h2
    have m0 := fe_in h1
    have m1 := fe_in h3
    cases h4
    refine Or.inr (Or.inr (Or.inr (Or.inr ⟨rfl, by omega, by omega, by omega⟩)))
  rw [if_neg c66] at h0
  exact absurd rfl h0
def qStep (M pc : Nat) (kd v : Int) : Prop := qCl kd v ∨ (kd = 17 ∧ v = 0) ∨ ((kd = 19 ∨ kd = 20) ∧ (pc : Int) < v ∧ v ≤ M)
def qL (M n : Nat) (b : Cx) : Prop := ∀ i, i < b.length → qStep M (n + i) (b.getD i (0, 0)).1 (b.getD i (0, 0)).2
theorem qL.app {M n : Nat} {a b : Cx} (h : qL M n a) (h2 : qL M (n + a.length) b) : qL M n (a ++ b) := by
  intro i hi
  by_cases q : i < a.length
  · rw [gD_l q]
    exact h i q
  · rw [gD_r (by omega)]
    have := h2 (i - a.length) (by rw [List.length_append] at hi; omega)
    rw [show n + a.length + (i - a.length) = n + i by omega] at this
    exact this
theorem qL.one {M n : Nat} {kd v : Int} (h : qStep M n kd v) : qL M n [(kd, v)] := by
  intro i hi
  have : i = 0 := by simp at hi; exact hi
  subst this
  exact h
/-- a step of the reference's code -/
def qSt (q : Int × Int) : Prop := qCl (q.1 + 20) q.2 ∨ (q.1 = 6 ∧ q.2 = 0) ∨ (q.1 = 7 ∧ q.2 = 0) ∨ (q.1 = 8 ∧ q.2 = 0)
def qSh (q : Int × Int) : Int × Int := (q.1 + 20, q.2)
def qF (o : Int → Int → Bool) (kd v : Int) (f : Bool) : Bool := if kd = 17 then !f else if kd < 21 then f else o kd v
def qgo (o : Int → Int → Bool) (K A : Nat → Int) (n : Nat) : Nat → Nat → Bool → Bool
  | 0, _, f => f
  | u + 1, pc, f => if pc < n then qgo o K A n u (xN (K pc) (A pc) pc (qF o (K pc) (A pc) f)) (qF o (K pc) (A pc) f) else f
theorem qgo_go {o : Int → Int → Bool} {K A : Nat → Int} {n u pc : Nat} {f : Bool} (h : pc < n) : qgo o K A n (u + 1) pc f = qgo o K A n u (xN (K pc) (A pc) pc (qF o (K pc) (A pc) f)) (qF o (K pc) (A pc) f) := if_pos h
theorem qgo_end {o : Int → Int → Bool} {K A : Nat → Int} {n pc : Nat} {f : Bool} (h : n ≤ pc) : ∀ u, qgo o K A n u pc f = f
  | 0 => rfl
  | _ + 1 => if_neg (by omega)
/-- the reference's code is worked off on a row of answers -/
def pz1 (o : Int → Int → Bool) (q : Int × Int) : List Bool → Option (List Bool)
  | st => if q.1 ≤ 5 then some (o (q.1 + 20) q.2 :: st) else if q.1 = 6 then (match st with
      | b :: t => some ((!b) :: t)
      | [] => none) else (match st with
      | b :: a :: t => some ((if q.1 = 7 then a && b else a || b) :: t)
      | _ => none)
def pzL (o : Int → Int → Bool) : Cx → List Bool → Option (List Bool)
  | [], st => some st
  | q :: C, st => (pz1 o q st).bind (pzL o C)
theorem pzL_app {o : Int → Int → Bool} {a b : Cx} : ∀ {st : List Bool}, pzL o (a ++ b) st = (pzL o a st).bind (pzL o b) := by
  induction a with
  | nil => intro st; rfl
  | cons q a ih =>
    intro st
    show (pz1 o q st).bind (pzL o (a ++ b)) = ((pz1 o q st).bind (pzL o a)).bind (pzL o b)
    cases pz1 o q st with
    | none => rfl
    | some st' => exact ih
def Sg (K A : Nat → Int) (n : Nat) (C : Cx) : Prop := ∀ i, i < C.length → K (n + i) = (C.getD i (0, 0)).1 ∧ A (n + i) = (C.getD i (0, 0)).2
theorem Sg.l {K A : Nat → Int} {n : Nat} {a b : Cx} (h : Sg K A n (a ++ b)) : Sg K A n a := fun i hi => by
  have := h i (by rw [List.length_append]; omega)
  rw [gD_l hi] at this
  exact this
theorem Sg.r {K A : Nat → Int} {n : Nat} {a b : Cx} (h : Sg K A n (a ++ b)) : Sg K A (n + a.length) b := fun i hi => by
  have := h (a.length + i) (by rw [List.length_append]; omega)
  rw [gD_r (by omega), show a.length + i - a.length = i by omega, ← Nat.add_assoc] at this
  exact this
/-- the class's and the reference's code of one question -/
def qP (n : Nat) (C C' : Cx) : Prop := C'.length = C.length ∧ nmC C = nmC (C'.map qSh) ∧ (∀ M, n + C.length ≤ M → qL M n C) ∧ (∀ q, q ∈ C' → qSt q) ∧
  ∀ o : Int → Int → Bool, ∃ V : Bool, (∀ (K A : Nat → Int) (N u : Nat) (f : Bool), Sg K A n C → n + C.length ≤ N → C.length ≤ u → ∃ u', u - C.length ≤ u' ∧ qgo o K A N u n f = qgo o K A N u' (n + C.length) V) ∧ ∀ st, pzL o C' st = some (V :: st)
theorem qP_cl (n : Nat) {k x : Int} (h : qCl k x) : qP n [(k, x)] [(k - 20, x)] := by
  have hk : 21 ≤ k ∧ k ≤ 25 := by unfold qCl at h; omega
  have e : k - 20 + 20 = k := by omega
  refine ⟨rfl, ?_, fun M _ => qL.one (Or.inl h), fun q hq => ?_, fun o => ⟨o k x, fun K A N u f hs hN hu => ?_, fun st => ?_⟩⟩
  · show nmC [(k, x)] = nmC [(k - 20 + 20, x)]
    rw [e]
  · rw [List.mem_singleton] at hq
    subst hq
    left
    show qCl (k - 20 + 20) x
    rw [e]
    exact h
  · obtain ⟨e1, e2⟩ := hs 0 (Nat.lt_succ_self 0)
    rw [Nat.add_zero] at e1 e2
    have e1 : K n = k := e1
    have e2 : A n = x := e2
    have hu1 : 1 ≤ u := hu
    have hN1 : n + 1 ≤ N := hN
    obtain ⟨u', rfl⟩ : ∃ u', u = u' + 1 := ⟨u - 1, by omega⟩
    refine ⟨u', by show u' + 1 - 1 ≤ u'; omega, ?_⟩
    rw [qgo_go (by omega), e1, e2, show qF o k x f = o k x from by unfold qF; rw [if_neg (by omega), if_neg (by omega)], show ∀ b, xN k x n b = n + 1 from fun b => by unfold xN; rw [if_neg (by omega)]]
    rfl
  · show (pz1 o (k - 20, x) st).bind (pzL o []) = _
    unfold pz1
    simp only
    rw [if_pos (by omega), e]
    rfl
theorem qP_no (n : Nat) {a b : Cx} (h : qP n a b) : qP n (a ++ [(17, 0)]) (b ++ [(6, 0)]) := by
  obtain ⟨h1, h2, h3, h4, h5⟩ := h
  have hl : (a ++ [((17 : Int), (0 : Int))]).length = a.length + 1 := by simp
  refine ⟨by simp [h1], ?_, fun M hM => ?_, fun q hq => ?_, fun o => ?_⟩
  · rw [nmC_app, List.map_append, nmC_app, h2]
    rfl
  · rw [hl] at hM
    exact (h3 M (by omega)).app (qL.one (Or.inr (Or.inl ⟨rfl, rfl⟩)))
  · rw [List.mem_append, List.mem_singleton] at hq
    rcases hq with hq | hq
    · exact h4 q hq
    · subst hq
      exact Or.inr (Or.inl ⟨rfl, rfl⟩)
  · obtain ⟨V, g1, g2⟩ := h5 o
    refine ⟨!V, fun K A N u f hs hN hu => ?_, fun st => ?_⟩
    · rw [hl] at hN hu ⊢
      obtain ⟨u', hu', e⟩ := g1 K A N u f hs.l (by omega) (by omega)
      obtain ⟨e1, e2⟩ := hs.r 0 (Nat.lt_succ_self 0)
      rw [Nat.add_zero] at e1 e2
      have e1 : K (n + a.length) = 17 := e1
      obtain ⟨u2, rfl⟩ : ∃ u2, u' = u2 + 1 := ⟨u' - 1, by omega⟩
      refine ⟨u2, by omega, ?_⟩
      rw [e, qgo_go (by omega), e1, show ∀ v f, qF o 17 v f = !f from fun v f => if_pos rfl, show ∀ v b, xN 17 v (n + a.length) b = n + a.length + 1 from fun v b => by unfold xN; rw [if_neg (by omega)]]
      rfl
    · rw [pzL_app, g2]
      rfl
theorem qP_tw (n : Nat) (o : Int) {a b a' b' : Cx} (h : qP n a a') (g : qP (n + a.length + 1) b b') : qP n (a ++ [(if o = 38 then 19 else 20, ((n + a.length + 1 + b.length : Nat) : Int))] ++ b) (a' ++ b' ++ [(if o = 38 then 7 else 8, 0)]) := by
  obtain ⟨h1, h2, h3, h4, h5⟩ := h
  obtain ⟨g1, g2, g3, g4, g5⟩ := g
  generalize hj : (if o = 38 then (19 : Int) else 20) = j
  generalize hj' : (if o = 38 then (7 : Int) else 8) = j'
  have hjj : (j = 19 ∧ j' = 7) ∨ (j = 20 ∧ j' = 8) := by
    by_cases e : o = 38
    · rw [if_pos e] at hj hj'; left; exact ⟨hj.symm, hj'.symm⟩
    · rw [if_neg e] at hj hj'; right; exact ⟨hj.symm, hj'.symm⟩
  clear hj hj'
  generalize hx : ((n + a.length + 1 + b.length : Nat) : Int) = x
  have hl : (a ++ [(j, x)] ++ b).length = a.length + 1 + b.length := by simp; omega
  refine ⟨by simp [h1, g1], ?_, fun M hM => ?_, fun q hq => ?_, fun w => ?_⟩
  · rw [nmC_app, nmC_app, List.map_append, List.map_append, nmC_app, nmC_app, h2, g2]
    have e1 : nmC [(j, x)] = 0 := by rcases hjj with ⟨rfl, -⟩ | ⟨rfl, -⟩ <;> simp [nmC, cNm]
    have e2 : nmC (List.map qSh [(j', 0)]) = 0 := by rcases hjj with ⟨-, rfl⟩ | ⟨-, rfl⟩ <;> simp [nmC, cNm, qSh]
    rw [e1, e2, Nat.or_zero, Nat.or_zero]
  · rw [hl] at hM
    refine ((h3 M (by omega)).app (qL.one (Or.inr (Or.inr ⟨by omega, by omega, by omega⟩)))).app ?_
    rw [List.length_append, List.length_singleton, ← Nat.add_assoc]
    exact g3 M (by omega)
  · rw [List.mem_append, List.mem_append, List.mem_singleton] at hq
    rcases hq with (hq | hq) | hq
    · exact h4 q hq
    · exact g4 q hq
    · subst hq
      rcases hjj with ⟨-, rfl⟩ | ⟨-, rfl⟩
      · exact Or.inr (Or.inr (Or.inl ⟨rfl, rfl⟩))
      · exact Or.inr (Or.inr (Or.inr ⟨rfl, rfl⟩))
  · obtain ⟨V, v1, v2⟩ := h5 w
    obtain ⟨W, w1, w2⟩ := g5 w
    refine ⟨if j = 19 then V && W else V || W, fun K A N u f hs hN hu => ?_, fun st => ?_⟩
    · rw [hl] at hN hu ⊢
      obtain ⟨u', hu', e⟩ := v1 K A N u f hs.l.l (by omega) (by omega)
      obtain ⟨e1, e2⟩ := hs.l.r 0 (Nat.lt_succ_self 0)
      rw [Nat.add_zero] at e1 e2
      have e1 : K (n + a.length) = j := e1
      have e2 : A (n + a.length) = x := e2
      have hs3 := hs.r
      rw [List.length_append, List.length_singleton, ← Nat.add_assoc] at hs3
      obtain ⟨u2, rfl⟩ : ∃ u2, u' = u2 + 1 := ⟨u' - 1, by omega⟩
      have eF : qF w j x V = V := by unfold qF; rw [if_neg (by omega), if_pos (by omega)]
      rw [e, qgo_go (by omega), e1, e2, eF]
      by_cases cj : (j = 19 ∧ V = false) ∨ (j = 20 ∧ V = true)
      · refine ⟨u2, by omega, ?_⟩
        have eN : xN j x (n + a.length) V = n + (a.length + 1 + b.length) := by
          unfold xN
          rw [if_pos (Or.inr cj)]
          omega
        rw [eN]
        rcases cj with ⟨rfl, rfl⟩ | ⟨rfl, rfl⟩ <;> rfl
      · have eN : xN j x (n + a.length) V = n + a.length + 1 := by
          unfold xN
          rw [if_neg (fun z => z.elim (fun z => by omega) cj)]
        rw [eN]
        obtain ⟨u3, hu3, e3⟩ := w1 K A N u2 V hs3 (by omega) (by omega)
        refine ⟨u3, by omega, ?_⟩
        rw [e3, show n + a.length + 1 + b.length = n + (a.length + 1 + b.length) by omega]
        rcases hjj with ⟨rfl, -⟩ | ⟨rfl, -⟩
        · cases V with
          | false => exact absurd (Or.inl ⟨rfl, rfl⟩) cj
          | true => rfl
        · cases V with
          | true => exact absurd (Or.inr ⟨rfl, rfl⟩) cj
          | false => rfl
    · rw [pzL_app, pzL_app, v2]
      show ((pzL w b' (V :: st)).bind _) = _
      rw [w2]
      rcases hjj with ⟨rfl, rfl⟩ | ⟨rfl, rfl⟩ <;> rfl
theorem ask_both (u n : Nat) (s : List Int) : sameR (qP n) (pLog false u n s) (pPst u s) :=
  log_pst qP (fun n _ _ _ _ h0 h => qP_cl n (v_ask h0 h)) (fun n _ _ h => qP_no n h) (fun n o _ _ _ _ h g => qP_tw n o h g) u n s
