/-! THE LANGUAGES: what a text is read as. A reading leaves what is still to come: '.inl' of it, where it can't go on, '.inr' with what was read. -/
abbrev Rd (α : Type) : Type := List Int ⊕ (α × List Int)
def pB {α β : Type} (x : Rd α) (f : α → List Int → Rd β) : Rd β := match x with
  | .inl s => .inl s
  | .inr (a, r) => f a r
def pDig (lo hi : Int) : List Int → Rd Int
  | [] => .inl []
  | c :: r => if lo ≤ c - 48 ∧ c - 48 ≤ hi then .inr (c - 48, r) else .inl (c :: r)
def pChr (x : Int) : List Int → Rd Unit
  | [] => .inl []
  | c :: r => if c = x then .inr ((), r) else .inl (c :: r)
theorem pDig_cons {lo hi c : Int} {r : List Int} : pDig lo hi (c :: r) = if lo ≤ c - 48 ∧ c - 48 ≤ hi then .inr (c - 48, r) else .inl (c :: r) := rfl
theorem pChr_cons {x c : Int} {r : List Int} : pChr x (c :: r) = if c = x then .inr ((), r) else .inl (c :: r) := rfl
def sMost (k : Int) : Int := (sMs true (k.toNat + 1) : Int) - sMs true k.toNat
def pLow (f : Int) : Int := if f = 102 then 0 else 1
def pHigh (f v : Int) : Int := if f = 102 then 19 else if f = 109 then 12 else sMost v
def pTwo (f v : Int) (s : List Int) : Rd Int :=
  pB (pDig 0 (pHigh f v / 10) s) fun t r =>
  pB (pDig (if t = 0 then pLow f else 0) (if t = pHigh f v / 10 then pHigh f v % 10 else 9) r) fun u r2 => .inr (u + 10 * t, r2)
def pFlds : List Int → Int → Int → List Int → Rd Int
  | [], a, _, s => .inr (a, s)
  | f :: fs, a, v, s =>
    if f = 110 then pB (pDig 1 5 s) fun x r => pFlds fs (10 * a + x) x r
    else if f = 119 then pB (pDig 0 6 s) fun x r => pFlds fs (10 * a + x) x r
    else pB (pTwo f v s) fun x r => pFlds fs (100 * a + x) x r
abbrev Cx : Type := List (Int × Int)
def pPart (kd : Int) (fs : List Int) (s : List Int) : Rd Cx := pB (pFlds fs 0 0 s) fun a r => .inr ([(kd, a)], r)
def pMore : Nat → Int → List Int → Int × List Int
  | 0, n, s => (n, s)
  | _ + 1, n, [] => (n, [])
  | k + 1, n, c :: r => if 0 ≤ c - 48 ∧ c - 48 ≤ 9 ∧ 10 * n + (c - 48) ≤ 366 then pMore k (10 * n + (c - 48)) r else (n, c :: r)
def pDays : Nat → Int → List Int → Rd Int
  | 0, σ, s => .inr (σ, s)
  | _ + 1, σ, [] => .inr (σ, [])
  | u + 1, σ, c :: r =>
    if c = 43 ∨ c = 45 then pB (pDig 0 9 r) fun x r1 => pDays u (if c = 43 then σ + (pMore 2 x r1).1 else σ - (pMore 2 x r1).1) (pMore 2 x r1).2
    else .inr (σ, c :: r)
def cDays (σ : Int) : Cx := if σ = 0 then [] else [(5, 5000 + σ)]
/-- the kind of a step that is one sign, with or without a weekday behind it -/
def mvK (c : Int) : Int := if c = 62 then 6 else if c = 60 then 7 else if c = 93 then 8 else if c = 91 then 9 else if c = 79 then 10 else if c = 81 then 11 else if c = 88 then 12 else 0
def mvF (c : Int) : List Int := if c = 62 ∨ c = 60 ∨ c = 93 ∨ c = 91 then [119] else []
/-- the kind of a condition's (rl), or claim's, first sign, and its fields -/
def lgK (rl : Bool) (c : Int) : Int := if rl then (if c = 87 then 13 else if c = 89 then 14 else if c = 65 then 15 else if c = 69 then 16 else 0) else (if c = 67 then 21 else if c = 68 then 22 else if c = 87 then 23 else if c = 78 then 24 else if c = 66 then 25 else 0)
def lgF (rl : Bool) (c : Int) : List Int := if rl then (if c = 87 then [119] else if c = 65 then [102] else if c = 69 then [109, 100] else []) else (if c = 68 then [102, 109, 100] else if c = 87 then [102, 119] else if c = 78 then [102] else if c = 66 then [102, 102] else [])
/-- conditions and questions -/
def pLog (rl : Bool) : Nat → Nat → List Int → Rd Cx
  | 0, _, s => .inl s
  | _ + 1, _, [] => .inl []
  | u + 1, n, c :: r =>
    if c = 33 then pB (pLog rl u n r) fun a r1 => .inr (a ++ [(17, 0)], r1)
    else if c = 40 then
      pB (pLog rl u n r) fun a r1 => match r1 with
        | [] => .inl []
        | o :: r2 => if o = 38 ∨ o = 124 then
            pB (pLog rl u (n + a.length + 1) r2) fun b r3 => pB (pChr 41 r3) fun _ r4 =>
              .inr (a ++ [(if o = 38 then 19 else 20, ((n + a.length + 1 + b.length : Nat) : Int))] ++ b, r4)
          else .inl (o :: r2)
    else if lgK rl c = 0 then .inl (c :: r)
    else pPart (lgK rl c) (lgF rl c) r
/-- steps -/
def pStp : Nat → Nat → List Int → Rd Cx
  | 0, _, s => .inr ([], s)
  | _ + 1, _, [] => .inr ([], [])
  | u + 1, n, c :: r =>
    if c = 43 ∨ c = 45 then
      pB (pDays (r.length + 2) 0 (c :: r)) fun σ r1 => pB (pStp u (n + (cDays σ).length) r1) fun b r2 => .inr (cDays σ ++ b, r2)
    else if c = 63 then
      pB (pB (pLog true u n r) fun a r1 => pB (pChr 123 r1) fun _ r2 => pB (pStp u (n + a.length + 1) r2) fun b r3 => pB (pChr 125 r3) fun _ r4 => match r4 with
        | [] => .inr (a ++ [(19, ((n + a.length + 1 + b.length : Nat) : Int))] ++ b, [])
        | o :: r5 => if o = 123 then
            pB (pStp u (n + a.length + 1 + b.length + 1) r5) fun d r6 => pB (pChr 125 r6) fun _ r7 =>
              .inr (a ++ [(19, ((n + a.length + 1 + b.length + 1 : Nat) : Int))] ++ b ++ [(18, ((n + a.length + 1 + b.length + 1 + d.length : Nat) : Int))] ++ d, r7)
          else .inr (a ++ [(19, ((n + a.length + 1 + b.length : Nat) : Int))] ++ b, o :: r5))
        fun br rb => pB (pStp u (n + br.length) rb) fun e r8 => .inr (br ++ e, r8)
    else if mvK c = 0 then .inr ([], c :: r)
    else pB (pPart (mvK c) (mvF c) r) fun a r1 => pB (pStp u (n + 1) r1) fun b r2 => .inr (a ++ b, r2)
def stK (c : Int) : Int := if c = 68 then 1 else if c = 78 then 2 else if c = 76 then 3 else if c = 70 then 4 else 0
def stF (c : Int) : List Int := if c = 68 then [109, 100] else if c = 78 then [110, 119, 109] else if c = 76 then [119, 109] else [102]
def pSta : List Int → Rd Cx
  | [] => .inl []
  | c :: r => if stK c = 0 then .inl (c :: r) else pPart (stK c) (stF c) r
/-- a rule: what is left where it goes wrong, or its code -/
def pRule (s : List Int) : List Int ⊕ Cx :=
  match pB (pSta s) fun a r => pB (pStp 41 a.length r) fun b r2 => .inr (a ++ b, r2) with
  | .inl q => .inl q
  | .inr (c, []) => .inr c
  | .inr (_, q) => .inl q
def pAsk (s : List Int) : List Int ⊕ Cx :=
  match pLog false 41 0 s with
  | .inl q => .inl q
  | .inr (c, []) => .inr c
  | .inr (_, q) => .inl q
/-! how much is read, and how much code it makes -/
def okR {α : Type} (ln : α → Nat) (k : Nat) (s : List Int) : Rd α → Prop
  | .inl q => q.length ≤ s.length
  | .inr (a, r) => r.length + k + ln a ≤ s.length
theorem pB_inl {α β : Type} {x : Rd α} {f : α → List Int → Rd β} {q : List Int} (h : x = .inl q) : pB x f = .inl q := by rw [h]; rfl
theorem pB_inr {α β : Type} {x : Rd α} {f : α → List Int → Rd β} {a : α} {r : List Int} (h : x = .inr (a, r)) : pB x f = f a r := by rw [h]; rfl
theorem okR_B {α β : Type} {la : α → Nat} {lb : β → Nat} {k k' : Nat} {s : List Int} {x : Rd α} {f : α → List Int → Rd β} (h : okR la k s x) (hf : ∀ a r, r.length + k + la a ≤ s.length → okR lb k' s (f a r)) : okR lb k' s (pB x f) := by
  cases x with
  | inl q => exact h
  | inr q => obtain ⟨a, r⟩ := q; exact hf a r h
theorem okR_up {α : Type} {ln : α → Nat} {k k' : Nat} {s s' : List Int} {x : Rd α} (h : okR ln k s x) (hs : s.length ≤ s'.length) (hk : s.length + k' ≤ s'.length + k) : okR ln k' s' x := by
  cases x with
  | inl q => exact Nat.le_trans h hs
  | inr q => obtain ⟨a, r⟩ := q; unfold okR at h ⊢; simp only at h ⊢; omega
theorem ok_dig {lo hi : Int} (s : List Int) : okR (fun _ => 0) 1 s (pDig lo hi s) := by
  cases s with
  | nil => exact Nat.le_refl _
  | cons c r =>
    rw [pDig_cons]
    split
    · show r.length + 1 + 0 ≤ (c :: r).length
      simp
    · exact Nat.le_refl _
theorem ok_chr {x : Int} (s : List Int) : okR (fun _ => 0) 1 s (pChr x s) := by
  cases s with
  | nil => exact Nat.le_refl _
  | cons c r =>
    rw [pChr_cons]
    split
    · show r.length + 1 + 0 ≤ (c :: r).length
      simp
    · exact Nat.le_refl _
theorem ok_two {f v : Int} (s : List Int) : okR (fun _ => 0) 2 s (pTwo f v s) := by
  unfold pTwo
  refine okR_B (ok_dig s) fun t r h1 => okR_B (la := fun _ => 0) (k := 2) (okR_up (ok_dig r) (by omega) (by omega)) fun u r2 h2 => ?_
  show r2.length + 2 + 0 ≤ s.length
  omega
theorem ok_flds (fs : List Int) : ∀ (a v : Int) (s : List Int), okR (fun _ => 0) 0 s (pFlds fs a v s) := by
  induction fs with
  | nil => intro a v s; exact Nat.le_refl _
  | cons f fs ih =>
    intro a v s
    unfold pFlds
    split
    · exact okR_B (ok_dig s) fun x r h => okR_up (ih _ _ r) (by omega) (by omega)
    · split
      · exact okR_B (ok_dig s) fun x r h => okR_up (ih _ _ r) (by omega) (by omega)
      · exact okR_B (ok_two s) fun x r h => okR_up (ih _ _ r) (by omega) (by omega)
theorem ok_part {kd : Int} {fs : List Int} (s s' : List Int) (h : s.length + 1 ≤ s'.length) : okR List.length 0 s' (pPart kd fs s) := by
  unfold pPart
  refine okR_B (okR_up (ok_flds fs 0 0 s) (k' := 1) (by omega) (by omega)) fun a r h1 => ?_
  show r.length + 0 + 1 ≤ _
  omega
theorem pMore_len : ∀ (k : Nat) (n : Int) (s : List Int), (pMore k n s).2.length ≤ s.length := by
  intro k
  induction k with
  | zero => intro n s; exact Nat.le_refl _
  | succ k ih =>
    intro n s
    cases s with
    | nil => exact Nat.le_refl _
    | cons c r =>
      unfold pMore
      split
      · exact Nat.le_trans (ih _ r) (by simp)
      · exact Nat.le_refl _
theorem ok_days : ∀ (u : Nat) (σ : Int) (s : List Int), okR (fun _ => 0) 0 s (pDays u σ s) := by
  intro u
  induction u with
  | zero => intro σ s; exact Nat.le_refl _
  | succ u ih =>
    intro σ s
    cases s with
    | nil => exact Nat.le_refl _
    | cons c r =>
      unfold pDays
      split
      · refine okR_B (okR_up (ok_dig r) (k' := 2) (by simp) (by simp)) fun x r1 h => ?_
        exact okR_up (ih _ _) (Nat.le_trans (pMore_len _ _ _) (by simp at h ⊢; omega)) (by have := pMore_len 2 x r1; simp at h ⊢; omega)
      · exact Nat.le_refl _
/-- what days begin with a sign leave is shorter -/
theorem ok_days1 {u : Nat} {c : Int} {r : List Int} (hc : c = 43 ∨ c = 45) : okR (fun _ => 0) 1 (c :: r) (pDays (u + 1) 0 (c :: r)) := by
  unfold pDays
  rw [if_pos hc]
  refine okR_B (okR_up (ok_dig r) (k' := 2) (by simp) (by simp)) fun x r1 h => ?_
  exact okR_up (ok_days _ _ _) (Nat.le_trans (pMore_len _ _ _) (by simp at h ⊢; omega)) (by have := pMore_len 2 x r1; simp at h ⊢; omega)
theorem cDays_len (σ : Int) : (cDays σ).length ≤ 1 := by unfold cDays; split <;> simp
theorem ok_log (rl : Bool) : ∀ (u n : Nat) (s : List Int), okR List.length 0 s (pLog rl u n s) := by
  intro u
  induction u with
  | zero => intro n s; exact Nat.le_refl _
  | succ u ih =>
    intro n s
    cases s with
    | nil => exact Nat.le_refl _
    | cons c r =>
      unfold pLog
      split
      · refine okR_B (okR_up (ih n r) (k' := 1) (by simp) (by simp)) fun a r1 h => ?_
        show r1.length + 0 + (a ++ [(17, 0)]).length ≤ (c :: r).length
        simp at h ⊢
        omega
      · split
        · refine okR_B (okR_up (ih n r) (k' := 1) (by simp) (by simp)) fun a r1 h => ?_
          cases r1 with
          | nil => exact Nat.zero_le _
          | cons o r2 =>
            simp only
            split
            · refine okR_B (la := List.length) (k := 2 + a.length) (okR_up (ih _ r2) (by simp at h ⊢; omega) (by simp at h ⊢; omega)) fun b r3 h2 => ?_
              refine okR_B (la := fun _ => 0) (k := 3 + a.length + b.length) (okR_up (ok_chr r3) (by omega) (by omega)) fun _ r4 h3 => ?_
              show r4.length + 0 + _ ≤ _
              simp at h2 h3 ⊢
              omega
            · show (o :: r2).length ≤ _
              simp at h ⊢
              omega
        · split
          · exact Nat.le_refl _
          · exact ok_part r (c :: r) (by simp)
theorem pB_inv {α β : Type} {x : Rd α} {f : α → List Int → Rd β} {q : β × List Int} (h : pB x f = .inr q) : ∃ a r, x = .inr (a, r) ∧ f a r = .inr q := by
  cases x with
  | inl s => cases h
  | inr z => exact ⟨z.1, z.2, rfl, h⟩
theorem pDig_inv {lo hi x : Int} {s r : List Int} (h : pDig lo hi s = .inr (x, r)) : ∃ c, s = c :: r ∧ x = c - 48 ∧ lo ≤ x ∧ x ≤ hi := by
  cases s with
  | nil => cases h
  | cons c s =>
    rw [pDig_cons] at h
    by_cases e : lo ≤ c - 48 ∧ c - 48 ≤ hi
    · rw [if_pos e] at h
      cases h
      exact ⟨c, rfl, rfl, e⟩
    · rw [if_neg e] at h
      cases h
theorem gD_l {a b : Cx} {i : Nat} (h : i < a.length) : (a ++ b).getD i (0, 0) = a.getD i (0, 0) := by
  rw [List.getD_eq_getElem?_getD, List.getElem?_append_left h, ← List.getD_eq_getElem?_getD]
theorem gD_r {a b : Cx} {i : Nat} (h : a.length ≤ i) : (a ++ b).getD i (0, 0) = b.getD (i - a.length) (0, 0) := by
  rw [List.getD_eq_getElem?_getD, List.getElem?_append_right h, ← List.getD_eq_getElem?_getD]
theorem part_ne {kd : Int} {fs s r : List Int} {a : Cx} (h : pPart kd fs s = .inr (a, r)) : ∃ v, a = [(kd, v)] ∧ pFlds fs 0 0 s = .inr (v, r) := by
  unfold pPart at h
  obtain ⟨v, r1, h1, h2⟩ := pB_inv h
  cases h2
  exact ⟨v, rfl, h1⟩
theorem log_ne {rl : Bool} {u n : Nat} {s r : List Int} {a : Cx} (h : pLog rl u n s = .inr (a, r)) : 1 ≤ a.length := by
  cases u with
  | zero => cases h
  | succ u =>
    cases s with
    | nil => cases h
    | cons c s =>
      unfold pLog at h
      split at h
      · obtain ⟨a1, r1, h1, h2⟩ := pB_inv h
        cases h2
        simp
      · split at h
        · obtain ⟨a1, r1, h1, h2⟩ := pB_inv h
          cases r1 with
          | nil => cases h2
          | cons o r2 =>
            simp only at h2
            split at h2
            · obtain ⟨b, r3, h3, h4⟩ := pB_inv h2
              obtain ⟨_, r4, h5, h6⟩ := pB_inv h4
              cases h6
              simp
              omega
            · cases h2
        · split at h
          · cases h
          · obtain ⟨v, e, -⟩ := part_ne h
            rw [e]
            simp
theorem log_lt {rl : Bool} {u n : Nat} {s r : List Int} {a : Cx} (h : pLog rl u n s = .inr (a, r)) : r.length + a.length ≤ s.length ∧ r.length < s.length := by
  have h1 := ok_log rl u n s
  have h2 := log_ne h
  rw [h] at h1
  unfold okR at h1
  simp only at h1
  omega
theorem chr_inv {x : Int} {s r : List Int} {q : Unit} (h : pChr x s = .inr (q, r)) : s = x :: r := by
  cases s with
  | nil => cases h
  | cons c s =>
    rw [pChr_cons] at h
    split at h
    · next e => cases h; rw [e]
    · cases h
theorem ok_br {u n : Nat} {c : Int} {r : List Int} (ih : ∀ (n : Nat) (s : List Int), okR List.length 0 s (pStp u n s)) : okR List.length 0 (c :: r)
    (pB (pLog true u n r) fun a r1 => pB (pChr 123 r1) fun _ r2 => pB (pStp u (n + a.length + 1) r2) fun b r3 => pB (pChr 125 r3) fun _ r4 => match r4 with
        | [] => (.inr (a ++ [(19, ((n + a.length + 1 + b.length : Nat) : Int))] ++ b, []) : Rd Cx)
        | o :: r5 => if o = 123 then
            pB (pStp u (n + a.length + 1 + b.length + 1) r5) fun d r6 => pB (pChr 125 r6) fun _ r7 =>
              .inr (a ++ [(19, ((n + a.length + 1 + b.length + 1 : Nat) : Int))] ++ b ++ [(18, ((n + a.length + 1 + b.length + 1 + d.length : Nat) : Int))] ++ d, r7)
          else .inr (a ++ [(19, ((n + a.length + 1 + b.length : Nat) : Int))] ++ b, o :: r5)) := by
  refine okR_B (okR_up (ok_log true u n r) (k' := 1) (by simp) (by simp)) fun a r1 h1 => ?_
  refine okR_B (la := fun _ => 0) (k := 2 + a.length) (okR_up (ok_chr r1) (by omega) (by omega)) fun _ r2 h2 => ?_
  refine okR_B (la := List.length) (k := 2 + a.length) (okR_up (ih _ r2) (by omega) (by omega)) fun b r3 h3 => ?_
  refine okR_B (la := fun _ => 0) (k := 3 + a.length + b.length) (okR_up (ok_chr r3) (by omega) (by omega)) fun _ r4 h4 => ?_
  cases r4 with
  | nil =>
    show 0 + 0 + _ ≤ _
    simp at h4 ⊢
    omega
  | cons o r5 =>
    simp only
    split
    · refine okR_B (la := List.length) (k := 4 + a.length + b.length) (okR_up (ih _ r5) (by simp at h4 ⊢; omega) (by simp at h4 ⊢; omega)) fun d r6 h6 => ?_
      refine okR_B (la := fun _ => 0) (k := 5 + a.length + b.length + d.length) (okR_up (ok_chr r6) (by omega) (by omega)) fun _ r7 h7 => ?_
      show r7.length + 0 + _ ≤ _
      simp at h7 ⊢
      omega
    · show (o :: r5).length + 0 + _ ≤ _
      simp at h4 ⊢
      omega
theorem ok_stp : ∀ (u n : Nat) (s : List Int), okR List.length 0 s (pStp u n s) := by
  intro u
  induction u with
  | zero => intro n s; exact Nat.le_refl _
  | succ u ih =>
    intro n s
    cases s with
    | nil => exact Nat.le_refl _
    | cons c r =>
      unfold pStp
      split
      · next hc =>
        refine okR_B (ok_days1 hc) fun σ r1 h => okR_B (okR_up (ih _ r1) (k' := 1) (by omega) (by omega)) fun b r2 h2 => ?_
        have := cDays_len σ
        show r2.length + 0 + (cDays σ ++ b).length ≤ _
        simp at h2 ⊢
        omega
      · split
        · refine okR_B (ok_br ih) fun br rb h => okR_B (okR_up (ih _ rb) (k' := br.length) (by omega) (by omega)) fun e r8 h8 => ?_
          show r8.length + 0 + (br ++ e).length ≤ _
          simp at h8 ⊢
          omega
        · split
          · exact Nat.le_refl _
          · refine okR_B (ok_part r (c :: r) (by simp)) fun a r1 h => okR_B (okR_up (ih _ r1) (k' := a.length) (by omega) (by omega)) fun b r2 h2 => ?_
            show r2.length + 0 + (a ++ b).length ≤ _
            simp at h2 ⊢
            omega
