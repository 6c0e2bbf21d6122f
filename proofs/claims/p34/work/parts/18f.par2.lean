/-! THE CLASS'S PARSER, fields and parts -/
theorem pDig_bd {lo hi x : Int} {s r : List Int} (h : pDig lo hi s = .inr (x, r)) : lo ≤ x ∧ x ≤ hi := by
  cases s with
  | nil => cases h
  | cons c s =>
    rw [pDig_cons] at h
    split at h
    · next e => cases h; exact e
    · cases h
def PD2 (m : Mm) (T : List Int) (FK FA : Nat → Int32) (n : Int32) (f : Int) (N : Nat) (res : Option (Int32 × Mm)) : Rd Int → Prop
  | .inl q => ∃ v' nm', res = some (i3 0, pM m (i3 (pl T q)) v' FK FA n nm')
  | .inr (x, r) => Sf T r ∧ (0 ≤ x ∧ x ≤ 39) ∧ res = some (i3 1, pM m (i3 (pl T r)) (i3 x) FK FA n (i3 (bN f x N)))
theorem pH1 (v : Int) : pHigh 102 v = 19 := rfl
theorem pH2 (v : Int) : pHigh 109 v = 12 := rfl
theorem pH3 (v : Int) : pHigh 100 v = sMost v := rfl
theorem sMost_bd {v : Int} (h : 1 ≤ v ∧ v ≤ 12) : 28 ≤ sMost v ∧ sMost v ≤ 31 := by
  obtain ⟨h1, h2, -⟩ := sMs_step true v.toNat (by omega) (by omega)
  unfold sMost
  omega
theorem pH_bd {f v : Int} (hf : f = 102 ∨ f = 109 ∨ f = 100) (hv : f = 100 → 1 ≤ v ∧ v ≤ 12) : 12 ≤ pHigh f v ∧ pHigh f v ≤ 31 := by
  rcases hf with rfl | rfl | rfl
  · rw [pH1]; omega
  · rw [pH2]; omega
  · have := sMost_bd (hv rfl)
    rw [pH3]; omega
section PAR2
variable {m : Mm} {T s : List Int} {v : Int32} {FK FA : Nat → Int32} {n : Int32}
theorem cod_name {M : Mm} {x : Int} {N : Nat} (hx : 0 ≤ x ∧ x ≤ 19) (hN : zI M 20 3 = i3 N) : f_Cod_name 20 (i3 x) M = some (wI M 20 3 (i3 ((N ||| 2 ^ x.toNat : Nat)))) := by
  unfold f_Cod_name zLet
  rw [hN, i3_bit hx]
/-- behind the first digit of two -/
theorem par_snd (h : PT m T) (hs : Sf T s) {f t lo hi : Int} {N : Nat} (ht : 0 ≤ t ∧ t ≤ 3) (hlo : 0 ≤ lo ∧ lo ≤ 1) (hhi : 0 ≤ hi ∧ hi ≤ 9) (hf : f = 102 → t ≤ 1) :
    PD2 m T FK FA n f N (zBI (f_Par_takesDigit (i3 lo) (i3 hi) (pM m (i3 (pl T s)) (i3 t) FK FA n (i3 N))) fun v18 m17 =>
      if v18 = i3 0 then some (i3 0, m17) else
        if f = 102 then zBV (f_Cod_name 20 (zI (wI m17 19 3 ((zI m17 19 3) + (i3 (10 * t)))) 19 3) (wI m17 19 3 ((zI m17 19 3) + (i3 (10 * t))))) fun m22 => some (i3 1, m22)
        else some (i3 1, wI m17 19 3 ((zI m17 19 3) + (i3 (10 * t))))) (pB (pDig lo hi s) fun u r2 => .inr (u + 10 * t, r2)) := by
  have hd := par_dig (FK := FK) (FA := FA) (n := n) (nm := i3 N) (v := i3 t) h hs (lo := lo) (hi := hi) (by omega) (by omega)
  cases e : pDig lo hi s with
  | inl q =>
    rw [e] at hd
    obtain ⟨rfl, hd⟩ := hd
    rw [hd]
    exact ⟨i3 t, i3 N, rfl⟩
  | inr z =>
    obtain ⟨x, r⟩ := z
    rw [e] at hd
    obtain ⟨hr, hd⟩ := hd
    have hx := pDig_bd e
    rw [hd]
    refine ⟨hr, by omega, ?_⟩
    simp only [zBI, ob_s, pM_v, i3_add, pM_wv, zBV]
    rw [if_neg (by decide)]
    unfold bN
    by_cases hf2 : f = 102
    · have := hf hf2
      rw [if_pos hf2, if_pos hf2, cod_name ⟨by omega, by omega⟩ pM_nm, pM_wnm]
      rfl
    · rw [if_neg hf2, if_neg hf2]
theorem par_two (h : PT m T) (hs : Sf T s) {f vv : Int} {N : Nat} (hf : f = 102 ∨ f = 109 ∨ f = 100) (hv : f = 100 → 1 ≤ vv ∧ vv ≤ 12) :
    PD2 m T FK FA n f N (f_Par_takesTwoDigits (i3 f) (pM m (i3 (pl T s)) (i3 vv) FK FA n (i3 N))) (pTwo f vv s) := by
  have hH0 := pH_bd hf hv
  have hH : 12 ≤ pHigh f vv ∧ pHigh f vv ≤ 31 ∧ (f = 102 → pHigh f vv = 19) := ⟨hH0.1, hH0.2, fun e => by rw [e]; rfl⟩
  have hm : f = 100 → f_Cal_mostDaysOf (i3 vv) (pM m (i3 (pl T s)) (i3 vv) FK FA n (i3 N)) = some (i3 (pHigh f vv)) := by
    rintro rfl
    obtain ⟨v1, v2⟩ := hv rfl
    have q1 := cal_ms true (k := vv.toNat) (by omega) (by omega) (pM m (i3 (pl T s)) (i3 vv) FK FA n (i3 N))
    have q2 := cal_ms true (k := vv.toNat + 1) (by omega) (by omega) (pM m (i3 (pl T s)) (i3 vv) FK FA n (i3 N))
    have e1 : ((vv.toNat : Nat) : Int) = vv := by omega
    have e2 : ((vv.toNat + 1 : Nat) : Int) = vv + 1 := by omega
    rw [e1] at q1
    rw [e2] at q2
    have eb : b3 true = i3 1 := by decide
    rw [eb] at q1 q2
    unfold f_Cal_mostDaysOf
    simp only [zBP, i3_lit, i3_add, q1, q2, ob_s, i3_sub]
    rfl
  have e : f_Par_takesTwoDigits (i3 f) (pM m (i3 (pl T s)) (i3 vv) FK FA n (i3 N)) = zBI (f_Par_takesDigit (i3 0) (i3 (pHigh f vv / 10)) (pM m (i3 (pl T s)) (i3 vv) FK FA n (i3 N))) fun v8 m7 =>
      if v8 = i3 0 then some (i3 0, m7) else
        (fun (x12 x15 : Int32) => zBI (f_Par_takesDigit x12 x15 m7) fun v18 m17 => if v18 = i3 0 then some (i3 0, m17) else
          if f = 102 then zBV (f_Cod_name 20 (zI (wI m17 19 3 ((zI m17 19 3) + (i3 10 * zI m7 19 3))) 19 3) (wI m17 19 3 ((zI m17 19 3) + (i3 10 * zI m7 19 3)))) fun m22 => some (i3 1, m22)
          else some (i3 1, wI m17 19 3 ((zI m17 19 3) + (i3 10 * zI m7 19 3)))) (if zI m7 19 3 = i3 0 then i3 (pLow f) else i3 0) (if zI m7 19 3 = i3 (pHigh f vv / 10) then i3 (pHigh f vv % 10) else i3 9) := by
    unfold f_Par_takesTwoDigits
    rcases hf with rfl | rfl | rfl
    · rw [pH1]
      simp (maxSteps := 3000000) (disch := omega) only [zLet, i3_lit, i3_eq, Int.reduceEq, reduceIte, i3_div, i3_mod]
      refine congrArg (zBI _) (funext fun v8 => funext fun m7 => ?_)
      by_cases c1 : v8 = i3 0
      · simp only [if_pos c1]
      · by_cases c2 : zI m7 19 3 = i3 0
        · by_cases c3 : zI m7 19 3 = i3 (19 / 10)
          · simp only [if_neg c1, if_pos c2, if_pos c3]; rfl
          · simp only [if_neg c1, if_pos c2, if_neg c3]; rfl
        · by_cases c3 : zI m7 19 3 = i3 (19 / 10)
          · simp only [if_neg c1, if_neg c2, if_pos c3]
          · simp only [if_neg c1, if_neg c2, if_neg c3]
    · rw [pH2]
      simp (maxSteps := 3000000) (disch := omega) only [zLet, i3_lit, i3_eq, Int.reduceEq, reduceIte, i3_div, i3_mod]
      refine congrArg (zBI _) (funext fun v8 => funext fun m7 => ?_)
      by_cases c1 : v8 = i3 0
      · simp only [if_pos c1]
      · by_cases c2 : zI m7 19 3 = i3 0
        · by_cases c3 : zI m7 19 3 = i3 (12 / 10)
          · simp only [if_neg c1, if_pos c2, if_pos c3]; rfl
          · simp only [if_neg c1, if_pos c2, if_neg c3]; rfl
        · by_cases c3 : zI m7 19 3 = i3 (12 / 10)
          · simp only [if_neg c1, if_neg c2, if_pos c3]
          · simp only [if_neg c1, if_neg c2, if_neg c3]
    · have hm' := hm rfl
      have hsb := sMost_bd (hv rfl)
      rw [pH3] at hm' ⊢
      simp (maxSteps := 3000000) (disch := omega) only [zLet, i3_lit, i3_eq, Int.reduceEq, reduceIte, zBP, pM_v, hm', ob_s, i3_div, i3_mod]
      refine congrArg (zBI _) (funext fun v8 => funext fun m7 => ?_)
      by_cases c1 : v8 = i3 0
      · simp only [if_pos c1]
      · by_cases c2 : zI m7 19 3 = i3 0
        · by_cases c3 : zI m7 19 3 = i3 (sMost vv / 10)
          · simp only [if_neg c1, if_pos c2, if_pos c3]; rfl
          · simp only [if_neg c1, if_pos c2, if_neg c3]; rfl
        · by_cases c3 : zI m7 19 3 = i3 (sMost vv / 10)
          · simp only [if_neg c1, if_neg c2, if_pos c3]
          · simp only [if_neg c1, if_neg c2, if_neg c3]
  rw [e]
  unfold pTwo
  have hd := par_dig (FK := FK) (FA := FA) (n := n) (nm := i3 N) (v := i3 vv) h hs (lo := 0) (hi := pHigh f vv / 10) (by omega) (by omega)
  cases e1 : pDig 0 (pHigh f vv / 10) s with
  | inl q =>
    rw [e1] at hd
    obtain ⟨rfl, hd⟩ := hd
    rw [hd]
    exact ⟨i3 vv, i3 N, rfl⟩
  | inr z =>
    obtain ⟨t, r⟩ := z
    rw [e1] at hd
    obtain ⟨hr, hd⟩ := hd
    have ht := pDig_bd e1
    have hlow : 0 ≤ pLow f ∧ pLow f ≤ 1 := by unfold pLow; split <;> omega
    rw [hd]
    simp only [zBI, ob_s, pM_v, i3_mul]
    rw [if_neg (by decide)]
    simp (disch := omega) only [i3_eq]
    have q := par_snd (FK := FK) (FA := FA) (n := n) (N := N) h hr (f := f) (t := t) (lo := if t = 0 then pLow f else 0) (hi := if t = pHigh f vv / 10 then pHigh f vv % 10 else 9) ⟨by omega, by omega⟩ (by split <;> omega) (by split <;> omega) (fun hf2 => by have := hH.2.2 hf2; omega)
    have e5 : (if t = 0 then i3 (pLow f) else i3 0) = i3 (if t = 0 then pLow f else 0) := by split <;> rfl
    have e6 : (if t = pHigh f vv / 10 then i3 (pHigh f vv % 10) else i3 9) = i3 (if t = pHigh f vv / 10 then pHigh f vv % 10 else 9) := by split <;> rfl
    rw [e5, e6]
    exact q
/-- the names along the fields -/
def nF : List Int → Int → List Int → Nat → Nat
  | [], _, _, N => N
  | f :: fs, v, s, N =>
    if f = 110 then match pDig 1 5 s with
      | .inl _ => N
      | .inr (x, r) => nF fs x r N
    else if f = 119 then match pDig 0 6 s with
      | .inl _ => N
      | .inr (x, r) => nF fs x r N
    else match pTwo f v s with
      | .inl _ => N
      | .inr (x, r) => nF fs x r (bN f x N)
/-- the fields that may stand behind each other -/
def okF : List Int → Bool → Bool
  | [], _ => true
  | f :: fs, b => (f == 110 || f == 119 || f == 102 || f == 109 || (f == 100 && b)) && okF fs (f == 109)
theorem pTwo_bd {f vv x : Int} {s r : List Int} (hf : f = 102 ∨ f = 109 ∨ f = 100) (hv : f = 100 → 1 ≤ vv ∧ vv ≤ 12) (h : pTwo f vv s = .inr (x, r)) : (pLow f ≤ x ∧ x ≤ pHigh f vv) := by
  unfold pTwo at h
  obtain ⟨t, r1, h1, h2⟩ := pB_inv h
  obtain ⟨u, r2, h3, h4⟩ := pB_inv h2
  cases h4
  have b1 := pDig_bd h1
  have b2 := pDig_bd h3
  have hH := pH_bd hf hv
  have hl : 0 ≤ pLow f ∧ pLow f ≤ 1 := by unfold pLow; split <;> omega
  split at b2 <;> split at b2 <;> omega
def PF (m : Mm) (T : List Int) (FK FA : Nat → Int32) (n : Int32) (N : Nat) (kd : Int) (cont : Int32 → Mm → Option (Int32 × Mm)) (res : Option (Int32 × Mm)) : Rd Int → Prop
  | .inl q => ∃ v' nm', res = some (i3 0, pM m (i3 (pl T q)) v' FK FA n nm')
  | .inr (a, r) => Sf T r ∧ (0 ≤ a ∧ a ≤ 1000000) ∧ ∃ v', res = cont (i3 a) (pM m (i3 (pl T r)) v' FK FA n (i3 N))
end PAR2
/-- the parser's nine texts -/
theorem str_tb : ∀ i, i < 9 → (zSl i = i3 (zSLn.getD i 0 : Nat)) ∧ (zSBy.getD i []).length = zSLn.getD i 0 ∧ zSLn.getD i 0 ≤ 3 := by decide +kernel
theorem str_at {i k : Nat} (hk : k < 4) : zSc i (i3 k) = (zSBy.getD i []).getD k 0 := by
  unfold zSc
  rw [i3_ix ⟨by omega, by omega⟩, Int.toNat_natCast]
def fS (i : Nat) : List Int := (zSBy.getD i []).map fun x => x.toInt
