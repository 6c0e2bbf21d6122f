/-! THE CLASS READS A RULE PLAINLY: starts, moves, days -/
theorem mo_in {v x : Int} {s r : List Int} (h : pTwo 109 v s = .inr (x, r)) : vMo x := by
  unfold pTwo at h
  rw [show pHigh 109 v = 12 from rfl, show pLow 109 = 1 from rfl] at h
  obtain ⟨t, r1, h1, h2⟩ := pB_inv h
  obtain ⟨u, r2, h3, h4⟩ := pB_inv h2
  obtain ⟨c1, -, -, a1, a2⟩ := pDig_inv h1
  obtain ⟨c2, -, -, a3, a4⟩ := pDig_inv h3
  cases h4
  revert a3 a4
  unfold vMo
  split <;> split <;> intro a3 a4 <;> omega
theorem pFlds_w {fs : List Int} {a v : Int} {s : List Int} : pFlds (119 :: fs) a v s = pB (pDig 0 6 s) fun x r => pFlds fs (10 * a + x) x r := by
  show (if (119 : Int) = 110 then _ else if (119 : Int) = 119 then _ else _) = _
  rw [if_neg (by decide), if_pos rfl]
theorem pFlds_n {fs : List Int} {a v : Int} {s : List Int} : pFlds (110 :: fs) a v s = pB (pDig 1 5 s) fun x r => pFlds fs (10 * a + x) x r := by
  show (if (110 : Int) = 110 then _ else _) = _
  rw [if_pos rfl]
/-- month and day -/
theorem fl_date {v : Int} {s r : List Int} (h : pFlds [109, 100] 0 0 s = .inr (v, r)) : pNum 4 0 s = (v, r) := by
  rw [pFlds_cons ⟨by decide, by decide⟩] at h
  obtain ⟨x, r1, h1, h2⟩ := pB_inv h
  rw [pFlds_cons ⟨by decide, by decide⟩] at h2
  obtain ⟨x2, r2, h3, h4⟩ := pB_inv h2
  obtain ⟨c1, c2, rfl, rfl, a1, a2⟩ := two_in (Or.inr (Or.inl rfl)) h1
  obtain ⟨c3, c4, rfl, rfl, a3, a4⟩ := two_in (Or.inr (Or.inr ⟨rfl, mo_in h1⟩)) h3
  cases h4
  rw [num4 a1 a2 a3 a4]
  congr 1
  omega
theorem fl_wd {v : Int} {s r : List Int} (h : pFlds [119] 0 0 s = .inr (v, r)) : pNum 1 0 s = (v, r) := by
  rw [pFlds_w] at h
  obtain ⟨x, r1, h1, h2⟩ := pB_inv h
  obtain ⟨c1, rfl, rfl, a1, a2⟩ := dig_in (by decide) (by decide) h1
  cases h2
  rw [num1 ⟨a1, a2⟩]
  congr 1
  omega
theorem fl_feast {v : Int} {s r : List Int} (h : pFlds [102] 0 0 s = .inr (v, r)) : pNum 2 0 s = (v, r) := by
  rw [pFlds_cons ⟨by decide, by decide⟩] at h
  obtain ⟨x, r1, h1, h2⟩ := pB_inv h
  obtain ⟨c1, c2, rfl, rfl, a1, a2⟩ := two_in (Or.inl rfl) h1
  cases h2
  rw [num2 a1 a2]
  congr 1
  omega
theorem fl_last {v : Int} {s r : List Int} (h : pFlds [119, 109] 0 0 s = .inr (v, r)) : ∃ r1, pNum 1 0 s = (v / 100, r1) ∧ pNum 2 0 r1 = (v % 100, r) := by
  rw [pFlds_w] at h
  obtain ⟨x, r1, h1, h2⟩ := pB_inv h
  rw [pFlds_cons ⟨by decide, by decide⟩] at h2
  obtain ⟨x2, r2, h3, h4⟩ := pB_inv h2
  obtain ⟨c1, rfl, rfl, a1, a2⟩ := dig_in (by decide) (by decide) h1
  obtain ⟨c3, c4, rfl, rfl, a3, a4⟩ := two_in (Or.inr (Or.inl rfl)) h3
  cases h4
  refine ⟨c3 :: c4 :: r, ?_, ?_⟩
  · rw [num1 ⟨a1, a2⟩]
    congr 1
    omega
  · rw [num2 a3 a4]
    congr 1
    omega
theorem fl_nth {v : Int} {s r : List Int} (h : pFlds [110, 119, 109] 0 0 s = .inr (v, r)) : ∃ r1 r2, pNum 1 0 s = (v / 1000, r1) ∧ pNum 1 0 r1 = (v / 100 % 10, r2) ∧ pNum 2 0 r2 = (v % 100, r) := by
  rw [pFlds_n] at h
  obtain ⟨x, r1, h1, h2⟩ := pB_inv h
  rw [pFlds_w] at h2
  obtain ⟨x1, r2, h3, h4⟩ := pB_inv h2
  rw [pFlds_cons ⟨by decide, by decide⟩] at h4
  obtain ⟨x2, r3, h5, h6⟩ := pB_inv h4
  obtain ⟨c1, rfl, rfl, a1, a2⟩ := dig_in (by decide) (by decide) h1
  obtain ⟨c2, rfl, rfl, b1, b2⟩ := dig_in (by decide) (by decide) h3
  obtain ⟨c3, c4, rfl, rfl, a3, a4⟩ := two_in (Or.inr (Or.inl rfl)) h5
  cases h6
  refine ⟨c2 :: c3 :: c4 :: r, c3 :: c4 :: r, ?_, ?_, ?_⟩
  · rw [num1 ⟨a1, a2⟩]
    congr 1
    omega
  · rw [num1 ⟨b1, b2⟩]
    congr 1
    omega
  · rw [num2 a3 a4]
    congr 1
    omega
section PLN2
variable {m : Mm} {q y t : Nat} {T : List Int}
theorem pln_bent {p d : Int32} {v : Int} (hv : 0 ≤ v ∧ v ≤ 19) : f_Pla_bentDay (i3 v) (lM m p d) = some (zI m 166 v.toNat) := by
  unfold f_Pla_bentDay
  simp only [zLet]
  rw [if_neg (show ¬ i3 v < 0 by rw [show (0 : Int32) = i3 0 from rfl, i3_lt ⟨by omega, by omega⟩ ⟨by decide, by decide⟩]; omega), if_neg (show ¬ 20 ≤ i3 v by rw [show (20 : Int32) = i3 20 from rfl, i3_le ⟨by decide, by decide⟩ ⟨by omega, by omega⟩]; omega), if_pos ((i3_in ⟨by omega, by omega⟩).mpr ⟨by omega, by omega⟩), i3_ix ⟨by omega, by omega⟩, lM_o (by omega)]
theorem pln_start (h : LT m q T y t) {B : Nat → Int} {n i : Nat} {kd v : Int} {r : List Int} (hp : pSta T = .inr ([(kd, v)], r)) (hv : vStep n i kd v) (hB : kd = 4 → zI m 166 v.toNat = i3 (B v.toNat) ∧ -1 ≤ B v.toNat ∧ B v.toNat < sLen y) {d0 : Int32} {d : Int} :
    f_Pla_readStart (lM m (i3 (pl T T)) d0) = some (lM m (i3 (pl T r)) (i3 (xD y t B kd v d))) ∧ Sf T r := by
  have hL := sLen_bd y
  cases T with
  | nil => cases hp
  | cons c s =>
    have hs : Sf (c :: s) (c :: s) := ⟨[], rfl⟩
    have hc := pln_c h hs
    have htl := hs.tl.1
    have hp : (if stK c = 0 then .inl (c :: s) else pPart (stK c) (stF c) s) = (.inr ([(kd, v)], r) : Rd Cx) := hp
    by_cases h0 : stK c = 0
    · rw [if_pos h0] at hp
      cases hp
    rw [if_neg h0] at hp
    obtain ⟨v', e1, hf⟩ := part_ne hp
    cases e1
    unfold f_Pla_readStart
    rw [pln_sign h hs, zBI_some, show (68 : Int32) = i3 68 from rfl, show (76 : Int32) = i3 76 from rfl, show (78 : Int32) = i3 78 from rfl, it_eq ⟨by omega, by omega⟩ ⟨by decide, by decide⟩, it_eq ⟨by omega, by omega⟩ ⟨by decide, by decide⟩, it_eq ⟨by omega, by omega⟩ ⟨by decide, by decide⟩]
    have W : ∀ {p dd : Int32}, Wk (lM m p dd) 165 y t := fun {p dd} => h.lt.2.2.2.2
    unfold vStep at hv
    by_cases c68 : c = 68
    · subst c68
      have ek : stK 68 = 1 := rfl
      rw [ek] at hv ⊢
      have ef : stF 68 = [109, 100] := rfl
      rw [ef] at hf
      have en := fl_date hf
      obtain ⟨q1, q2⟩ := pln_num h htl (d := d0) (k := 4) (by decide)
      rw [en] at q1 q2
      have hvv : vDt v := by
        rcases hv with ⟨_, z⟩ | ⟨z, _⟩ | ⟨z, _⟩ | z | z | z | z | z | z | z | ⟨z, _⟩ | z | z
        all_goals first | exact z | (exfalso; omega)
      have q1' : f_Pla_nextNumber 4 (lM m (i3 (pl (68 :: s) s)) d0) = _ := q1
      rw [if_pos rfl, q1', zBI_some, wal_toDate W hvv, zBV_some, lM_wd]
      refine ⟨?_, q2⟩
      rw [show xD y t B 1 v d = sTo y (sDate y v) from rfl]
    rw [if_neg c68]
    by_cases c76 : c = 76
    · subst c76
      have ek : stK 76 = 3 := rfl
      rw [ek] at hv ⊢
      have ef : stF 76 = [119, 109] := rfl
      rw [ef] at hf
      obtain ⟨r1, n1, n2⟩ := fl_last hf
      obtain ⟨q1, q2⟩ := pln_num h htl (d := d0) (k := 1) (by decide)
      rw [n1] at q1 q2
      obtain ⟨q3, q4⟩ := pln_num h q2 (d := d0) (k := 2) (by decide)
      rw [n2] at q3 q4
      have q1' : f_Pla_nextNumber 1 (lM m (i3 (pl (76 :: s) s)) d0) = _ := q1
      have q3' : f_Pla_nextNumber 2 (lM m (i3 (pl (76 :: s) r1)) d0) = _ := q3
      have hvv : (0 ≤ v / 100 ∧ v / 100 ≤ 6) ∧ vMo (v % 100) := by
        rcases hv with ⟨z, _⟩ | ⟨z, _⟩ | ⟨_, z⟩ | z | z | z | z | z | z | z | ⟨z, _⟩ | z | z
        all_goals first | exact z | (exfalso; omega)
      rw [if_pos rfl, q1', zBI_some, q3', zBI_some, wal_toLast W hvv.1 hvv.2, zBV_some, lM_wd]
      refine ⟨?_, q4⟩
      rw [show xD y t B 3 v d = sTo y (sLst y (v / 100) (v % 100)) from rfl]
    rw [if_neg c76]
    by_cases c78 : c = 78
    · subst c78
      have ek : stK 78 = 2 := rfl
      rw [ek] at hv ⊢
      have ef : stF 78 = [110, 119, 109] := rfl
      rw [ef] at hf
      obtain ⟨r1, r2, n1, n2, n3⟩ := fl_nth hf
      obtain ⟨q1, q2⟩ := pln_num h htl (d := d0) (k := 1) (by decide)
      rw [n1] at q1 q2
      obtain ⟨q3, q4⟩ := pln_num h q2 (d := d0) (k := 1) (by decide)
      rw [n2] at q3 q4
      obtain ⟨q5, q6⟩ := pln_num h q4 (d := d0) (k := 2) (by decide)
      rw [n3] at q5 q6
      have q1' : f_Pla_nextNumber 1 (lM m (i3 (pl (78 :: s) s)) d0) = _ := q1
      have q3' : f_Pla_nextNumber 1 (lM m (i3 (pl (78 :: s) r1)) d0) = _ := q3
      have q5' : f_Pla_nextNumber 2 (lM m (i3 (pl (78 :: s) r2)) d0) = _ := q5
      have hvv : (1 ≤ v / 1000 ∧ v / 1000 ≤ 5) ∧ v / 100 % 10 ≤ 6 ∧ vMo (v % 100) := by
        rcases hv with ⟨z, _⟩ | ⟨_, z⟩ | ⟨z, _⟩ | z | z | z | z | z | z | z | ⟨z, _⟩ | z | z
        all_goals first | exact z | (exfalso; omega)
      rw [if_pos rfl, q1', zBI_some, q3', zBI_some, q5', zBI_some, wal_toNth W hvv.1 ⟨by omega, hvv.2.1⟩ hvv.2.2, zBV_some, lM_wd]
      refine ⟨?_, q6⟩
      rw [show xD y t B 2 v d = sTo y (sNth y (v / 1000) (v / 100 % 10) (v % 100)) from rfl]
    rw [if_neg c78]
    have c70 : c = 70 := by
      unfold stK at h0
      rw [if_neg c68, if_neg c78, if_neg c76] at h0
      by_cases e : c = 70
      · exact e
      · rw [if_neg e] at h0
        exact absurd rfl h0
    subst c70
    have ek : stK 70 = 4 := rfl
    rw [ek] at hv hB ⊢
    have ef : stF 70 = [102] := rfl
    rw [ef] at hf
    have en := fl_feast hf
    obtain ⟨q1, q2⟩ := pln_num h htl (d := d0) (k := 2) (by decide)
    rw [en] at q1 q2
    have q1' : f_Pla_nextNumber 2 (lM m (i3 (pl (70 :: s) s)) d0) = _ := q1
    obtain ⟨b1, b2, b3'⟩ := hB rfl
    rw [q1', zBI_some, pln_bent (by omega), zBP_some, b1, wal_toDay W ⟨by omega, by omega⟩, zBV_some, lM_wd, sTo_in ⟨b2, b3'⟩]
    refine ⟨?_, q2⟩
    rw [show xD y t B 4 v d = B v.toNat from rfl]
end PLN2
