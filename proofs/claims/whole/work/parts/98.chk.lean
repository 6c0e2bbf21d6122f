/-! CALLS: checks, and the calendar's -/
theorem zBXV_l {β : Type} {M : Mm} {K : Mm → Option ((β ⊕ Nat) × Mm)} : zBXV (some (.inl (), M)) K = K M := Eq.trans rfl rfl
theorem zBXV_r {β : Type} {M : Mm} {e : Nat} {K : Mm → Option ((β ⊕ Nat) × Mm)} : zBXV (some (.inr e, M)) K = some (.inr e, M) := Eq.trans rfl rfl
theorem w0_le {m : Mm} {k : Int} (hk : 0 ≤ k ∧ k ≤ 9) {α : Type} {x y : α} : (if zI (wI m 201 0 (i3 k)) 201 0 ≤ 0 then x else y) = if k ≤ 0 then x else y := by
  rw [zI_eq, show (0 : Int32) = i3 0 from rfl, it_le ⟨by omega, by omega⟩ ⟨by decide, by decide⟩]
theorem w00 {m : Mm} {α : Type} {x y : α} : (if zI (wI m 201 0 0) 201 0 ≤ 0 then x else y) = x := if_pos (by rw [zI_eq]; decide)
theorem w0n {m : Mm} {v : Int32} (hv : ¬ v ≤ 0) {α : Type} {x y : α} : (if zI (wI m 201 0 v) 201 0 ≤ 0 then x else y) = y := if_neg (by rw [zI_eq]; exact hv)
section CHK
variable {m : Mm} {N : Nat}
theorem loo_year {y : Int} (hy : -2147483648 ≤ y ∧ y < 2147483648) : f_Loo_checkYear (i3 y) m = some (if 0 ≤ y ∧ y < 400 then .inl () else .inr 0, m) := by
  unfold f_Loo_checkYear
  simp only [zLet]
  rw [show (0 : Int32) = i3 0 from rfl, show (399 : Int32) = i3 399 from rfl, it_lt hy ⟨by decide, by decide⟩, it_le hy ⟨by decide, by decide⟩]
  by_cases c1 : y < 0
  · rw [if_pos c1, if_neg (by omega)]
  · by_cases c2 : y ≤ 399
    · rw [if_neg c1, if_pos c2, if_pos (by omega)]
    · rw [if_neg c1, if_neg c2, if_neg (by omega)]
theorem loo_rank {y : Int} (hy : -2147483648 ≤ y ∧ y < 2147483648) : f_Loo_checkRank (i3 y) m = some (if 0 ≤ y ∧ y < 10 then .inl () else .inr 0, m) := by
  unfold f_Loo_checkRank
  simp only [zLet]
  rw [show (0 : Int32) = i3 0 from rfl, show (9 : Int32) = i3 9 from rfl, it_lt hy ⟨by decide, by decide⟩, it_le hy ⟨by decide, by decide⟩]
  by_cases c1 : y < 0
  · rw [if_pos c1, if_neg (by omega)]
  · by_cases c2 : y ≤ 9
    · rw [if_neg c1, if_pos c2, if_pos (by omega)]
    · rw [if_neg c1, if_neg c2, if_neg (by omega)]
theorem loo_parish {y : Int} (hy : -2147483648 ≤ y ∧ y < 2147483648) : f_Loo_checkParish (i3 y) m = some (if 0 ≤ y ∧ y < 6 then .inl () else .inr 2, m) := by
  unfold f_Loo_checkParish
  simp only [zLet]
  rw [show (0 : Int32) = i3 0 from rfl, show (6 : Int32) = i3 6 from rfl, it_lt hy ⟨by decide, by decide⟩, it_lt hy ⟨by decide, by decide⟩]
  by_cases c1 : y < 0
  · rw [if_pos c1, if_neg (by omega)]
  · by_cases c2 : y < 6
    · rw [if_neg c1, if_pos c2, if_pos (by omega)]
    · rw [if_neg c1, if_neg c2, if_neg (by omega)]
theorem loo_feast (h20 : N ≤ 20) (h25 : zI m 25 3 = i3 N) {y : Int} (hy : -2147483648 ≤ y ∧ y < 2147483648) : f_Loo_checkFeast (i3 y) m = some (if 0 ≤ y ∧ y < N then .inl () else .inr 2, m) := by
  have hsz : f_Alm_size m = some (i3 N) := by
    unfold f_Alm_size
    rw [h25]
  unfold f_Loo_checkFeast
  simp only [zLet]
  rw [hsz, zBP_some, show (0 : Int32) = i3 0 from rfl, it_lt hy ⟨by decide, by decide⟩, it_lt hy ⟨by omega, by omega⟩]
  by_cases c1 : y < 0
  · rw [if_pos c1, if_neg (by omega)]
  · by_cases c2 : y < N
    · rw [if_neg c1, if_pos c2, if_pos (by omega)]
    · rw [if_neg c1, if_neg c2, if_neg (by omega)]
theorem loo_table {y : Int} (hy : -2147483648 ≤ y ∧ y < 2147483648) : f_Loo_checkTable (i3 y) m = some (if 0 ≤ y ∧ y < 2 then .inl () else .inr 0, m) := by
  unfold f_Loo_checkTable
  rw [show (0 : Int32) = i3 0 from rfl, show (1 : Int32) = i3 1 from rfl, it_eq hy ⟨by decide, by decide⟩, it_eq hy ⟨by decide, by decide⟩]
  by_cases c1 : y = 0
  · rw [if_pos c1, if_pos (by omega)]
  · by_cases c2 : y = 1
    · rw [if_neg c1, if_pos c2, if_pos (by omega)]
    · rw [if_neg c1, if_neg c2, if_neg (by omega)]
theorem mod_in {a b c : Int} (ha : -2147483648 ≤ a ∧ a < 2147483648) (hb : -2147483648 ≤ b ∧ b < 2147483648) (hc : -2147483648 ≤ c ∧ c < 2147483648) : f_Mod_isIn (i3 a) (i3 b) (i3 c) m = some (b3 (decide (b ≤ a ∧ a ≤ c))) := mod_isIn ha hb hc m
end CHK
/-- queries: what is kept stays -/
theorem Bo.of {c : Nat → Int} {A : Option ((Int32 ⊕ Nat) × Mm)} {G : Mm → Option (Int32 × Mm)} {m m1 : Mm} {r : Int32 ⊕ Nat} (hI : Inv m) (hA : A = some (r, m1)) (hF : SF m m1) (hG : ∀ m', SF m m' → ∃ b m2, G m' = some (b, m2) ∧ SF m' m2 ∧ m2.2 = m'.2 ∧ Ag c r b m2) : Bo c A G := by
  refine ⟨r, m1, hA, fun m1' hE => ?_⟩
  obtain ⟨b, m2, e, h1, h2, h3⟩ := hG m1' (hF.trans hE.sf)
  exact ⟨b, m2, e, hI.fx (hF.trans (hE.sf.trans h1)), fun j => zL_of h2 _ _, h3⟩
/-- the law's numbers of the exceptions: arguments (0), states (1), indices (2) -/
def cA : Nat → Int := fun e => if e = 0 then 1 else 0
def cAS : Nat → Int := fun e => if e = 0 then 1 else if e = 1 then 2 else 0
def cI : Nat → Int := fun e => if e = 2 then 1 else 0
def cIA : Nat → Int := fun e => if e = 2 then 1 else if e = 0 then 2 else 0
def cIAS : Nat → Int := fun e => if e = 2 then 1 else if e = 0 then 2 else if e = 1 then 3 else 0
section CLS
variable {m : Mm}
theorem y_nat {y : Int} (h : 0 ≤ y ∧ y < 400) : ∃ n : Nat, y = n ∧ n < 400 := ⟨y.toNat, by omega, by omega⟩
theorem b_begin (hI : Inv m) (p : Int32) : Bo cA (f_Loo_begin p m) (f_Mod_begin p) := by
  obtain ⟨y, rfl, hy⟩ := i3_abs (a := p)
  have hm : ∀ m', f_Mod_isIn (i3 y) 0 399 m' = some (b3 (decide (0 ≤ y ∧ y ≤ 399))) := fun m' => mod_in (b := 0) (c := 399) hy ⟨by decide, by decide⟩ ⟨by decide, by decide⟩
  by_cases c : 0 ≤ y ∧ y < 400
  · obtain ⟨n, rfl, hn⟩ := y_nat c
    refine Bo.of hI (r := .inl (i3 (sFirst n))) (m1 := m) ?_ SF.refl (fun m' hF => ⟨i3 (sFirst n), wI m' 201 0 0, ?_, SF.w0, rfl, zI_eq, rfl⟩)
    · unfold f_Loo_begin
      rw [loo_year hy, if_pos c, zBXV_l, cal_first hn, zBP_some]
    · unfold f_Mod_begin
      simp only [zLet]
      rw [hm, zBP_some, decide_eq_true (by omega : 0 ≤ (n : Int) ∧ (n : Int) ≤ 399), if_neg (show ¬ b3 true = 0 by decide)]
      rw [w00, mod_begin hn, zBP_some]
  · refine Bo.of hI (r := .inr 0) (m1 := m) ?_ SF.refl (fun m' hF => ⟨0, wI m' 201 0 (i3 1), ?_, SF.w0, rfl, zI_eq, by decide, by decide⟩)
    · unfold f_Loo_begin
      rw [loo_year hy, if_neg c, zBXV_r]
    · unfold f_Mod_begin
      simp only [zLet]
      rw [hm, zBP_some, decide_eq_false (by omega : ¬ (0 ≤ y ∧ y ≤ 399)), if_pos (show b3 false = 0 by decide)]
      rw [show (1 : Int32) = i3 1 from rfl, w0_le ⟨by decide, by decide⟩, if_neg (by decide)]
theorem b_date (hI : Inv m) (p q : Int32) : Bo cA (f_Loo_date p q m) (f_Mod_date p q) := by
  obtain ⟨y, rfl, hy⟩ := i3_abs (a := p)
  obtain ⟨d, rfl, hd⟩ := i3_abs (a := q)
  have hm : ∀ m', f_Mod_isIn (i3 y) 0 399 m' = some (b3 (decide (0 ≤ y ∧ y ≤ 399))) := fun m' => mod_in (b := 0) (c := 399) hy ⟨by decide, by decide⟩ ⟨by decide, by decide⟩
  have hm2 : ∀ m', f_Mod_isIn (i3 d) 0 365 m' = some (b3 (decide (0 ≤ d ∧ d ≤ 365))) := fun m' => mod_in (b := 0) (c := 365) hd ⟨by decide, by decide⟩ ⟨by decide, by decide⟩
  have j1 : ∀ m', (if zI (wI m' 201 0 1) 201 0 ≤ 0 then (zBP (f_Mod_lengthOf (i3 y) (wI m' 201 0 1)) fun v7 => if v7 ≤ i3 d then some (-1, wI m' 201 0 1) else zBP (f_Mod_dateOf (i3 y) (i3 d) (wI m' 201 0 1)) fun v9 => some (v9, wI m' 201 0 1)) else some ((0 : Int32), wI m' 201 0 1)) = some (0, wI m' 201 0 (i3 1)) := fun m' => by
    rw [show (1 : Int32) = i3 1 from rfl, w0_le ⟨by decide, by decide⟩, if_neg (by decide)]
  by_cases c : 0 ≤ y ∧ y < 400
  · obtain ⟨n, rfl, hn⟩ := y_nat c
    have hL := sLen_bd n
    by_cases c2 : 0 ≤ d ∧ d ≤ 365
    · have hcd := cal_date hn (d := d.toNat) (by omega) m
      rw [show ((d.toNat : Nat) : Int) = d by omega] at hcd
      refine Bo.of hI (r := .inl (if d.toNat < sLen n then i3 (sDt (sLeap n) d.toNat) else i3 (-1))) (m1 := m) ?_ SF.refl (fun m' hF => ⟨if d.toNat < sLen n then i3 (sDt (sLeap n) d.toNat) else i3 (-1), wI m' 201 0 0, ?_, SF.w0, rfl, zI_eq, rfl⟩)
      · unfold f_Loo_date
        rw [loo_year hy, if_pos c, zBXV_l]
        simp only [zLet]
        rw [show (0 : Int32) = i3 0 from rfl, show (365 : Int32) = i3 365 from rfl, it_lt hd ⟨by decide, by decide⟩, it_le hd ⟨by decide, by decide⟩, if_neg (by omega), if_pos c2.2, hcd, zBP_some]
      · unfold f_Mod_date
        simp only [zLet]
        rw [hm, zBP_some, decide_eq_true (by omega : 0 ≤ (n : Int) ∧ (n : Int) ≤ 399), if_neg (show ¬ b3 true = 0 by decide), hm2, zBP_some, decide_eq_true c2, if_neg (show ¬ b3 true = 0 by decide)]
        rw [w00, mod_len hn, zBP_some, it_le ⟨by omega, by omega⟩ hd]
        by_cases c3 : (sLen n : Int) ≤ d
        · rw [if_pos c3, if_neg (by omega)]
          rfl
        · have hmd := mod_date hn (d := d.toNat) (by omega) (wI m' 201 0 0)
          rw [show ((d.toNat : Nat) : Int) = d by omega] at hmd
          rw [if_neg c3, hmd, zBP_some, if_pos (by omega)]
    · refine Bo.of hI (r := .inr 0) (m1 := m) ?_ SF.refl (fun m' hF => ⟨0, wI m' 201 0 (i3 1), ?_, SF.w0, rfl, zI_eq, by decide, by decide⟩)
      · unfold f_Loo_date
        rw [loo_year hy, if_pos c, zBXV_l]
        simp only [zLet]
        rw [show (0 : Int32) = i3 0 from rfl, show (365 : Int32) = i3 365 from rfl, it_lt hd ⟨by decide, by decide⟩, it_le hd ⟨by decide, by decide⟩]
        by_cases c3 : d < 0
        · rw [if_pos c3]
        · rw [if_neg c3, if_neg (by omega)]
      · unfold f_Mod_date
        simp only [zLet]
        rw [hm, zBP_some, decide_eq_true (by omega : 0 ≤ (n : Int) ∧ (n : Int) ≤ 399), if_neg (show ¬ b3 true = 0 by decide), hm2, zBP_some, decide_eq_false c2, if_pos (show b3 false = 0 by decide)]
        exact j1 m'
  · refine Bo.of hI (r := .inr 0) (m1 := m) ?_ SF.refl (fun m' hF => ⟨0, wI m' 201 0 (i3 1), ?_, SF.w0, rfl, zI_eq, by decide, by decide⟩)
    · unfold f_Loo_date
      rw [loo_year hy, if_neg c, zBXV_r]
    · unfold f_Mod_date
      simp only [zLet]
      rw [hm, zBP_some, decide_eq_false (by omega : ¬ (0 ≤ y ∧ y ≤ 399)), if_pos (show b3 false = 0 by decide)]
      exact j1 m'
theorem b_age (hI : Inv m) (p q : Int32) : Bo cA (f_Loo_age p q m) (f_Mod_age p q) := by
  obtain ⟨g, rfl, hg⟩ := i3_abs (a := p)
  obtain ⟨t, rfl, ht⟩ := i3_abs (a := q)
  have hm : ∀ m', f_Mod_isIn (i3 g) 0 146096 m' = some (b3 (decide (0 ≤ g ∧ g ≤ 146096))) := fun m' => mod_in (b := 0) (c := 146096) hg ⟨by decide, by decide⟩ ⟨by decide, by decide⟩
  have hm2 : ∀ m', f_Mod_isIn (i3 t) 0 1 m' = some (b3 (decide (0 ≤ t ∧ t ≤ 1))) := fun m' => mod_in (b := 0) (c := 1) ht ⟨by decide, by decide⟩ ⟨by decide, by decide⟩
  have j1 : ∀ m', (if zI (wI m' 201 0 1) 201 0 ≤ 0 then (zBP (f_Mod_ageOf (i3 g) (i3 t) (wI m' 201 0 1)) fun v7 => some (v7, wI m' 201 0 1)) else some ((0 : Int32), wI m' 201 0 1)) = some (0, wI m' 201 0 (i3 1)) := fun m' => by
    rw [show (1 : Int32) = i3 1 from rfl, w0_le ⟨by decide, by decide⟩, if_neg (by decide)]
  by_cases c : 0 ≤ g ∧ g ≤ 146096
  · by_cases c2 : 0 ≤ t ∧ t < 2
    · obtain ⟨n, rfl⟩ : ∃ n : Nat, t = n := ⟨t.toNat, by omega⟩
      refine Bo.of hI (r := .inl (i3 (sAge g n))) (m1 := m) ?_ SF.refl (fun m' hF => ⟨i3 (sAge g n), wI m' 201 0 0, ?_, SF.w0, rfl, zI_eq, rfl⟩)
      · unfold f_Loo_age
        simp only [zLet]
        rw [show (0 : Int32) = i3 0 from rfl, show (146096 : Int32) = i3 146096 from rfl, it_lt hg ⟨by decide, by decide⟩, it_le hg ⟨by decide, by decide⟩, if_neg (by omega), if_pos c.2, loo_table ht, if_pos c2, zBXV_l, cal_age ⟨by omega, by omega⟩ (by omega), zBP_some]
      · unfold f_Mod_age
        simp only [zLet]
        rw [hm, zBP_some, decide_eq_true c, if_neg (show ¬ b3 true = 0 by decide), hm2, zBP_some, decide_eq_true (by omega : 0 ≤ (n : Int) ∧ (n : Int) ≤ 1), if_neg (show ¬ b3 true = 0 by decide)]
        rw [w00, mod_age ⟨by omega, by omega⟩ (by omega), zBP_some]
    · refine Bo.of hI (r := .inr 0) (m1 := m) ?_ SF.refl (fun m' hF => ⟨0, wI m' 201 0 (i3 1), ?_, SF.w0, rfl, zI_eq, by decide, by decide⟩)
      · unfold f_Loo_age
        simp only [zLet]
        rw [show (0 : Int32) = i3 0 from rfl, show (146096 : Int32) = i3 146096 from rfl, it_lt hg ⟨by decide, by decide⟩, it_le hg ⟨by decide, by decide⟩, if_neg (by omega), if_pos c.2, loo_table ht, if_neg c2, zBXV_r]
      · unfold f_Mod_age
        simp only [zLet]
        rw [hm, zBP_some, decide_eq_true c, if_neg (show ¬ b3 true = 0 by decide), hm2, zBP_some, decide_eq_false (by omega : ¬ (0 ≤ t ∧ t ≤ 1)), if_pos (show b3 false = 0 by decide)]
        exact j1 m'
  · refine Bo.of hI (r := .inr 0) (m1 := m) ?_ SF.refl (fun m' hF => ⟨0, wI m' 201 0 (i3 1), ?_, SF.w0, rfl, zI_eq, by decide, by decide⟩)
    · unfold f_Loo_age
      simp only [zLet]
      rw [show (0 : Int32) = i3 0 from rfl, show (146096 : Int32) = i3 146096 from rfl, it_lt hg ⟨by decide, by decide⟩, it_le hg ⟨by decide, by decide⟩]
      by_cases c3 : g < 0
      · rw [if_pos c3]
      · rw [if_neg c3, if_neg (by omega)]
    · unfold f_Mod_age
      simp only [zLet]
      rw [hm, zBP_some, decide_eq_false c, if_pos (show b3 false = 0 by decide)]
      exact j1 m'
end CLS
