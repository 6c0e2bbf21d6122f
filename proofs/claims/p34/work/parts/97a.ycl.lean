/-! CALLS OF THE CLASS THAT THROW NOTHING: checks, the calendar, what a year shows -/
theorem fi10 {f : Nat} (hf : f < 10) : zIn (i3 (f : Int)) 10 ∧ zIx (i3 (f : Int)) = f := ⟨(i3_in ⟨by omega, by omega⟩).mpr ⟨by omega, by omega⟩, by rw [i3_ix ⟨by omega, by omega⟩, Int.toNat_natCast]⟩
section NCK
variable {m : Mm} {N : Nat}
theorem n_year {y : Nat} (hy : y < 400) : n_Loo_checkYear (i3 y) m = some m := by
  unfold n_Loo_checkYear
  rw [zLet_q, show (0 : Int32) = i3 0 from rfl, it_lt ⟨by omega, by omega⟩ ⟨by decide, by decide⟩, if_neg (by omega), show (399 : Int32) = i3 399 from rfl, it_le ⟨by omega, by omega⟩ ⟨by decide, by decide⟩, if_pos (by omega)]
theorem n_rank {y : Int} (hy : 0 ≤ y ∧ y ≤ 9) : n_Loo_checkRank (i3 y) m = some m := by
  unfold n_Loo_checkRank
  rw [zLet_q, show (0 : Int32) = i3 0 from rfl, it_lt ⟨by omega, by omega⟩ ⟨by decide, by decide⟩, if_neg (by omega), show (9 : Int32) = i3 9 from rfl, it_le ⟨by omega, by omega⟩ ⟨by decide, by decide⟩, if_pos (by omega)]
theorem n_parish {y : Nat} (hy : y < 6) : n_Loo_checkParish (i3 y) m = some m := by
  unfold n_Loo_checkParish
  rw [zLet_q, show (0 : Int32) = i3 0 from rfl, it_lt ⟨by omega, by omega⟩ ⟨by decide, by decide⟩, if_neg (by omega), show (6 : Int32) = i3 6 from rfl, it_lt ⟨by omega, by omega⟩ ⟨by decide, by decide⟩, if_pos (by omega)]
theorem n_table {y : Nat} (hy : y < 2) : n_Loo_checkTable (i3 y) m = some m := by
  unfold n_Loo_checkTable
  rcases (show y = 0 ∨ y = 1 by omega) with rfl | rfl
  · exact if_pos rfl
  · exact (if_neg (by decide)).trans (if_pos rfl)
theorem n_feast (h20 : N ≤ 20) (h25 : zI m 25 3 = i3 N) {f : Nat} (hf : f < N) : n_Loo_checkFeast (i3 f) m = some m := by
  have hsz : f_Alm_size m = some (i3 N) := by
    unfold f_Alm_size
    rw [h25]
  unfold n_Loo_checkFeast
  rw [zLet_q, show (0 : Int32) = i3 0 from rfl, it_lt ⟨by omega, by omega⟩ ⟨by decide, by decide⟩, if_neg (by omega), hsz, zBP_some, it_lt ⟨by omega, by omega⟩ ⟨by omega, by omega⟩, if_pos (by omega)]
theorem a_begin {y : Nat} (hy : y < 400) : n_Loo_begin (i3 y) m = some (i3 (sFirst y), m) := by
  unfold n_Loo_begin
  rw [n_year hy, zBV_some, cal_first hy, zBP_some]
theorem a_date {y d : Nat} (hy : y < 400) (hd : d < 366) : n_Loo_date (i3 y) (i3 d) m = some (if d < sLen y then i3 (sDt (sLeap y) d) else i3 (-1), m) := by
  unfold n_Loo_date
  rw [n_year hy, zBV_some, zLet_q, show (0 : Int32) = i3 0 from rfl, it_lt ⟨by omega, by omega⟩ ⟨by decide, by decide⟩, if_neg (by omega), show (365 : Int32) = i3 365 from rfl, it_le ⟨by omega, by omega⟩ ⟨by decide, by decide⟩, if_pos (by omega), cal_date hy hd, zBP_some]
theorem a_age {g : Int} {t : Nat} (hg : 0 ≤ g ∧ g ≤ 146096) (ht : t < 2) : n_Loo_age (i3 g) (i3 t) m = some (i3 (sAge g t), m) := by
  unfold n_Loo_age
  rw [zLet_q, show (0 : Int32) = i3 0 from rfl, it_lt ⟨by omega, by omega⟩ ⟨by decide, by decide⟩, if_neg (by omega), show (146096 : Int32) = i3 146096 from rfl, it_le ⟨by omega, by omega⟩ ⟨by decide, by decide⟩, if_pos (by omega), n_table ht, zBV_some, cal_age ⟨by omega, by omega⟩ ht, zBP_some]
end NCK
section NYR
variable {m : Mm} {N t nb nR : Nat} {T : List Int} {F Y E : Nat → Int} {Kc Ac : Nat → Nat → Int} {Lc rk o : Nat → Nat} {R : Nat → Int} {mv : Nat → Bool} {Tx : Nat → List Int} {PR RE BE : Nat → Int} {f y : Nat}
theorem a_bent (hT : kTb m t) (hW : iW N Kc Ac Lc rk o R F Y E nb Tx) (hC : iC m N Kc Ac Lc o R mv F Y E nb Tx) (hf : f < N) (hy : y < 400) : ∃ m1, n_Loo_bent (i3 f) (i3 y) m = some (i3 (sB y t F Y E nb Kc Ac Lc f), m1) ∧ SF m m1 := by
  obtain ⟨w1, w2, w3, w4, w5, w6, w7⟩ := hW
  have h20 := w1.1
  obtain ⟨m1, e1, hF1, -, -, -, hv1⟩ := boo_reckon (m := m) (a := 152) (by decide) hy hT.1 w1 w2 w5 w6 hC.1 hC.2.2.2.1 hC.2.1 w3
  refine ⟨m1, ?_, hF1.sf (Or.inl rfl)⟩
  unfold n_Loo_bent
  rw [n_feast h20 hC.1.1 hf, zBV_some, n_year hy, zBV_some, hT.2, e1, zBV_some, boo_bent ⟨by omega, by omega⟩, zBP_some, Int.toNat_natCast, (hv1 f hf).1]
theorem a_cost (hT : kTb m t) (hW : iW N Kc Ac Lc rk o R F Y E nb Tx) (hC : iC m N Kc Ac Lc o R mv F Y E nb Tx) (hf : f < N) (hy : y < 400) : ∃ m1, n_Loo_cost (i3 f) (i3 y) m = some (i3 (sG y t F Y E nb Kc Ac Lc f).2, m1) ∧ SF m m1 := by
  obtain ⟨w1, w2, w3, w4, w5, w6, w7⟩ := hW
  have h20 := w1.1
  obtain ⟨hin, hix⟩ := fi20 (show f < 20 by omega)
  obtain ⟨m1, e1, hF1, -, -, -, hv1⟩ := boo_reckon (m := m) (a := 152) (by decide) hy hT.1 w1 w2 w5 w6 hC.1 hC.2.2.2.1 hC.2.1 w3
  refine ⟨m1, ?_, hF1.sf (Or.inl rfl)⟩
  unfold n_Loo_cost
  rw [n_feast h20 hC.1.1 hf, zBV_some, n_year hy, zBV_some, hT.2, e1, zBV_some]
  unfold f_Boo_costOf
  rw [if_pos hin, hix, zBP_some, (hv1 f hf).2]
theorem a_yearCost (hT : kTb m t) (hW : iW N Kc Ac Lc rk o R F Y E nb Tx) (hC : iC m N Kc Ac Lc o R mv F Y E nb Tx) (hy : y < 400) : ∃ m1, n_Loo_yearCost (i3 y) m = some (i3 (sSum (fun f => (sG y t F Y E nb Kc Ac Lc f).2) N), m1) ∧ SF m m1 := by
  obtain ⟨w1, w2, w3, w4, w5, w6, w7⟩ := hW
  have h20 := w1.1
  obtain ⟨m1, e1, hF1, -, -, -, hv1⟩ := boo_reckon (m := m) (a := 152) (by decide) hy hT.1 w1 w2 w5 w6 hC.1 hC.2.2.2.1 hC.2.1 w3
  refine ⟨m1, ?_, hF1.sf (Or.inl rfl)⟩
  unfold n_Loo_yearCost
  rw [n_year hy, zBV_some, hT.2, e1, zBV_some, boo_costs (c := fun f => (sG y t F Y E nb Kc Ac Lc f).2) h20 (by rw [hF1.2.1 _ _ (by decide), hC.1.1]) (fun f hf => (hv1 f hf).2), zBP_some]
theorem a_clashes (hT : kTb m t) (hW : iW N Kc Ac Lc rk o R F Y E nb Tx) (hC : iC m N Kc Ac Lc o R mv F Y E nb Tx) (hy : y < 400) : ∃ m1, n_Loo_clashes (i3 y) m = some (i3 (clT (sB y t F Y E nb Kc Ac Lc) N N), m1) ∧ SF m m1 := by
  obtain ⟨w1, w2, w3, w4, w5, w6, w7⟩ := hW
  have h20 := w1.1
  have hL := sLen_bd y
  obtain ⟨m1, e1, hF1, -, -, -, hv1⟩ := boo_reckon (m := m) (a := 152) (by decide) hy hT.1 w1 w2 w5 w6 hC.1 hC.2.2.2.1 hC.2.1 w3
  have hbd : ∀ f, f < N → -1 ≤ sB y t F Y E nb Kc Ac Lc f ∧ sB y t F Y E nb Kc Ac Lc f < 400 := fun f hf => by have := sB_bd (y := y) (t := t) (F := F) (Y := Y) (E := E) (nb := nb) w1 hf; omega
  refine ⟨m1, ?_, hF1.sf (Or.inl rfl)⟩
  unfold n_Loo_clashes
  rw [n_year hy, zBV_some, hT.2, e1, zBV_some, boo_clashes h20 (by rw [hF1.2.1 _ _ (by decide), hC.1.1]) (fun f hf => ⟨(hv1 f hf).1, hbd f hf⟩), zBP_some]
theorem a_day (hT : kTb m t) (hW : iW N Kc Ac Lc rk o R F Y E nb Tx) (hC : iC m N Kc Ac Lc o R mv F Y E nb Tx) (hf : f < N) (hy : y < 400) : ∃ m1, n_Loo_day (i3 f) (i3 y) m = some (i3 (sAll N (sLen y) (sB y t F Y E nb Kc Ac Lc) R mv 10 f), m1) ∧ SF m m1 := by
  obtain ⟨w1, w2, w3, w4, w5, w6, w7⟩ := hW
  have h20 := w1.1
  have hL := sLen_bd y
  obtain ⟨m1, e1, hF1, -, k7, -, hv1⟩ := boo_reckon (m := m) (a := 152) (by decide) hy hT.1 w1 w2 w5 w6 hC.1 hC.2.2.2.1 hC.2.1 w3
  have hS1 := hF1.sf (Or.inl rfl)
  have hC1 := hC.fx h20 hS1
  obtain ⟨m2, e2, hF2, hv2, -⟩ := boo_placeAll (m := m1) (a := 152) (R := R) (mv := mv) (by decide) h20 (by omega) hC1.2.2.1 w4 hC1.1.1 k7 (fun f hf => ⟨(hv1 f hf).1, sB_bd w1 hf⟩)
  refine ⟨m2, ?_, hS1.trans (hF2.sf (Or.inl rfl))⟩
  unfold n_Loo_day
  rw [n_feast h20 hC.1.1 hf, zBV_some, n_year hy, zBV_some, hT.2, e1, zBV_some, e2, zBV_some, boo_placedDay (p := sAll N (sLen y) (sB y t F Y E nb Kc Ac Lc) R mv 10) (by omega) (hv2 f hf), zBP_some]
theorem a_dayByDays (hT : kTb m t) (hW : iW N Kc Ac Lc rk o R F Y E nb Tx) (hC : iC m N Kc Ac Lc o R mv F Y E nb Tx) (hf : f < N) (hy : y < 400) : ∃ m1, n_Loo_dayByDays (i3 f) (i3 y) m = some (i3 (sAll N (sLen y) (sB y t F Y E nb Kc Ac Lc) R mv 10 f), m1) ∧ SF m m1 := by
  obtain ⟨w1, w2, w3, w4, w5, w6, w7⟩ := hW
  have h20 := w1.1
  have hL := sLen_bd y
  obtain ⟨hin, hix⟩ := fi20 (show f < 20 by omega)
  obtain ⟨m1, e1, hF1, hv1⟩ := pla_readAll (m := m) hy hT.1 w1 w2 w5 w6 hC.1.1 hC.2.2.2.1 hC.2.1 w3 hC.2.2.2.2.1 w7
  have hS1 := hF1.sf
  have hC1 := hC.fx h20 hS1
  obtain ⟨m2, e2, hF2, hv2⟩ := pla_goDays (m := m1) (R := R) (mv := mv) (b := sB y t F Y E nb Kc Ac Lc) hy h20 hC1.1.1 hC1.2.2.1 w4 (fun f hf => ⟨hv1 f hf, sB_bd w1 hf⟩)
  refine ⟨m2, ?_, hS1.trans (hF2.sf (Or.inr rfl))⟩
  unfold n_Loo_dayByDays
  rw [n_feast h20 hC.1.1 hf, zBV_some, n_year hy, zBV_some, hT.2, e1, zBV_some, e2, zBV_some]
  unfold f_Pla_placedDay
  simp only [zLet]
  rw [it_lt0 ⟨by omega, by omega⟩, if_neg (by omega), show (20 : Int32) = i3 20 from rfl, it_le ⟨by decide, by decide⟩ ⟨by omega, by omega⟩, if_neg (by omega), if_pos hin, hix, hv2 f hf, zBP_some]
theorem a_isMidnight (hT : kTb m t) (hW : iW N Kc Ac Lc rk o R F Y E nb Tx) (hC : iC m N Kc Ac Lc o R mv F Y E nb Tx) (hf : f < N) (hy : y < 400) : ∃ m1, n_Loo_isMidnight (i3 f) (i3 y) m = some (b3 (midn (sB y 0 F Y E nb Kc Ac Lc f) (sB y 1 F Y E nb Kc Ac Lc f)), m1) ∧ SF m m1 := by
  have hL := sLen_bd y
  have ht2 := hT.1
  obtain ⟨m1, e1, hS1, k7, hv1⟩ := c_both hT hW hC hy
  obtain ⟨w1, w2, w3, w4, w5, w6, w7⟩ := hW
  have h20 := w1.1
  have hb1 : ∀ t' f, f < N → -1 ≤ sB y t' F Y E nb Kc Ac Lc f ∧ sB y t' F Y E nb Kc Ac Lc f < 400 := fun t' f hf => by have := sB_bd (y := y) (t := t') (F := F) (Y := Y) (E := E) (nb := nb) w1 hf; omega
  refine ⟨m1, ?_, hS1⟩
  have hn := boo_night (m := m1) (a := 152) (o := 158) (f := f) (by omega) (hv1 f hf).1 (hv1 f hf).2 (hb1 t f hf) (hb1 (1 - t) f hf)
  have en : midn (sB y t F Y E nb Kc Ac Lc f) (sB y (1 - t) F Y E nb Kc Ac Lc f) = midn (sB y 0 F Y E nb Kc Ac Lc f) (sB y 1 F Y E nb Kc Ac Lc f) := by
    rcases (show t = 0 ∨ t = 1 by omega) with rfl | rfl
    · rfl
    · exact midn_symm _ _
  unfold n_Loo_isMidnight
  rw [n_feast h20 hC.1.1 hf, zBV_some, n_year hy, zBV_some, zBV_both, e1, zBV_some, hn, zBP_some, en, if_pos (b3_bo _)]
theorem a_rings (hT : kTb m t) (hW : iW N Kc Ac Lc rk o R F Y E nb Tx) (hC : iC m N Kc Ac Lc o R mv F Y E nb Tx) (hB : kB m nR PR RE BE) (hf : f < N) (hy : y < 400) {p b : Nat} (hp : p < 6) (hb : b < 6) : ∃ m1, n_Loo_rings (i3 f) (i3 y) (i3 p) (i3 b) m = some (i3 (if (sRing y N F Y E nb t Kc Ac Lc R mv PR RE BE nR).2.2.1 (36 * f + (6 * p + b)) = -2 then -1 else (sRing y N F Y E nb t Kc Ac Lc R mv PR RE BE nR).2.2.1 (36 * f + (6 * p + b))), m1) ∧ SF m m1 := by
  obtain ⟨hv, hbv, hg, hbe⟩ := hB
  have h20 := hW.1.1
  obtain ⟨m1, e1, hS1, hc1⟩ := c_ring hT hW hC hv hbv hg hbe hy
  obtain ⟨hin, hix⟩ := fi20 (show f < 20 by omega)
  have e6 : 6 * i3 (p : Int) + i3 (b : Int) = i3 ((6 * p + b : Nat) : Int) := by rw [show (6 : Int32) = i3 6 from rfl, i3_mul, i3_add]; rfl
  refine ⟨m1, ?_, hS1⟩
  unfold n_Loo_rings
  rw [n_feast h20 hC.1.1 hf, zBV_some, n_parish hp, zBV_some, n_year hy, zBV_some, zLet_q, show (0 : Int32) = i3 0 from rfl, it_lt ⟨by omega, by omega⟩ ⟨by decide, by decide⟩, if_neg (by omega)]
  rw [show (if i3 (b : Int) < 6 then (zBV (f_Loo_ringYear (i3 y) m) fun m7 => zBP (f_Bel_ringerAt (i3 f) (i3 p) (i3 b) m7) fun v8 => some (v8, m7)) else none) = (zBV (f_Loo_ringYear (i3 y) m) fun m7 => zBP (f_Bel_ringerAt (i3 f) (i3 p) (i3 b) m7) fun v8 => some (v8, m7)) from if_pos ((i3_lt (b := 6) ⟨by omega, by omega⟩ ⟨by decide, by decide⟩).mpr (by omega)), e1, zBV_some]
  unfold f_Bel_ringerAt
  rw [e6, if_pos hin, if_pos ((i3_in ⟨by omega, by omega⟩).mpr ⟨by omega, by omega⟩), hix, i3_ix ⟨by omega, by omega⟩, Int.toNat_natCast, zBP_some, hc1.2.1 f (6 * p + b) (by omega) (by omega)]
theorem a_peals (hT : kTb m t) (hW : iW N Kc Ac Lc rk o R F Y E nb Tx) (hC : iC m N Kc Ac Lc o R mv F Y E nb Tx) (hB : kB m nR PR RE BE) (hy : y < 400) {k : Nat} (hk : k < nR) : ∃ m1, n_Loo_peals (i3 k) (i3 y) m = some (i3 ((sRing y N F Y E nb t Kc Ac Lc R mv PR RE BE nR).2.1 k), m1) ∧ SF m m1 := by
  obtain ⟨hv, hbv, hg, hbe⟩ := hB
  have h24 := hv.1
  obtain ⟨m1, e1, hS1, hc1⟩ := c_ring hT hW hC hv hbv hg hbe hy
  have hsz : f_Bel_size m = some (i3 nR) := by
    unfold f_Bel_size
    rw [hg.1]
  have hin : zIn (i3 (k : Int)) 24 := (i3_in ⟨by omega, by omega⟩).mpr ⟨by omega, by omega⟩
  have hix : zIx (i3 (k : Int)) = k := by rw [i3_ix ⟨by omega, by omega⟩, Int.toNat_natCast]
  refine ⟨m1, ?_, hS1⟩
  unfold n_Loo_peals
  rw [zLet_q, show (0 : Int32) = i3 0 from rfl, it_lt ⟨by omega, by omega⟩ ⟨by decide, by decide⟩, if_neg (by omega), hsz, zBP_some, it_lt ⟨by omega, by omega⟩ ⟨by omega, by omega⟩, if_pos (by omega), n_year hy, zBV_some, e1, zBV_some]
  unfold f_Bel_countOf
  rw [if_pos hin, hix, zBP_some, (hc1.1 k (by omega)).2]
theorem a_silent (hT : kTb m t) (hW : iW N Kc Ac Lc rk o R F Y E nb Tx) (hC : iC m N Kc Ac Lc o R mv F Y E nb Tx) (hB : kB m nR PR RE BE) (hy : y < 400) : ∃ m1, n_Loo_silent (i3 y) m = some (i3 (sRing y N F Y E nb t Kc Ac Lc R mv PR RE BE nR).2.2.2, m1) ∧ SF m m1 := by
  obtain ⟨hv, hbv, hg, hbe⟩ := hB
  obtain ⟨m1, e1, hS1, hc1⟩ := c_ring hT hW hC hv hbv hg hbe hy
  refine ⟨m1, ?_, hS1⟩
  unfold n_Loo_silent
  rw [n_year hy, zBV_some, e1, zBV_some]
  unfold f_Bel_silences
  rw [zBP_some, hc1.2.2]
end NYR
