/-! CALLS: what a year shows -/
section QRY
variable {m : Mm} {N : Nat}
theorem mod_asks {f y : Int} (h20 : N ≤ 20) (h19 : zI m 201 19 = i3 N) (hf : -2147483648 ≤ f ∧ f < 2147483648) (hy : -2147483648 ≤ y ∧ y < 2147483648) : f_Mod_asks (i3 f) (i3 y) m = some (if 0 ≤ f ∧ f < N then (if 0 ≤ y ∧ y < 400 then (1, wI m 201 0 (i3 0)) else (0, wI m 201 0 (i3 2))) else (0, wI m 201 0 (i3 1))) := by
  unfold f_Mod_asks
  rw [mod_isFeast h20 h19 hf, zBP_some]
  simp only [zLet]
  by_cases c : 0 ≤ f ∧ f < N
  · rw [decide_eq_true c, if_neg (show ¬ b3 true = 0 by decide), mod_isYear hy, zBP_some, if_pos c]
    by_cases c2 : 0 ≤ y ∧ y < 400
    · rw [decide_eq_true c2, if_neg (show ¬ b3 true = 0 by decide), zI_eq, if_pos rfl, if_pos c2]
      rfl
    · rw [decide_eq_false c2, if_pos (show b3 false = 0 by decide), zI_eq, if_neg (by decide), if_neg c2]
      rfl
  · rw [decide_eq_false c, if_pos (show b3 false = 0 by decide), zI_eq, if_neg (by decide), if_neg c]
    rfl
theorem Bo.fy (hI : Inv m) (h20 : N ≤ 20) (h19 : zI m 201 19 = i3 N) (h25 : zI m 25 3 = i3 N) {p q : Int32} {B : Mm → Option ((Int32 ⊕ Nat) × Mm)} {G : Mm → Option (Int32 × Mm)}
    (h : ∀ f y : Nat, p = i3 f → q = i3 y → f < N → y < 400 → ∃ v m1, B m = some (.inl v, m1) ∧ SF m m1 ∧ ∀ m', SF m m' → ∃ m2, G m' = some (v, m2) ∧ SF m' m2 ∧ m2.2 = m'.2 ∧ zI m2 201 0 = zI m' 201 0) :
    Bo cIA (zBXV (f_Loo_checkFeast p m) fun m1 => zBXV (f_Loo_checkYear q m1) B) (fun m => zBI (f_Mod_asks p q m) fun v2 m1 => if v2 = 0 then some (0, m1) else G m1) := by
  obtain ⟨f, rfl, hf⟩ := i3_abs (a := p)
  obtain ⟨y, rfl, hy⟩ := i3_abs (a := q)
  have k19 : ∀ m', SF m m' → zI m' 201 19 = i3 N := fun m' hF => by rw [hF.1 _ _ (by first | exact rfl | exact Sc.m (by omega)), h19]
  by_cases c : 0 ≤ f ∧ f < N
  · by_cases c2 : 0 ≤ y ∧ y < 400
    · obtain ⟨n, rfl, hn⟩ := y_nat c2
      obtain ⟨g, rfl⟩ : ∃ g : Nat, f = g := ⟨f.toNat, by omega⟩
      obtain ⟨v, m1, e1, hF1, hG⟩ := h g n rfl rfl (by omega) hn
      refine Bo.of hI (r := .inl v) (m1 := m1) ?_ hF1 (fun m' hF => ?_)
      · rw [loo_feast h20 h25 hf, if_pos c, zBXV_l, loo_year hy, if_pos c2, zBXV_l, e1]
      · obtain ⟨m2, e2, hF2, h2, h0⟩ := hG (wI m' 201 0 (i3 0)) (hF.trans SF.w0)
        refine ⟨v, m2, ?_, SF.w0.trans hF2, h2, ?_, rfl⟩
        · show (zBI (f_Mod_asks (i3 g) (i3 n) m') fun v2 m1 => if v2 = 0 then some (0, m1) else G m1) = _
          rw [mod_asks h20 (k19 m' hF) hf hy, if_pos c, if_pos c2, zBI_some, if_neg (by decide), e2]
        · rw [h0, zI_eq]
          rfl
    · refine Bo.of hI (r := .inr 0) (m1 := m) ?_ SF.refl (fun m' hF => ⟨0, wI m' 201 0 (i3 2), ?_, SF.w0, rfl, zI_eq, by decide, by decide⟩)
      · rw [loo_feast h20 h25 hf, if_pos c, zBXV_l, loo_year hy, if_neg c2, zBXV_r]
      · show (zBI (f_Mod_asks (i3 f) (i3 y) m') fun v2 m1 => if v2 = 0 then some (0, m1) else G m1) = _
        rw [mod_asks h20 (k19 m' hF) hf hy, if_pos c, if_neg c2, zBI_some, if_pos rfl]
  · refine Bo.of hI (r := .inr 2) (m1 := m) ?_ SF.refl (fun m' hF => ⟨0, wI m' 201 0 (i3 1), ?_, SF.w0, rfl, zI_eq, by decide, by decide⟩)
    · rw [loo_feast h20 h25 hf, if_neg c, zBXV_r]
    · show (zBI (f_Mod_asks (i3 f) (i3 y) m') fun v2 m1 => if v2 = 0 then some (0, m1) else G m1) = _
      rw [mod_asks h20 (k19 m' hF) hf hy, if_neg c, zBI_some, if_pos rfl]
theorem Bo.yr (hI : Inv m) {p : Int32} {B : Mm → Option ((Int32 ⊕ Nat) × Mm)} {G : Mm → Option (Int32 × Mm)}
    (h : ∀ y : Nat, p = i3 y → y < 400 → ∃ v m1, B m = some (.inl v, m1) ∧ SF m m1 ∧ ∀ m', SF m m' → ∃ m2, G m' = some (v, m2) ∧ SF m' m2 ∧ m2.2 = m'.2 ∧ zI m2 201 0 = zI m' 201 0) :
    Bo cA (zBXV (f_Loo_checkYear p m) B) (fun m => zBP (f_Mod_isYear p m) fun v1 => zLet (fun (x3 : Int32) => zLet (wI m 201 0 x3) fun m5 => if (zI m5 201 0) ≤ 0 then G m5 else some (0, m5)) fun j4 => if v1 = 0 then j4 1 else j4 0) := by
  obtain ⟨y, rfl, hy⟩ := i3_abs (a := p)
  have eq : ∀ m', (zBP (f_Mod_isYear (i3 y) m') fun v1 => zLet (fun (x3 : Int32) => zLet (wI m' 201 0 x3) fun m5 => if (zI m5 201 0) ≤ 0 then G m5 else some (0, m5)) fun j4 => if v1 = 0 then j4 1 else j4 0) = if 0 ≤ y ∧ y < 400 then G (wI m' 201 0 (i3 0)) else some (0, wI m' 201 0 (i3 1)) := by
    intro m'
    rw [mod_isYear hy, zBP_some]
    simp only [zLet]
    by_cases c : 0 ≤ y ∧ y < 400
    · rw [decide_eq_true c, if_neg (show ¬ b3 true = 0 by decide), if_pos c, w00]
      rfl
    · rw [decide_eq_false c, if_pos (show b3 false = 0 by decide), if_neg c, show (1 : Int32) = i3 1 from rfl, w0_le ⟨by decide, by decide⟩, if_neg (by decide)]
  by_cases c : 0 ≤ y ∧ y < 400
  · obtain ⟨n, rfl, hn⟩ := y_nat c
    obtain ⟨v, m1, e1, hF1, hG⟩ := h n rfl hn
    refine Bo.of hI (r := .inl v) (m1 := m1) ?_ hF1 (fun m' hF => ?_)
    · rw [loo_year hy, if_pos c, zBXV_l, e1]
    · obtain ⟨m2, e2, hF2, h2, h0⟩ := hG (wI m' 201 0 (i3 0)) (hF.trans SF.w0)
      refine ⟨v, m2, ?_, SF.w0.trans hF2, h2, ?_, rfl⟩
      · exact (eq m').trans ((if_pos c).trans e2)
      · rw [h0, zI_eq]
        rfl
  · refine Bo.of hI (r := .inr 0) (m1 := m) ?_ SF.refl (fun m' hF => ⟨0, wI m' 201 0 (i3 1), (eq m').trans (if_neg c), SF.w0, rfl, zI_eq, by decide, by decide⟩)
    rw [loo_year hy, if_neg c, zBXV_r]
theorem fi20 {f : Nat} (hf : f < 20) : zIn (i3 (f : Int)) 20 ∧ zIx (i3 (f : Int)) = f := ⟨(i3_in ⟨by omega, by omega⟩).mpr ⟨by omega, by omega⟩, by rw [i3_ix ⟨by omega, by omega⟩, Int.toNat_natCast]⟩
theorem b_bent (hI : Inv m) (p q : Int32) : Bo cIA (f_Loo_bent p q m) (f_Mod_bent p q) := by
  obtain ⟨t, T, N, hT, hX, hA, hB, hS⟩ := id hI
  obtain ⟨h19, h25, h20⟩ := hA.n19
  obtain ⟨Kc, Ac, Lc, rk, o, R, mv, F, Y, E, nb, Tx, ⟨w1, w2, w3, w4, w5, w6, w7⟩, hC, hR⟩ := hA
  refine Bo.fy (B := fun m2 => zBV (f_Boo_reckon 152 q (zI m2 16 8) m2) fun m3 => zBP (f_Boo_bentDay 152 p m3) fun v4 => some (.inl v4, m3)) (G := fun m1 => zBV (f_Mod_finds q (zI m1 201 1) m1) fun m4 => if zIn ((20 * (zI m4 201 1)) + p) 40 then some ((zI m4 216 (zIx ((20 * (zI m4 201 1)) + p))), m4) else none) hI h20 h19 h25 ?_
  rintro f y rfl rfl hf hy
  obtain ⟨m1, e1, hF1, -, -, -, hv1⟩ := boo_reckon (m := m) (a := 152) (by decide) hy hT.1 w1 w2 w5 w6 hC.1 hC.2.2.2.1 hC.2.1 w3
  refine ⟨i3 (sB y t F Y E nb Kc Ac Lc f), m1, ?_, hF1.sf (Or.inl rfl), fun m' hF => ?_⟩
  · show (zBV (f_Boo_reckon 152 (i3 y) (zI m 16 8) m) fun m3 => zBP (f_Boo_bentDay 152 (i3 f) m3) fun v4 => some ((.inl v4 : Int32 ⊕ Nat), m3)) = _
    rw [hT.2.1, e1, zBV_some, boo_bent ⟨by omega, by omega⟩, zBP_some, Int.toNat_natCast, (hv1 f hf).1]
  · have hT' := hT.fx hF
    have ht2 := hT.1
    have hR' := hR.fx hF
    obtain ⟨m2, e2, hF2, hv2⟩ := mod_finds (m := m') hy hT.1 w1 w2 w5 hR'.1 hR'.2.2
    have ht : zI m2 201 1 = i3 t := by rw [hF2.2.1 _ _ (by decide) (by decide) (by decide), hT'.2.2]
    have ei : 20 * i3 (t : Int) + i3 (f : Int) = i3 ((20 * t + f : Nat) : Int) := by rw [show (20 : Int32) = i3 20 from rfl, i3_mul, i3_add]; rfl
    refine ⟨m2, ?_, hF2.sf, hF2.1, hF2.2.1 _ _ (by decide) (by decide) (by decide)⟩
    show (zBV (f_Mod_finds (i3 y) (zI m' 201 1) m') fun m4 => if zIn ((20 * (zI m4 201 1)) + i3 f) 40 then some ((zI m4 216 (zIx ((20 * (zI m4 201 1)) + i3 f))), m4) else none) = _
    rw [hT'.2.2, e2, zBV_some, ht, ei, if_pos ((i3_in ⟨by omega, by omega⟩).mpr ⟨by omega, by omega⟩), i3_ix ⟨by omega, by omega⟩, Int.toNat_natCast, (hv2 f hf).1]
theorem b_cost (hI : Inv m) (p q : Int32) : Bo cIA (f_Loo_cost p q m) (f_Mod_cost p q) := by
  obtain ⟨t, T, N, hT, hX, hA, hB, hS⟩ := id hI
  obtain ⟨h19, h25, h20⟩ := hA.n19
  obtain ⟨Kc, Ac, Lc, rk, o, R, mv, F, Y, E, nb, Tx, ⟨w1, w2, w3, w4, w5, w6, w7⟩, hC, hR⟩ := hA
  refine Bo.fy (B := fun m2 => zBV (f_Boo_reckon 152 q (zI m2 16 8) m2) fun m3 => zBP (f_Boo_costOf 152 p m3) fun v4 => some (.inl v4, m3)) (G := fun m1 => zBV (f_Mod_finds q (zI m1 201 1) m1) fun m4 => if zIn p 20 then some ((zI m4 218 (zIx p)), m4) else none) hI h20 h19 h25 ?_
  rintro f y rfl rfl hf hy
  obtain ⟨hin, hix⟩ := fi20 (show f < 20 by omega)
  obtain ⟨m1, e1, hF1, -, -, -, hv1⟩ := boo_reckon (m := m) (a := 152) (by decide) hy hT.1 w1 w2 w5 w6 hC.1 hC.2.2.2.1 hC.2.1 w3
  refine ⟨i3 (sG y t F Y E nb Kc Ac Lc f).2, m1, ?_, hF1.sf (Or.inl rfl), fun m' hF => ?_⟩
  · show (zBV (f_Boo_reckon 152 (i3 y) (zI m 16 8) m) fun m3 => zBP (f_Boo_costOf 152 (i3 f) m3) fun v4 => some ((.inl v4 : Int32 ⊕ Nat), m3)) = _
    rw [hT.2.1, e1, zBV_some]
    unfold f_Boo_costOf
    rw [if_pos hin, hix, zBP_some, (hv1 f hf).2]
  · have hT' := hT.fx hF
    have hR' := hR.fx hF
    obtain ⟨m2, e2, hF2, hv2⟩ := mod_finds (m := m') hy hT.1 w1 w2 w5 hR'.1 hR'.2.2
    refine ⟨m2, ?_, hF2.sf, hF2.1, hF2.2.1 _ _ (by decide) (by decide) (by decide)⟩
    show (zBV (f_Mod_finds (i3 y) (zI m' 201 1) m') fun m4 => if zIn (i3 f) 20 then some ((zI m4 218 (zIx (i3 f))), m4) else none) = _
    rw [hT'.2.2, e2, zBV_some, if_pos hin, hix, (hv2 f hf).2]
theorem b_yearCost (hI : Inv m) (p : Int32) : Bo cA (f_Loo_yearCost p m) (f_Mod_yearCost p) := by
  obtain ⟨t, T, N, hT, hX, hA, hB, hS⟩ := id hI
  obtain ⟨h19, h25, h20⟩ := hA.n19
  obtain ⟨Kc, Ac, Lc, rk, o, R, mv, F, Y, E, nb, Tx, ⟨w1, w2, w3, w4, w5, w6, w7⟩, hC, hR⟩ := hA
  refine Bo.yr (B := fun m1 => zBV (f_Boo_reckon 152 p (zI m1 16 8) m1) fun m2 => zBP (f_Boo_costOfAll 152 m2) fun v3 => some (.inl v3, m2)) (G := fun m5 => zBV (f_Mod_finds p (zI m5 201 1) m5) fun m7 => zBP (f_Mod_costNow m7) fun v8 => some (v8, m7)) hI ?_
  rintro y rfl hy
  obtain ⟨m1, e1, hF1, -, -, -, hv1⟩ := boo_reckon (m := m) (a := 152) (by decide) hy hT.1 w1 w2 w5 w6 hC.1 hC.2.2.2.1 hC.2.1 w3
  refine ⟨i3 (sSum (fun f => (sG y t F Y E nb Kc Ac Lc f).2) N), m1, ?_, hF1.sf (Or.inl rfl), fun m' hF => ?_⟩
  · show (zBV (f_Boo_reckon 152 (i3 y) (zI m 16 8) m) fun m2 => zBP (f_Boo_costOfAll 152 m2) fun v3 => some ((.inl v3 : Int32 ⊕ Nat), m2)) = _
    rw [hT.2.1, e1, zBV_some, boo_costs (c := fun f => (sG y t F Y E nb Kc Ac Lc f).2) h20 (by rw [hF1.2.1 _ _ (by decide), h25]) (fun f hf => (hv1 f hf).2), zBP_some]
  · have hT' := hT.fx hF
    have hR' := hR.fx hF
    obtain ⟨m2, e2, hF2, hv2⟩ := mod_finds (m := m') hy hT.1 w1 w2 w5 hR'.1 hR'.2.2
    refine ⟨m2, ?_, hF2.sf, hF2.1, hF2.2.1 _ _ (by decide) (by decide) (by decide)⟩
    show (zBV (f_Mod_finds (i3 y) (zI m' 201 1) m') fun m7 => zBP (f_Mod_costNow m7) fun v8 => some (v8, m7)) = _
    rw [hT'.2.2, e2, zBV_some, mod_costs (c := fun f => (sG y t F Y E nb Kc Ac Lc f).2) h20 (by rw [hF2.2.1 _ _ (by decide) (by decide) (by decide)]; exact hR'.1.1) (fun f hf => (hv2 f hf).2), zBP_some]
theorem b_clashes (hI : Inv m) (p : Int32) : Bo cA (f_Loo_clashes p m) (f_Mod_clashes p) := by
  obtain ⟨t, T, N, hT, hX, hA, hB, hS⟩ := id hI
  obtain ⟨h19, h25, h20⟩ := hA.n19
  obtain ⟨Kc, Ac, Lc, rk, o, R, mv, F, Y, E, nb, Tx, ⟨w1, w2, w3, w4, w5, w6, w7⟩, hC, hR⟩ := hA
  refine Bo.yr (B := fun m1 => zBV (f_Boo_reckon 152 p (zI m1 16 8) m1) fun m2 => zBP (f_Boo_countClashes 152 m2) fun v3 => some (.inl v3, m2)) (G := fun m5 => zBV (f_Mod_finds p (zI m5 201 1) m5) fun m7 => zBP (f_Mod_clashesNow m7) fun v8 => some (v8, m7)) hI ?_
  rintro y rfl hy
  have hL := sLen_bd y
  obtain ⟨m1, e1, hF1, -, -, -, hv1⟩ := boo_reckon (m := m) (a := 152) (by decide) hy hT.1 w1 w2 w5 w6 hC.1 hC.2.2.2.1 hC.2.1 w3
  have hbd : ∀ f, f < N → -1 ≤ sB y t F Y E nb Kc Ac Lc f ∧ sB y t F Y E nb Kc Ac Lc f < 400 := fun f hf => by have := sB_bd (y := y) (t := t) (F := F) (Y := Y) (E := E) (nb := nb) w1 hf; omega
  refine ⟨i3 (clT (sB y t F Y E nb Kc Ac Lc) N N), m1, ?_, hF1.sf (Or.inl rfl), fun m' hF => ?_⟩
  · show (zBV (f_Boo_reckon 152 (i3 y) (zI m 16 8) m) fun m2 => zBP (f_Boo_countClashes 152 m2) fun v3 => some ((.inl v3 : Int32 ⊕ Nat), m2)) = _
    rw [hT.2.1, e1, zBV_some, boo_clashes h20 (by rw [hF1.2.1 _ _ (by decide), h25]) (fun f hf => ⟨(hv1 f hf).1, hbd f hf⟩), zBP_some]
  · have hT' := hT.fx hF
    have hR' := hR.fx hF
    obtain ⟨m2, e2, hF2, hv2⟩ := mod_finds (m := m') hy hT.1 w1 w2 w5 hR'.1 hR'.2.2
    refine ⟨m2, ?_, hF2.sf, hF2.1, hF2.2.1 _ _ (by decide) (by decide) (by decide)⟩
    show (zBV (f_Mod_finds (i3 y) (zI m' 201 1) m') fun m7 => zBP (f_Mod_clashesNow m7) fun v8 => some (v8, m7)) = _
    rw [hT'.2.2, e2, zBV_some, mod_clashes (t := t) h20 hT.1 (by rw [hF2.2.1 _ _ (by decide) (by decide) (by decide)]; exact hR'.1.1) (by rw [hF2.2.1 _ _ (by decide) (by decide) (by decide)]; exact hT'.2.2) (fun f hf => ⟨(hv2 f hf).1, hbd f hf⟩), zBP_some]
theorem b_day (hI : Inv m) (p q : Int32) : Bo cIA (f_Loo_day p q m) (f_Mod_day p q) := by
  obtain ⟨t, T, N, hT, hX, hA, hB, hS⟩ := id hI
  obtain ⟨h19, h25, h20⟩ := hA.n19
  obtain ⟨Kc, Ac, Lc, rk, o, R, mv, F, Y, E, nb, Tx, ⟨w1, w2, w3, w4, w5, w6, w7⟩, hC, hR⟩ := hA
  refine Bo.fy (B := fun m2 => zBV (f_Boo_reckon 152 q (zI m2 16 8) m2) fun m3 => zBV (f_Boo_placeAll 152 m3) fun m4 => zBP (f_Boo_placedDay 152 p m4) fun v5 => some (.inl v5, m4)) (G := fun m1 => zBV (f_Mod_places q m1) fun m4 => if zIn p 20 then some ((zI m4 219 (zIx p)), m4) else none) hI h20 h19 h25 ?_
  rintro f y rfl rfl hf hy
  have hL := sLen_bd y
  obtain ⟨hin, hix⟩ := fi20 (show f < 20 by omega)
  obtain ⟨m1, e1, hF1, -, k7, -, hv1⟩ := boo_reckon (m := m) (a := 152) (by decide) hy hT.1 w1 w2 w5 w6 hC.1 hC.2.2.2.1 hC.2.1 w3
  have hS1 := hF1.sf (Or.inl rfl)
  have hC1 := hC.fx h20 hS1
  obtain ⟨m2, e2, hF2, hv2, -⟩ := boo_placeAll (m := m1) (a := 152) (R := R) (mv := mv) (by decide) h20 (by omega) hC1.2.2.1 w4 hC1.1.1 k7 (fun f hf => ⟨(hv1 f hf).1, sB_bd w1 hf⟩)
  refine ⟨i3 (sAll N (sLen y) (sB y t F Y E nb Kc Ac Lc) R mv 10 f), m2, ?_, hS1.trans (hF2.sf (Or.inl rfl)), fun m' hF => ?_⟩
  · show (zBV (f_Boo_reckon 152 (i3 y) (zI m 16 8) m) fun m3 => zBV (f_Boo_placeAll 152 m3) fun m4 => zBP (f_Boo_placedDay 152 (i3 f) m4) fun v5 => some ((.inl v5 : Int32 ⊕ Nat), m4)) = _
    rw [hT.2.1, e1, zBV_some, e2, zBV_some, boo_placedDay (p := sAll N (sLen y) (sB y t F Y E nb Kc Ac Lc) R mv 10) (by omega) (hv2 f hf), zBP_some]
  · have hT' := hT.fx hF
    have hR' := hR.fx hF
    obtain ⟨m3, e3, hF3, -, hp⟩ := mod_places (m := m') hy hT.1 w1 w2 w5 hR'.1 hR'.2.2 hT'.2.2 hR'.2.1 w4
    refine ⟨m3, ?_, hF3.sf, hF3.1, hF3.2.1 _ _ (by decide) (by decide) (by decide) (by decide)⟩
    show (zBV (f_Mod_places (i3 y) m') fun m4 => if zIn (i3 f) 20 then some ((zI m4 219 (zIx (i3 f))), m4) else none) = _
    rw [e3, zBV_some, if_pos hin, hix, hp f hf]
theorem b_dayByDays (hI : Inv m) (p q : Int32) : Bo cIA (f_Loo_dayByDays p q m) (f_Mod_dayByDays p q) := by
  obtain ⟨t, T, N, hT, hX, hA, hB, hS⟩ := id hI
  obtain ⟨h19, h25, h20⟩ := hA.n19
  obtain ⟨Kc, Ac, Lc, rk, o, R, mv, F, Y, E, nb, Tx, ⟨w1, w2, w3, w4, w5, w6, w7⟩, hC, hR⟩ := hA
  refine Bo.fy (B := fun m2 => zBV (f_Pla_readAll q (zI m2 16 8) m2) fun m3 => zBV (f_Pla_goThroughDays q m3) fun m4 => zBP (f_Pla_placedDay p m4) fun v5 => some (.inl v5, m4)) (G := fun m1 => zBV (f_Mod_places q m1) fun m4 => if zIn p 20 then some ((zI m4 219 (zIx p)), m4) else none) hI h20 h19 h25 ?_
  rintro f y rfl rfl hf hy
  have hL := sLen_bd y
  obtain ⟨hin, hix⟩ := fi20 (show f < 20 by omega)
  obtain ⟨m1, e1, hF1, hv1⟩ := pla_readAll (m := m) hy hT.1 w1 w2 w5 w6 h25 hC.2.2.2.1 hC.2.1 w3 hC.2.2.2.2.1 w7
  have hS1 := hF1.sf
  have hC1 := hC.fx h20 hS1
  obtain ⟨m2, e2, hF2, hv2⟩ := pla_goDays (m := m1) (R := R) (mv := mv) (b := sB y t F Y E nb Kc Ac Lc) hy h20 hC1.1.1 hC1.2.2.1 w4 (fun f hf => ⟨hv1 f hf, sB_bd w1 hf⟩)
  refine ⟨i3 (sAll N (sLen y) (sB y t F Y E nb Kc Ac Lc) R mv 10 f), m2, ?_, hS1.trans (hF2.sf (Or.inr (Or.inl rfl))), fun m' hF => ?_⟩
  · show (zBV (f_Pla_readAll (i3 y) (zI m 16 8) m) fun m3 => zBV (f_Pla_goThroughDays (i3 y) m3) fun m4 => zBP (f_Pla_placedDay (i3 f) m4) fun v5 => some ((.inl v5 : Int32 ⊕ Nat), m4)) = _
    rw [hT.2.1, e1, zBV_some, e2, zBV_some]
    unfold f_Pla_placedDay
    simp only [zLet]
    rw [it_lt0 ⟨by omega, by omega⟩, if_neg (by omega), show (20 : Int32) = i3 20 from rfl, it_le ⟨by decide, by decide⟩ ⟨by omega, by omega⟩, if_neg (by omega), if_pos hin, hix, hv2 f hf, zBP_some]
  · have hT' := hT.fx hF
    have hR' := hR.fx hF
    obtain ⟨m3, e3, hF3, -, hp⟩ := mod_places (m := m') hy hT.1 w1 w2 w5 hR'.1 hR'.2.2 hT'.2.2 hR'.2.1 w4
    refine ⟨m3, ?_, hF3.sf, hF3.1, hF3.2.1 _ _ (by decide) (by decide) (by decide) (by decide)⟩
    show (zBV (f_Mod_places (i3 y) m') fun m4 => if zIn (i3 f) 20 then some ((zI m4 219 (zIx (i3 f))), m4) else none) = _
    rw [e3, zBV_some, if_pos hin, hix, hp f hf]
end QRY
