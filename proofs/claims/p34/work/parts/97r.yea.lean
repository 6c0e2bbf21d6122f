/-! THE LAW'S YEAR -/
theorem Fz.nt {m : Mm} {i : Nat} : Fz 6 0 m (zNt m (207 + i)) := ⟨fun b j a1 a2 a3 => by
  rw [zI_zNt, if_neg (fun e => a2 (zone_T (by omega)))], rfl⟩
theorem Fz.of {m m' : Mm} (h : ∀ b j, b < 207 → zI m' b j = zI m b j) (h2 : m'.2 = m.2) : Fz 6 0 m m' := ⟨fun b j a1 a2 a3 => h b j (by
  by_cases e : 207 ≤ b
  · exact absurd (zone_T e) a2
  · omega), zL_of h2 _ _⟩
theorem z26 : zIn (2 : Int32) 6 ∧ zIx (2 : Int32) = 2 := by decide
theorem z36 : zIn (3 : Int32) 6 ∧ zIx (3 : Int32) = 3 := by decide
section YEA
variable {m M : Mm} {N nb nR t y : Nat} {fr : Nat → Nat → Int} {Rv F Y E PR RE BE : Nat → Int}
/-- the end of a year: peals and the rest -/
theorem year_end (hT : StT M t) (hA : StA M N fr Rv nb F Y E) (hB : StB M nR PR RE BE) (hy : y < 400) (hH : HL M nR (rYr PR RE nR BE (lNt y F Y E nb fr) (lPl y t N F Y E nb fr Rv) (rR Rv) N (sLen y))) :
    ∃ m', zLp1 (l_Law_year_0 (i3 y) (i3 (rYr PR RE nR BE (lNt y F Y E nb fr) (lPl y t N F Y E nb fr Rv) (rR Rv) N (sLen y)).2.2.2)) zFu 0 M = some (1, m') ∧ SF M m' := by
  have hLn := sLen_bd y
  have hFi := sFirst_bd hy
  have ht2 := hT.1.1
  obtain ⟨o, Tx, hW, hC⟩ := hA.2.2
  obtain ⟨hn10, hkB, hg, -, -⟩ := hB
  have h20 := hW.1.1
  refine ex_zLp1 (Q := fun X => ∃ m', X = some (1, m') ∧ SF M m') (fun j x35 MM => ∃ n : Nat, n ≤ nR ∧ j = nR - n ∧ x35 = i3 n ∧ SF M MM) ?_ zFu nR _ _ ⟨0, Nat.zero_le _, rfl, rfl, SF.refl⟩ (by unfold zFu; omega)
  rintro r j _ MM ⟨n, hn, rfl, rfl, hS⟩
  have h204 : ∀ MM, SF M MM → zI MM 204 3 = i3 nR := fun MM hS => by rw [hS.1 _ _ (Sc.l (by decide))]; exact hg
  have h2042 : ∀ MM, SF M MM → zI MM 204 2 = i3 t := fun MM hS => by rw [hS.1 _ _ (Sc.l (by decide))]; exact hT.2
  unfold l_Law_year_0
  rw [if_pos z36.1, z36.2, h204 MM hS, it_le ⟨by omega, by omega⟩ ⟨by omega, by omega⟩]
  by_cases e : n = nR
  · left
    obtain ⟨m1, e1, hS1⟩ := a_silent (hT.1.fx hS) hW (hC.fx h20 hS) (hkB.fx hS) hy
    have e1' : n_Loo_silent (i3 y) MM = some (i3 (rYr PR RE nR BE (lNt y F Y E nb fr) (lPl y t N F Y E nb fr Rv) (rR Rv) N (sLen y)).2.2.2, m1) := e1
    have hS2 := hS.trans hS1
    have ed : n_Loo_date (i3 y) 364 m1 = some (if 364 < sLen y then i3 (sDt (sLeap y) 364) else i3 (-1), m1) := a_date (d := 364) hy (by decide)
    have ed5 : n_Loo_date (i3 y) 365 m1 = some (if 365 < sLen y then i3 (sDt (sLeap y) 365) else i3 (-1), m1) := a_date (d := 365) hy (by decide)
    have el : f_Law_date (i3 y) 364 m1 = some (i3 (sDt (sLeap y) 364)) := law_date (d := 364) hy (by omega) m1
    refine ⟨m1, ?_, hS2⟩
    rw [if_pos (by omega), e1', zBI_some, zLet_q, if_pos rfl, a_begin hy, zBI_some, law_great (by omega), zBP_some, if_pos rfl, zBP_some, if_pos z26.1, z26.2, h2042 m1 hS2, a_age ⟨by omega, by omega⟩ ht2, zBI_some, law_great (by omega), zBP_some, if_pos z26.1, h2042 m1 hS2, law_age ⟨by omega, by omega⟩ ht2, zBP_some, if_pos rfl, ed, zBI_some, el, zBP_some, if_pos (show 364 < sLen y by omega), if_pos rfl, ed5, zBI_some, law_leap hy, zBP_some, zLet_q]
    have hl : sLen y = sLenB (sLeap y) := rfl
    rw [hl]
    cases sLeap y with
    | true =>
      rw [if_neg (show ¬ b3 true = 0 by decide)]
      exact if_pos (show (if 365 < sLenB true then i3 ((sDt true 365 : Nat) : Int) else i3 (-1)) = (1231 : Int32) by decide +kernel)
    | false =>
      rw [if_pos (show b3 false = 0 by decide)]
      exact if_pos (show (if 365 < sLenB false then i3 ((sDt false 365 : Nat) : Int) else i3 (-1)) = (-1 : Int32) by decide +kernel)
  · right
    have hnR : n < nR := by omega
    obtain ⟨j1, j2⟩ := in_n (k := n) (n := 10) (by omega) (by decide)
    obtain ⟨m1, e1, hS1⟩ := a_peals (hT.1.fx hS) hW (hC.fx h20 hS) (hkB.fx hS) hy hnR
    have e1' : n_Loo_peals (i3 n) (i3 y) MM = some (i3 ((rYr PR RE nR BE (lNt y F Y E nb fr) (lPl y t N F Y E nb fr Rv) (rR Rv) N (sLen y)).2.1 n), m1) := e1
    have hS2 := hS.trans hS1
    rw [if_neg (by omega), e1', zBI_some, if_pos j1, j2, (hH.sf hS2 n hnR).1, if_pos rfl, zLet_q, ad1]
    exact ⟨_, m1, nR - (n + 1), by omega, ⟨n + 1, by omega, rfl, rfl, hS2⟩, rfl⟩
theorem mid_eq {a b : Int} (ha : -1 ≤ a ∧ a < 400) (hb : -1 ≤ b ∧ b < 400) : (if i3 a < 0 then (0 : Int32) else if i3 b < 0 then 0 else if (i3 a - i3 b) * (i3 a - i3 b) = 1 then 1 else 0) = b3 (midn a b) := by
  obtain ⟨sq1, sq2⟩ := sq_f (z := a - b) ⟨by omega, by omega⟩
  rw [it_lt0 ⟨by omega, by omega⟩, it_lt0 ⟨by omega, by omega⟩, i3_sub, i3_mul, it_e1 ⟨by omega, by omega⟩]
  unfold midn
  by_cases c1 : a < 0
  · rw [if_pos c1, decide_eq_false (fun z => z.1 (by omega))]
    rfl
  · rw [if_neg c1]
    by_cases c2 : b < 0
    · rw [if_pos c2, decide_eq_false (fun z => z.2.1 (by omega))]
      rfl
    · rw [if_neg c2]
      by_cases c3 : (a - b) * (a - b) = 1
      · have := sq2.mp c3
        rw [if_pos c3, decide_eq_true ⟨by omega, by omega, by omega⟩]
        rfl
      · rw [if_neg c3, decide_eq_false (fun z => c3 (sq2.mpr (by omega)))]
        rfl
theorem lNt_t (ht : t < 2) {k : Nat} : midn (lB y (1 - t) F Y E nb fr k) (lB y t F Y E nb fr k) = midn (lB y 0 F Y E nb fr k) (lB y 1 F Y E nb fr k) := by
  rcases (show t = 0 ∨ t = 1 by omega) with rfl | rfl
  · exact midn_symm _ _
  · rfl
theorem law_year (hT : StT m t) (hA : StA m N fr Rv nb F Y E) (hB : StB m nR PR RE BE) (hy : y < 400) : ∃ m', f_Law_year (i3 y) m = some (1, m') ∧ Fz 6 0 m m' := by
  have hLn := sLen_bd y
  have ht2 := hT.1.1
  have h10 := hA.1.1
  have hRv := hA.1.2.2.2.1
  rw [e_Law_year, zLet_q, zLet_q, zLet_q, zLet_q]
  have hF7 : Fz 6 0 m (zNt (zNt (zNt (zNt m (207 + 0)) (207 + 1)) (207 + 2)) (207 + 3)) := ((Fz.nt.trans Fz.nt).trans Fz.nt).trans Fz.nt
  generalize zNt (zNt (zNt (zNt m (207 + 0)) (207 + 1)) (207 + 2)) (207 + 3) = m7 at hF7
  have hA7 := hA.fz hF7 ⟨by decide, by decide⟩
  have hT7 := hT.fz hF7 ⟨by decide, by decide⟩
  have e1t : (1 : Int32) - i3 (t : Int) = i3 ((1 - t : Nat) : Int) := by
    rw [show (1 : Int32) = i3 1 from rfl, i3_sub]
    congr 1
    omega
  obtain ⟨m9, e9, c9, f9, g9⟩ := law_B (t := 1 - t) (t6 := 0) (t7 := 2) hA.1 hA7.2.1 hA.2.2 hy (by omega) (by decide)
  have hF9 := hF7.trans (Fz.of (fun b j hb => f9 b j (by omega) (by omega)) g9)
  have hA9 := hA.fz hF9 ⟨by decide, by decide⟩
  have hT9 := hT.fz hF9 ⟨by decide, by decide⟩
  obtain ⟨m10, e10, c10, f10, g10⟩ := law_B (t := t) (t6 := 1) (t7 := 2) hA.1 hA9.2.1 hA.2.2 hy ht2 (by decide)
  have hF10 := hF9.trans (Fz.of (fun b j hb => f10 b j (by omega) (by omega)) g10)
  have hA10 := hA.fz hF10 ⟨by decide, by decide⟩
  have hBd := fun k hk => (br_B hA.1 hA.2.2 y t (k := k) hk).2.2
  have hBd' := fun k hk => (br_B hA.1 hA.2.2 y (1 - t) (k := k) hk).2.2
  obtain ⟨m11, e11, c11, f11, g11⟩ := law_place (t4 := 1) (t5 := 3) hy h10 (by decide) hA10.2.1.1.1 (fun k hk => ⟨hA10.2.1.2.2 k hk, hRv k hk⟩) (b := lB y t F Y E nb fr) (fun k hk => ⟨(c10 k hk).1, hBd k hk⟩)
  have hF11 := hF10.trans (Fz.of (fun b j hb => f11 b j (by omega)) g11)
  have hA11 := hA.fz hF11 ⟨by decide, by decide⟩
  have hT11 := hT.fz hF11 ⟨by decide, by decide⟩
  have hB11 := hB.fz hF11 ⟨by decide, by decide⟩
  have hY : YC m11 y t N fr Rv nb F Y E nR PR RE BE := ⟨hT11, hA11, hB11, fun k hk => ⟨by rw [f11 _ _ (by decide), f10 _ _ (by decide) (by decide)]; exact (c9 k hk).1, by rw [f11 _ _ (by decide)]; exact (c10 k hk).1, c11 k hk⟩⟩
  have hcs : ∀ k, k < N → zI m11 (207 + 2) k = i3 (lCs y t F Y E nb fr k) := fun k hk => by rw [f11 _ _ (by decide)]; exact (c10 k hk).2
  have hent : (if zIn 2 6 then zBV (f_Law_bents (i3 y) (1 - (zI m7 204 (zIx 2))) 0 2 m7) fun m9 => if zIn 2 6 then zBV (f_Law_bents (i3 y) (zI m9 204 (zIx 2)) 1 2 m9) fun m10 => zBV (f_Law_place (i3 y) 1 3 m10) fun m11 => zLp2 (l_Law_year_6 (i3 y)) zFu 1 0 m11 else none else none) = zLp2 (l_Law_year_6 (i3 y)) zFu 1 0 m11 := by
    rw [if_pos z26.1, z26.2, hT7.2, e1t, e9, zBV_some, if_pos z26.1, hT9.2, e10, zBV_some, e11, zBV_some]
  rw [hent]
  obtain ⟨o, Tx, hW, hC⟩ := hA11.2.2
  have h20 := hW.1.1
  have hN0 := hA11.2.1.1.1
  refine ex_zLp2 (Q := fun X => ∃ m', X = some (1, m') ∧ Fz 6 0 m m') (fun j x12 x13 MM => ∃ k : Nat, k ≤ N ∧ j = N - k ∧ x13 = i3 k ∧ x12 = i3 (sSum (lCs y t F Y E nb fr) k) ∧ SF m11 MM) ?_ zFu N _ _ _ ⟨0, Nat.zero_le _, rfl, rfl, rfl, SF.refl⟩ (by unfold zFu; omega)
  rintro r j _ _ MM ⟨k, hk, rfl, rfl, rfl, hS⟩
  have hlaw : ∀ M', SF m11 M' → ∀ b j, 201 ≤ b → zI M' b j = zI m11 b j := fun M' hS b j hb => hS.1 b j (Sc.l hb)
  unfold l_Law_year_6
  rw [if_pos z06.1, z06.2, hlaw MM hS _ _ (by decide), hN0, it_le ⟨by omega, by omega⟩ ⟨by omega, by omega⟩]
  by_cases e : k = N
  · left
    obtain ⟨m17, e17, hS17⟩ := a_yearCost (hT11.1.fx hS) hW (hC.fx h20 hS) hy
    have hSb := hS.trans hS17
    obtain ⟨m20, e20, hS20⟩ := a_clashes (hT11.1.fx hSb) hW (hC.fx h20 hSb) hy
    have hSc := hSb.trans hS20
    have e17' : n_Loo_yearCost (i3 y) MM = some (i3 (sSum (lCs y t F Y E nb fr) N), m17) := e17
    have e20' : n_Loo_clashes (i3 y) m17 = some (i3 (clT (lB y t F Y E nb fr) N N), m20) := e20
    have ec : f_Law_clashes 1 m20 = some (i3 (clT (lB y t F Y E nb fr) N N)) := law_clashes h10 (by rw [hlaw m20 hSc _ _ (by decide)]; exact hN0) (fun k hk => ⟨by rw [hlaw m20 hSc _ _ (by decide)]; exact (hY.2.2.2 k hk).2.1, by have := hBd k hk; omega⟩)
    have hF20 := hSc.fh.fz
    have hY20 : YC m20 y t N fr Rv nb F Y E nR PR RE BE := ⟨hT11.fz hF20 ⟨by decide, by decide⟩, hA11.fz hF20 ⟨by decide, by decide⟩, hB11.fz hF20 ⟨by decide, by decide⟩, fun k hk => ⟨by rw [hlaw m20 hSc _ _ (by decide)]; exact (hY.2.2.2 k hk).1, by rw [hlaw m20 hSc _ _ (by decide)]; exact (hY.2.2.2 k hk).2.1, by rw [hlaw m20 hSc _ _ (by decide)]; exact (hY.2.2.2 k hk).2.2⟩⟩
    have hF26 : FH m20 (zNt (zNt m20 (207 + 4)) (207 + 5)) := ⟨fun b j _ q2 q3 => by rw [zI_zNt, if_neg q3, zI_zNt, if_neg q2], fun _ _ => rfl⟩
    have hH26 : HL (zNt (zNt m20 (207 + 4)) (207 + 5)) nR rS0 := fun n hn => ⟨by rw [zI_zNt, if_neg (by decide), zI_zNt, if_pos rfl]; rfl, fun hz => absurd rfl hz⟩
    obtain ⟨M', q1, q2, q3⟩ := ring5 hY20 hy hF26 hH26
    obtain ⟨m', r1, r2⟩ := year_end (hY20.1.fz q2.fz ⟨by decide, by decide⟩) (hY20.2.1.fz q2.fz ⟨by decide, by decide⟩) (hY20.2.2.1.fz q2.fz ⟨by decide, by decide⟩) hy q1
    refine ⟨m', ?_, (((hF11.trans hF20).trans q2.fz).trans r2.fz)⟩
    rw [e, if_pos (Int.le_refl _), e17', zBI_some, if_pos rfl, e20', zBI_some, ec, zBP_some, if_pos rfl, zLet_q, zLet_q, q3, r1]
  · right
    have hkN : k < N := by omega
    obtain ⟨i1, x1⟩ := in_n (k := k) (n := 10) (by omega) (by decide)
    obtain ⟨y0, y1, y3⟩ := hY.2.2.2 k hkN
    obtain ⟨ma, ea, Sa⟩ := a_bent (hT11.1.fx hS) hW (hC.fx h20 hS) hkN hy
    have Ta := hS.trans Sa
    obtain ⟨mb, eb, Sb⟩ := a_day (hT11.1.fx Ta) hW (hC.fx h20 Ta) hkN hy
    have Tb := Ta.trans Sb
    obtain ⟨mc, ec, Scc⟩ := a_dayByDays (hT11.1.fx Tb) hW (hC.fx h20 Tb) hkN hy
    have Tc := Tb.trans Scc
    obtain ⟨md, ed, Sd⟩ := a_cost (hT11.1.fx Tc) hW (hC.fx h20 Tc) hkN hy
    have Td := Tc.trans Sd
    obtain ⟨me, ee, Se⟩ := a_isMidnight (hT11.1.fx Td) hW (hC.fx h20 Td) hkN hy
    have Te := Td.trans Se
    have ea' : n_Loo_bent (i3 k) (i3 y) MM = some (i3 (lB y t F Y E nb fr k), ma) := ea
    have eb' : n_Loo_day (i3 k) (i3 y) ma = some (i3 (lPl y t N F Y E nb fr Rv k), mb) := eb
    have ec' : n_Loo_dayByDays (i3 k) (i3 y) mb = some (i3 (lPl y t N F Y E nb fr Rv k), mc) := ec
    have ed' : n_Loo_cost (i3 k) (i3 y) mc = some (i3 (lCs y t F Y E nb fr k), md) := ed
    have ee' : n_Loo_isMidnight (i3 k) (i3 y) md = some (b3 (midn (lB y 0 F Y E nb fr k) (lB y 1 F Y E nb fr k)), me) := ee
    have y3' : zI m11 (207 + 3) k = i3 (lPl y t N F Y E nb fr Rv k) := y3
    have hm := mid_eq (a := lB y (1 - t) F Y E nb fr k) (b := lB y t F Y E nb fr k) (by have := hBd' k hkN; omega) (by have := hBd k hkN; omega)
    rw [lNt_t ht2] at hm
    refine ⟨i3 (sSum (lCs y t F Y E nb fr) (k + 1)), i3 ((k + 1 : Nat) : Int), me, N - (k + 1), by omega, ⟨k + 1, by omega, rfl, rfl, rfl, Te⟩, ?_⟩
    rw [if_neg (by omega), if_pos i1, if_pos i1, x1, hlaw MM hS _ _ (by decide), hlaw MM hS _ _ (by decide), y0, y1, zLet_q, ea', zBI_some, if_pos i1, hlaw ma Ta _ _ (by decide), y1, if_pos rfl, eb', zBI_some, if_pos i1, hlaw mb Tb _ _ (by decide), y3', if_pos rfl, ec', zBI_some, if_pos i1, hlaw mc Tc _ _ (by decide), y3', if_pos rfl, ed', zBI_some, if_pos i1, hlaw md Td _ _ (by decide), hcs k hkN, if_pos rfl, ee', zBI_some, if_pos i1]
    simp only [zLet_q, if_pos i1, hlaw me Te _ _ (show 201 ≤ 207 + 0 by decide), hlaw me Te _ _ (show 201 ≤ 207 + 1 by decide), hlaw me Te _ _ (show 201 ≤ 207 + 2 by decide), y0, y1, hcs k hkN, ad1, i3_add]
    generalize midn (lB y 0 F Y E nb fr k) (lB y 1 F Y E nb fr k) = b at hm ⊢
    have hs : sSum (lCs y t F Y E nb fr) (k + 1) = sSum (lCs y t F Y E nb fr) k + lCs y t F Y E nb fr k := rfl
    rw [hs]
    generalize i3 (lB y (1 - t) F Y E nb fr k) = xa at hm ⊢
    generalize i3 (lB y t F Y E nb fr k) = xb at hm ⊢
    by_cases c1 : xa < 0
    · rw [if_pos c1] at hm ⊢
      rw [← hm, if_pos rfl]
    · rw [if_neg c1] at hm ⊢
      by_cases c2 : xb < 0
      · rw [if_pos c2] at hm ⊢
        rw [← hm, if_pos rfl]
      · rw [if_neg c2] at hm ⊢
        by_cases c3 : (xa - xb) * (xa - xb) = 1
        · rw [if_pos c3] at hm ⊢
          rw [← hm, if_pos rfl]
        · rw [if_neg c3] at hm ⊢
          rw [← hm, if_pos rfl]
end YEA
