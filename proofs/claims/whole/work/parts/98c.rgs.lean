/-! CALLS: midnights and ringing -/
theorem midn_symm (x y : Int) : midn x y = midn y x := by
  unfold midn
  congr 1
  exact propext ⟨fun ⟨a, b, c⟩ => ⟨b, a, c.symm⟩, fun ⟨a, b, c⟩ => ⟨b, a, c.symm⟩⟩
/-- both tables are reckoned, one after the other -/
def f_Loo_reckonBothTables (p1 : Int32) (m : Mm) : Option Mm :=
  zBV (f_Boo_reckon 152 p1 (zI m 16 8) m) fun m1 => zBP (f_Loo_otherTable m1) fun v2 => zBV (f_Boo_reckon 158 p1 v2 m1) fun m3 => some m3
theorem zBV_both {α : Type} (p : Int32) (m : Mm) (K : Mm → Option α) : (zBV (f_Boo_reckon 152 p (zI m 16 8) m) fun m1 => zBP (f_Loo_otherTable m1) fun v2 => zBV (f_Boo_reckon 158 p v2 m1) K) = zBV (f_Loo_reckonBothTables p m) K := by
  unfold f_Loo_reckonBothTables
  simp only [zBV, zBP, Option.bind_assoc, ob_s]
theorem e_Loo_isMidnight (p q : Int32) : f_Loo_isMidnight p q = fun m => zBXV (f_Loo_checkFeast p m) fun m1 => zBXV (f_Loo_checkYear q m1) fun m2 => zBV (f_Loo_reckonBothTables q m2) fun m3 => zBP (f_Boo_isNextTo 152 158 p m3) fun v4 => if zBo v4 then some (.inl v4, m3) else none := by
  funext m
  unfold f_Loo_isMidnight
  simp only [zBV_both]
section RGS
variable {m : Mm} {N t nb nR y : Nat} {T : List Int} {F Y E : Nat → Int} {Kc Ac : Nat → Nat → Int} {Lc rk o : Nat → Nat} {R : Nat → Int} {mv : Nat → Bool} {Tx : Nat → List Int} {PR RE BE : Nat → Int}
theorem c_both (hT : iT m t) (hW : iW N Kc Ac Lc rk o R F Y E nb Tx) (hC : iC m N Kc Ac Lc o R mv F Y E nb Tx) (hy : y < 400) :
    ∃ m1, f_Loo_reckonBothTables (i3 y) m = some m1 ∧ SF m m1 ∧ zI m1 152 7 = i3 (sLen y) ∧ ∀ f, f < N → zI m1 154 f = i3 (sB y t F Y E nb Kc Ac Lc f) ∧ zI m1 160 f = i3 (sB y (1 - t) F Y E nb Kc Ac Lc f) := by
  obtain ⟨w1, w2, w3, w4, w5, w6, w7⟩ := hW
  obtain ⟨m1, e1, hF1, -, k7, -, hv1⟩ := boo_reckon (m := m) (a := 152) (by decide) hy hT.1 w1 w2 w5 w6 hC.1 hC.2.2.2.1 hC.2.1 w3
  have hS1 := hF1.sf (Or.inl rfl)
  have hC1 := hC.fx w1.1 hS1
  have hT1 := hT.fx hS1
  have ht2 := hT.1
  obtain ⟨m2, e2, hF2, -, -, -, hv2⟩ := boo_reckon (m := m1) (a := 158) (t := 1 - t) (by decide) hy (by omega) w1 w2 w5 w6 hC1.1 hC1.2.2.2.1 hC1.2.1 w3
  refine ⟨m2, ?_, hS1.trans (hF2.sf (Or.inr rfl)), ?_, fun f hf => ⟨?_, (hv2 f hf).1⟩⟩
  · unfold f_Loo_reckonBothTables
    rw [hT.2.1, e1, zBV_some]
    unfold f_Loo_otherTable
    rw [hT1.2.1, show (0 : Int32) = i3 0 from rfl, it_eq ⟨by omega, by omega⟩ ⟨by decide, by decide⟩]
    by_cases c : (t : Int) = 0
    · have e2' : f_Boo_reckon 158 (i3 y) 1 m1 = some m2 := by rw [← e2, show 1 - t = 1 by omega]; rfl
      rw [if_pos c, zBP_some, e2', zBV_some]
    · have e2' : f_Boo_reckon 158 (i3 y) (i3 0) m1 = some m2 := by rw [← e2, show 1 - t = 0 by omega]; rfl
      rw [if_neg c, zBP_some, e2', zBV_some]
  · rw [hF2.2.1 _ _ (by decide), k7]
  · rw [hF2.2.1 _ _ (by decide)]
    exact (hv1 f hf).1
/-- who rings in a year -/
def sRing (y N : Nat) (F Y E : Nat → Int) (nb t : Nat) (Kc Ac : Nat → Nat → Int) (Lc : Nat → Nat) (R : Nat → Int) (mv : Nat → Bool) (PR RE BE : Nat → Int) (nR : Nat) : RS := rYr PR RE nR BE (fun f => midn (sB y 0 F Y E nb Kc Ac Lc f) (sB y 1 F Y E nb Kc Ac Lc f)) (sAll N (sLen y) (sB y t F Y E nb Kc Ac Lc) R mv 10) R N (sLen y)
theorem c_ring (hT : iT m t) (hW : iW N Kc Ac Lc rk o R F Y E nb Tx) (hC : iC m N Kc Ac Lc o R mv F Y E nb Tx) (hv : vRg nR PR RE) (hbv : vBE BE) (hg : Crg m nR PR RE) (hbe : Cbe m BE) (hy : y < 400) :
    ∃ m1, f_Loo_ringYear (i3 y) m = some m1 ∧ SF m m1 ∧ CS m1 (sRing y N F Y E nb t Kc Ac Lc R mv PR RE BE nR) := by
  have hL := sLen_bd y
  have ht2 := hT.1
  obtain ⟨m1, e1, hS1, k7, hv1⟩ := c_both hT hW hC hy
  obtain ⟨w1, w2, w3, w4, w5, w6, w7⟩ := hW
  have h20 := w1.1
  have hC1 := hC.fx h20 hS1
  obtain ⟨m2, e2, hF2, hv2, hd2⟩ := boo_placeAll (m := m1) (a := 152) (R := R) (mv := mv) (by decide) h20 (by omega) hC1.2.2.1 w4 hC1.1.1 k7 (fun f hf => ⟨(hv1 f hf).1, sB_bd w1 hf⟩)
  have hS2 := hS1.trans (hF2.sf (Or.inl rfl))
  have hC2 := hC.fx h20 hS2
  have hb1 : ∀ t' f, f < N → -1 ≤ sB y t' F Y E nb Kc Ac Lc f ∧ sB y t' F Y E nb Kc Ac Lc f < 400 := fun t' f hf => by have := sB_bd (y := y) (t := t') (F := F) (Y := Y) (E := E) (nb := nb) w1 hf; omega
  have hpb : ∀ f, f < N → -1 ≤ sAll N (sLen y) (sB y t F Y E nb Kc Ac Lc) R mv 10 f ∧ sAll N (sLen y) (sB y t F Y E nb Kc Ac Lc) R mv 10 f < sLen y := fun f _ => sAll_bd (by omega) (fun f hf => (sB_bd w1 hf).1) 10 f
  obtain ⟨m3, e3, c3, hF3⟩ := bel_year (m := m2) (PR := PR) (RE := RE) (BE := BE) (nR := nR) (R := R) (mv := mv) (N := N) (b1 := sB y t F Y E nb Kc Ac Lc) (b2 := sB y (1 - t) F Y E nb Kc Ac Lc) hv
    ⟨by rw [hS2.1 _ _ (by first | exact rfl | exact Sc.m (by omega))]; exact hg.1, fun k hk => ⟨by rw [hS2.1 _ _ (by first | exact rfl | exact Sc.m (by omega))]; exact (hg.2 k hk).1, by rw [hS2.1 _ _ (by first | exact rfl | exact Sc.m (by omega))]; exact (hg.2 k hk).2⟩⟩ hbv (fun p hp => by rw [hS2.1 _ _ (by first | exact rfl | exact Sc.m (by omega))]; exact hbe p hp) h20 hC2.2.2.1 w4 hd2 (fun g hg => by have := hpb g hg; omega) (sAll_inj (fun f hf => (sB_bd w1 hf).1) 10) (fun f hf => ⟨by rw [hF2.2 _ _ (by decide) (by decide)]; exact (hv1 f hf).1, hb1 t f hf⟩) (fun f hf => ⟨by rw [hF2.2 _ _ (by decide) (by decide)]; exact (hv1 f hf).2, hb1 (1 - t) f hf⟩)
  refine ⟨m3, ?_, hS2.trans hF3.sf, ?_⟩
  · unfold f_Loo_ringYear
    rw [zBV_both, e1, zBV_some, e2, zBV_some, e3, zBV_some]
  · rw [rYr_late (L := sLen y) (fun g hg => (hpb g hg).2) 366 (by omega)] at c3
    have en : (fun f => midn (sB y t F Y E nb Kc Ac Lc f) (sB y (1 - t) F Y E nb Kc Ac Lc f)) = fun f => midn (sB y 0 F Y E nb Kc Ac Lc f) (sB y 1 F Y E nb Kc Ac Lc f) := by
      funext f
      rcases (show t = 0 ∨ t = 1 by omega) with rfl | rfl
      · rfl
      · exact midn_symm _ _
    rw [en] at c3
    exact c3
theorem r_ring (hT : iT m t) (hW : iW N Kc Ac Lc rk o R F Y E nb Tx) (hR : iR m N Kc Ac Lc R mv F Y E nb) (hv : vRg nR PR RE) (hbv : vBE BE) (hg : Rrg m nR PR RE) (hbe : Rbe m BE) (hy : y < 400) :
    ∃ m2, f_Mod_ringsAll (i3 y) m = some m2 ∧ SF m m2 ∧ m2.2 = m.2 ∧ (∀ j, zI m2 201 j = zI m 201 j) ∧ RrS m2 nR (sRing y N F Y E nb t Kc Ac Lc R mv PR RE BE nR) := by
  have hL := sLen_bd y
  have ht2 := hT.1
  obtain ⟨w1, w2, w3, w4, w5, w6, w7⟩ := hW
  have h20 := w1.1
  obtain ⟨m1, e1, hF1, hv1⟩ := mod_finds (m := m) (t := 1 - t) hy (by omega) w1 w2 w5 hR.1 hR.2.2
  have hS1 := hF1.sf
  have hT1 := hT.fx hS1
  have hR1 := hR.fx hS1
  obtain ⟨m2, e2, hF2, hv2, hp⟩ := mod_places (m := m1) hy hT.1 w1 w2 w5 hR1.1 hR1.2.2 hT1.2.2 hR1.2.1 w4
  have hS2 := hS1.trans hF2.sf
  have hR2 := hR.fx hS2
  have hb1 : ∀ t' f, f < N → -1 ≤ sB y t' F Y E nb Kc Ac Lc f ∧ sB y t' F Y E nb Kc Ac Lc f < 400 := fun t' f hf => by have := sB_bd (y := y) (t := t') (F := F) (Y := Y) (E := E) (nb := nb) w1 hf; omega
  have hpb : ∀ f, f < N → -1 ≤ sAll N (sLen y) (sB y t F Y E nb Kc Ac Lc) R mv 10 f ∧ sAll N (sLen y) (sB y t F Y E nb Kc Ac Lc) R mv 10 f < sLen y := fun f _ => sAll_bd (by omega) (fun f hf => (sB_bd w1 hf).1) 10 f
  have hother : ∀ f, f < N → zI m2 216 (20 * (1 - t) + f) = i3 (sB y (1 - t) F Y E nb Kc Ac Lc f) := fun f hf => by rw [hF2.2.2 _ (by omega)]; exact (hv1 f hf).1
  have hnt : Rnt m2 N (sB y 0 F Y E nb Kc Ac Lc) (sB y 1 F Y E nb Kc Ac Lc) := by
    intro f hf
    have q1 := (hv2 f hf).1
    have q2 := hother f hf
    refine ⟨⟨?_, hb1 0 f hf⟩, ?_, hb1 1 f hf⟩
    · rcases (show t = 0 ∨ t = 1 by omega) with rfl | rfl
      · rw [show 20 * 0 + f = f by omega] at q1; exact q1
      · rw [show 20 * (1 - 1) + f = f by omega] at q2; exact q2
    · rcases (show t = 0 ∨ t = 1 by omega) with rfl | rfl
      · exact q2
      · exact q1
  obtain ⟨m3, e3, c3, hF3⟩ := mod_rings0 (m := m2) (PR := PR) (RE := RE) (BE := BE) (nR := nR) (R := R) (mv := mv) (N := N) (pl := sAll N (sLen y) (sB y t F Y E nb Kc Ac Lc) R mv 10) hy hv ⟨by rw [hS2.1 _ _ (by first | exact rfl | exact Sc.m (by omega))]; exact hg.1, fun k hk => ⟨by rw [hS2.1 _ _ (by first | exact rfl | exact Sc.m (by omega))]; exact (hg.2 k hk).1, by rw [hS2.1 _ _ (by first | exact rfl | exact Sc.m (by omega))]; exact (hg.2 k hk).2⟩⟩ hbv (fun p hp => by rw [hS2.1 _ _ (by first | exact rfl | exact Sc.m (by omega))]; exact hbe p hp) h20 hR2.1.1 hnt hR2.2.1 w4 hp (fun g hg => by have := hpb g hg; omega)
  refine ⟨m3, ?_, hS2.trans hF3.sf, hF3.1.trans (hF2.1.trans hF1.1), fun j => ?_, c3⟩
  · have ex : (1 : Int32) - i3 (t : Int) = i3 ((1 - t : Nat) : Int) := by
      rw [show (1 : Int32) = i3 1 from rfl, i3_sub]
      exact congrArg i3 (by omega)
    rw [e_Mod_ringsAll, hT.2.2, ex, e1, zBV_some, e2, zBV_some, e3]
  · rw [hF3.2 _ _ (by decide) (by decide) (by decide), hF2.2.1 _ _ (by decide) (by decide) (by decide) (by decide), hF1.2.1 _ _ (by decide) (by decide) (by decide)]
theorem sRing_b (hW : iW N Kc Ac Lc rk o R F Y E nb Tx) (hv : vRg nR PR RE) (hbv : vBE BE) : RSb 300000 (sRing y N F Y E nb t Kc Ac Lc R mv PR RE BE nR) ∧ (sRing y N F Y E nb t Kc Ac Lc R mv PR RE BE nR).2.2.2 = cS (sRing y N F Y E nb t Kc Ac Lc R mv PR RE BE nR).2.2.1 (36 * N) := by
  have hL := sLen_bd y
  exact ⟨(rYr_b hv.1 hW.1.1 hbv hW.2.2.2.1 (sLen y) (by omega)).mono (by omega), yr_sil hW.1.1 hbv hW.2.2.2.1 (fun g hg => (sAll_bd (by omega) (fun f hf => (sB_bd hW.1 hf).1) 10 g).1) _⟩
end RGS
section RGC
variable {m : Mm}
theorem b_isMidnight (hI : Inv m) (p q : Int32) : Bo cIA (f_Loo_isMidnight p q m) (f_Mod_isMidnight p q) := by
  obtain ⟨t, T, N, hT, hX, hA, hB, hS⟩ := id hI
  obtain ⟨h19, h25, h20⟩ := hA.n19
  obtain ⟨Kc, Ac, Lc, rk, o, R, mv, F, Y, E, nb, Tx, hW, hC, hR⟩ := hA
  rw [e_Loo_isMidnight]
  refine Bo.fy (B := fun m2 => zBV (f_Loo_reckonBothTables q m2) fun m3 => zBP (f_Boo_isNextTo 152 158 p m3) fun v4 => if zBo v4 then some (.inl v4, m3) else none) (G := fun m1 => zBV (f_Mod_finds q 0 m1) fun m4 => zBV (f_Mod_finds q 1 m4) fun m5 => zBP (f_Mod_isNight p m5) fun v6 => if zBo v6 then some (v6, m5) else none) hI h20 h19 h25 ?_
  rintro f y rfl rfl hf hy
  have hL := sLen_bd y
  obtain ⟨m1, e1, hS1, k7, hv1⟩ := c_both hT hW hC hy
  obtain ⟨w1, w2, w3, w4, w5, w6, w7⟩ := hW
  have ht2 := hT.1
  have hb1 : ∀ t' f, f < N → -1 ≤ sB y t' F Y E nb Kc Ac Lc f ∧ sB y t' F Y E nb Kc Ac Lc f < 400 := fun t' f hf => by have := sB_bd (y := y) (t := t') (F := F) (Y := Y) (E := E) (nb := nb) w1 hf; omega
  refine ⟨b3 (midn (sB y 0 F Y E nb Kc Ac Lc f) (sB y 1 F Y E nb Kc Ac Lc f)), m1, ?_, hS1, fun m' hF => ?_⟩
  · show (zBV (f_Loo_reckonBothTables (i3 y) m) fun m3 => zBP (f_Boo_isNextTo 152 158 (i3 f) m3) fun v4 => if zBo v4 then some ((.inl v4 : Int32 ⊕ Nat), m3) else none) = _
    have hn := boo_night (m := m1) (a := 152) (o := 158) (f := f) (by omega) (hv1 f hf).1 (hv1 f hf).2 (hb1 t f hf) (hb1 (1 - t) f hf)
    have en : midn (sB y t F Y E nb Kc Ac Lc f) (sB y (1 - t) F Y E nb Kc Ac Lc f) = midn (sB y 0 F Y E nb Kc Ac Lc f) (sB y 1 F Y E nb Kc Ac Lc f) := by
      rcases (show t = 0 ∨ t = 1 by omega) with rfl | rfl
      · rfl
      · exact midn_symm _ _
    rw [e1, zBV_some, hn, zBP_some, en, if_pos (b3_bo _)]
  · have hR' := hR.fx hF
    obtain ⟨m2, e2, hF2, hv2⟩ := mod_finds (m := m') (t := 0) hy (by decide) w1 w2 w5 hR'.1 hR'.2.2
    have hR2 := hR'.fx hF2.sf
    obtain ⟨m3, e3, hF3, hv3⟩ := mod_finds (m := m2) (t := 1) hy (by decide) w1 w2 w5 hR2.1 hR2.2.2
    have e2' : f_Mod_finds (i3 y) 0 m' = some m2 := e2
    have e3' : f_Mod_finds (i3 y) 1 m2 = some m3 := e3
    refine ⟨m3, ?_, hF2.sf.trans hF3.sf, hF3.1.trans hF2.1, ?_⟩
    · show (zBV (f_Mod_finds (i3 y) 0 m') fun m4 => zBV (f_Mod_finds (i3 y) 1 m4) fun m5 => zBP (f_Mod_isNight (i3 f) m5) fun v6 => if zBo v6 then some (v6, m5) else none) = _
      have q1 := (hv2 f hf).1
      rw [show 20 * 0 + f = f by omega] at q1
      rw [e2', zBV_some, e3', zBV_some, mod_night (m := m3) (b1 := sB y 0 F Y E nb Kc Ac Lc) (b2 := sB y 1 F Y E nb Kc Ac Lc) (by omega) (by rw [hF3.2.2 _ (by omega)]; exact q1) (hv3 f hf).1 (hb1 0 f hf) (hb1 1 f hf), zBP_some, if_pos (b3_bo _)]
    · rw [hF3.2.1 _ _ (by decide) (by decide) (by decide), hF2.2.1 _ _ (by decide) (by decide) (by decide)]
theorem b_silent (hI : Inv m) (p : Int32) : Bo cA (f_Loo_silent p m) (f_Mod_silent p) := by
  obtain ⟨t, T, N, hT, hX, hA, hB, hS⟩ := id hI
  obtain ⟨h19, h25, h20⟩ := hA.n19
  obtain ⟨Kc, Ac, Lc, rk, o, R, mv, F, Y, E, nb, Tx, hW, hC, hR⟩ := hA
  obtain ⟨nR, PR, RE, BE, hv, hbv, hg, hg', hbe, hbe'⟩ := hB

  have eG : f_Mod_silent p = fun m => zBP (f_Mod_isYear p m) fun v1 => zLet (fun (x3 : Int32) => zLet (wI m 201 0 x3) fun m5 => if (zI m5 201 0) ≤ 0 then (fun m5 => zBV (f_Mod_ringsAll p m5) fun m7 => zLq2 (l_Mod_silent_0 m7) zFu 0 0) m5 else some (0, m5)) fun j4 => if v1 = 0 then j4 1 else j4 0 := by
    funext m
    rw [e_Mod_silent]
  rw [eG]
  refine Bo.yr (B := fun m1 => zBV (f_Loo_ringYear p m1) fun m2 => zBP (f_Bel_silences m2) fun v3 => some (.inl v3, m2)) (G := fun m5 => zBV (f_Mod_ringsAll p m5) fun m7 => zLq2 (l_Mod_silent_0 m7) zFu 0 0) hI ?_
  rintro y rfl hy
  obtain ⟨m1, e1, hS1, hc1⟩ := c_ring hT hW hC hv hbv hg hbe hy
  obtain ⟨hb, hs⟩ := sRing_b (y := y) (t := t) (mv := mv) hW hv hbv
  refine ⟨i3 (cS (sRing y N F Y E nb t Kc Ac Lc R mv PR RE BE nR).2.2.1 (36 * N)), m1, ?_, hS1, fun m' hF => ?_⟩
  · show (zBV (f_Loo_ringYear (i3 y) m) fun m2 => zBP (f_Bel_silences m2) fun v3 => some ((.inl v3 : Int32 ⊕ Nat), m2)) = _
    rw [e1, zBV_some]
    unfold f_Bel_silences
    rw [zBP_some, hc1.2.2, hs]
  · obtain ⟨m2, e2, hS2, h2, h201, hr2⟩ := r_ring (hT.fx hF) hW (hR.fx hF) hv hbv ⟨by rw [hF.1 _ _ (by first | exact rfl | exact Sc.m (by omega))]; exact hg'.1, fun k hk => ⟨by rw [hF.1 _ _ (by first | exact rfl | exact Sc.m (by omega))]; exact (hg'.2 k hk).1, by rw [hF.1 _ _ (by first | exact rfl | exact Sc.m (by omega))]; exact (hg'.2 k hk).2⟩⟩ (fun p hp => by rw [hF.1 _ _ (by first | exact rfl | exact Sc.m (by omega))]; exact hbe' p hp) hy
    refine ⟨m2, ?_, hS2, h2, h201 0⟩
    show (zBV (f_Mod_ringsAll (i3 y) m') fun m7 => zLq2 (l_Mod_silent_0 m7) zFu 0 0) = _
    rw [e2, zBV_some]
    generalize sRing y N F Y E nb t Kc Ac Lc R mv PR RE BE nR = s at hr2 hb hs
    refine run_zLq2 (fun j x8 x9 => ∃ i : Nat, x8 = i3 (cS s.2.2.1 i) ∧ x9 = i3 i ∧ i ≤ 36 * N ∧ j = 36 * N - i) ?_ zFu (36 * N) _ _ ⟨0, rfl, rfl, Nat.zero_le _, rfl⟩ (by unfold zFu; omega)
    rintro r j x8 x9 ⟨i, rfl, rfl, hi, rfl⟩
    unfold l_Mod_silent_0
    have e36 : (36 : Int32) * zI m2 201 19 = i3 ((36 * N : Nat) : Int) := by rw [h201, hF.1 _ _ (by first | exact rfl | exact Sc.m (by omega)), h19, show (36 : Int32) = i3 36 from rfl, i3_mul]; rfl
    rw [e36, it_le ⟨by omega, by omega⟩ ⟨by omega, by omega⟩]
    by_cases e : ((36 * N : Nat) : Int) ≤ i
    · left
      rw [if_pos e, show i = 36 * N by omega]
    · right
      have hin : zIn (i3 (i : Int)) 720 := (i3_in ⟨by omega, by omega⟩).mpr ⟨by omega, by omega⟩
      have hix : zIx (i3 (i : Int)) = i := by rw [i3_ix ⟨by omega, by omega⟩, Int.toNat_natCast]
      have hbi := hb.2.2.2 i
      refine ⟨_, _, 36 * N - (i + 1), by omega, ⟨i + 1, rfl, rfl, by omega, rfl⟩, ?_⟩
      rw [if_neg e, if_pos hin, hix, hr2.2 i (by omega)]
      simp only [zLet, i3_add1]
      rw [it_n1 ⟨by omega, by omega⟩]
      show _ = r (i3 (cS s.2.2.1 i + if s.2.2.1 i = -1 then 1 else 0)) _
      by_cases c : s.2.2.1 i = -1
      · rw [if_pos c, if_pos c]
        rfl
      · rw [if_neg c, if_neg c, show (0 : Int32) = i3 0 from rfl, i3_add]
        rfl
theorem b_rings (hI : Inv m) (p q p3 p4 : Int32) : Bo cIA (f_Loo_rings p q p3 p4 m) (f_Mod_rings p q p3 p4) := by
  obtain ⟨t, T, N, hT, hX, hA, hB, hS⟩ := id hI
  obtain ⟨h19, h25, h20⟩ := hA.n19
  obtain ⟨Kc, Ac, Lc, rk, o, R, mv, F, Y, E, nb, Tx, hW, hC, hR⟩ := hA
  obtain ⟨nR, PR, RE, BE, hv, hbv, hg, hg', hbe, hbe'⟩ := hB
  obtain ⟨f, rfl, hf⟩ := i3_abs (a := p)
  obtain ⟨y, rfl, hy⟩ := i3_abs (a := q)
  obtain ⟨pa, rfl, hpa⟩ := i3_abs (a := p3)
  obtain ⟨be, rfl, hbl⟩ := i3_abs (a := p4)
  have k19 : ∀ m', SF m m' → zI m' 201 19 = i3 N := fun m' hF => by rw [hF.1 _ _ (by first | exact rfl | exact Sc.m (by omega)), h19]
  have hm6 : ∀ v : Int, (-2147483648 ≤ v ∧ v < 2147483648) → ∀ m', f_Mod_isIn (i3 v) 0 5 m' = some (b3 (decide (0 ≤ v ∧ v ≤ 5))) := fun v hv m' => mod_in (b := 0) (c := 5) hv ⟨by decide, by decide⟩ ⟨by decide, by decide⟩
  have thr : ∀ (k : Int) (m' : Mm), (k = 1 ∨ k = 2) → (if zI (wI m' 201 0 (i3 k)) 201 0 ≤ 0 then (zBV (f_Mod_ringsAll (i3 y) (wI m' 201 0 (i3 k))) fun m10 => if zIn (((36 * i3 f) + (6 * i3 pa)) + i3 be) 720 then (if 0 ≤ zI m10 228 (zIx (((36 * i3 f) + (6 * i3 pa)) + i3 be)) then some (zI m10 228 (zIx (((36 * i3 f) + (6 * i3 pa)) + i3 be)), m10) else some (-1, m10)) else none) else some ((0 : Int32), wI m' 201 0 (i3 k))) = some (0, wI m' 201 0 (i3 k)) := fun k m' hk => by
    rw [w0_le ⟨by omega, by omega⟩, if_neg (by omega)]
  by_cases c1 : 0 ≤ f ∧ f < N
  rotate_left
  · refine Bo.of hI (r := .inr 2) (m1 := m) ?_ SF.refl (fun m' hF => ⟨0, wI m' 201 0 (i3 1), ?_, SF.w0, rfl, zI_eq, by decide, by decide⟩)
    · unfold f_Loo_rings
      rw [loo_feast h20 h25 hf, if_neg c1, zBXV_r]
    · unfold f_Mod_rings
      simp only [zLet]
      rw [mod_isFeast h20 (k19 m' hF) hf, zBP_some, decide_eq_false c1, if_pos (show b3 false = 0 by decide)]
      rw [if_pos trivial]
      exact thr 1 m' (Or.inl rfl)
  by_cases c2 : 0 ≤ pa ∧ pa < 6
  rotate_left
  · refine Bo.of hI (r := .inr 2) (m1 := m) ?_ SF.refl (fun m' hF => ⟨0, wI m' 201 0 (i3 1), ?_, SF.w0, rfl, zI_eq, by decide, by decide⟩)
    · unfold f_Loo_rings
      rw [loo_feast h20 h25 hf, if_pos c1, zBXV_l, loo_parish hpa, if_neg c2, zBXV_r]
    · unfold f_Mod_rings
      simp only [zLet]
      rw [mod_isFeast h20 (k19 m' hF) hf, zBP_some, decide_eq_true c1, if_neg (show ¬ b3 true = 0 by decide), hm6 _ hpa, zBP_some, decide_eq_false (by omega : ¬ (0 ≤ pa ∧ pa ≤ 5)), if_pos (show b3 false = 0 by decide)]
      rw [if_pos trivial]
      exact thr 1 m' (Or.inl rfl)
  by_cases c3 : 0 ≤ y ∧ y < 400
  rotate_left
  · refine Bo.of hI (r := .inr 0) (m1 := m) ?_ SF.refl (fun m' hF => ⟨0, wI m' 201 0 (i3 2), ?_, SF.w0, rfl, zI_eq, by decide, by decide⟩)
    · unfold f_Loo_rings
      rw [loo_feast h20 h25 hf, if_pos c1, zBXV_l, loo_parish hpa, if_pos c2, zBXV_l, loo_year hy, if_neg c3, zBXV_r]
    · unfold f_Mod_rings
      simp only [zLet]
      rw [mod_isFeast h20 (k19 m' hF) hf, zBP_some, decide_eq_true c1, if_neg (show ¬ b3 true = 0 by decide), hm6 _ hpa, zBP_some, decide_eq_true (by omega : 0 ≤ pa ∧ pa ≤ 5), if_neg (show ¬ b3 true = 0 by decide)]
      rw [if_neg (by decide), mod_isYear hy, zBP_some, decide_eq_false c3, if_pos (show b3 false = 0 by decide)]
      exact thr 2 m' (Or.inr rfl)
  by_cases c4 : 0 ≤ be ∧ be < 6
  rotate_left
  · refine Bo.of hI (r := .inr 0) (m1 := m) ?_ SF.refl (fun m' hF => ⟨0, wI m' 201 0 (i3 2), ?_, SF.w0, rfl, zI_eq, by decide, by decide⟩)
    · unfold f_Loo_rings
      rw [loo_feast h20 h25 hf, if_pos c1, zBXV_l, loo_parish hpa, if_pos c2, zBXV_l, loo_year hy, if_pos c3, zBXV_l]
      simp only [zLet]
      rw [show (0 : Int32) = i3 0 from rfl, show (6 : Int32) = i3 6 from rfl, it_lt hbl ⟨by decide, by decide⟩, it_lt hbl ⟨by decide, by decide⟩]
      by_cases c5 : be < 0
      · rw [if_pos c5]
      · rw [if_neg c5, if_neg (by omega)]
    · unfold f_Mod_rings
      simp only [zLet]
      rw [mod_isFeast h20 (k19 m' hF) hf, zBP_some, decide_eq_true c1, if_neg (show ¬ b3 true = 0 by decide), hm6 _ hpa, zBP_some, decide_eq_true (by omega : 0 ≤ pa ∧ pa ≤ 5), if_neg (show ¬ b3 true = 0 by decide)]
      rw [if_neg (by decide), mod_isYear hy, zBP_some, decide_eq_true c3, if_neg (show ¬ b3 true = 0 by decide), hm6 _ hbl, zBP_some, decide_eq_false (by omega : ¬ (0 ≤ be ∧ be ≤ 5)), if_pos (show b3 false = 0 by decide)]
      exact thr 2 m' (Or.inr rfl)
  obtain ⟨n, rfl, hn⟩ := y_nat c3
  obtain ⟨g, rfl⟩ : ∃ g : Nat, f = g := ⟨f.toNat, by omega⟩
  obtain ⟨pn, rfl⟩ : ∃ g : Nat, pa = g := ⟨pa.toNat, by omega⟩
  obtain ⟨bn, rfl⟩ : ∃ g : Nat, be = g := ⟨be.toNat, by omega⟩
  obtain ⟨m1, e1, hS1, hc1⟩ := c_ring hT hW hC hv hbv hg hbe hn
  obtain ⟨hb, -⟩ := sRing_b (y := n) (t := t) (mv := mv) hW hv hbv
  have hbi := hb.2.2.2 (36 * g + (6 * pn + bn))
  obtain ⟨hin, hix⟩ := fi20 (show g < 20 by omega)
  have e6 : 6 * i3 (pn : Int) + i3 (bn : Int) = i3 ((6 * pn + bn : Nat) : Int) := by rw [show (6 : Int32) = i3 6 from rfl, i3_mul, i3_add]; rfl
  have e36 : 36 * i3 (g : Int) + 6 * i3 (pn : Int) + i3 (bn : Int) = i3 ((36 * g + (6 * pn + bn) : Nat) : Int) := by
    rw [show (6 : Int32) = i3 6 from rfl, show (36 : Int32) = i3 36 from rfl, i3_mul, i3_mul, i3_add, i3_add]
    exact congrArg i3 (by omega)
  refine Bo.of hI (r := .inl (i3 (if (sRing n N F Y E nb t Kc Ac Lc R mv PR RE BE nR).2.2.1 (36 * g + (6 * pn + bn)) = -2 then -1 else (sRing n N F Y E nb t Kc Ac Lc R mv PR RE BE nR).2.2.1 (36 * g + (6 * pn + bn))))) (m1 := m1) ?_ hS1 (fun m' hF => ?_)
  · unfold f_Loo_rings
    rw [loo_feast h20 h25 hf, if_pos c1, zBXV_l, loo_parish hpa, if_pos c2, zBXV_l, loo_year hy, if_pos c3, zBXV_l]
    simp only [zLet]
    rw [show (0 : Int32) = i3 0 from rfl, it_lt hbl ⟨by decide, by decide⟩, if_neg (by omega), show (6 : Int32) = i3 6 from rfl, it_lt hbl ⟨by decide, by decide⟩, if_pos c4.2, e1, zBV_some]
    unfold f_Bel_ringerAt
    rw [e6, if_pos hin, if_pos ((i3_in ⟨by omega, by omega⟩).mpr ⟨by omega, by omega⟩), hix, i3_ix ⟨by omega, by omega⟩, Int.toNat_natCast, zBP_some, hc1.2.1 g (6 * pn + bn) (by omega) (by omega)]
  · obtain ⟨m2, e2, hS2, h2, h201, hr2⟩ := r_ring (m := wI m' 201 0 (i3 0)) ((hT.fx hF).fx SF.w0) hW ((hR.fx hF).fx SF.w0) hv hbv ⟨by rw [SF.w0.1 _ _ (by first | exact rfl | exact Sc.m (by omega)), hF.1 _ _ (by first | exact rfl | exact Sc.m (by omega))]; exact hg'.1, fun k hk => ⟨by rw [zI_ne (by decide), hF.1 _ _ (by first | exact rfl | exact Sc.m (by omega))]; exact (hg'.2 k hk).1, by rw [zI_ne (by decide), hF.1 _ _ (by first | exact rfl | exact Sc.m (by omega))]; exact (hg'.2 k hk).2⟩⟩ (fun p hp => by rw [zI_ne (by decide), hF.1 _ _ (by first | exact rfl | exact Sc.m (by omega))]; exact hbe' p hp) hn
    have e2' : f_Mod_ringsAll (i3 (n : Int)) (wI m' 201 0 0) = some m2 := e2
    refine ⟨_, m2, ?_, SF.w0.trans hS2, h2, ?_, rfl⟩
    · unfold f_Mod_rings
      simp only [zLet]
      rw [mod_isFeast h20 (k19 m' hF) hf, zBP_some, decide_eq_true c1, if_neg (show ¬ b3 true = 0 by decide), hm6 _ hpa, zBP_some, decide_eq_true (by omega : 0 ≤ (pn : Int) ∧ (pn : Int) ≤ 5), if_neg (show ¬ b3 true = 0 by decide)]
      rw [if_neg (by decide), mod_isYear hy, zBP_some, decide_eq_true c3, if_neg (show ¬ b3 true = 0 by decide), hm6 _ hbl, zBP_some, decide_eq_true (by omega : 0 ≤ (bn : Int) ∧ (bn : Int) ≤ 5), if_neg (show ¬ b3 true = 0 by decide), w00, e2', zBV_some, e36, if_pos ((i3_in ⟨by omega, by omega⟩).mpr ⟨by omega, by omega⟩), i3_ix ⟨by omega, by omega⟩, Int.toNat_natCast, hr2.2 _ (by omega), it_0le ⟨by omega, by omega⟩]
      generalize (sRing n N F Y E nb t Kc Ac Lc R mv PR RE BE nR).2.2.1 (36 * g + (6 * pn + bn)) = v at hbi
      by_cases cv : v = -2
      · rw [if_neg (by omega), if_pos cv]
        rfl
      · rw [if_neg cv]
        by_cases cw : 0 ≤ v
        · rw [if_pos cw]
        · rw [if_neg cw, show v = -1 by omega]
          rfl
    · rw [h201, zI_eq]
      rfl
theorem b_peals (hI : Inv m) (p q : Int32) : Bo cIA (f_Loo_peals p q m) (f_Mod_peals p q) := by
  obtain ⟨t, T, N, hT, hX, hA, hB, hS⟩ := id hI
  obtain ⟨Kc, Ac, Lc, rk, o, R, mv, F, Y, E, nb, Tx, hW, hC, hR⟩ := hA
  obtain ⟨nR, PR, RE, BE, hv, hbv, hg, hg', hbe, hbe'⟩ := hB
  obtain ⟨k, rfl, hk⟩ := i3_abs (a := p)
  obtain ⟨y, rfl, hy⟩ := i3_abs (a := q)
  have h24 := hv.1
  have thr : ∀ (j : Int) (m' : Mm), (j = 1 ∨ j = 2) → (if zI (wI m' 201 0 (i3 j)) 201 0 ≤ 0 then (zBV (f_Mod_ringsAll (i3 y) (wI m' 201 0 (i3 j))) fun m7 => if zIn (i3 k) 24 then some ((zI m7 226 (zIx (i3 k))), m7) else none) else some ((0 : Int32), wI m' 201 0 (i3 j))) = some (0, wI m' 201 0 (i3 j)) := fun j m' hj => by
    rw [w0_le ⟨by omega, by omega⟩, if_neg (by omega)]
  have hm : ∀ m', SF m m' → f_Mod_isIn (i3 k) 0 (zI m' 201 41 - 1) m' = some (b3 (decide (0 ≤ k ∧ k ≤ (nR : Int) - 1))) := fun m' hF => by
    have e : zI m' 201 41 - 1 = i3 ((nR : Int) - 1) := by rw [hF.1 _ _ (by first | exact rfl | exact Sc.m (by omega)), hg'.1, show (1 : Int32) = i3 1 from rfl, i3_sub]
    rw [e]
    exact mod_in (b := 0) hk ⟨by decide, by decide⟩ ⟨by omega, by omega⟩
  have hsz : f_Bel_size m = some (i3 nR) := by
    unfold f_Bel_size
    rw [hg.1]
  by_cases c1 : 0 ≤ k ∧ k < nR
  rotate_left
  · refine Bo.of hI (r := .inr 2) (m1 := m) ?_ SF.refl (fun m' hF => ⟨0, wI m' 201 0 (i3 1), ?_, SF.w0, rfl, zI_eq, by decide, by decide⟩)
    · unfold f_Loo_peals
      simp only [zLet]
      rw [hsz, zBP_some, show (0 : Int32) = i3 0 from rfl, it_lt hk ⟨by decide, by decide⟩, it_lt hk ⟨by omega, by omega⟩]
      by_cases c5 : k < 0
      · rw [if_pos c5]
      · rw [if_neg c5, if_neg (by omega)]
    · unfold f_Mod_peals
      simp only [zLet]
      rw [hm m' hF, zBP_some, decide_eq_false (by omega : ¬ (0 ≤ k ∧ k ≤ (nR : Int) - 1)), if_pos (show b3 false = 0 by decide)]
      exact thr 1 m' (Or.inl rfl)
  by_cases c3 : 0 ≤ y ∧ y < 400
  rotate_left
  · refine Bo.of hI (r := .inr 0) (m1 := m) ?_ SF.refl (fun m' hF => ⟨0, wI m' 201 0 (i3 2), ?_, SF.w0, rfl, zI_eq, by decide, by decide⟩)
    · unfold f_Loo_peals
      simp only [zLet]
      rw [hsz, zBP_some, show (0 : Int32) = i3 0 from rfl, it_lt hk ⟨by decide, by decide⟩, it_lt hk ⟨by omega, by omega⟩, if_neg (by omega), if_pos c1.2, loo_year hy, if_neg c3, zBXV_r]
    · unfold f_Mod_peals
      simp only [zLet]
      rw [hm m' hF, zBP_some, decide_eq_true (by omega : 0 ≤ k ∧ k ≤ (nR : Int) - 1), if_neg (show ¬ b3 true = 0 by decide), mod_isYear hy, zBP_some, decide_eq_false c3, if_pos (show b3 false = 0 by decide)]
      exact thr 2 m' (Or.inr rfl)
  obtain ⟨n, rfl, hn⟩ := y_nat c3
  obtain ⟨g, rfl⟩ : ∃ g : Nat, k = g := ⟨k.toNat, by omega⟩
  obtain ⟨m1, e1, hS1, hc1⟩ := c_ring hT hW hC hv hbv hg hbe hn
  have hin : zIn (i3 (g : Int)) 24 := (i3_in ⟨by omega, by omega⟩).mpr ⟨by omega, by omega⟩
  have hix : zIx (i3 (g : Int)) = g := by rw [i3_ix ⟨by omega, by omega⟩, Int.toNat_natCast]
  refine Bo.of hI (r := .inl (i3 ((sRing n N F Y E nb t Kc Ac Lc R mv PR RE BE nR).2.1 g))) (m1 := m1) ?_ hS1 (fun m' hF => ?_)
  · unfold f_Loo_peals
    simp only [zLet]
    rw [hsz, zBP_some, show (0 : Int32) = i3 0 from rfl, it_lt hk ⟨by decide, by decide⟩, it_lt hk ⟨by omega, by omega⟩, if_neg (by omega), if_pos c1.2, loo_year hy, if_pos c3, zBXV_l, e1, zBV_some]
    unfold f_Bel_countOf
    rw [if_pos hin, hix, zBP_some, (hc1.1 g (by omega)).2]
  · obtain ⟨m2, e2, hS2, h2, h201, hr2⟩ := r_ring (m := wI m' 201 0 (i3 0)) ((hT.fx hF).fx SF.w0) hW ((hR.fx hF).fx SF.w0) hv hbv ⟨by rw [SF.w0.1 _ _ (by first | exact rfl | exact Sc.m (by omega)), hF.1 _ _ (by first | exact rfl | exact Sc.m (by omega))]; exact hg'.1, fun k hk => ⟨by rw [zI_ne (by decide), hF.1 _ _ (by first | exact rfl | exact Sc.m (by omega))]; exact (hg'.2 k hk).1, by rw [zI_ne (by decide), hF.1 _ _ (by first | exact rfl | exact Sc.m (by omega))]; exact (hg'.2 k hk).2⟩⟩ (fun p hp => by rw [zI_ne (by decide), hF.1 _ _ (by first | exact rfl | exact Sc.m (by omega))]; exact hbe' p hp) hn
    have e2' : f_Mod_ringsAll (i3 (n : Int)) (wI m' 201 0 0) = some m2 := e2
    refine ⟨_, m2, ?_, SF.w0.trans hS2, h2, ?_, rfl⟩
    · unfold f_Mod_peals
      simp only [zLet]
      rw [hm m' hF, zBP_some, decide_eq_true (by omega : 0 ≤ (g : Int) ∧ (g : Int) ≤ (nR : Int) - 1), if_neg (show ¬ b3 true = 0 by decide), mod_isYear hy, zBP_some, decide_eq_true c3, if_neg (show ¬ b3 true = 0 by decide)]
      rw [w00, e2', zBV_some, if_pos hin, hix, (hr2.1 g (by omega)).1]
    · rw [h201, zI_eq]
      rfl
end RGC
