/-! THE LAW'S TURNS: dispensations -/
theorem hB_1 (m : Mm) : hB hR0 kRef (some ((.inr 1 : Int32 ⊕ Nat), m)) = some (3, m) := rfl
section TR2
variable {m : Mm} {N nb nR t y : Nat} {fr : Nat → Nat → Int} {Rv F Y E PR RE BE : Nat → Int} {sp b : Int}
theorem turn_8 (hI : TI m N b) (hN : 1 ≤ N) {f : Nat} (hf : f < N) (hy : y < 400) (v8 : Int32) (j19 : Mm → Option (Int32 × Mm)) (j23 : Int32 → Mm → Option (Int32 × Mm)) : TR (kc_8 v8 (i3 f) (i3 y) m j19 j23) j19 j23 N b := by
  have hI0 := hI
  obtain ⟨t, fr, Rv, nb, F, Y, E, nR, PR, RE, BE, sp, hT, hA, hB, hX, hQ, hb⟩ := hI
  obtain ⟨hL, ⟨hLF, ⟨hL1, hLD⟩, hLr⟩, hC⟩ := id hA
  have h10 := hL.1
  have hnb := hL.2.1
  by_cases c : nb = 0
  · subst c
    refine ⟨m, N, Nat.le_refl N, hN, hI0, Or.inl ?_⟩
    have e1 : f_Law_refused 1 (i3 f) (i3 y) 0 m = some (3, m) := by
      unfold f_Law_refused
      rw [if_neg (by decide), if_pos rfl, k_takeX hC hf hy, hB_1]
    unfold kc_8
    rw [if_pos z16.1, z16.2, hL1, if_pos (show i3 ((0 : Nat) : Int) = 0 from rfl), e1, zBI_some, if_pos rfl]
  · obtain ⟨k, hk, e1⟩ := law_low v8 (n := nb) ⟨by omega, by omega⟩ m
    obtain ⟨v1, v2, v3⟩ := hL.2.2.2.2.1.2 k hk
    obtain ⟨d1, d2, d3⟩ := hLD k hk
    obtain ⟨m1, e2, c2, f2, l2⟩ := k_take hC hL.2.2.2.2.2.2 hk
    obtain ⟨u1, u2⟩ := up_bn hk hL.2.2.2.2.1 hL.2.2.2.2.2.1
    obtain ⟨i0, x0⟩ := in_n (k := 3 * k) (n := 30) (by omega) (by decide)
    obtain ⟨i1, x1⟩ := in_n (k := 3 * k + 1) (n := 30) (by omega) (by decide)
    obtain ⟨i2, x2⟩ := in_n (k := 3 * k + 2) (n := 30) (by omega) (by decide)
    have hz : ¬ i3 (nb : Int) = 0 := by
      rw [show (0 : Int32) = i3 0 from rfl, i3_eq ⟨by omega, by omega⟩ ⟨by decide, by decide⟩]
      omega
    have e5 : i3 (nb : Int) - 1 = i3 ((nb - 1 : Nat) : Int) := by
      rw [i3_sub1]
      congr 1
      omega
    generalize hM0 : wI m1 204 1 (i3 ((nb - 1 : Nat) : Int)) = M0
    have b1 : zI m1 204 1 = i3 nb := by rw [l2 _ _ (by decide)]; exact hL1
    have pre : kc_8 v8 (i3 f) (i3 y) m j19 j23 = zLp1 (l_Law_law_0 j23 (i3 y) (i3 k)) zFu 0 M0 := by
      unfold kc_8
      rw [if_pos z16.1, z16.2, hL1, if_neg hz, if_pos z16.1, e1, zBP_some, m3_i, ad1, ad2, if_pos i2, x2, d3, zLet_q, if_pos i0, if_pos i1, x0, x1, d1, d2, e2, zBI_some, if_pos rfl, if_pos z16.1, if_pos z16.1, b1, e5, hM0, zLet_q]
    rw [pre]
    have hz0 : ∀ b j, 201 ≤ b → (b ≠ 204 ∨ j ≠ 1) → zI M0 b j = zI m b j := fun b j h1 h2 => by
      rw [← hM0]
      by_cases e : b = 204
      · subst e
        rw [zI_nk (by omega), l2 _ _ h1]
      · rw [zI_ne e, l2 _ _ h1]
    have hM01 : zI M0 204 1 = i3 ((nb - 1 : Nat) : Int) := by rw [← hM0, zI_eq]
    have z0 : Fz 3 0 m1 M0 := by rw [← hM0]; exact Fz.w (Or.inr (Or.inl (zone_A (by omega))))
    have c0 : CM M0 N fr Rv (nb - 1) (upI F k (F (nb - 1))) (upI Y k (Y (nb - 1))) (upI E k (E (nb - 1))) := by
      rw [← hM0]
      exact c2.gx (by omega) (fun b j hb => zI_ne (by omega))
    -- the last dispensation takes the place of the one that is gone
    have hval : ∀ i, i < 3 → zI m 203 (3 * (nb - 1) + i) = i3 (if i = 0 then F (nb - 1) else if i = 1 then Y (nb - 1) else E (nb - 1)) := fun i hi => by
      obtain ⟨g1, g2, g3⟩ := hLD (nb - 1) (by omega)
      rcases (show i = 0 ∨ i = 1 ∨ i = 2 by omega) with rfl | rfl | rfl
      · exact g1
      · exact g2
      · exact g3
    refine ex_zLp1 (Q := fun X => TR X j19 j23 N b) (fun j x173 MM => ∃ i : Nat, i ≤ 3 ∧ j = 3 - i ∧ x173 = i3 i ∧ (∀ b j, b ≠ 203 → zI MM b j = zI M0 b j) ∧ MM.2 = M0.2 ∧ ∀ q, zI MM 203 q = if 3 * k ≤ q ∧ q < 3 * k + i then zI m 203 (3 * (nb - 1) + (q - 3 * k)) else zI m 203 q) ?_ zFu 3 _ _ ⟨0, by omega, rfl, rfl, fun _ _ _ => rfl, rfl, fun q => by rw [if_neg (by omega), hz0 _ _ (by decide) (Or.inl (by decide))]⟩ (by unfold zFu; omega)
    rintro r j _ MM ⟨i, hi, rfl, rfl, hfr, hm2, hq⟩
    unfold l_Law_law_0
    rw [show (3 : Int32) = i3 3 from rfl, it_le ⟨by decide, by decide⟩ ⟨by omega, by omega⟩]
    by_cases e : i = 3
    · left
      subst e
      have hFM : Fz 3 0 M0 MM := ⟨fun b j a1 a2 a3 => hfr b j (fun e => a2 (by rw [e]; exact zone_A (by omega))), zL_of hm2 _ _⟩
      have hF := (f2.trans z0).trans hFM
      have hA1 : StA MM N fr Rv (nb - 1) (upI F k (F (nb - 1))) (upI Y k (Y (nb - 1))) (upI E k (E (nb - 1))) := by
        refine ⟨⟨h10, by omega, hL.2.2.1, hL.2.2.2.1, u1, u2, fun q hq' => ?_⟩, ⟨hLF.g2 (fun j => by rw [hfr _ _ (by decide), hz0 _ _ (by decide) (Or.inl (by decide))]) (by rw [hfr _ _ (by decide), hz0 _ _ (by decide) (Or.inr (by decide))]), ⟨by rw [hfr _ _ (by decide), hM01], fun q hq' => ?_⟩, fun q hq' => by rw [hfr _ _ (by decide), hz0 _ _ (by decide) (Or.inl (by decide))]; exact hLr q hq'⟩, c0.gx (by omega) (fun b j hb => hfr b j (by omega))⟩
        · unfold upI
          split
          · exact hL.2.2.2.2.2.2 _ (by omega)
          · exact hL.2.2.2.2.2.2 _ (by omega)
        · by_cases eq : q = k
          · have hr : ∀ i, i < 3 → zI MM 203 (3 * k + i) = i3 (if i = 0 then F (nb - 1) else if i = 1 then Y (nb - 1) else E (nb - 1)) := fun i hi => by rw [hq, if_pos ⟨by omega, by omega⟩, show 3 * k + i - 3 * k = i by omega, hval i hi]
            rw [eq, show upI F k (F (nb - 1)) k = F (nb - 1) from if_pos rfl, show upI Y k (Y (nb - 1)) k = Y (nb - 1) from if_pos rfl, show upI E k (E (nb - 1)) k = E (nb - 1) from if_pos rfl]
            exact ⟨hr 0 (by decide), hr 1 (by decide), hr 2 (by decide)⟩
          · have hr : ∀ i, i < 3 → zI MM 203 (3 * q + i) = zI m 203 (3 * q + i) := fun i hi => by rw [hq, if_neg (by omega)]
            obtain ⟨g1, g2, g3⟩ := hLD q (by omega)
            rw [show upI F k (F (nb - 1)) q = F q from if_neg eq, show upI Y k (Y (nb - 1)) q = Y q from if_neg eq, show upI E k (E (nb - 1)) q = E q from if_neg eq]
            exact ⟨(hr 0 (by decide)).trans g1, (hr 1 (by decide)).trans g2, (hr 2 (by decide)).trans g3⟩
      rw [if_pos (by omega)]
      exact ⟨MM, N, Nat.le_refl N, hN, ⟨t, fr, Rv, nb - 1, _, _, _, nR, PR, RE, BE, sp, hT.fz hF ⟨by decide, by decide⟩, hA1, hB.fz hF ⟨by decide, by decide⟩, hX.fz hF ⟨by decide, by decide⟩, hQ.fz (Nat.le_refl N) hF ⟨by decide, by decide⟩, hb⟩, Or.inr ⟨y, hy, rfl⟩⟩
    · right
      have hi3 : i < 3 := by omega
      obtain ⟨g0, h0⟩ := in_n (k := 3 * (nb - 1) + i) (n := 30) (by omega) (by decide)
      obtain ⟨g1, h1⟩ := in_n (k := 3 * k + i) (n := 30) (by omega) (by decide)
      have hMM1 : zI MM 204 1 = i3 ((nb - 1 : Nat) : Int) := by rw [hfr _ _ (by decide), hM01]
      have q3 : i3 3 * i3 ((nb - 1 : Nat) : Int) = i3 ((3 * (nb - 1) : Nat) : Int) := m3_i _
      have q4 : i3 3 * i3 (k : Int) = i3 ((3 * k : Nat) : Int) := m3_i _
      have hsrc : zI MM 203 (3 * (nb - 1) + i) = zI m 203 (3 * (nb - 1) + i) := by
        rw [hq]
        by_cases ek : k = nb - 1
        · rw [if_neg (by omega)]
        · rw [if_neg (by omega)]
      rw [if_neg (by omega), if_pos z16.1, z16.2, hMM1, q3, q4, ad_i, ad_i, if_pos g0, if_pos g1, h0, h1, hsrc, zLet_q, zLet_q, ad1]
      refine ⟨_, wI MM 203 (3 * k + i) (zI m 203 (3 * (nb - 1) + i)), 3 - (i + 1), by omega, ⟨i + 1, by omega, rfl, rfl, fun b j hb => by rw [zI_ne hb]; exact hfr b j hb, hm2, fun q => ?_⟩, rfl⟩
      by_cases e9 : q = 3 * k + i
      · rw [e9, zI_eq, if_pos ⟨by omega, by omega⟩]
        congr 1
        omega
      · rw [zI_nk e9, hq]
        by_cases e8 : 3 * k ≤ q ∧ q < 3 * k + i
        · rw [if_pos e8, if_pos ⟨by omega, by omega⟩]
        · rw [if_neg e8, if_neg (by omega)]
theorem turn_67 (hI : TI m N b) (hN : 1 ≤ N) {f : Nat} (hf : f < N) (hy : y < 400) (v7 v8 : Int32) (j19 : Mm → Option (Int32 × Mm)) (j23 : Int32 → Mm → Option (Int32 × Mm)) : TR (kc_67 v7 v8 (i3 f) (i3 y) m j19 j23) j19 j23 N b := by
  have hI0 := hI
  obtain ⟨t, fr, Rv, nb, F, Y, E, nR, PR, RE, BE, sp, hT, hA, hB, hX, hQ, hb⟩ := hI
  obtain ⟨hL, ⟨hLF, ⟨hL1, hLD⟩, hLr⟩, hC⟩ := id hA
  have h10 := hL.1
  have hnb := hL.2.1
  -- the dispensation itself
  have main : ∀ (bd : Int) (a : Nat), (bd = 99 ∨ (-30 ≤ bd ∧ bd ≤ 30)) → a < 400 → TR (zLq2 (l_Law_law_5 m j19 (i3 f) (i3 a) (i3 bd) j23) zFu 0 0) j19 j23 N b := by
    intro bd a hbd ha
    have fin : ∃ X, TR X j19 j23 N b ∧ ∀ r, l_Law_law_5 m j19 (i3 f) (i3 a) (i3 bd) j23 r (i3 (if near F Y f a nb then 3 else 0)) (i3 nb) = X := by
      have hhead : ∀ r w, l_Law_law_5 m j19 (i3 f) (i3 a) (i3 bd) j23 r w (i3 nb) = if w ≤ 0 then (if zIn 1 6 then if (zI m 204 (zIx 1)) = 10 then j19 m else if zIn 1 6 then if zIn (3 * (zI m 204 (zIx 1))) 30 then zLet (wI m 203 (zIx (3 * (zI m 204 (zIx 1)))) (i3 f)) fun m196 => if zIn 1 6 then if zIn ((3 * (zI m196 204 (zIx 1))) + 1) 30 then zLet (wI m196 203 (zIx ((3 * (zI m196 204 (zIx 1))) + 1)) (i3 a)) fun m197 => if zIn 1 6 then if zIn ((3 * (zI m197 204 (zIx 1))) + 2) 30 then zLet (wI m197 203 (zIx ((3 * (zI m197 204 (zIx 1))) + 2)) (i3 bd)) fun m198 => if zIn 1 6 then if zIn 1 6 then zLet (wI m198 204 (zIx 1) ((zI m198 204 (zIx 1)) + 1)) fun m199 => zBI (n_Loo_dispense (i3 f) (i3 a) (i3 bd) m199) fun v201 m200 => if zIn 1 6 then if v201 = (zI m200 204 (zIx 1)) then j23 (i3 a) m200 else some (0, m200) else none else none else none else none else none else none else none else none else none else none) else zBI (f_Law_refused 0 (i3 f) (i3 a) (i3 bd) m) fun v204 m203 => if v204 = 3 then j19 m203 else some (0, m203) := by
        intro r w
        unfold l_Law_law_5
        rw [if_pos z16.1, z16.2, hL1, it_le ⟨by omega, by omega⟩ ⟨by omega, by omega⟩, if_pos (Int.le_refl _)]
      cases hn : near F Y f a nb with
      | true =>
        refine ⟨j19 m, ⟨m, N, Nat.le_refl N, hN, hI0, Or.inl rfl⟩, fun r => ?_⟩
        have e1 : f_Law_refused 0 (i3 f) (i3 a) (i3 bd) m = some (3, m) := by
          unfold f_Law_refused
          rw [if_pos rfl, k_dispX hC hf ha hbd hn, hB_1]
        rw [hhead, if_neg (show ¬ i3 (if true = true then (3 : Int) else 0) ≤ 0 by decide), e1, zBI_some, if_pos rfl]
      | false =>
        by_cases c10 : nb = 10
        · refine ⟨j19 m, ⟨m, N, Nat.le_refl N, hN, hI0, Or.inl rfl⟩, fun r => ?_⟩
          rw [hhead, if_pos (show i3 (if false = true then (3 : Int) else 0) ≤ 0 by decide), if_pos z16.1, z16.2, hL1, c10, if_pos (show i3 ((10 : Nat) : Int) = 10 from rfl)]
        · have hlt : nb < 10 := by omega
          obtain ⟨i0, x0⟩ := in_n (k := 3 * nb) (n := 30) (by omega) (by decide)
          obtain ⟨i1, x1⟩ := in_n (k := 3 * nb + 1) (n := 30) (by omega) (by decide)
          obtain ⟨i2, x2⟩ := in_n (k := 3 * nb + 2) (n := 30) (by omega) (by decide)
          have a1 : zI (wI m 203 (3 * nb) (i3 f)) 204 1 = i3 nb := by rw [zI_ne (by decide)]; exact hL1
          have a2 : zI (wI (wI m 203 (3 * nb) (i3 f)) 203 (3 * nb + 1) (i3 a)) 204 1 = i3 nb := by rw [zI_ne (by decide)]; exact a1
          have a3 : zI (wI (wI (wI m 203 (3 * nb) (i3 f)) 203 (3 * nb + 1) (i3 a)) 203 (3 * nb + 2) (i3 bd)) 204 1 = i3 nb := by rw [zI_ne (by decide)]; exact a2
          generalize hM : wI (wI (wI (wI m 203 (3 * nb) (i3 f)) 203 (3 * nb + 1) (i3 a)) 203 (3 * nb + 2) (i3 bd)) 204 1 (i3 ((nb + 1 : Nat) : Int)) = M
          have hz0 : ∀ b j, b ≠ 203 → (b ≠ 204 ∨ j ≠ 1) → zI M b j = zI m b j := fun b j h1 h2 => by
            rw [← hM]
            by_cases e : b = 204
            · subst e
              rw [zI_nk (by omega), zI_ne h1, zI_ne h1, zI_ne h1]
            · rw [zI_ne e, zI_ne h1, zI_ne h1, zI_ne h1]
          have h203 : ∀ q, zI M 203 q = if q = 3 * nb + 2 then i3 bd else if q = 3 * nb + 1 then i3 a else if q = 3 * nb then i3 f else zI m 203 q := fun q => by
            rw [← hM, zI_ne (by decide)]
            by_cases e2 : q = 3 * nb + 2
            · rw [if_pos e2, e2, zI_eq]
            · rw [if_neg e2, zI_nk e2]
              by_cases e1 : q = 3 * nb + 1
              · rw [if_pos e1, e1, zI_eq]
              · rw [if_neg e1, zI_nk e1]
                by_cases e0 : q = 3 * nb
                · rw [if_pos e0, e0, zI_eq]
                · rw [if_neg e0, zI_nk e0]
          have hM1 : zI M 204 1 = i3 ((nb + 1 : Nat) : Int) := by rw [← hM, zI_eq]
          have hFM : Fz 3 0 m M := ⟨fun b j q1 q2 q3 => hz0 b j (fun e => q2 (by rw [e]; exact zone_A (by omega))) (by
            by_cases e : b = 204
            · right
              intro e1
              exact q2 (by rw [e, e1]; exact zone_A (by omega))
            · exact Or.inl e), by rw [← hM]; rfl⟩
          have hCM : CM M N fr Rv nb F Y E := hC.gx (by omega) (fun b j hb => hz0 b j (by omega) (by omega))
          obtain ⟨m1, e2, c2, f2, l2⟩ := k_disp hCM hf ha hbd hn hlt
          have hF := hFM.trans f2
          have hA1 : StA m1 N fr Rv (nb + 1) (upI F nb f) (upI Y nb a) (upI E nb bd) := by
            obtain ⟨o9, Tx9, ⟨-, -, -, -, v5, v6, -⟩, -⟩ := id c2
            refine ⟨⟨h10, by omega, hL.2.2.1, hL.2.2.2.1, v5, v6, fun q hq' => ?_⟩, ⟨hLF.g2 (fun j => by rw [l2 _ _ (by decide), hz0 _ _ (by decide) (Or.inl (by decide))]) (by rw [l2 _ _ (by decide), hz0 _ _ (by decide) (Or.inr (by decide))]), ⟨by rw [l2 _ _ (by decide), hM1], fun q hq' => ?_⟩, fun q hq' => by rw [l2 _ _ (by decide), hz0 _ _ (by decide) (Or.inl (by decide))]; exact hLr q hq'⟩, c2⟩
            · unfold upI
              by_cases e : q = nb
              · rw [if_pos e]; omega
              · rw [if_neg e]; exact hL.2.2.2.2.2.2 _ (by omega)
            · rw [l2 _ _ (by decide), l2 _ _ (by decide), l2 _ _ (by decide)]
              by_cases e : q = nb
              · rw [e, show upI F nb f nb = f from if_pos rfl, show upI Y nb a nb = a from if_pos rfl, show upI E nb bd nb = bd from if_pos rfl]
                exact ⟨by rw [h203, if_neg (by omega), if_neg (by omega), if_pos rfl], by rw [h203, if_neg (by omega), if_pos rfl], by rw [h203, if_pos rfl]⟩
              · have hr : ∀ i, i < 3 → zI M 203 (3 * q + i) = zI m 203 (3 * q + i) := fun i hi => by rw [h203, if_neg (by omega), if_neg (by omega), if_neg (by omega)]
                obtain ⟨g1, g2, g3⟩ := hLD q (by omega)
                rw [show upI F nb f q = F q from if_neg e, show upI Y nb a q = Y q from if_neg e, show upI E nb bd q = E q from if_neg e]
                exact ⟨(hr 0 (by decide)).trans g1, (hr 1 (by decide)).trans g2, (hr 2 (by decide)).trans g3⟩
          refine ⟨j23 (i3 a) m1, ⟨m1, N, Nat.le_refl N, hN, ⟨t, fr, Rv, nb + 1, _, _, _, nR, PR, RE, BE, sp, hT.fz hF ⟨by decide, by decide⟩, hA1, hB.fz hF ⟨by decide, by decide⟩, hX.fz hF ⟨by decide, by decide⟩, hQ.fz (Nat.le_refl N) hF ⟨by decide, by decide⟩, hb⟩, Or.inr ⟨a, ha, rfl⟩⟩, fun r => ?_⟩
          have hne : ¬ i3 (nb : Int) = 10 := by
            rw [show (10 : Int32) = i3 10 from rfl, i3_eq ⟨by omega, by omega⟩ ⟨by decide, by decide⟩]
            omega
          rw [hhead, if_pos (show i3 (if false = true then (3 : Int) else 0) ≤ 0 by decide), if_pos z16.1, z16.2, hL1, if_neg hne, if_pos z16.1, m3_i, if_pos i0, x0, zLet_q, if_pos z16.1, a1, m3_i, ad1, if_pos i1, x1, zLet_q, if_pos z16.1, a2, m3_i, ad2, if_pos i2, x2, zLet_q, if_pos z16.1, if_pos z16.1, a3, ad1, hM, zLet_q, e2, zBI_some, if_pos z16.1, l2 _ _ (by decide), hM1, if_pos rfl]
    obtain ⟨X, hX1, hX2⟩ := fin
    have : zLq2 (l_Law_law_5 m j19 (i3 f) (i3 a) (i3 bd) j23) zFu 0 0 = X := by
      refine run_zLq2 (fun j x190 x191 => ∃ k : Nat, k ≤ nb ∧ j = nb - k ∧ x191 = i3 k ∧ x190 = i3 (if near F Y f a k then 3 else 0)) ?_ zFu nb _ _ ⟨0, Nat.zero_le _, rfl, rfl, rfl⟩ (by unfold zFu; omega)
      rintro r j _ _ ⟨k, hk, rfl, rfl, rfl⟩
      by_cases e : k = nb
      · left
        rw [e]
        exact hX2 r
      · right
        have hkn : k < nb := by omega
        obtain ⟨d1, d2, d3⟩ := hLD k hkn
        obtain ⟨v1, v2, v3⟩ := hL.2.2.2.2.1.2 k hkn
        obtain ⟨i0, x0⟩ := in_n (k := 3 * k) (n := 30) (by omega) (by decide)
        obtain ⟨i1, x1⟩ := in_n (k := 3 * k + 1) (n := 30) (by omega) (by decide)
        refine ⟨i3 (if near F Y f a (k + 1) then 3 else 0), i3 ((k + 1 : Nat) : Int), nb - (k + 1), by omega, ⟨k + 1, by omega, rfl, rfl, rfl⟩, ?_⟩
        unfold l_Law_law_5
        rw [if_pos z16.1, z16.2, hL1, it_le ⟨by omega, by omega⟩ ⟨by omega, by omega⟩, if_neg (by omega), m3_i, if_pos i0, x0, d1]
        simp only [zLet_q, ad1, if_pos i1, x1, d2]
        rw [it_eq ⟨by omega, by omega⟩ ⟨by omega, by omega⟩, i3_sub, i3_sub, show (10 : Int32) = i3 10 from rfl, it_le ⟨by decide, by decide⟩ ⟨by omega, by omega⟩, it_le ⟨by decide, by decide⟩ ⟨by omega, by omega⟩, near_succ]
        by_cases c1 : F k = (f : Int)
        · rw [if_pos c1]
          by_cases c2 : 10 ≤ Y k - (a : Int)
          · rw [if_pos c2, decide_eq_false (fun z => by omega), Bool.or_false]
          · rw [if_neg c2]
            by_cases c3 : 10 ≤ (a : Int) - Y k
            · rw [if_pos c3, decide_eq_false (fun z => by omega), Bool.or_false]
            · rw [if_neg c3, decide_eq_true ⟨c1, by omega, by omega⟩, Bool.or_true]
              rfl
        · rw [if_neg c1, decide_eq_false (fun z => c1 z.1), Bool.or_false]
    rw [this]
    exact hX1
  obtain ⟨u, hu, e1⟩ : ∃ v : Nat, v < 8 ∧ f_Law_low v8 8 m = some (i3 v) := law_low v8 (n := 8) (by decide) m
  obtain ⟨w, hw, e2⟩ : ∃ v : Nat, v < 61 ∧ f_Law_low (v8 >>> (3 &&& 31)) 61 m = some (i3 v) := law_low _ (n := 61) (by decide) m
  obtain ⟨q, hq, e3⟩ : ∃ v : Nat, v < 2 ∧ f_Law_low (v7 >>> (9 &&& 31)) 2 m = some (i3 v) := law_low _ (n := 2) (by decide) m
  have rest : ∀ bd : Int, (bd = 99 ∨ (-30 ≤ bd ∧ bd ≤ 30)) → TR (zBP (f_Law_low (v7 >>> (9 &&& 31)) 2 m) fun v186 => zLet (fun (x188 : Int32) => zLq2 (l_Law_law_5 m j19 (i3 f) x188 (i3 bd) j23) zFu 0 0) fun j189 => if v186 = 0 then j189 40 else j189 (i3 y)) j19 j23 N b := by
    intro bd hbd
    rw [e3, zBP_some, zLet_q]
    by_cases c : i3 (q : Int) = 0
    · rw [if_pos c]
      exact main bd 40 hbd (by decide)
    · rw [if_neg c]
      exact main bd y hbd hy
  unfold kc_67
  rw [e1, zBP_some, zLet_q]
  by_cases c : i3 (u : Int) = 0
  · rw [if_pos c]
    exact rest 99 (Or.inl rfl)
  · rw [if_neg c, e2, zBP_some, show (30 : Int32) = i3 30 from rfl, i3_sub]
    exact rest ((w : Int) - 30) (Or.inr ⟨by omega, by omega⟩)
end TR2
