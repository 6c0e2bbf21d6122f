/-! THE LAW'S TURNS: going on -/
section TRU
variable {m : Mm} {N y : Nat} {b b' : Int}
theorem TI.mono (h : TI m N b) (hb : b ≤ b') : TI m N b' := by
  obtain ⟨t, fr, Rv, nb, F, Y, E, nR, PR, RE, BE, sp, hT, hA, hB, hX, hQ, hs⟩ := h
  exact ⟨t, fr, Rv, nb, F, Y, E, nR, PR, RE, BE, sp, hT, hA, hB, hX, hQ, by omega⟩
theorem gG_s {cs : Nat → Int} {hl : Nat → Bool} {u : Nat} {l : Int} {y : Nat} {pd : Int64} : gG cs hl (u + 1) l y pd = if cs y ≤ l then (if hl y = true then ((y : Int), y + 1, pd + (i3 (cs y)).toInt64) else gG cs hl u (l - cs y) (y + 1) (pd + (i3 (cs y)).toInt64)) else (-2, y, pd) := rfl
theorem turn_13 (hI : TI m N b) (hN : 1 ≤ N) (hbb : b ≤ 1000000) (hy : y < 400) (v8 : Int32) (j19 : Mm → Option (Int32 × Mm)) (j23 : Int32 → Mm → Option (Int32 × Mm)) : TR (kc_13 v8 (i3 y) m j23) j19 j23 N (b + 200) := by
  have hI0 := hI.mono (b' := b + 200) (by omega)
  obtain ⟨t, fr, Rv, nb, F, Y, E, nR, PR, RE, BE, sp, hT, hA, hB, hX, ⟨hs, h5, hl, hQ⟩, hb⟩ := hI
  have h10 := hA.1.1
  have ht2 := hT.1.1
  rcases hQ with ⟨q1, q2⟩ | ⟨u0, q0, g, h, hG⟩
  · refine ⟨m, N, Nat.le_refl N, hN, hI0, Or.inr ⟨y, hy, ?_⟩⟩
    have e1 : f_Law_refused 2 5 0 0 m = some (3, m) := by
      unfold f_Law_refused
      have e2 : f_Loo_goOn 5 m = some (.inr 1, m) := k_goOnX q2 (l := 5) (by decide)
      rw [if_neg (by decide), if_neg (by decide), if_pos rfl, e2, hB_1]
    unfold kc_13
    rw [if_pos z46.1, z46.2, q1, if_neg (by decide), e1, zBI_some, if_pos rfl]
  · have hG0 := hG
    obtain ⟨a1, a2, -, -, -, a6, a7, a8, a9, a10, a11⟩ := hG
    obtain ⟨L0, hL0, e1⟩ : ∃ v : Nat, v < 200 ∧ f_Law_low v8 200 m = some (i3 v) := law_low v8 (n := 200) (by decide) m
    have eL : (1 : Int32) + i3 (L0 : Int) = i3 ((1 + L0 : Nat) : Int) := by
      show i3 1 + i3 (L0 : Int) = _
      rw [i3_add]; rfl
    obtain ⟨L, rfl⟩ : ∃ L, L = 1 + L0 := ⟨_, rfl⟩
    generalize hcs : (fun y => cYr y t F Y E nb (lK fr) (lA fr) (lL fr) N) = cs
    generalize hhl : (fun y => hYr y t F Y E nb (lK fr) (lA fr) (lL fr) N (rR Rv) (rM Rv) (lQ q0 g h)) = hh
    unfold kc_13
    rw [if_pos z46.1, z46.2, a2, it_0le ⟨by omega, by omega⟩, if_pos (by omega), e1, zBP_some, zLet_q, eL]
    refine ex_zLp1 (Q := fun X => TR X j19 j23 N (b + 200)) (fun j x MM => ∃ (u' : Nat) (sp' : Int), x = i3 j ∧ j ≤ 1 + L0 ∧ u' ≤ 400 ∧ 0 ≤ sp' ∧ sp' + j = sp + ((1 + L0 : Nat) : Int) ∧ zI MM 204 4 = i3 u' ∧ zI MM 204 5 = i3 sp' ∧ FG m MM ∧ gG cs hh (400 - u0) ((1 + L0 : Nat) : Int) u0 (zL m 170 3) = gG cs hh (400 - u') j u' (i3 sp').toInt64) ?_ 210 (1 + L0) _ _ ⟨u0, sp, rfl, Nat.le_refl _, a1, hs, rfl, a2, h5, FG.refl, by rw [hl]⟩ (by omega)
    rintro r lf _ MM ⟨u', sp', rfl, b1, b2, b3', b4, b5, b6, hFG, hgr⟩
    have fin : ∀ (x : Int) (M : Mm) (u'' : Nat) (sp'' : Int), FG m M → zI M 204 4 = i3 u'' → zI M 204 5 = i3 sp'' → u'' ≤ 400 → (0 ≤ sp'' ∧ sp'' ≤ b + 200) → gG cs hh (400 - u0) ((1 + L0 : Nat) : Int) u0 (zL m 170 3) = (x, u'', (i3 sp'').toInt64) → TR (kc_go (i3 ((1 + L0 : Nat) : Int)) j23 (i3 y) (i3 x) M) j19 j23 N (b + 200) := fun x M u'' sp'' z1 z2 z3 z4 z5 z6 => by
      rw [← hcs, ← hhl] at z6
      obtain ⟨m', T1, T2⟩ := g_end hT hA hB hX hG0 z1 z2 z3 ⟨by omega, by omega⟩ z6 z4 z5 j23 (i3 y)
      exact ⟨m', N, Nat.le_refl N, hN, T1, Or.inr ⟨y, hy, T2⟩⟩
    rw [e_l2, if_pos z46.1, z46.2, b5]
    by_cases c4 : u' = 400
    · left
      rw [c4, if_pos (show i3 ((400 : Nat) : Int) = 400 from rfl)]
      refine fin (-1) MM 400 sp' hFG (by rw [b5, c4]) b6 (by decide) ⟨b3', by omega⟩ ?_
      rw [hgr, c4]
      rfl
    · have hu : u' < 400 := by omega
      have hne : ¬ i3 (u' : Int) = 400 := i3n (k := 400) c4 (by omega) (by decide)
      rw [if_neg hne, zLet_q, zLet_q, zLet_q]
      have F1 : FG MM (zNt (zNt (zNt MM (207 + 0)) (207 + 1)) (207 + 2)) := ⟨fun b j hb => by rw [zI_zNt, if_neg (by omega), zI_zNt, if_neg (by omega), zI_zNt, if_neg (by omega)], rfl⟩
      have n4 : zI (zNt (zNt (zNt MM (207 + 0)) (207 + 1)) (207 + 2)) 204 4 = i3 u' := by rw [zI_zNt, if_neg (by decide), zI_zNt, if_neg (by decide), zI_zNt, if_neg (by decide), b5]
      have n5 : zI (zNt (zNt (zNt MM (207 + 0)) (207 + 1)) (207 + 2)) 204 5 = i3 sp' := by rw [zI_zNt, if_neg (by decide), zI_zNt, if_neg (by decide), zI_zNt, if_neg (by decide), b6]
      generalize zNt (zNt (zNt MM (207 + 0)) (207 + 1)) (207 + 2) = M2 at F1 n4 n5
      have F2 := hFG.trans F1
      have hA2 := hA.fz F2.fz ⟨by decide, by decide⟩
      have hT2 := hT.fz F2.fz ⟨by decide, by decide⟩
      obtain ⟨M3, e3, c3, f3, g3⟩ := law_B (y := u') (t := t) (t6 := 0) (t7 := 1) hA.1 hA2.2.1 hA.2.2 hu ht2 (by decide)
      have F3 : FG m M3 := F2.trans ⟨fun b j hb => f3 b j (by omega) (by omega), g3⟩
      have hA3 := hA.fz F3.fz ⟨by decide, by decide⟩
      have hBd := fun k hk => (br_B hA.1 hA.2.2 u' t (k := k) hk).2.2
      have n43 : zI M3 204 4 = i3 u' := by rw [f3 _ _ (by decide) (by decide), n4]
      have n53 : zI M3 204 5 = i3 sp' := by rw [f3 _ _ (by decide) (by decide), n5]
      have hN0 := hA3.2.1.1.1
      have hcb : 1 ≤ cs u' ∧ cs u' ≤ 4801 := by
        obtain ⟨o, Tx, hW, -⟩ := hA.2.2
        rw [← hcs]
        exact cYr_bd hW.1
      have hce : cs u' = sSum (lCs u' t F Y E nb fr) N := by rw [← hcs]; rfl
      obtain ⟨m69, F69, k4, k5, K⟩ := l1_end (M := M3) (Rv := Rv) (F := F) (Y := Y) (E := E) (nb := nb) (t := t) (fr := fr) h10 hu hN0 n43 n53 (fun k hk => ⟨hA3.2.1.2.2 k hk, hA.1.2.2.2.1 k hk⟩) (fun k hk => ⟨(c3 k hk).1, hBd k hk⟩) a7 (by rw [F3.1 _ _ (by decide)]; exact a6) a10 (fun j hj => by rw [F3.1 _ _ (Or.inr (Or.inl rfl))]; exact a8 j hj) a11 (fun j hj => by rw [F3.1 _ _ (Or.inr (Or.inl rfl))]; exact a9 j hj) (left := lf) (by omega) (c := cs u') ⟨by omega, by omega⟩ (kc_go (i3 ((1 + L0 : Nat) : Int)) j23 (i3 y)) r
      have hhe : hYr u' t F Y E nb (lK fr) (lA fr) (lL fr) N (rR Rv) (rM Rv) (lQ q0 g h) = hh u' := by rw [← hhl]
      rw [hhe] at K
      have hres := run_zLq2 (F := l_Law_law_1 M3 (i3 lf) (kc_go (i3 ((1 + L0 : Nat) : Int)) j23 (i3 y)) r) (fun j x57 x58 => ∃ k : Nat, k ≤ N ∧ j = N - k ∧ x58 = i3 k ∧ x57 = i3 (sSum (lCs u' t F Y E nb fr) k)) (v := if cs u' ≤ lf then (if hh u' = true then kc_go (i3 ((1 + L0 : Nat) : Int)) j23 (i3 y) (i3 u') m69 else r (i3 (lf - cs u')) m69) else kc_go (i3 ((1 + L0 : Nat) : Int)) j23 (i3 y) (-2) M3) (by
        rintro r59 j _ _ ⟨k, hk, rfl, rfl, rfl⟩
        by_cases e : k = N
        · left
          rw [e, ← hce]
          exact K r59
        · right
          have hkN : k < N := by omega
          obtain ⟨i1, x1⟩ := in_n (k := k) (n := 10) (by omega) (by decide)
          refine ⟨i3 (sSum (lCs u' t F Y E nb fr) (k + 1)), i3 ((k + 1 : Nat) : Int), N - (k + 1), by omega, ⟨k + 1, by omega, rfl, rfl, rfl⟩, ?_⟩
          unfold l_Law_law_1
          rw [if_pos z06.1, z06.2, hN0, it_le ⟨by omega, by omega⟩ ⟨by omega, by omega⟩, if_neg (by omega), if_pos i1, x1, (c3 k hkN).2, zLet_q, zLet_q, ad1, i3_add]
          rfl) zFu N 1 0 ⟨0, Nat.zero_le _, rfl, rfl, rfl⟩ (by unfold zFu; omega)
      rw [if_pos z46.1, if_pos z26.1, z26.2, n4, hT2.2, e3, zBV_some, hres]
      have hst : gG cs hh (400 - u') lf u' (i3 sp').toInt64 = if cs u' ≤ lf then (if hh u' = true then ((u' : Int), u' + 1, (i3 (sp' + cs u')).toInt64) else gG cs hh (400 - (u' + 1)) (lf - cs u') (u' + 1) (i3 (sp' + cs u')).toInt64) else (-2, u', (i3 sp').toInt64) := by
        rw [show 400 - u' = 400 - (u' + 1) + 1 by omega, gG_s, i64_add ⟨by omega, by omega⟩ ⟨by omega, by omega⟩]
      rw [hst] at hgr
      by_cases cl : cs u' ≤ lf
      · rw [if_pos cl] at hgr ⊢
        by_cases ch : hh u' = true
        · left
          rw [if_pos ch] at hgr ⊢
          exact fin u' m69 (u' + 1) (sp' + cs u') (F3.trans F69) k4 k5 (by omega) ⟨by omega, by omega⟩ hgr
        · right
          rw [if_neg ch] at hgr ⊢
          have en : (((lf - cs u').toNat : Nat) : Int) = lf - cs u' := Int.toNat_of_nonneg (by omega)
          refine ⟨i3 (lf - cs u'), m69, (lf - cs u').toNat, by omega, ⟨u' + 1, sp' + cs u', by rw [en], by omega, by omega, by omega, by omega, k4, k5, F3.trans F69, ?_⟩, rfl⟩
          rw [hgr, en]
      · left
        rw [if_neg cl] at hgr ⊢
        exact fin (-2) M3 u' sp' F3 n43 n53 b2 ⟨b3', by omega⟩ hgr
end TRU
