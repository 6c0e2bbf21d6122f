/-! CALLS: dispensations -/
theorem fr_lo {m m' : Mm} (hF : ∀ b j, b < 25 ∨ 151 < b → zI m' b j = zI m b j) : SFc cT m m' ∧ SFc cX m m' ∧ SFc cR m m' ∧ SFc cB m m' ∧ SFc cQ m m' := by
  have key : ∀ c : Nat → Nat → Bool, (∀ b j, 25 ≤ b ∧ b ≤ 151 → c b j = false) → SFc c m m' := fun c hc b j q => hF b j (by
    by_cases e : 25 ≤ b ∧ b ≤ 151
    · rw [hc b j e] at q
      exact nomatch q
    · omega)
  exact ⟨key _ fun b j h => (lo_x h).1, key _ fun b j h => (lo_x h).2.1, key _ fun b j h => (lo_x h).2.2.1, key _ fun b j h => (lo_x h).2.2.2.1, key _ fun b j h => (lo_x h).2.2.2.2⟩
theorem hi_x {b j : Nat} (h : (208 ≤ b ∧ b ≤ 215) ∨ (b = 201 ∧ (j = 0 ∨ j = 19 ∨ j = 25))) : cT b j = false ∧ cX b j = false ∧ cC b j = false ∧ cB b j = false ∧ cQ b j = false := by
  refine ⟨?_, ?_, ?_, ?_, ?_⟩
  · cases e : cT b j with
    | false => rfl
    | true =>
      exfalso
      unfold cT at e
      simp only [Bool.or_eq_true, Bool.and_eq_true, beq_iff_eq, Nat.ble_eq] at e
      omega
  · cases e : cX b j with
    | false => rfl
    | true =>
      exfalso
      unfold cX at e
      simp only [Bool.or_eq_true, Bool.and_eq_true, beq_iff_eq, Nat.ble_eq] at e
      omega
  · cases e : cC b j with
    | false => rfl
    | true =>
      exfalso
      unfold cC at e
      simp only [Bool.or_eq_true, Bool.and_eq_true, beq_iff_eq, Nat.ble_eq] at e
      omega
  · cases e : cB b j with
    | false => rfl
    | true =>
      exfalso
      unfold cB at e
      simp only [Bool.or_eq_true, Bool.and_eq_true, beq_iff_eq, Nat.ble_eq] at e
      omega
  · cases e : cQ b j with
    | false => rfl
    | true =>
      exfalso
      unfold cQ at e
      simp only [Bool.or_eq_true, Bool.and_eq_true, beq_iff_eq, Nat.ble_eq] at e
      omega
theorem fr_hi {m m' : Mm} (hF : ∀ b j, ¬ ((208 ≤ b ∧ b ≤ 215) ∨ (b = 201 ∧ (j = 0 ∨ j = 19 ∨ j = 25))) → zI m' b j = zI m b j) : SFc cT m m' ∧ SFc cX m m' ∧ SFc cC m m' ∧ SFc cB m m' ∧ SFc cQ m m' := by
  have key : ∀ c : Nat → Nat → Bool, (∀ b j, ((208 ≤ b ∧ b ≤ 215) ∨ (b = 201 ∧ (j = 0 ∨ j = 19 ∨ j = 25))) → c b j = false) → SFc c m m' := fun c hc b j q => hF b j (fun e => by
    rw [hc b j e] at q
    exact nomatch q)
  exact ⟨key _ fun b j h => (hi_x h).1, key _ fun b j h => (hi_x h).2.1, key _ fun b j h => (hi_x h).2.2.1, key _ fun b j h => (hi_x h).2.2.2.1, key _ fun b j h => (hi_x h).2.2.2.2⟩
section DIS
variable {m m' : Mm} {N nb nb' : Nat} {F Y E F' Y' E' : Nat → Int} {Kc Ac : Nat → Nat → Int} {Lc o : Nat → Nat} {R : Nat → Int} {mv : Nat → Bool} {Tx : Nat → List Int}
theorem c_bn (hN : N ≤ 20) (h : iC m N Kc Ac Lc o R mv F Y E nb Tx) (hF : ∀ b j, b ≠ 29 → b ≠ 30 → b ≠ 31 → (b ≠ 25 ∨ j ≠ 7) → zI m' b j = zI m b j) (hb : Cbn m' F' Y' E' nb') : iC m' N Kc Ac Lc o R mv F' Y' E' nb' Tx := by
  obtain ⟨⟨h1, h2⟩, h3, h4, -, h7, h8⟩ := h
  refine ⟨⟨?_, fun f hf => ?_⟩, fun i hi => ?_, fun f hf => ⟨?_, ?_⟩, hb, fun f hf => ?_, fun f hf => ?_⟩
  · rw [hF _ _ (by decide) (by decide) (by decide) (by decide)]; exact h1
  · obtain ⟨a1, a2, a3⟩ := h2 f hf
    refine ⟨a1, ?_, fun i hi => ⟨?_, ?_⟩⟩
    · rw [hF _ _ (by omega) (by omega) (by omega) (by omega)]; exact a2
    · rw [hF _ _ (by omega) (by omega) (by omega) (by omega)]; exact (a3 i hi).1
    · rw [hF _ _ (by omega) (by omega) (by omega) (by omega)]; exact (a3 i hi).2
  · rw [hF _ _ (by decide) (by decide) (by decide) (Or.inl (by decide))]; exact h3 i hi
  · rw [hF _ _ (by omega) (by omega) (by omega) (by omega)]; exact (h4 f hf).1
  · rw [hF _ _ (by omega) (by omega) (by omega) (by omega)]; exact (h4 f hf).2
  · obtain ⟨a1, a2, a3, a4⟩ := h7 f hf
    refine ⟨a1, ?_, fun i hi => ?_, a4⟩
    · rw [hF _ _ (by omega) (by omega) (by omega) (by omega)]; exact a2
    · rw [hF _ _ (by omega) (by omega) (by omega) (by omega)]; exact a3 i hi
  · rw [hF _ _ (by omega) (by omega) (by omega) (by omega)]; exact h8 f hf
theorem r_bn (h : iR m N Kc Ac Lc R mv F Y E nb) (hF : ∀ b j, b ≠ 213 → b ≠ 214 → b ≠ 215 → (b ≠ 201 ∨ (j ≠ 0 ∧ j ≠ 25)) → zI m' b j = zI m b j) (hb : Rbn m' F' Y' E' nb') : iR m' N Kc Ac Lc R mv F' Y' E' nb' := by
  obtain ⟨⟨h1, h2⟩, h3, -⟩ := h
  refine ⟨⟨?_, fun f hf => ⟨?_, fun i hi => ⟨?_, ?_⟩⟩⟩, fun f hf => ⟨?_, ?_⟩, hb⟩
  · rw [hF _ _ (by decide) (by decide) (by decide) (by decide)]; exact h1
  · rw [hF _ _ (by decide) (by decide) (by decide) (Or.inl (by decide))]; exact (h2 f hf).1
  · rw [hF _ _ (by decide) (by decide) (by decide) (Or.inl (by decide))]; exact ((h2 f hf).2 i hi).1
  · rw [hF _ _ (by decide) (by decide) (by decide) (Or.inl (by decide))]; exact ((h2 f hf).2 i hi).2
  · rw [hF _ _ (by decide) (by decide) (by decide) (Or.inl (by decide))]; exact (h3 f hf).1
  · rw [hF _ _ (by decide) (by decide) (by decide) (Or.inl (by decide))]; exact (h3 f hf).2
theorem wCn_ne {n : Nat} {f y k : Int} (b j : Nat) (h1 : b ≠ 29) (h2 : b ≠ 30) (h3 : b ≠ 31) (h4 : b ≠ 25 ∨ j ≠ 7) : zI (wCn m n f y k) b j = zI m b j := by
  unfold wCn
  by_cases e : b = 25
  · subst e
    rw [zI_nk (by omega), zI_ne (by decide), zI_ne (by decide), zI_ne (by decide)]
  · rw [zI_ne e, zI_ne h3, zI_ne h2, zI_ne h1]
theorem wBn_ne {n : Nat} {f y k : Int} (b j : Nat) (h1 : b ≠ 213) (h2 : b ≠ 214) (h3 : b ≠ 215) (h4 : b ≠ 201 ∨ (j ≠ 0 ∧ j ≠ 25)) : zI (wBn m n f y k) b j = zI m b j := by
  unfold wBn
  by_cases e : b = 201
  · subst e
    rw [zI_nk (by omega), zI_ne (by decide), zI_ne (by decide), zI_ne (by decide), zI_nk (by omega)]
  · rw [zI_ne e, zI_ne h3, zI_ne h2, zI_ne h1, zI_ne e]
end DIS
section DSP
variable {m : Mm}
theorem b_dispense (hI : Inv m) (p q p3 : Int32) : Bo cIAS (f_Loo_dispense p q p3 m) (f_Mod_dispense p q p3) := by
  obtain ⟨t, T, N, hT, hX, hA, hB, hS⟩ := id hI
  obtain ⟨h19, h25, h20⟩ := hA.n19
  obtain ⟨Kc, Ac, Lc, rk, o, R, mv, F, Y, E, nb, Tx, hW, hC, hR⟩ := hA
  obtain ⟨f, rfl, hf⟩ := i3_abs (a := p)
  obtain ⟨y, rfl, hy⟩ := i3_abs (a := q)
  obtain ⟨k, rfl, hk⟩ := i3_abs (a := p3)
  obtain ⟨w1, w2, w3, w4, w5, w6, w7⟩ := id hW
  have h30 := w5.1
  have k19 : ∀ m', SF m m' → zI m' 201 19 = i3 N := fun m' hF => by rw [hF.1 _ _ (by exact rfl), h19]
  have hm30 : ∀ m', f_Mod_isIn (i3 k) (-30) 30 m' = some (b3 (decide (-30 ≤ k ∧ k ≤ 30))) := fun m' => by
    rw [show (-30 : Int32) = i3 (-30) from by decide, show (30 : Int32) = i3 30 from rfl]
    exact mod_in hk ⟨by decide, by decide⟩ ⟨by decide, by decide⟩
  by_cases c1 : 0 ≤ f ∧ f < N
  rotate_left
  · refine Bo.thr (e := 2) hI ?_ (by decide) (fun m' hF => ?_)
    · unfold f_Loo_dispense
      rw [loo_feast h20 h25 hf, if_neg c1, zBXV_r]
    · rw [e_Mod_dispense, mod_isFeast h20 (k19 m' hF) hf, zBP_some, zLet_eq, decide_eq_false c1, if_pos (show b3 false = 0 by decide)]
      dsimp only
      rw [zLet_eq, w0n (by decide)]
      rfl
  by_cases c2 : 0 ≤ y ∧ y < 400
  rotate_left
  · refine Bo.thr (e := 0) hI ?_ (by decide) (fun m' hF => ?_)
    · unfold f_Loo_dispense
      rw [loo_feast h20 h25 hf, if_pos c1, zBXV_l, loo_year hy, if_neg c2, zBXV_r]
    · rw [e_Mod_dispense, mod_isFeast h20 (k19 m' hF) hf, zBP_some, zLet_eq, decide_eq_true c1, if_neg (show ¬ b3 true = 0 by decide), mod_isYear hy, zBP_some, zLet_eq, decide_eq_false c2, if_pos (show b3 false = 0 by decide)]
      dsimp only
      rw [zLet_eq, w0n (by decide)]
      rfl
  have e99 : (i3 k = 99) ↔ k = 99 := i3_eq (b := 99) hk ⟨by decide, by decide⟩
  by_cases c3 : k = 99 ∨ (-30 ≤ k ∧ k ≤ 30)
  rotate_left
  · refine Bo.thr (e := 0) hI ?_ (by decide) (fun m' hF => ?_)
    · unfold f_Loo_dispense
      rw [loo_feast h20 h25 hf, if_pos c1, zBXV_l, loo_year hy, if_pos c2, zBXV_l, zLet_eq, if_neg (fun z => c3 (Or.inl (e99.mp z))), zLet_eq, show (-30 : Int32) = i3 (-30) from by decide, it_lt hk ⟨by decide, by decide⟩, show (30 : Int32) = i3 30 from rfl, it_le hk ⟨by decide, by decide⟩]
      by_cases c5 : k < -30
      · rw [if_pos c5]
      · rw [if_neg c5, if_neg (by omega)]
    · rw [e_Mod_dispense, mod_isFeast h20 (k19 m' hF) hf, zBP_some, zLet_eq, decide_eq_true c1, if_neg (show ¬ b3 true = 0 by decide), mod_isYear hy, zBP_some, zLet_eq, decide_eq_true c2, if_neg (show ¬ b3 true = 0 by decide), hm30, zBP_some, zLet_eq, decide_eq_false (by omega : ¬ (-30 ≤ k ∧ k ≤ 30)), if_pos (show b3 false = 0 by decide), if_neg (fun z => c3 (Or.inl (e99.mp z)))]
      dsimp only
      rw [zLet_eq, w0n (by decide)]
      rfl
  have hg := alm_grant (k := k) w5 hC.2.2.2.1 (show 0 ≤ f ∧ f < 20 by omega) c2
  have hcls : f_Loo_dispense (i3 f) (i3 y) (i3 k) m = zBI (f_Alm_grant (i3 f) (i3 y) (i3 k) m) fun v6 m5 => if v6 = 0 then some (.inr 1, m5) else zBP (f_Alm_dispensations m5) fun v8 => some (.inl v8, m5) := by
    unfold f_Loo_dispense
    rw [loo_feast h20 h25 hf, if_pos c1, zBXV_l, loo_year hy, if_pos c2, zBXV_l, zLet_eq]
    by_cases c4 : k = 99
    · rw [if_pos (e99.mpr c4)]
    · rw [if_neg (fun z => c4 (e99.mp z)), zLet_eq, show (-30 : Int32) = i3 (-30) from by decide, it_lt hk ⟨by decide, by decide⟩, if_neg (by omega), show (30 : Int32) = i3 30 from rfl, it_le hk ⟨by decide, by decide⟩, if_pos (by omega)]
  have hmod : ∀ m', zI m' 201 19 = i3 N → zI m' 201 25 = i3 nb → (∀ i, i < nb → zI m' 213 i = i3 (F i) ∧ zI m' 214 i = i3 (Y i) ∧ zI m' 215 i = i3 (E i)) → f_Mod_dispense (i3 f) (i3 y) (i3 k) m' = if (decide (nb < 30) && !near F Y f y nb) = true then some (i3 ((nb + 1 : Nat) : Int), wBn (wI m' 201 0 0) nb f y k) else some (i3 0, wI (wI m' 201 0 0) 201 0 (i3 3)) := by
    intro m' k19 k25 kb
    have hrb : Rbn (wI m' 201 0 0) F Y E nb := ⟨by rw [zI_nk (by decide)]; exact k25, fun i hi => by rw [zI_ne (by decide), zI_ne (by decide), zI_ne (by decide)]; exact kb i hi⟩
    have fin : (zLet (wI m' 201 0 0) fun m5 => if zI m5 201 0 ≤ 0 then (zLet (fun (x8 : Int32) => zLq2 (l_Mod_dispense_0 m5 (i3 f) (i3 y) (i3 k)) zFu x8 0) fun j9 => if 30 ≤ zI m5 201 25 then j9 0 else j9 1) else some (0, m5)) = if (decide (nb < 30) && !near F Y f y nb) = true then some (i3 ((nb + 1 : Nat) : Int), wBn (wI m' 201 0 0) nb f y k) else some (i3 0, wI (wI m' 201 0 0) 201 0 (i3 3)) := by
      rw [zLet_eq, w00, zLet_eq, hrb.1, show (30 : Int32) = i3 30 from rfl, it_le ⟨by decide, by decide⟩ ⟨by omega, by omega⟩]
      by_cases c : (30 : Int) ≤ nb
      · have := mod_grant (k := k) w5 hrb (show 0 ≤ f ∧ f < 20 by omega) c2 false (fun z => nomatch z)
        rw [if_pos c, decide_eq_false (by omega : ¬ nb < 30)]
        exact (congrArg (fun z => zLq2 (l_Mod_dispense_0 (wI m' 201 0 0) (i3 f) (i3 y) (i3 k)) zFu z 0) (show (0 : Int32) = b3 false from rfl)).trans this
      · have := mod_grant (k := k) w5 hrb (show 0 ≤ f ∧ f < 20 by omega) c2 true (fun _ => by omega)
        rw [if_neg c, decide_eq_true (by omega : nb < 30)]
        exact (congrArg (fun z => zLq2 (l_Mod_dispense_0 (wI m' 201 0 0) (i3 f) (i3 y) (i3 k)) zFu z 0) (show (1 : Int32) = b3 true from rfl)).trans this
    rw [e_Mod_dispense, mod_isFeast h20 k19 hf, zBP_some, zLet_eq, decide_eq_true c1, if_neg (show ¬ b3 true = 0 by decide), mod_isYear hy, zBP_some, zLet_eq, decide_eq_true c2, if_neg (show ¬ b3 true = 0 by decide), hm30, zBP_some, zLet_eq]
    by_cases c4 : -30 ≤ k ∧ k ≤ 30
    · rw [decide_eq_true c4, if_neg (show ¬ b3 true = 0 by decide)]
      exact fin
    · rw [decide_eq_false c4, if_pos (show b3 false = 0 by decide), if_pos (e99.mpr (by omega))]
      exact fin
  have hbm : ∀ m', SF m m' → zI m' 201 25 = i3 nb ∧ ∀ i, i < nb → zI m' 213 i = i3 (F i) ∧ zI m' 214 i = i3 (Y i) ∧ zI m' 215 i = i3 (E i) := fun m' hF => (hR.fx hF).2.2
  by_cases cg : (decide (nb < 30) && !near F Y f y nb) = true
  · rw [if_pos cg] at hg
    have hnb : nb < 30 := by
      rw [Bool.and_eq_true, decide_eq_true_eq] at cg
      exact cg.1
    have hnn : near F Y f y nb = false := by
      rw [Bool.and_eq_true] at cg
      cases e : near F Y f y nb with
      | false => rfl
      | true => rw [e] at cg; exact nomatch cg.2
    refine ⟨.inl (i3 ((nb + 1 : Nat) : Int)), wCn m nb f y k, ?_, fun m' hE => ?_⟩
    · rw [hcls, hg, zBI_some, if_neg (by decide)]
      unfold f_Alm_dispensations
      rw [(grant_c hC.2.2.2.1).1, zBP_some]
    · have lo := fr_lo (m := m) (m' := wCn m nb f y k) (fun b j hb => wCn_ne b j (by omega) (by omega) (by omega) (by omega))
      have hR0 : iR (wI m' 201 0 0) N Kc Ac Lc R mv F Y E nb := hR.fc ((lo.2.2.1.trans hE.c).trans (SFc.w rfl))
      have hi := fr_hi (m := m') (m' := wBn (wI m' 201 0 0) nb f y k) (fun b j hb => by
        rw [wBn_ne b j (by omega) (by omega) (by omega) (by omega)]
        by_cases e : b = 201
        · subst e; exact zI_nk (by omega)
        · exact zI_ne e)
      have k1 : zI m' 201 19 = i3 N := by rw [hE.zI, wCn_ne _ _ (by decide) (by decide) (by decide) (by decide), h19]
      have k2 : zI m' 201 25 = i3 nb := by rw [hE.zI, wCn_ne _ _ (by decide) (by decide) (by decide) (by decide), hR.2.2.1]
      have k3 : ∀ i, i < nb → zI m' 213 i = i3 (F i) ∧ zI m' 214 i = i3 (Y i) ∧ zI m' 215 i = i3 (E i) := fun i hi => by
        rw [hE.zI, hE.zI, hE.zI, wCn_ne _ _ (by decide) (by decide) (by decide) (Or.inl (by decide)), wCn_ne _ _ (by decide) (by decide) (by decide) (Or.inl (by decide)), wCn_ne _ _ (by decide) (by decide) (by decide) (Or.inl (by decide))]
        exact hR.2.2.2 i hi
      refine ⟨i3 ((nb + 1 : Nat) : Int), wBn (wI m' 201 0 0) nb f y k, ?_, ⟨t, T, N, hT.fc ((lo.1.trans hE.c).trans hi.1), hX.fc ((lo.2.1.trans hE.c).trans hi.2.1), ⟨Kc, Ac, Lc, rk, o, R, mv, _, _, _, nb + 1, Tx, ⟨w1, w2, w3, w4, ⟨by omega, fun i hi => ?_⟩, grant_u w6 hnn, w7⟩, (c_bn h20 hC (fun b j a1 a2 a3 a4 => wCn_ne b j a1 a2 a3 a4) (grant_c hC.2.2.2.1)).fc h20 (hE.c.trans hi.2.2.1), r_bn hR0 (fun b j a1 a2 a3 a4 => wBn_ne b j a1 a2 a3 a4) (grant_r hR0.2.2)⟩, hB.fc ((lo.2.2.2.1.trans hE.c).trans hi.2.2.2.1), hS.fc ((lo.2.2.2.2.trans hE.c).trans hi.2.2.2.2) (fun b j hb => (hE.2 b j hb)) (Nat.le_refl N)⟩, fun j => rfl, ?_, rfl⟩
      · rw [hmod m' k1 k2 k3, if_pos cg]
      · show (0 ≤ (if i = nb then f else F i) ∧ (if i = nb then f else F i) < 20) ∧ (0 ≤ (if i = nb then y else Y i) ∧ (if i = nb then y else Y i) < 400) ∧ (-30 ≤ (if i = nb then k else E i) ∧ (if i = nb then k else E i) ≤ 99)
        by_cases e : i = nb
        · rw [if_pos e, if_pos e, if_pos e]; omega
        · rw [if_neg e, if_neg e, if_neg e]; exact w5.2 i (by omega)
      · unfold wBn
        rw [zI_nk (by decide), zI_ne (by decide), zI_ne (by decide), zI_ne (by decide), zI_eq]
        rfl
  · rw [if_neg cg] at hg
    refine Bo.of hI (r := .inr 1) (m1 := m) ?_ SF.refl (fun m' hF => ⟨i3 0, wI (wI m' 201 0 0) 201 0 (i3 3), ?_, SF.w0.trans SF.w0, rfl, zI_eq, by decide, by decide⟩)
    · rw [hcls, hg, zBI_some, if_pos rfl]
    · rw [hmod m' (k19 m' hF) (hbm m' hF).1 (hbm m' hF).2, if_neg cg]
end DSP
