/-! CALLS: a dispensation is taken back -/
section TKB
variable {m : Mm}
theorem b_takeBack (hI : Inv m) (p q : Int32) : Bo cIAS (f_Loo_takeBack p q m) (f_Mod_takeBack p q) := by
  obtain ⟨t, T, N, hT, hX, hA, hB, hS⟩ := id hI
  obtain ⟨h19, h25, h20⟩ := hA.n19
  obtain ⟨Kc, Ac, Lc, rk, o, R, mv, F, Y, E, nb, Tx, hW, hC, hR⟩ := hA
  obtain ⟨f, rfl, hf⟩ := i3_abs (a := p)
  obtain ⟨y, rfl, hy⟩ := i3_abs (a := q)
  obtain ⟨w1, w2, w3, w4, w5, w6, w7⟩ := id hW
  have h30 := w5.1
  have k19 : ∀ m', SF m m' → zI m' 201 19 = i3 N := fun m' hF => by rw [hF.1 _ _ (by exact rfl), h19]
  by_cases c1 : 0 ≤ f ∧ f < N
  rotate_left
  · refine Bo.thr (e := 2) hI ?_ (by decide) (fun m' hF => ?_)
    · unfold f_Loo_takeBack
      rw [loo_feast h20 h25 hf, if_neg c1, zBXV_r]
    · unfold f_Mod_takeBack
      rw [mod_isFeast h20 (k19 m' hF) hf, zBP_some, zLet_eq, decide_eq_false c1, if_pos (show b3 false = 0 by decide)]
      dsimp only
      rw [zLet_eq, w0n (by decide)]
      rfl
  by_cases c2 : 0 ≤ y ∧ y < 400
  rotate_left
  · refine Bo.thr (e := 0) hI ?_ (by decide) (fun m' hF => ?_)
    · unfold f_Loo_takeBack
      rw [loo_feast h20 h25 hf, if_pos c1, zBXV_l, loo_year hy, if_neg c2, zBXV_r]
    · unfold f_Mod_takeBack
      rw [mod_isFeast h20 (k19 m' hF) hf, zBP_some, zLet_eq, decide_eq_true c1, if_neg (show ¬ b3 true = 0 by decide), mod_isYear hy, zBP_some, decide_eq_false c2, if_pos (show b3 false = 0 by decide)]
      dsimp only
      rw [zLet_eq, w0n (by decide)]
      rfl
  have hdf := alm_dispFor w5 w6 hC.2.2.2.1 (show 0 ≤ f ∧ f < 20 by omega) c2
  have hmb : ∀ m', Rbn m' F Y E nb → f_Mod_bendOf (i3 f) (i3 y) (wI m' 201 0 0) = some (i3 (sIx F Y f y nb)) := fun m' hb => mod_bendOf w5 ⟨by rw [zI_nk (by decide)]; exact hb.1, fun i hi => by rw [zI_ne (by decide), zI_ne (by decide), zI_ne (by decide)]; exact hb.2 i hi⟩ (show 0 ≤ f ∧ f < 20 by omega) c2
  rcases sIx_bd (F := F) (Y := Y) (f := f) (y := y) nb with e | ⟨i, hi, e, ei⟩
  · rw [e] at hdf hmb
    refine Bo.of hI (r := .inr 1) (m1 := m) ?_ SF.refl (fun m' hF => ⟨0, wI (wI m' 201 0 0) 201 0 (i3 3), ?_, SF.w0.trans SF.w0, rfl, zI_eq, by decide, by decide⟩)
    · unfold f_Loo_takeBack
      rw [loo_feast h20 h25 hf, if_pos c1, zBXV_l, loo_year hy, if_pos c2, zBXV_l, hdf, zBP_some, if_pos (show i3 (-1) = -1 from rfl)]
    · unfold f_Mod_takeBack
      rw [mod_isFeast h20 (k19 m' hF) hf, zBP_some, zLet_eq, decide_eq_true c1, if_neg (show ¬ b3 true = 0 by decide), mod_isYear hy, zBP_some, decide_eq_true c2, if_neg (show ¬ b3 true = 0 by decide)]
      dsimp only
      rw [zLet_eq, w00, hmb m' (hR.fx hF).2.2, zBP_some, zLet_eq, if_pos (show i3 (-1) = -1 from rfl)]
      dsimp only
      rw [zLet_eq, w0n (by decide)]
      rfl
  · rw [e] at hdf hmb
    have hne : ¬ i3 (i : Int) = -1 := by rw [show (-1 : Int32) = i3 (-1) from rfl, i3_eq ⟨by omega, by omega⟩ ⟨by decide, by decide⟩]; omega
    obtain ⟨m1, e1, e12, hF1, hcb⟩ := alm_revoke w5 hC.2.2.2.1 hi
    obtain ⟨j, rfl⟩ : ∃ j, nb = j + 1 := ⟨nb - 1, by omega⟩
    rw [Nat.add_sub_cancel] at hcb
    have hin : zIn (i3 (i : Int)) 30 := (i3_in ⟨by omega, by omega⟩).mpr ⟨by omega, by omega⟩
    have hix : zIx (i3 (i : Int)) = i := by rw [i3_ix ⟨by omega, by omega⟩, Int.toNat_natCast]
    have hinj : zIn (i3 (j : Int)) 30 := (i3_in ⟨by omega, by omega⟩).mpr ⟨by omega, by omega⟩
    have hixj : zIx (i3 (j : Int)) = j := by rw [i3_ix ⟨by omega, by omega⟩, Int.toNat_natCast]
    have lo := fr_lo (m := m) (m' := m1) (fun b j hb => hF1 b j (by omega) (by omega) (by omega) (by omega))
    refine ⟨.inl (i3 (E i)), m1, ?_, fun m' hE => ?_⟩
    · unfold f_Loo_takeBack
      rw [loo_feast h20 h25 hf, if_pos c1, zBXV_l, loo_year hy, if_pos c2, zBXV_l, hdf, zBP_some, if_neg hne, e1, zBI_some]
    · have hR0 : iR m' N Kc Ac Lc R mv F Y E (j + 1) := hR.fc (lo.2.2.1.trans hE.c)
      have hb0 := hR0.2.2
      generalize hV : wI (wI (wI (wI (wI (wI m' 201 0 0) 201 0 0) 201 25 (i3 (j : Int))) 213 i (i3 (F j))) 214 i (i3 (Y j))) 215 i (i3 (E j)) = V
      have vne : ∀ b k, b ≠ 213 → b ≠ 214 → b ≠ 215 → (b ≠ 201 ∨ (k ≠ 0 ∧ k ≠ 25)) → zI V b k = zI m' b k := by
        intro b k a1 a2 a3 a4
        rw [← hV, zI_ne a3, zI_ne a2, zI_ne a1]
        by_cases eb : b = 201
        · subst eb
          rw [zI_nk (by omega), zI_nk (by omega), zI_nk (by omega)]
        · rw [zI_ne eb, zI_ne eb, zI_ne eb]
      have hi' := fr_hi (m := m') (m' := V) (fun b k hb => vne b k (by omega) (by omega) (by omega) (by omega))
      have hrb : Rbn V (fun k => if k = i then F j else F k) (fun k => if k = i then Y j else Y k) (fun k => if k = i then E j else E k) j := by
        refine ⟨?_, fun k hk => ?_⟩
        · rw [← hV, zI_ne (by decide), zI_ne (by decide), zI_ne (by decide), zI_eq]
        · obtain ⟨b1, b2, b3⟩ := hb0.2 k (by omega)
          have v3 : zI V 213 k = zI (wI (wI (wI (wI m' 201 0 0) 201 0 0) 201 25 (i3 (j : Int))) 213 i (i3 (F j))) 213 k := by rw [← hV, zI_ne (by decide), zI_ne (by decide)]
          have v4 : zI V 214 k = zI (wI (wI (wI (wI (wI m' 201 0 0) 201 0 0) 201 25 (i3 (j : Int))) 213 i (i3 (F j))) 214 i (i3 (Y j))) 214 k := by rw [← hV, zI_ne (by decide)]
          have v5 : zI V 215 k = zI (wI (wI (wI (wI (wI (wI m' 201 0 0) 201 0 0) 201 25 (i3 (j : Int))) 213 i (i3 (F j))) 214 i (i3 (Y j))) 215 i (i3 (E j))) 215 k := by rw [hV]
          show _ = i3 (if k = i then F j else F k) ∧ _ = i3 (if k = i then Y j else Y k) ∧ _ = i3 (if k = i then E j else E k)
          by_cases ek : k = i
          · rw [v3, v4, v5, ek, if_pos rfl, if_pos rfl, if_pos rfl, zI_eq, zI_eq, zI_eq]
            exact ⟨rfl, rfl, rfl⟩
          · rw [v3, v4, v5, if_neg ek, if_neg ek, if_neg ek, zI_nk ek, zI_nk ek, zI_nk ek, zI_ne (by decide), zI_ne (by decide), zI_ne (by decide), b1]
            refine ⟨rfl, ?_, ?_⟩
            · rw [zI_ne (by decide), zI_ne (by decide), zI_ne (by decide), zI_ne (by decide), b2]
            · rw [zI_ne (by decide), zI_ne (by decide), zI_ne (by decide), zI_ne (by decide), zI_ne (by decide), b3]
      obtain ⟨l1, l2, l3⟩ := hb0.2 i hi
      obtain ⟨n1, n2, n3⟩ := hb0.2 j (Nat.lt_succ_self j)
      refine ⟨i3 (E i), V, ?_, ⟨t, T, N, hT.fc ((lo.1.trans hE.c).trans hi'.1), hX.fc ((lo.2.1.trans hE.c).trans hi'.2.1), ⟨Kc, Ac, Lc, rk, o, R, mv, _, _, _, j, Tx, ⟨w1, w2, w3, w4, ⟨by omega, fun k hk => ?_⟩, ?_, w7⟩, (c_bn h20 hC hF1 hcb).fc h20 (hE.c.trans hi'.2.2.1), r_bn hR0 vne hrb⟩, hB.fc ((lo.2.2.2.1.trans hE.c).trans hi'.2.2.2.1), hS.fc ((lo.2.2.2.2.trans hE.c).trans hi'.2.2.2.2) (fun b k hb => ?_) (Nat.le_refl N)⟩, fun k => by rw [← hV]; rfl, ?_, rfl⟩
      · unfold f_Mod_takeBack
        rw [mod_isFeast h20 hR0.1.1 hf, zBP_some, zLet_eq, decide_eq_true c1, if_neg (show ¬ b3 true = 0 by decide), mod_isYear hy, zBP_some, decide_eq_true c2, if_neg (show ¬ b3 true = 0 by decide)]
        dsimp only
        have f0 : ∀ b k, (b ≠ 201 ∨ k ≠ 0) → zI (wI (wI m' 201 0 0) 201 0 0) b k = zI m' b k := by
          intro b k hb
          by_cases eb : b = 201
          · subst eb
            rw [zI_nk (by omega), zI_nk (by omega)]
          · rw [zI_ne eb, zI_ne eb]
        have s25 : zI (wI (wI m' 201 0 0) 201 0 0) 201 25 - 1 = i3 (j : Int) := by
          rw [f0 _ _ (Or.inr (by decide)), hb0.1, show (1 : Int32) = i3 1 from rfl, i3_sub]
          exact congrArg i3 (by omega)
        rw [zLet_eq, w00, hmb m' hb0, zBP_some, zLet_eq, if_neg hne]
        dsimp only
        rw [zLet_eq, w00, if_pos hin, zLet_eq, zLet_eq, s25, hix, f0 _ _ (Or.inl (by decide)), l3, zI_eq, if_pos hinj, if_pos hin, zLet_eq, hixj]
        rw [show zI (wI (wI (wI m' 201 0 0) 201 0 0) 201 25 (i3 (j : Int))) 213 j = i3 (F j) by rw [zI_ne (by decide), f0 _ _ (Or.inl (by decide)), n1]]
        rw [show zI (wI (wI (wI (wI m' 201 0 0) 201 0 0) 201 25 (i3 (j : Int))) 213 i (i3 (F j))) 201 25 = i3 (j : Int) by rw [zI_ne (by decide), zI_eq], if_pos hinj, if_pos hin, zLet_eq, hixj]
        rw [show zI (wI (wI (wI (wI m' 201 0 0) 201 0 0) 201 25 (i3 (j : Int))) 213 i (i3 (F j))) 214 j = i3 (Y j) by rw [zI_ne (by decide), zI_ne (by decide), f0 _ _ (Or.inl (by decide)), n2]]
        rw [show zI (wI (wI (wI (wI (wI m' 201 0 0) 201 0 0) 201 25 (i3 (j : Int))) 213 i (i3 (F j))) 214 i (i3 (Y j))) 201 25 = i3 (j : Int) by rw [zI_ne (by decide), zI_ne (by decide), zI_eq], if_pos hinj, if_pos hin, zLet_eq, hixj]
        rw [show zI (wI (wI (wI (wI (wI m' 201 0 0) 201 0 0) 201 25 (i3 (j : Int))) 213 i (i3 (F j))) 214 i (i3 (Y j))) 215 j = i3 (E j) by rw [zI_ne (by decide), zI_ne (by decide), zI_ne (by decide), f0 _ _ (Or.inl (by decide)), n3], hV]
      · show (0 ≤ (if k = i then F j else F k) ∧ (if k = i then F j else F k) < 20) ∧ (0 ≤ (if k = i then Y j else Y k) ∧ (if k = i then Y j else Y k) < 400) ∧ (-30 ≤ (if k = i then E j else E k) ∧ (if k = i then E j else E k) ≤ 99)
        by_cases ek : k = i
        · rw [if_pos ek, if_pos ek, if_pos ek]; exact w5.2 j (by omega)
        · rw [if_neg ek, if_neg ek, if_neg ek]; exact w5.2 k (by omega)
      · intro a b ha hb
        show (if a = i then F j else F a) = (if b = i then F j else F b) → (if a = i then Y j else Y a) = (if b = i then Y j else Y b) → a = b
        by_cases ea : a = i
        · by_cases eb : b = i
          · intro _ _; omega
          · rw [if_pos ea, if_neg eb, if_pos ea, if_neg eb]
            intro q1 q2
            have := w6 j b (by omega) (by omega) q1 q2
            omega
        · by_cases eb : b = i
          · rw [if_neg ea, if_pos eb, if_neg ea, if_pos eb]
            intro q1 q2
            have := w6 a j (by omega) (by omega) q1 q2
            omega
          · rw [if_neg ea, if_neg eb, if_neg ea, if_neg eb]
            intro q1 q2
            exact w6 a b (by omega) (by omega) q1 q2
      · have : zL V b k = zL m' b k := by rw [← hV]; rfl
        rw [this, hE.2 b k hb]
        exact zL_of e12 b k
      · rw [← hV, zI_ne (by decide), zI_ne (by decide), zI_ne (by decide), zI_nk (by decide), zI_eq]
end TKB
