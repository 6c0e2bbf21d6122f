/-! CALLS: bells, ringers, dispensations -/
section SM3
variable {m : Mm}
theorem b_bells (hI : Inv m) (p q : Int32) : Bo cIA (f_Loo_bells p q m) (f_Mod_bells p q) := by
  obtain ⟨t, T, N, hT, hX, hA, hB, hS⟩ := id hI
  obtain ⟨nR, PR, RE, BE, hv, hbv, hg, hg', hbe, hbe'⟩ := hB
  obtain ⟨f, rfl, hf⟩ := i3_abs (a := p)
  obtain ⟨r, rfl, hr⟩ := i3_abs (a := q)
  have hm5 : ∀ m', f_Mod_isIn (i3 f) 0 5 m' = some (b3 (decide (0 ≤ f ∧ f ≤ 5))) := fun m' => mod_in (b := 0) (c := 5) hf ⟨by decide, by decide⟩ ⟨by decide, by decide⟩
  have hm6 : ∀ m', f_Mod_isIn (i3 r) 0 6 m' = some (b3 (decide (0 ≤ r ∧ r ≤ 6))) := fun m' => mod_in (b := 0) (c := 6) hr ⟨by decide, by decide⟩ ⟨by decide, by decide⟩
  by_cases c : 0 ≤ f ∧ f < 6
  · obtain ⟨g, rfl⟩ : ∃ g : Nat, f = g := ⟨f.toNat, by omega⟩
    have hg6 : g < 6 := by omega
    have hin : zIn (i3 (g : Int)) 6 := (i3_in ⟨by omega, by omega⟩).mpr ⟨by omega, by omega⟩
    have hix : zIx (i3 (g : Int)) = g := by rw [i3_ix ⟨by omega, by omega⟩, Int.toNat_natCast]
    by_cases c2 : 0 ≤ r ∧ r ≤ 6
    · refine ⟨.inl (i3 (BE g)), wI m 175 g (i3 r), ?_, fun m' hE => ?_⟩
      · unfold f_Loo_bells
        simp only [zLet]
        rw [loo_parish hf, if_pos c, zBXV_l, it_lt0 hr, if_neg (by omega), show (6 : Int32) = i3 6 from rfl, it_le hr ⟨by decide, by decide⟩, if_pos c2.2]
        unfold f_Bel_hang
        rw [if_pos hin, zLet_eq, if_pos hin, zLet_eq, hix, hbe g hg6, zBI_some]
      · have fr : ∀ c : Nat → Nat → Bool, c 175 g = false → c 201 0 = false → c 223 g = false → SFc c m (wI (wI m' 201 0 0) 223 g (i3 r)) := fun c h1 h2 h3 => ((SFc.w h1).trans hE.c).trans ((SFc.w h2).trans (SFc.w h3))
        have ez : ∀ b j, b ≠ 175 → b ≠ 223 → (b ≠ 201 ∨ j ≠ 0) → zI (wI (wI m' 201 0 0) 223 g (i3 r)) b j = zI m b j := by
          intro b j g1 g2 g3
          rw [zI_ne g2]
          by_cases e : b = 201
          · subst e
            rw [zI_nk (by omega), hE.zI, zI_ne g1]
          · rw [zI_ne e, hE.zI, zI_ne g1]
        refine ⟨i3 (BE g), wI (wI m' 201 0 0) 223 g (i3 r), ?_, ⟨t, T, N, hT.fc (fr cT rfl rfl rfl), hX.fc (fr cX rfl rfl rfl), hA.fc (fr cC rfl rfl rfl) (fr cR rfl rfl rfl), ⟨nR, PR, RE, fun x => if x = g then r else BE x, hv, fun x hx => ?_, ⟨?_, fun k hk => ⟨?_, ?_⟩⟩, ⟨?_, fun k hk => ⟨?_, ?_⟩⟩, fun x hx => ?_, fun x hx => ?_⟩, hS.fc (fr cQ rfl rfl rfl) (fun b j hb => hE.2 b j hb) (Nat.le_refl N)⟩, fun j => rfl, ?_, rfl⟩
        · unfold f_Mod_bells
          simp only [zLet]
          rw [hm5, zBP_some, decide_eq_true (by omega : 0 ≤ (g : Int) ∧ (g : Int) ≤ 5), if_neg (show ¬ b3 true = 0 by decide), hm6, zBP_some, decide_eq_true c2, if_neg (show ¬ b3 true = 0 by decide), w00, if_pos hin, if_pos hin, hix, zI_ne (by decide), hE.zI, zI_ne (by decide), hbe' g hg6]
        · show 0 ≤ (if x = g then r else BE x) ∧ (if x = g then r else BE x) ≤ 6
          split
          · exact c2
          · exact hbv x hx
        · rw [ez _ _ (by decide) (by decide) (Or.inl (by decide))]; exact hg.1
        · rw [ez _ _ (by decide) (by decide) (Or.inl (by decide))]; exact (hg.2 k hk).1
        · rw [ez _ _ (by decide) (by decide) (Or.inl (by decide))]; exact (hg.2 k hk).2
        · rw [ez _ _ (by decide) (by decide) (Or.inr (by decide))]; exact hg'.1
        · rw [ez _ _ (by decide) (by decide) (Or.inl (by decide))]; exact (hg'.2 k hk).1
        · rw [ez _ _ (by decide) (by decide) (Or.inl (by decide))]; exact (hg'.2 k hk).2
        · show _ = i3 (if x = g then r else BE x)
          rw [zI_ne (by decide), zI_ne (by decide), hE.zI]
          by_cases e : x = g
          · rw [if_pos e, e, zI_eq]
          · rw [if_neg e, zI_nk e]
            exact hbe x hx
        · show _ = i3 (if x = g then r else BE x)
          by_cases e : x = g
          · rw [if_pos e, e, zI_eq]
          · rw [if_neg e, zI_nk e, zI_ne (by decide), hE.zI, zI_ne (by decide)]
            exact hbe' x hx
        · rw [zI_ne (by decide), zI_eq]
    · refine Bo.thr (e := 0) hI ?_ (by decide) (fun m' hF => ?_)
      · unfold f_Loo_bells
        simp only [zLet]
        rw [loo_parish hf, if_pos c, zBXV_l, it_lt0 hr, show (6 : Int32) = i3 6 from rfl, it_le hr ⟨by decide, by decide⟩]
        by_cases c3 : r < 0
        · rw [if_pos c3]
        · rw [if_neg c3, if_neg (by omega)]
      · unfold f_Mod_bells
        simp only [zLet]
        rw [hm5, zBP_some, decide_eq_true (by omega : 0 ≤ (g : Int) ∧ (g : Int) ≤ 5), if_neg (show ¬ b3 true = 0 by decide), hm6, zBP_some, decide_eq_false c2, if_pos (show b3 false = 0 by decide), w0n (by decide)]
        rfl
  · refine Bo.thr (e := 2) hI ?_ (by decide) (fun m' hF => ?_)
    · unfold f_Loo_bells
      rw [loo_parish hf, if_neg c, zBXV_r]
    · unfold f_Mod_bells
      simp only [zLet]
      rw [hm5, zBP_some, decide_eq_false (by omega : ¬ (0 ≤ f ∧ f ≤ 5)), if_pos (show b3 false = 0 by decide), w0n (by decide)]
      rfl
theorem b_ringer (hI : Inv m) (p q : Int32) : Bo cIAS (f_Loo_ringer p q m) (f_Mod_ringer p q) := by
  obtain ⟨t, T, N, hT, hX, hA, hB, hS⟩ := id hI
  obtain ⟨nR, PR, RE, BE, hv, hbv, hg, hg', hbe, hbe'⟩ := hB
  obtain ⟨f, rfl, hf⟩ := i3_abs (a := p)
  obtain ⟨r, rfl, hr⟩ := i3_abs (a := q)
  have h24 := hv.1
  have hm5 : ∀ m', f_Mod_isIn (i3 f) 0 5 m' = some (b3 (decide (0 ≤ f ∧ f ≤ 5))) := fun m' => mod_in (b := 0) (c := 5) hf ⟨by decide, by decide⟩ ⟨by decide, by decide⟩
  have hm6 : ∀ m', f_Mod_isIn (i3 r) 0 6 m' = some (b3 (decide (0 ≤ r ∧ r ≤ 6))) := fun m' => mod_in (b := 0) (c := 6) hr ⟨by decide, by decide⟩ ⟨by decide, by decide⟩
  by_cases c : 0 ≤ f ∧ f < 6
  · by_cases c2 : 0 ≤ r ∧ r ≤ 6
    · by_cases c3 : nR < 24
      · have hin : zIn (i3 (nR : Int)) 24 := (i3_in ⟨by omega, by omega⟩).mpr ⟨by omega, by omega⟩
        have hix : zIx (i3 (nR : Int)) = nR := by rw [i3_ix ⟨by omega, by omega⟩, Int.toNat_natCast]
        have hsub : ∀ x : Int, i3 (x + 1) - 1 = i3 x := fun x => by rw [show (1 : Int32) = i3 1 from rfl, i3_sub]; exact congrArg i3 (by omega)
        refine ⟨.inl (i3 nR), wI (wI (wI m 176 nR (i3 f)) 177 nR (i3 r)) 174 3 (i3 ((nR : Int) + 1)), ?_, fun m' hE => ?_⟩
        · have s3 : zI (wI m 176 nR (i3 f)) 174 3 = i3 nR := by rw [zI_ne (by decide), hg.1]
          have s4 : zI (wI (wI m 176 nR (i3 f)) 177 nR (i3 r)) 174 3 = i3 nR := by rw [zI_ne (by decide), s3]
          unfold f_Loo_ringer
          simp only [zLet]
          rw [loo_parish hf, if_pos c, zBXV_l, it_lt0 hr, if_neg (by omega), show (6 : Int32) = i3 6 from rfl, it_le hr ⟨by decide, by decide⟩, if_pos c2.2]
          unfold f_Bel_hire
          rw [hg.1, show (24 : Int32) = i3 24 from rfl, it_lt ⟨by omega, by omega⟩ ⟨by decide, by decide⟩, if_pos (by omega), if_pos hin, hix, zLet_eq, s3, if_pos hin, hix, zLet_eq, zLet_eq, s4, zI_eq, i3_add1, hsub, zBI_some, if_neg (show ¬ i3 (nR : Int) = -1 by rw [show (-1 : Int32) = i3 (-1) from rfl, i3_eq ⟨by omega, by omega⟩ ⟨by decide, by decide⟩]; omega)]
        · have fr : ∀ c : Nat → Nat → Bool, c 176 nR = false → c 177 nR = false → c 174 3 = false → c 201 0 = false → c 224 nR = false → c 225 nR = false → c 201 41 = false → SFc c m (wI (wI (wI (wI m' 201 0 0) 224 nR (i3 f)) 225 nR (i3 r)) 201 41 (i3 ((nR : Int) + 1))) := fun c h1 h2 h3 h4 h5 h6 h7 => ((((SFc.w h1).trans (SFc.w h2)).trans (SFc.w h3)).trans hE.c).trans ((((SFc.w h4).trans (SFc.w h5)).trans (SFc.w h6)).trans (SFc.w h7))
          have e41 : zI m' 201 41 = i3 nR := by rw [hE.zI, zI_ne (by decide), zI_ne (by decide), zI_ne (by decide), hg'.1]
          have f41 : zI (wI m' 201 0 0) 201 41 = i3 nR := by rw [zI_nk (by decide), e41]
          have g41 : zI (wI (wI m' 201 0 0) 224 nR (i3 f)) 201 41 = i3 nR := by rw [zI_ne (by decide), f41]
          have k41 : zI (wI (wI (wI m' 201 0 0) 224 nR (i3 f)) 225 nR (i3 r)) 201 41 = i3 nR := by rw [zI_ne (by decide), g41]
          refine ⟨i3 nR, wI (wI (wI (wI m' 201 0 0) 224 nR (i3 f)) 225 nR (i3 r)) 201 41 (i3 ((nR : Int) + 1)), ?_, ⟨t, T, N, hT.fc (fr cT rfl rfl rfl rfl rfl rfl rfl), hX.fc (fr cX rfl rfl rfl rfl rfl rfl rfl), hA.fc (fr cC rfl rfl rfl rfl rfl rfl rfl) (fr cR rfl rfl rfl rfl rfl rfl rfl), ⟨nR + 1, fun x => if x = nR then f else PR x, fun x => if x = nR then r else RE x, BE, ⟨by omega, fun x hx => ?_⟩, hbv, ⟨?_, fun k hk => ?_⟩, ⟨?_, fun k hk => ?_⟩, fun x hx => ?_, fun x hx => ?_⟩, hS.fc (fr cQ rfl rfl rfl rfl rfl rfl rfl) (fun b j hb => hE.2 b j hb) (Nat.le_refl N)⟩, fun j => rfl, ?_, rfl⟩
          · unfold f_Mod_ringer
            simp only [zLet]
            rw [hm5, zBP_some, decide_eq_true (by omega : 0 ≤ f ∧ f ≤ 5), if_neg (show ¬ b3 true = 0 by decide), hm6, zBP_some, decide_eq_true c2, if_neg (show ¬ b3 true = 0 by decide), e41, if_neg (show ¬ i3 (nR : Int) = 24 by rw [show (24 : Int32) = i3 24 from rfl, i3_eq ⟨by omega, by omega⟩ ⟨by decide, by decide⟩]; omega), w00, f41, if_pos hin, hix, g41, if_pos hin, hix, k41, i3_add1, zI_eq, hsub]
          · show (0 ≤ (if x = nR then f else PR x) ∧ (if x = nR then f else PR x) ≤ 5) ∧ 0 ≤ (if x = nR then r else RE x) ∧ (if x = nR then r else RE x) ≤ 6
            by_cases e : x = nR
            · rw [if_pos e, if_pos e]; omega
            · rw [if_neg e, if_neg e]; exact hv.2 x (by omega)
          · rw [zI_ne (by decide), zI_ne (by decide), zI_ne (by decide), zI_ne (by decide), hE.zI, zI_eq]
            rfl
          · show _ = i3 (if k = nR then f else PR k) ∧ _ = i3 (if k = nR then r else RE k)
            have a6 : zI (wI (wI (wI (wI m' 201 0 0) 224 nR (i3 f)) 225 nR (i3 r)) 201 41 (i3 ((nR : Int) + 1))) 176 k = zI (wI m 176 nR (i3 f)) 176 k := by rw [zI_ne (by decide), zI_ne (by decide), zI_ne (by decide), zI_ne (by decide), hE.zI, zI_ne (by decide), zI_ne (by decide)]
            have a7 : zI (wI (wI (wI (wI m' 201 0 0) 224 nR (i3 f)) 225 nR (i3 r)) 201 41 (i3 ((nR : Int) + 1))) 177 k = zI (wI (wI m 176 nR (i3 f)) 177 nR (i3 r)) 177 k := by rw [zI_ne (by decide), zI_ne (by decide), zI_ne (by decide), zI_ne (by decide), hE.zI, zI_ne (by decide)]
            rw [a6, a7]
            by_cases e : k = nR
            · rw [if_pos e, if_pos e, e, zI_eq, zI_eq]
              exact ⟨rfl, rfl⟩
            · rw [if_neg e, if_neg e, zI_nk e, zI_nk e, zI_ne (by decide)]
              exact hg.2 k (by omega)
          · rw [zI_eq]
            rfl
          · show _ = i3 (if k = nR then f else PR k) ∧ _ = i3 (if k = nR then r else RE k)
            have a4 : zI (wI (wI (wI (wI m' 201 0 0) 224 nR (i3 f)) 225 nR (i3 r)) 201 41 (i3 ((nR : Int) + 1))) 224 k = zI (wI (wI m' 201 0 0) 224 nR (i3 f)) 224 k := by rw [zI_ne (by decide), zI_ne (by decide)]
            have a5 : zI (wI (wI (wI (wI m' 201 0 0) 224 nR (i3 f)) 225 nR (i3 r)) 201 41 (i3 ((nR : Int) + 1))) 225 k = zI (wI (wI (wI m' 201 0 0) 224 nR (i3 f)) 225 nR (i3 r)) 225 k := by rw [zI_ne (by decide)]
            have z4 : ∀ b, b = 224 ∨ b = 225 → zI (wI m' 201 0 0) b k = zI m b k := by
              intro b hb
              rw [zI_ne (by omega), hE.zI, zI_ne (by omega), zI_ne (by omega), zI_ne (by omega)]
            rw [a4, a5]
            by_cases e : k = nR
            · rw [if_pos e, if_pos e, e, zI_eq, zI_eq]
              exact ⟨rfl, rfl⟩
            · rw [if_neg e, if_neg e, zI_nk e, z4 _ (Or.inl rfl), zI_nk e, zI_ne (by decide), z4 _ (Or.inr rfl)]
              exact hg'.2 k (by omega)
          · rw [zI_ne (by decide), zI_ne (by decide), zI_ne (by decide), zI_ne (by decide), hE.zI, zI_ne (by decide), zI_ne (by decide), zI_ne (by decide)]
            exact hbe x hx
          · rw [zI_ne (by decide), zI_ne (by decide), zI_ne (by decide), zI_ne (by decide), hE.zI, zI_ne (by decide), zI_ne (by decide), zI_ne (by decide)]
            exact hbe' x hx
          · rw [zI_nk (by decide), zI_ne (by decide), zI_ne (by decide), zI_eq]
      · have e24 : (nR : Int) = 24 := by omega
        refine Bo.thr (e := 1) hI ?_ (by decide) (fun m' hF => ?_)
        · unfold f_Loo_ringer
          simp only [zLet]
          rw [loo_parish hf, if_pos c, zBXV_l, it_lt0 hr, if_neg (by omega), show (6 : Int32) = i3 6 from rfl, it_le hr ⟨by decide, by decide⟩, if_pos c2.2]
          unfold f_Bel_hire
          rw [hg.1, e24, if_neg (by decide), zBI_some, if_pos rfl]
        · unfold f_Mod_ringer
          simp only [zLet]
          rw [hm5, zBP_some, decide_eq_true (by omega : 0 ≤ f ∧ f ≤ 5), if_neg (show ¬ b3 true = 0 by decide), hm6, zBP_some, decide_eq_true c2, if_neg (show ¬ b3 true = 0 by decide), hF.1 _ _ (by exact rfl), hg'.1, e24, if_pos (show i3 24 = 24 from rfl), w0n (by decide)]
          rfl
    · refine Bo.thr (e := 0) hI ?_ (by decide) (fun m' hF => ?_)
      · unfold f_Loo_ringer
        simp only [zLet]
        rw [loo_parish hf, if_pos c, zBXV_l, it_lt0 hr, show (6 : Int32) = i3 6 from rfl, it_le hr ⟨by decide, by decide⟩]
        by_cases c3 : r < 0
        · rw [if_pos c3]
        · rw [if_neg c3, if_neg (by omega)]
      · unfold f_Mod_ringer
        simp only [zLet]
        rw [hm5, zBP_some, decide_eq_true (by omega : 0 ≤ f ∧ f ≤ 5), if_neg (show ¬ b3 true = 0 by decide), hm6, zBP_some, decide_eq_false c2, if_pos (show b3 false = 0 by decide), w0n (by decide)]
        rfl
  · refine Bo.thr (e := 2) hI ?_ (by decide) (fun m' hF => ?_)
    · unfold f_Loo_ringer
      rw [loo_parish hf, if_neg c, zBXV_r]
    · unfold f_Mod_ringer
      simp only [zLet]
      rw [hm5, zBP_some, decide_eq_false (by omega : ¬ (0 ≤ f ∧ f ≤ 5)), if_pos (show b3 false = 0 by decide), w0n (by decide)]
      rfl
end SM3
