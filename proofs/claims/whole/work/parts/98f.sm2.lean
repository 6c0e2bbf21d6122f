/-! CALLS: a character, a rank, bells, a ringer -/
section SM2
variable {m : Mm}
theorem tx_add {m' : Mm} {q : Nat} {T : List Int} {v : Int} (h : TX m q T) (hv : 33 ≤ v ∧ v ≤ 126) (h40 : T.length < 40) (h1 : zI m' q 1 = i3 ((T.length + 1 : Nat) : Int)) (h2 : zI m' (q + 1) T.length = i3 v) (h3 : ∀ i, i < T.length → zI m' (q + 1) i = zI m (q + 1) i) : TX m' q (T ++ [v]) := by
  obtain ⟨a1, a2, a3, a4⟩ := h
  refine ⟨by simp; omega, by rw [h1]; simp, fun i hi => ?_, fun c hc => ?_⟩
  · by_cases e : i < T.length
    · rw [h3 i e, a3 i e]
      congr 1
      simp [List.getD, List.getElem?_append_left e]
    · obtain rfl : i = T.length := by simp at hi; omega
      rw [h2]
      congr 1
      simp [List.getD]
  · rw [List.mem_append, List.mem_singleton] at hc
    rcases hc with hc | hc
    · exact a4 c hc
    · omega
theorem mt_add {m' : Mm} {T : List Int} {v : Int} (h : MT m T) (hv : 33 ≤ v ∧ v ≤ 126) (h40 : T.length < 40) (h1 : zI m' 201 3 = i3 ((T.length + 1 : Nat) : Int)) (h2 : zI m' 202 T.length = i3 v) (h3 : ∀ i, i < T.length → zI m' 202 i = zI m 202 i) : MT m' (T ++ [v]) := by
  obtain ⟨a1, a2, a3, a4⟩ := h
  refine ⟨by simp; omega, by rw [h1]; simp, fun i hi => ?_, fun c hc => ?_⟩
  · by_cases e : i < T.length
    · rw [h3 i e, a3 i e]
      congr 1
      simp [List.getD, List.getElem?_append_left e]
    · obtain rfl : i = T.length := by simp at hi; omega
      rw [h2]
      congr 1
      simp [List.getD]
  · rw [List.mem_append, List.mem_singleton] at hc
    rcases hc with hc | hc
    · exact a4 c hc
    · omega
theorem b_type (hI : Inv m) (p : Int32) : Bo cAS (f_Loo_type p m) (f_Mod_type p) := by
  obtain ⟨t, T, N, hT, hX, hA, hB, hS⟩ := id hI
  obtain ⟨v, rfl, hv⟩ := i3_abs (a := p)
  have hm : ∀ m', f_Mod_isIn (i3 v) 33 126 m' = some (b3 (decide (33 ≤ v ∧ v ≤ 126))) := fun m' => mod_in (b := 33) (c := 126) hv ⟨by decide, by decide⟩ ⟨by decide, by decide⟩
  obtain ⟨hTX, hMT, h3, ⟨vv, hvv⟩, dg, nu, dn, r0, r1, r2, r3⟩ := id hX
  have h40 := hTX.1
  have ecl : f_Loo_type (i3 v) m = if v < 33 then some (.inr 0, m) else if v ≤ 126 then (zBI (f_Txt_append 17 (i3 v) m) fun v5 m4 => if v5 = 0 then some (.inr 1, m4) else zBP (f_Txt_length 17 m4) fun v7 => some (.inl v7, m4)) else some (.inr 0, m) := by
    unfold f_Loo_type
    simp only [zLet]
    rw [show (33 : Int32) = i3 33 from rfl, it_lt hv ⟨by decide, by decide⟩, show (126 : Int32) = i3 126 from rfl, it_le hv ⟨by decide, by decide⟩]
  by_cases c : 33 ≤ v ∧ v ≤ 126
  · have hch : zCh (i3 v) := (i3_ch hv).mpr ⟨by omega, by omega⟩
    by_cases c2 : T.length < 40
    · have hin : zIn (i3 (T.length : Int)) 40 := (i3_in ⟨by omega, by omega⟩).mpr ⟨by omega, by omega⟩
      have hix : zIx (i3 (T.length : Int)) = T.length := by rw [i3_ix ⟨by omega, by omega⟩, Int.toNat_natCast]
      refine ⟨.inl (i3 ((T.length + 1 : Nat) : Int)), wI (wI m 18 T.length (i3 v)) 17 1 (i3 ((T.length + 1 : Nat) : Int)), ?_, fun m' hE => ?_⟩
      · rw [ecl, if_neg (by omega), if_pos c.2]
        unfold f_Txt_append
        rw [hTX.2.1, show (40 : Int32) = i3 40 from rfl, it_lt ⟨by omega, by omega⟩ ⟨by decide, by decide⟩, if_pos (by omega), if_pos hch, if_pos hin, hix, zLet_eq, zLet_eq, zI_ne (by decide), hTX.2.1, zBI_some, if_neg (by decide)]
        unfold f_Txt_length
        rw [zBP_some, zI_eq, i3_add1]
        rfl
      · have fr : ∀ c : Nat → Nat → Bool, c 18 T.length = false → c 17 1 = false → c 201 0 = false → c 202 T.length = false → c 201 3 = false → SFc c m (wI (wI (wI m' 201 0 0) 202 T.length (i3 v)) 201 3 (i3 ((T.length + 1 : Nat) : Int))) := fun c q1 q2 q3 q4 q5 => (((SFc.w q1).trans (SFc.w q2)).trans hE.c).trans ((SFc.w q3).trans ((SFc.w q4).trans (SFc.w q5)))
        have ez : ∀ b j, (b ≠ 17 ∨ j ≠ 1) → b ≠ 18 → b ≠ 202 → (b ≠ 201 ∨ (j ≠ 0 ∧ j ≠ 3)) → zI (wI (wI (wI m' 201 0 0) 202 T.length (i3 v)) 201 3 (i3 ((T.length + 1 : Nat) : Int))) b j = zI m b j := by
          intro b j g1 g2 g3 g4
          have s1 : zI (wI (wI m 18 T.length (i3 v)) 17 1 (i3 ((T.length + 1 : Nat) : Int))) b j = zI m b j := by
            by_cases e : b = 17
            · subst e
              rw [zI_nk (by omega), zI_ne (by omega)]
            · rw [zI_ne e, zI_ne g2]
          rw [← s1, ← hE.zI]
          by_cases e : b = 201
          · subst e
            rw [zI_nk (by omega), zI_ne (by omega), zI_nk (by omega)]
          · rw [zI_ne e, zI_ne g3, zI_ne e]
        have ml : zI m' 201 3 = i3 T.length := by rw [hE.zI, zI_ne (by decide), zI_ne (by decide), hMT.2.1]
        have e0 : zI (wI m' 201 0 0) 201 3 = i3 T.length := by rw [zI_nk (by decide), ml]
        have el : zI (wI (wI m' 201 0 0) 202 T.length (i3 v)) 201 3 = i3 T.length := by rw [zI_ne (by decide), e0]
        refine ⟨i3 ((T.length + 1 : Nat) : Int), wI (wI (wI m' 201 0 0) 202 T.length (i3 v)) 201 3 (i3 ((T.length + 1 : Nat) : Int)), ?_, ⟨t, T ++ [v], N, hT.fc (fr cT rfl rfl rfl rfl rfl), ⟨tx_add hTX c c2 ?_ ?_ (fun i hi => ?_), mt_add hMT c c2 zI_eq ?_ (fun i hi => ?_), fun i hi => ?_, ⟨vv, ?_⟩, dg, nu, dn, r0, ?_, ?_, ?_⟩, hA.fc (fr cC rfl rfl rfl rfl rfl) (fr cR rfl rfl rfl rfl rfl), hB.fc (fr cB rfl rfl rfl rfl rfl), hS.fc (fr cQ rfl rfl rfl rfl rfl) (fun b j hb => hE.2 b j hb) (Nat.le_refl N)⟩, fun j => rfl, ?_, rfl⟩
        · unfold f_Mod_type
          simp only [zLet]
          rw [hm, zBP_some, decide_eq_true c, if_neg (show ¬ b3 true = 0 by decide), ml, if_neg (show ¬ i3 (T.length : Int) = 40 by rw [show (40 : Int32) = i3 40 from rfl, i3_eq ⟨by omega, by omega⟩ ⟨by decide, by decide⟩]; omega), w00, if_pos hch, e0, if_pos hin, hix, zI_eq, el, i3_add1]
          rfl
        · rw [zI_ne (by decide), zI_ne (by decide), zI_ne (by decide), hE.zI, zI_eq]
        · rw [zI_ne (by decide), zI_ne (by decide), zI_ne (by decide), hE.zI, zI_ne (by decide), zI_eq]
        · rw [zI_ne (by decide), zI_ne (by decide), zI_ne (by decide), hE.zI, zI_ne (by decide), zI_nk (by omega)]
        · rw [zI_ne (by decide), zI_eq]
        · rw [zI_ne (by decide), zI_nk (by omega), zI_ne (by decide), hE.zI, zI_ne (by decide), zI_ne (by decide)]
        · rw [zI_ne (by decide), zI_ne (by decide), zI_ne (by decide), hE.zI, zI_ne (by decide)]
          by_cases e : i = T.length
          · rw [e, zI_eq]
            exact hch
          · rw [zI_nk e]
            exact h3 i hi
        · rw [ez _ _ (by decide) (by decide) (by decide) (by decide)]; exact hvv
        · rw [ez _ _ (by decide) (by decide) (by decide) (by decide)]; exact r1
        · rw [ez _ _ (by decide) (by decide) (by decide) (by decide)]; exact r2
        · rw [ez _ _ (by decide) (by decide) (by decide) (by decide)]; exact r3
        · rw [zI_nk (by decide), zI_ne (by decide), zI_eq]
    · have e40 : (T.length : Int) = 40 := by omega
      refine Bo.thr (e := 1) hI ?_ (by decide) (fun m' hF => ?_)
      · rw [ecl, if_neg (by omega), if_pos c.2]
        unfold f_Txt_append
        rw [hTX.2.1, e40, if_neg (by decide), zBI_some, if_pos rfl]
      · have hX' := hX.fx hF
        unfold f_Mod_type
        simp only [zLet]
        rw [hm, zBP_some, decide_eq_true c, if_neg (show ¬ b3 true = 0 by decide), hX'.2.1.2.1, e40, if_pos (show i3 40 = 40 from rfl), w0n (by decide)]
        rfl
  · refine Bo.thr (e := 0) hI ?_ (by decide) (fun m' hF => ?_)
    · rw [ecl]
      by_cases c3 : v < 33
      · rw [if_pos c3]
      · rw [if_neg c3, if_neg (by omega)]
    · unfold f_Mod_type
      simp only [zLet]
      rw [hm, zBP_some, decide_eq_false c, if_pos (show b3 false = 0 by decide), w0n (by decide)]
      rfl
theorem c_set {N nb f : Nat} {r : Int} {b : Bool} {F Y E : Nat → Int} {Kc Ac : Nat → Nat → Int} {Lc o : Nat → Nat} {R : Nat → Int} {mv : Nat → Bool} {Tx : Nat → List Int} (hN : N ≤ 20) (h : iC m N Kc Ac Lc o R mv F Y E nb Tx) : iC (wI (wI m (32 + 6 * f) 2 (i3 r)) (32 + 6 * f) 3 (b3 b)) N Kc Ac Lc o (fun g => if g = f then r else R g) (fun g => if g = f then b else mv g) F Y E nb Tx := by
  obtain ⟨⟨h1, h2⟩, h3, h4, ⟨h5, h6⟩, h7, h8⟩ := h
  have ne : ∀ c j, c ≠ 32 + 6 * f → zI (wI (wI m (32 + 6 * f) 2 (i3 r)) (32 + 6 * f) 3 (b3 b)) c j = zI m c j := fun c j hc => by rw [zI_ne hc, zI_ne hc]
  refine ⟨⟨?_, fun g hg => ((h2 g hg).ne (by omega)).ne (by omega)⟩, fun i hi => ?_, fun g hg => ?_, ⟨?_, fun i hi => ⟨?_, ?_, ?_⟩⟩, fun g hg => ?_, fun g hg => ?_⟩
  · rw [ne _ _ (by omega)]; exact h1
  · rw [ne _ _ (by omega)]; exact h3 i hi
  · show _ = i3 (if g = f then r else R g) ∧ _ = b3 (if g = f then b else mv g)
    by_cases e : g = f
    · subst e
      rw [if_pos rfl, if_pos rfl, zI_nk (by decide), zI_eq, zI_eq]
      exact ⟨rfl, rfl⟩
    · rw [if_neg e, if_neg e, ne _ _ (by omega), ne _ _ (by omega)]
      exact h4 g hg
  · rw [ne _ _ (by omega)]; exact h5
  · rw [ne _ _ (by omega)]; exact (h6 i hi).1
  · rw [ne _ _ (by omega)]; exact (h6 i hi).2.1
  · rw [ne _ _ (by omega)]; exact (h6 i hi).2.2
  · obtain ⟨a1, a2, a3, a4⟩ := h7 g hg
    refine ⟨a1, ?_, fun i hi => ?_, a4⟩
    · rw [ne _ _ (by omega)]; exact a2
    · rw [ne _ _ (by omega)]; exact a3 i hi
  · rw [ne _ _ (by omega)]; exact h8 g hg
theorem r_set {N nb f : Nat} {r : Int} {b : Bool} {F Y E : Nat → Int} {Kc Ac : Nat → Nat → Int} {Lc : Nat → Nat} {R : Nat → Int} {mv : Nat → Bool} (h : iR m N Kc Ac Lc R mv F Y E nb) : iR (wI (wI m 208 f (i3 r)) 209 f (b3 b)) N Kc Ac Lc (fun g => if g = f then r else R g) (fun g => if g = f then b else mv g) F Y E nb := by
  obtain ⟨⟨h1, h2⟩, h3, h4, h5⟩ := h
  have ne : ∀ c j, c ≠ 208 → c ≠ 209 → zI (wI (wI m 208 f (i3 r)) 209 f (b3 b)) c j = zI m c j := fun c j hc hd => by rw [zI_ne hd, zI_ne hc]
  refine ⟨⟨?_, fun g hg => ⟨?_, fun i hi => ⟨?_, ?_⟩⟩⟩, fun g hg => ?_, ?_, fun i hi => ⟨?_, ?_, ?_⟩⟩
  · rw [ne _ _ (by decide) (by decide)]; exact h1
  · rw [ne _ _ (by decide) (by decide)]; exact (h2 g hg).1
  · rw [ne _ _ (by decide) (by decide)]; exact ((h2 g hg).2 i hi).1
  · rw [ne _ _ (by decide) (by decide)]; exact ((h2 g hg).2 i hi).2
  · show _ = i3 (if g = f then r else R g) ∧ _ = b3 (if g = f then b else mv g)
    by_cases e : g = f
    · subst e
      rw [if_pos rfl, if_pos rfl, zI_ne (by decide), zI_eq, zI_eq]
      exact ⟨rfl, rfl⟩
    · rw [if_neg e, if_neg e, zI_ne (by decide), zI_nk e, zI_nk e, zI_ne (by decide)]
      exact h3 g hg
  · rw [ne _ _ (by decide) (by decide)]; exact h4
  · rw [ne _ _ (by decide) (by decide)]; exact (h5 i hi).1
  · rw [ne _ _ (by decide) (by decide)]; exact (h5 i hi).2.1
  · rw [ne _ _ (by decide) (by decide)]; exact (h5 i hi).2.2
theorem b_rank (hI : Inv m) (p q : Int32) (b : Bool) : Bo cIA (f_Loo_rank p q (b3 b) m) (f_Mod_rank p q (b3 b)) := by
  obtain ⟨t, T, N, hT, hX, hA, hB, hS⟩ := id hI
  obtain ⟨h19, h25, h20⟩ := hA.n19
  obtain ⟨Kc, Ac, Lc, rk, o, R, mv, F, Y, E, nb, Tx, hW, hC, hR⟩ := id hA
  obtain ⟨f, rfl, hf⟩ := i3_abs (a := p)
  obtain ⟨r, rfl, hr⟩ := i3_abs (a := q)
  have k19 : ∀ m', SF m m' → zI m' 201 19 = i3 N := fun m' hF => by rw [hF.1 _ _ (by exact rfl), h19]
  have hm : ∀ m', f_Mod_isIn (i3 r) 0 9 m' = some (b3 (decide (0 ≤ r ∧ r ≤ 9))) := fun m' => mod_in (b := 0) (c := 9) hr ⟨by decide, by decide⟩ ⟨by decide, by decide⟩
  by_cases c : 0 ≤ f ∧ f < N
  · obtain ⟨g, rfl⟩ : ∃ g : Nat, f = g := ⟨f.toNat, by omega⟩
    have hg : g < N := by omega
    obtain ⟨hin, hix⟩ := fi20 (show g < 20 by omega)
    by_cases c2 : 0 ≤ r ∧ r < 10
    · refine ⟨.inl (i3 (R g)), wI (wI m (32 + 6 * g) 2 (i3 r)) (32 + 6 * g) 3 (b3 b), ?_, fun m' hE => ?_⟩
      · unfold f_Loo_rank
        rw [loo_feast h20 h25 hf, if_pos c, zBXV_l, loo_rank hr, if_pos c2, zBXV_l]
        unfold f_Alm_rankOf f_Alm_setRank
        rw [if_pos hin, hix, zBP_some, (hC.2.2.1 g hg).1, if_pos hin, zLet_eq, if_pos hin, if_pos (b3_bo b), zLet_eq, zBV_some]
      · have lo2 := lo_x (b := 32 + 6 * g) (j := 2) ⟨by omega, by omega⟩
        have lo3 := lo_x (b := 32 + 6 * g) (j := 3) ⟨by omega, by omega⟩
        have fr : ∀ c : Nat → Nat → Bool, c (32 + 6 * g) 2 = false → c (32 + 6 * g) 3 = false → c 201 0 = false → c 208 g = false → c 209 g = false → SFc c m (wI (wI (wI m' 201 0 0) 208 g (i3 r)) 209 g (b3 b)) := fun c q1 q2 q3 q4 q5 => (((SFc.w q1).trans (SFc.w q2)).trans hE.c).trans ((SFc.w q3).trans ((SFc.w q4).trans (SFc.w q5)))
        have hR0 : iR (wI m' 201 0 0) N Kc Ac Lc R mv F Y E nb := hR.fc ((((SFc.w lo2.2.2.1).trans (SFc.w lo3.2.2.1)).trans hE.c).trans (SFc.w rfl))
        obtain ⟨w1, w2, w3, w4, w5, w6, w7⟩ := hW
        refine ⟨i3 (R g), wI (wI (wI m' 201 0 0) 208 g (i3 r)) 209 g (b3 b), ?_, ⟨t, T, N, hT.fc (fr cT lo2.1 lo3.1 rfl rfl rfl), hX.fc (fr cX lo2.2.1 lo3.2.1 rfl rfl rfl), ⟨Kc, Ac, Lc, rk, o, _, _, F, Y, E, nb, Tx, ⟨w1, w2, w3, fun f' hf' => ?_, w5, w6, w7⟩, (c_set h20 hC).fc h20 (hE.c.trans ((SFc.w rfl).trans ((SFc.w rfl).trans (SFc.w rfl)))), r_set hR0⟩, hB.fc (fr cB lo2.2.2.2.1 lo3.2.2.2.1 rfl rfl rfl), hS.fc (fr cQ lo2.2.2.2.2 lo3.2.2.2.2 rfl rfl rfl) (fun b j hb => hE.2 b j hb) (Nat.le_refl N)⟩, fun j => rfl, ?_, rfl⟩
        · unfold f_Mod_rank
          simp only [zLet]
          have k19' : zI m' 201 19 = i3 N := by rw [hE.zI, zI_ne (by omega), zI_ne (by omega), h19]
          rw [mod_isFeast h20 k19' hf, zBP_some, decide_eq_true c, if_neg (show ¬ b3 true = 0 by decide), hm, zBP_some, decide_eq_true (by omega : 0 ≤ r ∧ r ≤ 9), if_neg (show ¬ b3 true = 0 by decide), w00, if_pos hin, if_pos hin, if_pos (b3_bo b), if_pos hin, hix, (hR0.2.1 g hg).1]
        · show 0 ≤ (if f' = g then r else R f') ∧ (if f' = g then r else R f') ≤ 9
          split
          · omega
          · exact w4 f' hf'
        · rw [zI_ne (by decide), zI_ne (by decide), zI_eq]
    · refine Bo.thr (e := 0) hI ?_ (by decide) (fun m' hF => ?_)
      · unfold f_Loo_rank
        rw [loo_feast h20 h25 hf, if_pos c, zBXV_l, loo_rank hr, if_neg c2, zBXV_r]
      · unfold f_Mod_rank
        simp only [zLet]
        rw [mod_isFeast h20 (k19 m' hF) hf, zBP_some, decide_eq_true c, if_neg (show ¬ b3 true = 0 by decide), hm, zBP_some, decide_eq_false (by omega : ¬ (0 ≤ r ∧ r ≤ 9)), if_pos (show b3 false = 0 by decide), w0n (by decide)]
        rfl
  · refine Bo.thr (e := 2) hI ?_ (by decide) (fun m' hF => ?_)
    · unfold f_Loo_rank
      rw [loo_feast h20 h25 hf, if_neg c, zBXV_r]
    · unfold f_Mod_rank
      simp only [zLet]
      rw [mod_isFeast h20 (k19 m' hF) hf, zBP_some, decide_eq_false c, if_pos (show b3 false = 0 by decide), w0n (by decide)]
      rfl
end SM2
