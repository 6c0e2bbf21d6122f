section FE2
variable {m : Mm}
theorem b_feast (hI : Inv m) (p : Int32) (b : Bool) : Bo cAS (f_Loo_feast p (b3 b) m) (f_Mod_feast p (b3 b)) := by
  obtain ⟨t, T, N, hT, hX, hA, hB, hS⟩ := id hI
  obtain ⟨h19, h25, h20⟩ := hA.n19
  obtain ⟨Kc, Ac, Lc, rk, o, R, mv, F, Y, E, nb, Tx, ⟨w1, w2, w3, w4, w5, w6, w7⟩, hC, hR⟩ := id hA
  obtain ⟨r, rfl, hr⟩ := i3_abs (a := p)
  have hm : ∀ m', f_Mod_isIn (i3 r) 0 9 m' = some (b3 (decide (0 ≤ r ∧ r ≤ 9))) := fun m' => mod_in (b := 0) (c := 9) hr ⟨by decide, by decide⟩ ⟨by decide, by decide⟩
  by_cases c1 : 0 ≤ r ∧ r < 10
  rotate_left
  · refine Bo.thr (e := 0) hI ?_ (by decide) (fun m' hF => ?_)
    · unfold f_Loo_feast
      rw [loo_rank hr, if_neg c1, zBXV_r]
    · unfold f_Mod_feast
      rw [hm, zBP_some, zLet_eq, zLet_eq, decide_eq_false (by omega : ¬ (0 ≤ r ∧ r ≤ 9)), if_pos (show b3 false = 0 by decide)]
      dsimp only
      rw [zLet_eq, w0n (by decide)]
      rfl
  rcases cls_rule hX with ⟨q, m1, ep, e1, hF1, hne⟩ | ⟨C, m1, ep, e1, hF1, k2, k3, hCA⟩
  · refine Bo.rth (e := 0) hI hF1 ?_ (by decide) (fun m' hE => ?_)
    · unfold f_Loo_feast
      rw [loo_rank hr, if_pos c1, zBXV_l, e1, zBI_some, if_neg hne]
    · have hX1 := (hX.rc hF1 (RdC.rb hX.2.2.2.2 hF1)).fc (m' := m') hE.c
      obtain ⟨M, e2, hRR, hRB⟩ := (mod_rule hX1.2.1 hX1.2.2.2.2).1 q ep
      refine ⟨M, wI M 201 0 (i3 1), ?_, hRR, hRB, fun b j h => w0_ne b j h, rfl, zI_eq⟩
      unfold f_Mod_feast
      rw [hm, zBP_some, zLet_eq, zLet_eq, decide_eq_true (by omega : 0 ≤ r ∧ r ≤ 9), if_neg (show ¬ b3 true = 0 by decide), e2, zBI_some, if_neg hne]
      dsimp only
      rw [zLet_eq, w0n (by decide)]
      rfl
  obtain ⟨hvL, hCT⟩ := v_rule hX.1.1 ep
  have hT40 := hX.1.1
  have h40 : C.length ≤ 40 := by omega
  have f25 : zI m1 25 3 = i3 N := by rw [hF1.1 _ _ (by decide), h25]
  have hin := i_names (m := m1) f25 h20 k3 hvL h40
  -- the reference reads as well
  have ref : ∀ m', EQ m1 m' → ∃ M, f_Mod_reads 0 m' = some (-1, M) ∧ RdR m' M ∧ RB M ∧ zI M 201 11 = i3 C.length ∧ ∀ i, i < C.length → zI M 206 i = i3 (C.getD i (0, 0)).1 ∧ zI M 207 i = i3 (C.getD i (0, 0)).2 := fun m' hE => by
    have hX1 := (hX.rc hF1 (RdC.rb hX.2.2.2.2 hF1)).fc (m' := m') hE.c
    exact (mod_rule hX1.2.1 hX1.2.2.2.2).2 C ep
  have m19 : ∀ m' M, EQ m1 m' → RdR m' M → zI M 201 19 = i3 N := fun m' M hE hRR => by rw [hRR.1 _ _ (by decide), hE.zI, hF1.1 _ _ (by decide), h19]
  by_cases c2 : N < 20
  rotate_left
  · have hN : N = 20 := by omega
    refine Bo.rth (e := 1) hI hF1 ?_ (by decide) (fun m' hE => ?_)
    · unfold f_Loo_feast
      rw [loo_rank hr, if_pos c1, zBXV_l, e1, zBI_some, if_pos rfl]
      unfold f_Alm_isFull
      rw [f25, hN, if_neg (by decide), zBP_some, if_neg (by decide)]
    · obtain ⟨M, e2, hRR, hRB, -⟩ := ref m' hE
      refine ⟨M, wI M 201 0 (i3 2), ?_, hRR, hRB, fun b j h => w0_ne b j h, rfl, zI_eq⟩
      unfold f_Mod_feast
      rw [hm, zBP_some, zLet_eq, zLet_eq, decide_eq_true (by omega : 0 ≤ r ∧ r ≤ 9), if_neg (show ¬ b3 true = 0 by decide), e2, zBI_some, if_pos rfl, zLet_eq, m19 m' M hE hRR, hN, if_pos (show i3 ((20 : Nat) : Int) = 20 from rfl)]
      dsimp only
      rw [zLet_eq, w0n (by decide)]
      rfl
  have hnf : ∀ {α : Type} {x y : α}, (if i3 (N : Int) = 20 then x else y) = y := fun {α x y} => if_neg (show ¬ i3 (N : Int) = 20 by rw [show (20 : Int32) = i3 20 from rfl, i3_eq ⟨by omega, by omega⟩ ⟨by decide, by decide⟩]; omega)
  have hfull : f_Alm_isFull m1 = some 0 := by
    unfold f_Alm_isFull
    rw [f25, show (20 : Int32) = i3 20 from rfl, it_lt ⟨by omega, by omega⟩ ⟨by decide, by decide⟩, if_pos (by omega)]
  by_cases c3 : ∀ i, i < C.length → ((C.getD i (0, 0)).1 = 4 ∨ (C.getD i (0, 0)).1 = 15) → (C.getD i (0, 0)).2 < N
  rotate_left
  · rw [if_neg c3] at hin
    refine Bo.rth (e := 1) hI hF1 ?_ (by decide) (fun m' hE => ?_)
    · unfold f_Loo_feast
      rw [loo_rank hr, if_pos c1, zBXV_l, e1, zBI_some, if_pos rfl, hfull, zBP_some, if_pos rfl, hin, zBXV_r]
    · obtain ⟨M, e2, hRR, hRB, k11, hMA⟩ := ref m' hE
      obtain ⟨x, ex, hx⟩ := r_names (m19 m' M hE hRR) h20 k11 hMA hvL h40
      have hx0 : x = false := by
        cases x with
        | false => rfl
        | true => exact absurd (hx.mp rfl) c3
      refine ⟨M, wI M 201 0 (i3 2), ?_, hRR, hRB, fun b j h => w0_ne b j h, rfl, zI_eq⟩
      unfold f_Mod_feast
      rw [hm, zBP_some, zLet_eq, zLet_eq, decide_eq_true (by omega : 0 ≤ r ∧ r ≤ 9), if_neg (show ¬ b3 true = 0 by decide), e2, zBI_some, if_pos rfl, zLet_eq, m19 m' M hE hRR, hnf, ex, zBP_some, hx0, if_pos (show b3 false = 0 by decide)]
      dsimp only
      rw [zLet_eq, w0n (by decide)]
      rfl
  rw [if_pos c3] at hin
  obtain ⟨hinN, hixN⟩ := fi20 c2
  have hX1 := hX.rc hF1 (RdC.rb hX.2.2.2.2 hF1)
  obtain ⟨mA, m2, a1, a2, f22, f2, t2, d2, n2⟩ := c_copy (m := m1) (p := N) c2 hX1.1 hX1.2.2.1 k2 h40 hCA
  have hC1 : iC m1 N Kc Ac Lc o R mv F Y E nb Tx := hC.fc h20 (hF1.c cC_s rfl)
  generalize hmE : wI (wI (wI (wI m2 27 N (i3 N)) 25 3 (i3 ((N + 1 : Nat) : Int))) (32 + 6 * N) 2 (i3 r)) (32 + 6 * N) 3 (b3 b) = mE
  have hCE : iC mE (N + 1) (uK Kc N C) (uA Ac N C) (uL Lc N C.length) (fun i => if i = N then N else o i) (fun g => if g = N then r else R g) (fun g => if g = N then b else mv g) F Y E nb (uT Tx N T) := by rw [← hmE]; exact c_new c2 hC1 hvL h40 k3 f2 t2 d2 n2
  have lowE : ∀ b j, ¬ (25 ≤ b ∧ b ≤ 151) → (b ≠ 17 ∨ j ≠ 1) → zI (wI mE 17 1 0) b j = zI m1 b j := by
    intro b' j q1 q2
    have s1 : zI mE b' j = zI m1 b' j := by rw [← hmE, zI_ne (by omega), zI_ne (by omega), zI_ne (by omega), zI_ne (by omega), f2 b' j (by omega)]
    by_cases e : b' = 17
    · subst e
      rw [zI_nk (by omega), s1]
    · rw [zI_ne e, s1]
  refine ⟨.inl (i3 N), wI mE 17 1 0, ?_, fun m' hE => ?_⟩
  · unfold f_Loo_feast
    rw [loo_rank hr, if_pos c1, zBXV_l, e1, zBI_some, if_pos rfl, hfull, zBP_some, if_pos rfl, hin, zBXV_l]
    have zq : ∀ (K : Nat → Option ((Int32 ⊕ Nat) × Mm)), zBQ 3 (f_Par_code m1) K = K 20 := fun K => by
      show (if zT 20 = 3 then K 20 else none) = K 20
      exact if_pos (by decide)
    rw [zq]
    unfold f_Alm_add
    have g25 : zI (wI m2 27 N (i3 N)) 25 3 = i3 N := by rw [zI_ne (by decide), f2 _ _ (by omega), f25]
    rw [zLet_eq, f25, if_pos hinN, hixN, a1, zBV_some, if_pos hinN, a2, zBV_some, if_pos hinN, zLet_eq, zLet_eq, g25, i3_add1, zBI_some]
    unfold f_Alm_setRank
    rw [if_pos hinN, hixN, zLet_eq, if_pos hinN, if_pos (b3_bo b), zLet_eq, zBV_some]
    unfold f_Txt_clear
    rw [zLet_eq, zBV_some]
    rw [← hmE]
    rfl
  · have mMT : MT m' T := by
      obtain ⟨q1, q2, q3, q4⟩ := hX1.2.1
      exact ⟨q1, by rw [hE.zI, lowE _ _ (by decide) (by decide)]; exact q2, fun i hi => by rw [hE.zI, lowE _ _ (by decide) (Or.inl (by decide))]; exact q3 i hi, q4⟩
    have mRB : RB m' := hX1.2.2.2.2.c fun j _ => by rw [hE.zI, lowE _ _ (by decide) (Or.inl (by decide))]
    obtain ⟨M, e2, hRR, hRB, k11, hMA⟩ := (mod_rule mMT mRB).2 C ep
    have M19 : zI M 201 19 = i3 N := by rw [hRR.1 _ _ (by decide), hE.zI, lowE _ _ (by decide) (Or.inl (by decide)), hF1.1 _ _ (by decide), h19]
    obtain ⟨x, ex, hx⟩ := r_names M19 h20 k11 hMA hvL h40
    have hx1 : x = true := hx.mpr c3
    have hRM : iR M N Kc Ac Lc R mv F Y E nb := hR.fc (((hF1.c cR_s rfl).trans (fun b j q => lowE b j (fun e => by rw [(lo_x e).2.2.1] at q; exact nomatch q) (by
      by_cases e : b = 17
      · subst e; exact nomatch q
      · exact Or.inl e))).trans (hE.c.trans (hRR.c cR_s rfl rfl rfl)))
    obtain ⟨mK, e3, hFK, kl, kn, kk⟩ := mod_keeps (m := wI M 201 0 0) c2 h40 (by rw [zI_nk (by decide), k11])
    have K19 : zI mK 201 19 = i3 N := by rw [hFK.2.2.1 _ (by decide), zI_nk (by decide), M19]
    generalize hV : wI (wI (wI mK 208 N (i3 r)) 209 N (b3 b)) 201 19 (i3 ((N + 1 : Nat) : Int)) = V
    have hVR : iR V (N + 1) (uK Kc N C) (uA Ac N C) (uL Lc N C.length) (fun g => if g = N then r else R g) (fun g => if g = N then b else mv g) F Y E nb := by
      rw [← hV]
      exact r_new c2 hRM hMA hFK kn (fun i hi => by
        obtain ⟨q1, q2⟩ := kk i hi
        rw [q1, q2, zI_ne (by decide), zI_ne (by decide)]
        exact ⟨rfl, rfl⟩) (fun f hf => (w1.2 f hf).1)
    have vM : ∀ b j, ¬ ((208 ≤ b ∧ b ≤ 215) ∨ (b = 201 ∧ (j = 0 ∨ j = 3 ∨ j = 19 ∨ j = 25))) → zI V b j = zI M b j := by
      intro b' j q
      have s1 : zI V b' j = zI mK b' j := by
        rw [← hV]
        by_cases e : b' = 201
        · subst e
          rw [zI_nk (by omega), zI_ne (by decide), zI_ne (by decide)]
        · rw [zI_ne e, zI_ne (by omega), zI_ne (by omega)]
      rw [s1]
      by_cases e : b' = 201
      · subst e
        rw [hFK.2.2.1 _ (by omega), zI_nk (by omega)]
      · rw [hFK.2.1 _ _ e (by omega) (by omega) (by omega), zI_ne e]
    obtain ⟨fT, fB, fQ⟩ := i_keep hF1 lowE hE hRR vM
    have hv2 : V.2 = M.2 := by rw [← hV]; exact hFK.1
    obtain ⟨⟨a1', a2', a3', a4'⟩, -, hch, -⟩ := hX1
    refine ⟨i3 N, V, ?_, ⟨t, [], N + 1, hT.fc fT, ⟨⟨by decide, ?_, fun i hi => absurd hi (Nat.not_lt_zero i), fun c hc => absurd hc List.not_mem_nil⟩, ⟨by decide, ?_, fun i hi => absurd hi (Nat.not_lt_zero i), fun c hc => absurd hc List.not_mem_nil⟩, fun i hi => ?_, ⟨(zI V 19 3).toInt, (i3_of _).symm⟩, hRB.c fun j hj => vM _ _ (by omega)⟩, ⟨uK Kc N C, uA Ac N C, uL Lc N C.length, fun f => if f = N then N else rk f, _, _, _, F, Y, E, nb, uT Tx N T, ⟨w1.up (by omega) (by omega) (fun f h1 h2 => by omega) hvL h40 (fun i hi hk => by have := c3 i hi hk; omega), fun f hf => ?_, vO_add w3 (fun f hf g hg => (Nm_ne (by omega)).mp hg) (fun g hg => ?_), fun g hg => ?_, w5, w6, w7.up (fun f h1 h2 => by omega) ep⟩, hCE.fc (by omega) (SFc.trans (SFc.w rfl) (hE.c.trans ((hRR.c cC_s rfl rfl rfl).trans (SFc.hi vM (fun b j e => (hi_x e).2.2.1) rfl)))), hVR⟩, hB.fc fB, hS.fc fQ (fun b j hb => ?_) (by omega)⟩, fun j => ?_, ?_, rfl⟩
    · unfold f_Mod_feast
      rw [hm, zBP_some, zLet_eq, zLet_eq, decide_eq_true (by omega : 0 ≤ r ∧ r ≤ 9), if_neg (show ¬ b3 true = 0 by decide), e2, zBI_some, if_pos rfl, zLet_eq, M19, hnf, ex, zBP_some, hx1, if_neg (show ¬ b3 true = 0 by decide)]
      dsimp only
      have g19 : zI (wI M 201 0 0) 201 19 = i3 N := by rw [zI_nk (by decide), M19]
      have g1 : zI (wI (wI mK 208 N (i3 r)) 209 N (b3 b)) 201 19 = i3 N := by rw [zI_ne (by decide), zI_ne (by decide), K19]
      have g2 : zI (wI mK 208 N (i3 r)) 201 19 = i3 N := by rw [zI_ne (by decide), K19]
      have hsub : ∀ x : Int, i3 (x + 1) - 1 = i3 x := fun x => by rw [show (1 : Int32) = i3 1 from rfl, i3_sub]; exact congrArg i3 (by omega)
      rw [zLet_eq, w00, g19, e3, zBV_some, K19, if_pos hinN, zLet_eq, hixN, if_pos (b3_bo b), g2, if_pos hinN, zLet_eq, hixN, zLet_eq, g1, i3_add1, zI_eq, hsub, ← hV]
      rfl
    · rw [vM _ _ (by decide), hRR.1 _ _ (by decide), hE.zI, zI_eq]
      rfl
    · have s : zI V 201 3 = i3 0 := by rw [← hV, zI_nk (by decide), zI_ne (by decide), zI_ne (by decide), kl]
      exact s
    · rw [vM _ _ (by omega), hRR.1 _ _ (by omega), hE.zI, lowE _ _ (by omega) (by omega)]
      exact hch i hi
    · show (if f = N then N else rk f) < N + 1 ∧ ∀ g, Nm _ _ _ f g → (if g = N then N else rk g) < (if f = N then N else rk f)
      by_cases e : f = N
      · subst e
        rw [if_pos rfl]
        refine ⟨by omega, fun g hg => ?_⟩
        obtain ⟨i, hi, hk, hg'⟩ := Nm_eq.mp hg
        have := c3 i hi hk
        have hgN : g < f := by omega
        rw [if_neg (by omega)]
        exact (w2 g hgN).1
      · rw [if_neg e]
        have hfN : f < N := by omega
        refine ⟨by have := (w2 f hfN).1; omega, fun g hg => ?_⟩
        have hg' := (Nm_ne e).mp hg
        have hgr := (w2 f hfN).2 g hg'
        have hgN : g < N := by
          obtain ⟨i, hi, hk, ha⟩ := hg'
          have := (w1.nm hfN hi hk).2.1
          omega
        rw [if_neg (by omega)]
        exact hgr
    · obtain ⟨i, hi, hk, hg'⟩ := Nm_eq.mp hg
      have := c3 i hi hk
      omega
    · show 0 ≤ (if g = N then r else R g) ∧ (if g = N then r else R g) ≤ 9
      by_cases e : g = N
      · rw [if_pos e]; omega
      · rw [if_neg e]; exact w4 g (by omega)
    · rw [zL_of hv2, zL_of hRR.2, hE.2 b j hb]
      show mE.2.2.1 b j = m.2.2.1 b j
      have : mE.2 = m2.2 := by rw [← hmE]; rfl
      rw [this, f22, hF1.2]
    · rw [zL_of hv2, zL_of hRR.2]
    · rw [← hV, zI_nk (by decide), zI_ne (by decide), zI_ne (by decide), hFK.2.2.1 _ (by decide), zI_eq]
end FE2
