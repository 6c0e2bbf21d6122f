section SE2
variable {m : Mm} {N : Nat} {C C' : Cx} {T : List Int}
theorem cod_copyQ {n : Nat} (hn : n = C.length) (h40 : n ≤ 40) (h2 : zI m 20 2 = i3 n) (hA : CA (zI m 21) (zI m 22) 0 C) : ∃ m', f_Cod_copyFrom 171 20 m = some m' ∧ m'.2 = m.2 ∧ (∀ b j, b < 171 ∨ 173 < b → zI m' b j = zI m b j) ∧ Cd m' 171 (fun i => (C.getD i (0, 0)).1) (fun i => (C.getD i (0, 0)).2) n := by
  have hl : zLn (20 + 1) = 40 ∧ zLn (20 + 2) = 40 ∧ zLn (171 + 1) = 40 ∧ zLn (171 + 2) = 40 := by decide +kernel
  have hx : zIx (40 : Int32) = 40 := by decide
  unfold f_Cod_copyFrom
  rw [if_pos (show zCpy m 0 (20 + 1) (171 + 1) 40 from ⟨by decide, by rw [hx, hl.1]; exact Nat.le_refl _, by rw [hx, hl.2.2.1]; exact Nat.le_refl _, fun z => absurd z (by decide)⟩)]
  simp only [zLet]
  rw [if_pos (show zCpy (wC m (20 + 1) (171 + 1) (zIx 40)) 0 (20 + 2) (171 + 2) 40 from ⟨by decide, by rw [hx, hl.2.1]; exact Nat.le_refl _, by rw [hx, hl.2.2.2]; exact Nat.le_refl _, fun z => absurd z (by decide)⟩)]
  rw [hx]
  generalize hm2 : wC (wC m (20 + 1) (171 + 1) 40) (20 + 2) (171 + 2) 40 = m2
  have k0 : ∀ b j, b ≠ 172 → b ≠ 173 → zI m2 b j = zI m b j := fun b j h1 h2 => by rw [← hm2, zI_wC, if_neg (fun z => by omega), zI_wC, if_neg (fun z => by omega)]
  have k1 : ∀ i, i < 40 → zI m2 172 i = zI m 21 i := fun i hi => by rw [← hm2, zI_wC, if_neg (fun z => by omega), zI_wC, if_pos ⟨rfl, hi⟩]
  have k2 : ∀ i, i < 40 → zI m2 173 i = zI m 22 i := fun i hi => by rw [← hm2, zI_wC, if_pos ⟨rfl, hi⟩, zI_wC, if_neg (fun z => by omega)]
  have hm : m2.2 = m.2 := by rw [← hm2]; rfl
  refine ⟨_, rfl, hm, fun b j hb => ?_, h40, ?_, fun i hi => ⟨?_, ?_⟩⟩
  · rw [zI_ne (by omega), zI_ne (by omega), k0 _ _ (by omega) (by omega)]
  · rw [zI_nk (by decide), zI_eq, k0 _ _ (by decide) (by decide), h2]
  · rw [zI_ne (by decide), zI_ne (by decide), k1 i (by omega)]
    have := (hA i (by omega)).1
    rw [Nat.zero_add] at this
    exact this
  · rw [zI_ne (by decide), zI_ne (by decide), k2 i (by omega)]
    have := (hA i (by omega)).2
    rw [Nat.zero_add] at this
    exact this
theorem cls_ask (hX : iX m T) : (∃ q m1, pAsk T = .inl q ∧ f_Par_readQuestion 17 m = some (i3 (pl T q), m1) ∧ RdC m m1 ∧ ¬ i3 (pl T q) = -1) ∨ ∃ C m1, pAsk T = .inr C ∧ C.length ≤ 40 ∧ f_Par_readQuestion 17 m = some (-1, m1) ∧ RdC m m1 ∧ zI m1 20 2 = i3 C.length ∧ zI m1 20 3 = i3 ((nmC C : Nat) : Int) ∧ CA (zI m1 21) (zI m1 22) 0 C := by
  have hp := par_ask hX.1 hX.2.2.2.1
  cases e : pAsk T with
  | inl q =>
    rw [e] at hp
    obtain ⟨v', FK, FA, n, nm, e1⟩ := hp
    exact Or.inl ⟨q, _, rfl, e1, RdC.of, pl_ne (le_ask e) hX.1.1⟩
  | inr C =>
    rw [e] at hp
    obtain ⟨v', FK, FA, e1, hCA⟩ := hp
    refine Or.inr ⟨C, _, rfl, ?_, e1, RdC.of, pM_n, pM_nm, hCA⟩
    have hs := ok_log false 41 0 T
    unfold pAsk at e
    cases e3 : pLog false 41 0 T with
    | inl z => rw [e3] at e; exact nomatch e
    | inr z =>
      obtain ⟨a, r⟩ := z
      rw [e3] at e hs
      have hr : r.length + 0 + a.length ≤ T.length := hs
      have h40 := hX.1.1
      cases r with
      | nil => cases e; omega
      | cons c r3 => exact nomatch e
theorem mod_ask (hMT : MT m T) (hRB : RB m) : (∀ q, pAsk T = .inl q → ∃ M, f_Mod_reads 20 m = some (i3 (pl T q), M) ∧ RdR m M ∧ RB M) ∧ ∀ C, pAsk T = .inr C → ∃ M C', f_Mod_reads 20 m = some (-1, M) ∧ qP 0 C C' ∧ RdR m M ∧ RB M ∧ zI M 201 11 = i3 C'.length ∧ ∀ i, i < C'.length → zI M 206 i = i3 (C'.getD i (0, 0)).1 ∧ zI M 207 i = i3 (C'.getD i (0, 0)).2 := by
  have h := ref_ask hMT hRB
  have hb := ask_end T
  refine ⟨fun q e => ?_, fun C e => ?_⟩
  · rw [e] at hb
    cases e' : pEnd (pPst 41 T) with
    | inl q' =>
      rw [e'] at hb h
      obtain rfl : q = q' := hb
      obtain ⟨M, dg, mo, nu, dn, e2, hbd, hq⟩ := h
      exact ⟨M, e2, RdR.of hq, QF.rb hbd hq⟩
    | inr C' => rw [e'] at hb; exact hb.elim
  · rw [e] at hb
    cases e' : pEnd (pPst 41 T) with
    | inl q' => rw [e'] at hb; exact hb.elim
    | inr C' =>
      rw [e'] at hb h
      obtain ⟨M, dg, mo, nu, dn, e2, hbd, hq⟩ := h
      refine ⟨M, C', e2, hb, RdR.of hq.qf, QF.rb hbd hq.qf, ?_⟩
      obtain ⟨F3, F4, F5, F6, F7, rfl, -, -, h6⟩ := hq
      refine ⟨rfl, fun i hi => ?_⟩
      have := h6 i hi
      rw [Nat.zero_add] at this
      exact this
theorem qSt_bd {q : Int × Int} (h : qSt q) : (1 ≤ q.1 ∧ q.1 ≤ 8) ∧ 0 ≤ q.2 ∧ q.2 ≤ 200000 := by
  unfold qSt at h
  rcases h with h | h | h | h
  · have := h.bd; omega
  · omega
  · omega
  · omega
theorem getD_mem {i : Nat} (h : i < C.length) : C.getD i (0, 0) ∈ C := by
  rw [List.getD_eq_getElem?_getD, List.getElem?_eq_getElem h]
  exact List.getElem_mem h
theorem mem_getD {q : Int × Int} (h : q ∈ C) : ∃ i, i < C.length ∧ C.getD i (0, 0) = q := by
  obtain ⟨i, hi, e⟩ := List.mem_iff_getElem.mp h
  refine ⟨i, hi, ?_⟩
  rw [List.getD_eq_getElem?_getD, List.getElem?_eq_getElem hi]
  exact e
theorem b_search (hI : Inv m) (p : Int32) : Bo cAS (f_Loo_search p m) (f_Mod_search p) := by
  obtain ⟨t, T, N, hT, hX, hA, hB, hS⟩ := id hI
  obtain ⟨h19, h25, h20⟩ := hA.n19
  obtain ⟨Kc, Ac, Lc, rk, o, R, mv, F, Y, E, nb, Tx, hW, hC, hR⟩ := id hA
  obtain ⟨w1, w2, w3, w4, w5, w6, w7⟩ := id hW
  obtain ⟨y, rfl, hy⟩ := i3_abs (a := p)
  by_cases c1 : 0 ≤ y ∧ y < 400
  rotate_left
  · refine Bo.thr (e := 0) hI ?_ (by decide) (fun m' hF => ?_)
    · unfold f_Loo_search
      rw [loo_year hy, if_neg c1, zBXV_r]
    · rw [e_Mod_search, mod_isYear hy, zBP_some, zLet_eq, zLet_eq, decide_eq_false c1, if_pos (show b3 false = 0 by decide)]
      dsimp only
      rw [zLet_eq, w0n (by decide)]
      rfl
  obtain ⟨y, rfl, hy4⟩ := y_nat c1
  rcases cls_ask hX with ⟨q, m1, ep, e1, hF1, hne⟩ | ⟨C, m1, ep, h40, e1, hF1, k2, k3, hCA⟩
  · refine Bo.rth (e := 0) hI hF1 ?_ (by decide) (fun m' hE => ?_)
    · unfold f_Loo_search
      rw [loo_year hy, if_pos c1, zBXV_l, e1, zBI_some, if_neg hne]
    · have hX1 := (hX.rc hF1 (RdC.rb hX.2.2.2.2 hF1)).fc (m' := m') hE.c
      obtain ⟨M, e2, hRR, hRB⟩ := (mod_ask hX1.2.1 hX1.2.2.2.2).1 q ep
      refine ⟨M, wI M 201 0 (i3 1), ?_, hRR, hRB, fun b j h => w0_ne b j h, rfl, zI_eq⟩
      rw [e_Mod_search, mod_isYear hy, zBP_some, zLet_eq, zLet_eq, decide_eq_true c1, if_neg (show ¬ b3 true = 0 by decide), e2, zBI_some, if_neg hne]
      dsimp only
      rw [zLet_eq, w0n (by decide)]
      rfl
  have f25 : zI m1 25 3 = i3 N := by rw [hF1.1 _ _ (by decide), h25]
  have hsz : f_Alm_size m1 = some (i3 N) := by
    unfold f_Alm_size
    rw [f25]
  have zq : ∀ {β : Type} (K : Nat → Option β), zBQ 3 (f_Par_code m1) K = K 20 := fun K => by
    show (if zT 20 = 3 then K 20 else none) = K 20
    exact if_pos (by decide)
  -- both sides ask for the same feasts
  have ref : ∀ m', MT m' T → RB m' → zI m' 201 19 = i3 N → ∃ M C', f_Mod_reads 20 m' = some (-1, M) ∧ qP 0 C C' ∧ RdR m' M ∧ RB M ∧ zI M 201 11 = i3 C'.length ∧ (∀ i, i < C'.length → zI M 206 i = i3 (C'.getD i (0, 0)).1 ∧ zI M 207 i = i3 (C'.getD i (0, 0)).2) ∧ ∃ x : Bool, f_Mod_namesThere M = some (b3 x) ∧ (x = true ↔ nmC C < 2 ^ N) ∧ (x = true ↔ ∀ q, q ∈ C' → qNm N (q.1 + 20) q.2) := by
    intro m' hMT hRB k19
    obtain ⟨M, C', e2, hq, hRR, hRB', k11, hMA⟩ := (mod_ask hMT hRB).2 C ep
    obtain ⟨q1, q2, q3, q4, -⟩ := id hq
    obtain ⟨x, ex, hx⟩ := mod_qnames (n := C'.length) (K := fun i => (C'.getD i (0, 0)).1) (A := fun i => (C'.getD i (0, 0)).2) h20 (by omega) (show zI M 201 19 = i3 N by rw [hRR.1 _ _ (by decide), k19]) k11 hMA (fun i hi => qSt_bd (q4 _ (getD_mem hi)))
    have hall : (∀ i, i < C'.length → qNm N ((C'.getD i (0, 0)).1 + 20) (C'.getD i (0, 0)).2) ↔ ∀ q, q ∈ C' → qNm N (q.1 + 20) q.2 := ⟨fun h q hq => by
      obtain ⟨i, hi, rfl⟩ := mem_getD hq
      exact h i hi, fun h i hi => h _ (getD_mem hi)⟩
    refine ⟨M, C', e2, hq, hRR, hRB', k11, hMA, x, ex, ?_, hx.trans hall⟩
    rw [q2, (nm_post C' q4).1]
    exact hx.trans hall
  have hnm : nmC C < 2147483648 := by
    obtain ⟨M, C', -, hq, -⟩ := (mod_ask hX.2.1 hX.2.2.2.2).2 C ep
    have := (nm_post (N := N) C' hq.2.2.2.1).2
    rw [hq.2.1]
    omega
  have hchk : f_Loo_checkNames m1 = some (if nmC C < 2 ^ N then .inl () else .inr 1, m1) := by
    unfold f_Loo_checkNames
    rw [zq, hsz, zBP_some, cod_beyond h20 hnm k3, zBP_some]
    by_cases c : nmC C < 2 ^ N
    · rw [decide_eq_true c, if_pos (show b3 (!true) = 0 by decide), if_pos c]
    · rw [decide_eq_false c, if_neg (show ¬ b3 (!false) = 0 by decide), if_neg c]
  have hX1 := hX.rc hF1 (RdC.rb hX.2.2.2.2 hF1)
  by_cases c3 : nmC C < 2 ^ N
  rotate_left
  · rw [if_neg c3] at hchk
    refine Bo.rth (e := 1) hI hF1 ?_ (by decide) (fun m' hE => ?_)
    · unfold f_Loo_search
      rw [loo_year hy, if_pos c1, zBXV_l, e1, zBI_some, if_pos rfl, hchk, zBXV_r]
    · have hX1' := hX1.fc (m' := m') hE.c
      obtain ⟨M, C', e2, hq, hRR, hRB, -, -, x, ex, hx, -⟩ := ref m' hX1'.2.1 hX1'.2.2.2.2 (by rw [hE.zI, hF1.1 _ _ (by decide), h19])
      have hx0 : x = false := by
        cases x with
        | false => rfl
        | true => exact absurd (hx.mp rfl) c3
      refine ⟨M, wI M 201 0 (i3 2), ?_, hRR, hRB, fun b j h => w0_ne b j h, rfl, zI_eq⟩
      rw [e_Mod_search, mod_isYear hy, zBP_some, zLet_eq, zLet_eq, decide_eq_true c1, if_neg (show ¬ b3 true = 0 by decide), e2, zBI_some, if_pos rfl, ex, zBP_some, hx0, if_pos (show b3 false = 0 by decide)]
      dsimp only
      rw [zLet_eq, w0n (by decide)]
      rfl
  rw [if_pos c3] at hchk
  obtain ⟨mQ, eq, fq2, fq, dq⟩ := cod_copyQ (m := m1) rfl h40 k2 hCA
  generalize hmT : wI (wI (wI mQ 170 2 (i3 y)) 170 1 1) 17 1 0 = mT
  have lowT : ∀ b j, ¬ (170 ≤ b ∧ b ≤ 173) → (b ≠ 17 ∨ j ≠ 1) → zI mT b j = zI m1 b j := by
    intro b j q1 q2
    rw [← hmT]
    by_cases e : b = 17
    · subst e
      rw [zI_nk (by omega), zI_ne (by decide), zI_ne (by decide), fq _ _ (by decide)]
    · rw [zI_ne e, zI_ne (by omega), zI_ne (by omega), fq _ _ (by omega)]
  have hTt : iT mT t := (hT.fc (hF1.c cT_s rfl)).fc (fun b j q => lowT b j (by have := eT q; omega) (by have := eT q; omega))
  have hCT : iC mT N Kc Ac Lc o R mv F Y E nb Tx := (hC.fc h20 (hF1.c cC_s rfl)).fc h20 (fun b j q => lowT b j (by have := eC q; omega) (by have := eC q; omega))
  obtain ⟨mF, eF, hFB, -, -, -, hv1⟩ := boo_reckon (m := mT) (a := 152) (by decide) hy4 hTt.1 w1 w2 w5 w6 hCT.1 hCT.2.2.2.1 hCT.2.1 w3
  have lowF : ∀ b j, ¬ (170 ≤ b ∧ b ≤ 173) → (b ≠ 17 ∨ j ≠ 1) → ¬ (152 ≤ b ∧ b ≤ 155) → zI mF b j = zI m1 b j := fun b j q1 q2 q3 => by rw [hFB.2.1 b j (by omega), lowT b j q1 q2]
  refine ⟨.inl (i3 (sSum (fun f => (sG y t F Y E nb Kc Ac Lc f).2) N)), mF, ?_, fun m' hE => ?_⟩
  · unfold f_Loo_search
    rw [loo_year hy, if_pos c1, zBXV_l, e1, zBI_some, if_pos rfl, hchk, zBXV_l, zq]
    unfold f_Sol_start f_Txt_clear
    rw [eq, zBV_some, zLet_eq, zLet_eq, zBV_some, zLet_eq, zBV_some, hmT, hTt.2.1, eF, zBV_some, boo_costs (c := fun f => (sG y t F Y E nb Kc Ac Lc f).2) h20 (by rw [hFB.2.1 _ _ (by decide)]; exact hCT.1.1) (fun f hf => (hv1 f hf).2), zBP_some]
  · have mMT : MT m' T := by
      obtain ⟨q1, q2, q3, q4⟩ := hX1.2.1
      exact ⟨q1, by rw [hE.zI, lowF _ _ (by decide) (by decide) (by decide)]; exact q2, fun i hi => by rw [hE.zI, lowF _ _ (by decide) (Or.inl (by decide)) (by decide)]; exact q3 i hi, q4⟩
    have mRB : RB m' := hX1.2.2.2.2.c fun j _ => by rw [hE.zI, lowF _ _ (by decide) (Or.inl (by decide)) (by decide)]
    obtain ⟨M, C', e2, hq, hRR, hRB, k11, hMA, x, ex, hx, hxq⟩ := ref m' mMT mRB (by rw [hE.zI, lowF _ _ (by decide) (Or.inl (by decide)) (by decide), hF1.1 _ _ (by decide), h19])
    have hx1 : x = true := hx.mpr c3
    obtain ⟨q1, q2, q3, q4, q5⟩ := id hq
    have mid : ∀ c : Nat → Nat → Bool, (∀ b j, c b j = true → Sc b j) → c 19 3 = false → c 201 13 = false → c 201 17 = false → c 201 18 = false → (∀ b j, c b j = true → ¬ (170 ≤ b ∧ b ≤ 173) ∧ (b ≠ 17 ∨ j ≠ 1) ∧ ¬ (152 ≤ b ∧ b ≤ 155)) → SFc c m M := fun c h1 h2 h3 h4 h5 h6 => (hF1.c h1 h2).trans (SFc.trans (fun b j q => lowF b j (h6 b j q).1 (h6 b j q).2.1 (h6 b j q).2.2) (hE.c.trans (hRR.c h1 h3 h4 h5)))
    have hTM : iT M t := hT.fc (mid cT cT_s rfl rfl rfl rfl (fun b j q => by have := eT q; omega))
    have hRM : iR M N Kc Ac Lc R mv F Y E nb := hR.fc (mid cR cR_s rfl rfl rfl rfl (fun b j q => by have := eR q; omega))
    have hCM : iC M N Kc Ac Lc o R mv F Y E nb Tx := hC.fc h20 (mid cC cC_s rfl rfl rfl rfl (fun b j q => by have := eC q; omega))
    have hBM : iB M := hB.fc (mid cB cB_s rfl rfl rfl rfl (fun b j q => by have := eB q; omega))
    -- the loop that copies, and what is behind it
    have loop : ∃ V, zLp1 (l_Mod_search_0 (i3 y)) zFu 0 (wI (wI M 201 0 0) 201 34 (i3 C'.length)) = some (i3 (sSum (fun f => (sG y t F Y E nb Kc Ac Lc f).2) N), V) ∧ V.2 = M.2 ∧ (∀ b j, b ≠ 220 → b ≠ 221 → b ≠ 216 → b ≠ 217 → b ≠ 218 → (b ≠ 201 ∨ (j ≠ 0 ∧ j ≠ 3 ∧ j ≠ 33 ∧ j ≠ 34 ∧ j ≠ 38)) → zI V b j = zI M b j) ∧ zI V 201 0 = 0 ∧ zI V 201 3 = 0 ∧ zI V 201 33 = 1 ∧ zI V 201 38 = i3 y ∧ Rq V C' := by
      refine ex_zLp1 (Q := fun X => ∃ V, X = some (i3 (sSum (fun f => (sG y t F Y E nb Kc Ac Lc f).2) N), V) ∧ V.2 = M.2 ∧ (∀ b j, b ≠ 220 → b ≠ 221 → b ≠ 216 → b ≠ 217 → b ≠ 218 → (b ≠ 201 ∨ (j ≠ 0 ∧ j ≠ 3 ∧ j ≠ 33 ∧ j ≠ 34 ∧ j ≠ 38)) → zI V b j = zI M b j) ∧ zI V 201 0 = 0 ∧ zI V 201 3 = 0 ∧ zI V 201 33 = 1 ∧ zI V 201 38 = i3 y ∧ Rq V C')
        (fun j x mm => ∃ i : Nat, x = i3 i ∧ i ≤ C'.length ∧ j = C'.length - i ∧ mm.2 = M.2 ∧ (∀ b j, b ≠ 220 → b ≠ 221 → zI mm b j = zI (wI (wI M 201 0 0) 201 34 (i3 C'.length)) b j) ∧ ∀ i', i' < i → zI mm 220 i' = i3 (C'.getD i' (0, 0)).1 ∧ zI mm 221 i' = i3 (C'.getD i' (0, 0)).2) ?_ zFu C'.length _ _ ⟨0, rfl, Nat.zero_le _, rfl, (show (wI (wI M 201 0 0) 201 34 (i3 C'.length)).2 = M.2 from rfl), fun _ _ _ _ => rfl, fun i' h => absurd h (Nat.not_lt_zero i')⟩ (by unfold zFu; omega)
      rintro r j x mm ⟨i, rfl, hi, rfl, hm2, hmm, hcp⟩
      have n201 : ∀ j, j ≠ 0 → j ≠ 34 → zI mm 201 j = zI M 201 j := fun j h1 h2 => by rw [hmm _ _ (by decide) (by decide), zI_nk h2, zI_nk h1]
      unfold l_Mod_search_0
      rw [n201 _ (by decide) (by decide), k11, it_le ⟨by omega, by omega⟩ ⟨by omega, by omega⟩]
      by_cases e : (C'.length : Int) ≤ i
      · left
        rw [if_pos e, zLet_eq, zLet_eq, zLet_eq]
        generalize hm5 : wI (wI (wI mm 201 3 0) 201 33 1) 201 38 (i3 (y : Int)) = m5
        have a5 : ∀ b j, b ≠ 220 → b ≠ 221 → (b ≠ 201 ∨ (j ≠ 0 ∧ j ≠ 3 ∧ j ≠ 33 ∧ j ≠ 34 ∧ j ≠ 38)) → zI m5 b j = zI M b j := by
          intro b j z1 z2 z3
          rw [← hm5]
          by_cases eb : b = 201
          · subst eb
            rw [zI_nk (by omega), zI_nk (by omega), zI_nk (by omega), n201 j (by omega) (by omega)]
          · rw [zI_ne eb, zI_ne eb, zI_ne eb, hmm b j z1 z2, zI_ne eb, zI_ne eb]
        have hR5 : iR m5 N Kc Ac Lc R mv F Y E nb := hRM.fc (fun b j q => a5 b j (by have := eR q; omega) (by have := eR q; omega) (by have := eR q; omega))
        have s0 : zI m5 201 0 = 0 := by rw [← hm5, zI_nk (by decide), zI_nk (by decide), zI_nk (by decide), hmm _ _ (by decide) (by decide), zI_nk (by decide), zI_eq]
        have s3 : zI m5 201 3 = 0 := by rw [← hm5, zI_nk (by decide), zI_nk (by decide), zI_eq]
        have s33 : zI m5 201 33 = 1 := by rw [← hm5, zI_nk (by decide), zI_eq]
        have s38 : zI m5 201 38 = i3 y := by rw [← hm5, zI_eq]
        have s34 : zI m5 201 34 = i3 C'.length := by rw [← hm5, zI_nk (by decide), zI_nk (by decide), zI_nk (by decide), hmm _ _ (by decide) (by decide), zI_eq]
        have s220 : ∀ i, i < C'.length → zI m5 220 i = i3 (C'.getD i (0, 0)).1 ∧ zI m5 221 i = i3 (C'.getD i (0, 0)).2 := fun i' hi' => by
          rw [← hm5, zI_ne (by decide), zI_ne (by decide), zI_ne (by decide), zI_ne (by decide), zI_ne (by decide), zI_ne (by decide)]
          exact hcp i' (by omega)
        have s1 : zI m5 201 1 = i3 t := by rw [a5 _ _ (by decide) (by decide) (by decide)]; exact hTM.2.2
        obtain ⟨V, e3, hFV, hv2⟩ := mod_finds (m := m5) hy4 hTM.1 w1 w2 w5 hR5.1 hR5.2.2
        have f5 : ∀ b j, b ≠ 216 → b ≠ 217 → b ≠ 218 → zI V b j = zI m5 b j := hFV.2.1
        refine ⟨V, ?_, ?_, fun b j z1 z2 z3 z4 z5 z6 => by rw [f5 b j z3 z4 z5, a5 b j z1 z2 z6], ?_, ?_, ?_, ?_, ?_, ?_, fun i' hi' => ?_⟩
        · rw [s1, e3, zBV_some, mod_costs (c := fun f => (sG y t F Y E nb Kc Ac Lc f).2) h20 (by rw [f5 _ _ (by decide) (by decide) (by decide)]; exact hR5.1.1) (fun f hf => (hv2 f hf).2), zBP_some]
        · rw [hFV.1, ← hm5]; exact hm2
        · rw [f5 _ _ (by decide) (by decide) (by decide), s0]
        · rw [f5 _ _ (by decide) (by decide) (by decide), s3]
        · rw [f5 _ _ (by decide) (by decide) (by decide), s33]
        · rw [f5 _ _ (by decide) (by decide) (by decide), s38]
        · omega
        · rw [f5 _ _ (by decide) (by decide) (by decide), s34]
        · rw [f5 _ _ (by decide) (by decide) (by decide), f5 _ _ (by decide) (by decide) (by decide)]
          exact s220 i' hi'
      · right
        have hlt : i < C'.length := by omega
        have hin : zIn (i3 (i : Int)) 80 := (i3_in ⟨by omega, by omega⟩).mpr ⟨by omega, by omega⟩
        have hix : zIx (i3 (i : Int)) = i := by rw [i3_ix ⟨by omega, by omega⟩, Int.toNat_natCast]
        have a6 : zI mm 206 i = i3 (C'.getD i (0, 0)).1 := by rw [hmm _ _ (by decide) (by decide), zI_ne (by decide), zI_ne (by decide)]; exact (hMA i hlt).1
        have a7 : zI mm 207 i = i3 (C'.getD i (0, 0)).2 := by rw [hmm _ _ (by decide) (by decide), zI_ne (by decide), zI_ne (by decide)]; exact (hMA i hlt).2
        rw [if_neg e, if_pos hin, if_pos hin, zLet_eq, if_pos hin, if_pos hin, zLet_eq, zLet_eq, hix, i3_add1, zI_ne (by decide), a6, a7]
        refine ⟨_, wI (wI mm 220 i (i3 (C'.getD i (0, 0)).1)) 221 i (i3 (C'.getD i (0, 0)).2), C'.length - (i + 1), by omega, ⟨i + 1, rfl, by omega, rfl, hm2, fun b j z1 z2 => by rw [zI_ne z2, zI_ne z1, hmm b j z1 z2], fun i' hi' => ?_⟩, rfl⟩
        by_cases ei : i' = i
        · rw [ei, zI_ne (by decide), zI_eq, zI_eq]
          exact ⟨rfl, rfl⟩
        · rw [zI_ne (by decide), zI_nk ei, zI_nk ei, zI_ne (by decide)]
          exact hcp i' (by omega)
    obtain ⟨V, eV, hv2, hVM, v0, v3, v33, v38, hRq⟩ := loop
    have t170 : ∀ j, zI V 170 j = zI mT 170 j := fun j => by rw [hVM _ _ (by decide) (by decide) (by decide) (by decide) (by decide) (Or.inl (by decide)), hRR.1 _ _ (by omega), hE.zI, hFB.2.1 _ _ (by decide)]
    obtain ⟨⟨a1', a2', a3', a4'⟩, -, hch, -⟩ := id hX1
    refine ⟨i3 (sSum (fun f => (sG y t F Y E nb Kc Ac Lc f).2) N), V, ?_, ⟨t, [], N, hTM.fc (fun b j q => hVM b j (by have := eT q; omega) (by have := eT q; omega) (by have := eT q; omega) (by have := eT q; omega) (by have := eT q; omega) (by have := eT q; omega)), ⟨⟨by decide, ?_, fun i hi => absurd hi (Nat.not_lt_zero i), fun c hc => absurd hc List.not_mem_nil⟩, ⟨by decide, v3, fun i hi => absurd hi (Nat.not_lt_zero i), fun c hc => absurd hc List.not_mem_nil⟩, fun i hi => ?_, ⟨(zI V 19 3).toInt, (i3_of _).symm⟩, hRB.c fun j hj => hVM _ _ (by decide) (by decide) (by decide) (by decide) (by decide) (by omega)⟩, ⟨Kc, Ac, Lc, rk, o, R, mv, F, Y, E, nb, Tx, hW, hCM.fc h20 (fun b j q => hVM b j (by have := eC q; omega) (by have := eC q; omega) (by have := eC q; omega) (by have := eC q; omega) (by have := eC q; omega) (by have := eC q; omega)), hRM.fc (fun b j q => hVM b j (by have := eR q; omega) (by have := eR q; omega) (by have := eR q; omega) (by have := eR q; omega) (by have := eR q; omega) (by have := eR q; omega))⟩, hBM.fc (fun b j q => hVM b j (by have := eB q; omega) (by have := eB q; omega) (by have := eB q; omega) (by have := eB q; omega) (by have := eB q; omega) (by have := eB q; omega)), ?_, true, ?_, v33, fun _ => ⟨y, C, C', by omega, ?_, v38, ?_, hRq, hq, fun i hi => ?_, hxq.mp hx1⟩⟩, fun j => ?_, v0, rfl⟩
    · rw [e_Mod_search, mod_isYear hy, zBP_some, zLet_eq, zLet_eq, decide_eq_true c1, if_neg (show ¬ b3 true = 0 by decide), e2, zBI_some, if_pos rfl, ex, zBP_some, hx1, if_neg (show ¬ b3 true = 0 by decide)]
      dsimp only
      rw [zLet_eq, w00, zLet_eq, zI_nk (by decide), k11]
      exact eV
    · rw [hVM _ _ (by decide) (by decide) (by decide) (by decide) (by decide) (by decide), hRR.1 _ _ (by decide), hE.zI, hFB.2.1 _ _ (by decide), ← hmT, zI_eq]
      rfl
    · rw [hVM _ _ (by omega) (by omega) (by omega) (by omega) (by omega) (by omega), hRR.1 _ _ (by omega), hE.zI, lowF _ _ (by omega) (by omega) (by omega)]
      exact hch i hi
    · have hz : ∀ b j, b ≠ 229 → zL V b j = zL m b j := fun b j hb => by
        rw [zL_of hv2, zL_of hRR.2, hE.2 b j hb, zL_of hFB.1]
        show mT.2.2.1 b j = m.2.2.1 b j
        have : mT.2 = m1.2 := by rw [← hmT]; exact fq2
        rw [this, hF1.2]
      rw [hz _ _ (by decide), hz _ _ (by decide)]
      exact hS.1
    · rw [t170, ← hmT, zI_ne (by decide), zI_eq]
      rfl
    · rw [t170, ← hmT, zI_ne (by decide), zI_nk (by decide), zI_eq]
    · obtain ⟨d1, d2, d3⟩ := dq
      have t171 : ∀ b j, 171 ≤ b ∧ b ≤ 173 → zI V b j = zI mQ b j := fun b j hb => by rw [hVM _ _ (by omega) (by omega) (by omega) (by omega) (by omega) (by omega), hRR.1 _ _ (by omega), hE.zI, hFB.2.1 _ _ (by omega), ← hmT, zI_ne (by omega), zI_ne (by omega), zI_ne (by omega)]
      refine ⟨d1, ?_, fun i hi => ⟨?_, ?_⟩⟩
      · rw [t171 _ _ (by decide)]; exact d2
      · rw [t171 _ _ (by decide)]; exact (d3 i hi).1
      · rw [t171 _ _ (by decide)]; exact (d3 i hi).2
    · exact nm_code C 0 (q3 C.length (by omega)) c3 _ (getD_mem hi)
    · rw [zL_of hv2, zL_of hRR.2]
end SE2
