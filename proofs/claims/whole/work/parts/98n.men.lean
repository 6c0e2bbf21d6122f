/-! CALLS: a rule is mended -/
section MEN
variable {m : Mm} {p N nb : Nat} {T : List Int} {C : Cx} {F Y E : Nat → Int} {Kc Ac : Nat → Nat → Int} {Lc o ord : Nat → Nat} {R : Nat → Int} {mv : Nat → Bool} {Tx : Nat → List Int}
theorem c_men {m2 : Mm} (hN : N ≤ 20) (hp : p < N) (h : iC m N Kc Ac Lc o R mv F Y E nb Tx) (hv : vL C.length 0 C) (h40 : C.length ≤ 40) (h3 : zI m 20 3 = i3 ((nmC C : Nat) : Int))
    (f2 : ∀ b j, b ≠ 27 → b ≠ 28 → ¬ (32 + 6 * p + 1 ≤ b ∧ b ≤ 32 + 6 * p + 5) → zI m2 b j = zI m b j) (ho : ∀ i, i < N → zI m2 27 i = i3 (ord i)) (t2 : TX m2 (32 + 6 * p + 1) T) (d2 : Cd m2 (32 + 6 * p + 3) (fun i => (C.getD i (0, 0)).1) (fun i => (C.getD i (0, 0)).2) C.length) (n2 : zI m2 (32 + 6 * p + 3) 3 = zI m 20 3) :
    iC m2 N (uK Kc p C) (uA Ac p C) (uL Lc p C.length) ord R mv F Y E nb (uT Tx p T) := by
  obtain ⟨⟨h1, h2⟩, h3', h4, ⟨h5, h6⟩, h7, h8⟩ := h
  refine ⟨⟨?_, fun f hf => ?_⟩, ho, fun g hg => ⟨?_, ?_⟩, ⟨?_, fun i hi => ⟨?_, ?_, ?_⟩⟩, fun f hf => ?_, fun f hf => ?_⟩
  · rw [f2 _ _ (by decide) (by decide) (by omega)]; exact h1
  · by_cases e : f = p
    · subst e
      obtain ⟨e1, e2, e3⟩ := uK_eq (Kc := Kc) (Ac := Ac) (Lc := Lc) (C := C) (p := f)
      rw [e1, e2, e3]
      exact d2
    · obtain ⟨e1, e2, e3⟩ := uK_ne (Kc := Kc) (Ac := Ac) (Lc := Lc) (C := C) e
      rw [e1, e2, e3]
      obtain ⟨a1, a2, a3⟩ := h2 f hf
      refine ⟨a1, ?_, fun i hi => ⟨?_, ?_⟩⟩
      · rw [f2 _ _ (by omega) (by omega) (by omega)]; exact a2
      · rw [f2 _ _ (by omega) (by omega) (by omega)]; exact (a3 i hi).1
      · rw [f2 _ _ (by omega) (by omega) (by omega)]; exact (a3 i hi).2
  · rw [f2 _ _ (by omega) (by omega) (by omega)]; exact (h4 g hg).1
  · rw [f2 _ _ (by omega) (by omega) (by omega)]; exact (h4 g hg).2
  · rw [f2 _ _ (by decide) (by decide) (by omega)]; exact h5
  · rw [f2 _ _ (by decide) (by decide) (by omega)]; exact (h6 i hi).1
  · rw [f2 _ _ (by decide) (by decide) (by omega)]; exact (h6 i hi).2.1
  · rw [f2 _ _ (by decide) (by decide) (by omega)]; exact (h6 i hi).2.2
  · by_cases e : f = p
    · subst e
      unfold uT
      rw [if_pos rfl]
      exact t2
    · obtain ⟨a1, a2, a3, a4⟩ := h7 f hf
      unfold uT
      rw [if_neg e]
      refine ⟨a1, ?_, fun i hi => ?_, a4⟩
      · rw [f2 _ _ (by omega) (by omega) (by omega)]; exact a2
      · rw [f2 _ _ (by omega) (by omega) (by omega)]; exact a3 i hi
  · by_cases e : f = p
    · subst e
      obtain ⟨e1, e2, e3⟩ := uK_eq (Kc := Kc) (Ac := Ac) (Lc := Lc) (C := C) (p := f)
      rw [e1, e2, e3, n2, h3, nmC_nms hv h40]
    · obtain ⟨e1, e2, e3⟩ := uK_ne (Kc := Kc) (Ac := Ac) (Lc := Lc) (C := C) e
      rw [e1, e2, e3, f2 _ _ (by omega) (by omega) (by omega)]
      exact h8 f hf
theorem r_men {V W : Mm} (hN : N ≤ 20) (hp : p < N) (h : iR m N Kc Ac Lc R mv F Y E nb) (hA : ∀ i, i < C.length → zI m 206 i = i3 (C.getD i (0, 0)).1 ∧ zI m 207 i = i3 (C.getD i (0, 0)).2) (hW : ∀ b j, (b ≠ 201 ∨ j ≠ 0) → zI W b j = zI m b j) (hF : FxK p W V) (h210 : zI V 210 p = i3 C.length) (hk : ∀ i, i < C.length → zI V 211 (80 * p + i) = zI W 206 i ∧ zI V 212 (80 * p + i) = zI W 207 i) (h40 : ∀ f, f < N → Lc f ≤ 40) :
    iR V N (uK Kc p C) (uA Ac p C) (uL Lc p C.length) R mv F Y E nb := by
  obtain ⟨k1, k2, k3, k4, k5⟩ := hF
  obtain ⟨⟨h1, h2⟩, h3, h4, h5⟩ := h
  refine ⟨⟨?_, fun f hf => ?_⟩, fun g hg => ⟨?_, ?_⟩, ?_, fun i hi => ⟨?_, ?_, ?_⟩⟩
  · rw [k3 _ (by decide), hW _ _ (by decide)]; exact h1
  · by_cases e : f = p
    · subst e
      obtain ⟨e1, e2, e3⟩ := uK_eq (Kc := Kc) (Ac := Ac) (Lc := Lc) (C := C) (p := f)
      rw [e1, e2, e3]
      refine ⟨h210, fun i hi => ⟨?_, ?_⟩⟩
      · rw [(hk i hi).1, hW _ _ (Or.inl (by decide))]; exact (hA i hi).1
      · rw [(hk i hi).2, hW _ _ (Or.inl (by decide))]; exact (hA i hi).2
    · obtain ⟨e1, e2, e3⟩ := uK_ne (Kc := Kc) (Ac := Ac) (Lc := Lc) (C := C) e
      rw [e1, e2, e3]
      obtain ⟨a1, a2⟩ := h2 f hf
      refine ⟨?_, fun i hi => ?_⟩
      · rw [k4 _ e, hW _ _ (Or.inl (by decide))]; exact a1
      · have := k5 (80 * f + i) (by
          have := h40 f hf
          omega)
        rw [this.1, this.2, hW _ _ (Or.inl (by decide)), hW _ _ (Or.inl (by decide))]
        exact a2 i hi
  · rw [k2 _ _ (by decide) (by decide) (by decide) (by decide), hW _ _ (Or.inl (by decide))]; exact (h3 g hg).1
  · rw [k2 _ _ (by decide) (by decide) (by decide) (by decide), hW _ _ (Or.inl (by decide))]; exact (h3 g hg).2
  · rw [k3 _ (by decide), hW _ _ (by decide)]; exact h4
  · rw [k2 _ _ (by decide) (by decide) (by decide) (by decide), hW _ _ (Or.inl (by decide))]; exact (h5 i hi).1
  · rw [k2 _ _ (by decide) (by decide) (by decide) (by decide), hW _ _ (Or.inl (by decide))]; exact (h5 i hi).2.1
  · rw [k2 _ _ (by decide) (by decide) (by decide) (by decide), hW _ _ (Or.inl (by decide))]; exact (h5 i hi).2.2
end MEN
section MEO
variable {m : Mm}
theorem b_mend (hI : Inv m) (p : Int32) : Bo cIAS (f_Loo_mend p m) (f_Mod_mend p) := by
  obtain ⟨t, T, N, hT, hX, hA, hB, hS⟩ := id hI
  obtain ⟨h19, h25, h20⟩ := hA.n19
  obtain ⟨Kc, Ac, Lc, rk, o, R, mv, F, Y, E, nb, Tx, ⟨w1, w2, w3, w4, w5, w6, w7⟩, hC, hR⟩ := id hA
  obtain ⟨f, rfl, hf⟩ := i3_abs (a := p)
  by_cases c1 : 0 ≤ f ∧ f < N
  rotate_left
  · refine Bo.thr (e := 2) hI ?_ (by decide) (fun m' hF => ?_)
    · unfold f_Loo_mend
      rw [loo_feast h20 h25 hf, if_neg c1, zBXV_r]
    · have k19 : zI m' 201 19 = i3 N := by rw [hF.1 _ _ (by exact rfl), h19]
      unfold f_Mod_mend
      rw [mod_isFeast h20 k19 hf, zBP_some, zLet_eq, decide_eq_false c1, if_pos (show b3 false = 0 by decide)]
      dsimp only
      rw [zLet_eq, w0n (by decide)]
      rfl
  obtain ⟨p, rfl⟩ : ∃ g : Nat, f = g := ⟨f.toNat, by omega⟩
  have hp : p < N := by omega
  obtain ⟨hin, hix⟩ := fi20 (show p < 20 by omega)
  rcases cls_rule hX with ⟨q, m1, ep, e1, hF1, hne⟩ | ⟨C, m1, ep, e1, hF1, k2, k3, hCA⟩
  · refine Bo.rth (e := 0) hI hF1 ?_ (by decide) (fun m' hE => ?_)
    · unfold f_Loo_mend
      rw [loo_feast h20 h25 hf, if_pos c1, zBXV_l, e1, zBI_some, if_neg hne]
    · have hX1 := (hX.rc hF1 (RdC.rb hX.2.2.2.2 hF1)).fc (m' := m') hE.c
      have k19 : zI m' 201 19 = i3 N := by rw [hE.zI, hF1.1 _ _ (by decide), h19]
      obtain ⟨M, e2, hRR, hRB⟩ := (mod_rule hX1.2.1 hX1.2.2.2.2).1 q ep
      refine ⟨M, wI M 201 0 (i3 2), ?_, hRR, hRB, fun b j h => w0_ne b j h, rfl, zI_eq⟩
      unfold f_Mod_mend
      rw [mod_isFeast h20 k19 hf, zBP_some, zLet_eq, decide_eq_true c1, if_neg (show ¬ b3 true = 0 by decide), e2, zBI_some, if_neg hne]
      dsimp only
      rw [zLet_eq, w0n (by decide)]
      rfl
  obtain ⟨hvL, hCT⟩ := v_rule hX.1.1 ep
  have hT40 := hX.1.1
  have h40 : C.length ≤ 40 := by omega
  have f25 : zI m1 25 3 = i3 N := by rw [hF1.1 _ _ (by decide), h25]
  have hnam := i_names (m := m1) f25 h20 k3 hvL h40
  -- the reference behind any of the class's ends that leaves its cells
  have ref : ∀ m', MT m' T → RB m' → zI m' 201 19 = i3 N → iR m' N Kc Ac Lc R mv F Y E nb → ∃ M, RdR m' M ∧ RB M ∧ iR M N Kc Ac Lc R mv F Y E nb ∧ (∀ i, i < C.length → zI M 206 i = i3 (C.getD i (0, 0)).1 ∧ zI M 207 i = i3 (C.getD i (0, 0)).2) ∧ zI M 201 11 = i3 C.length ∧ ∃ x : Bool, (x = true ↔ ∀ i, i < C.length → ((C.getD i (0, 0)).1 = 4 ∨ (C.getD i (0, 0)).1 = 15) → (C.getD i (0, 0)).2 < N) ∧ f_Mod_mend (i3 p) m' = if x = true then (if ((rnds N p (fun f => nms (Kc f) (Ac f) (Lc f)) N (nms (fun i => (C.getD i (0, 0)).1) (fun i => (C.getD i (0, 0)).2) C.length)).testBit p) = true then some (0, wI (wI M 201 0 0) 201 0 3) else zBV (f_Mod_keeps (i3 p) (wI (wI M 201 0 0) 201 0 0)) fun m14 => some (zI m14 210 p, m14)) else some (0, wI (wI M 201 0 0) 201 0 3) := by
    intro m' hMT hRB k19 hR'
    obtain ⟨M, e2, hRR, hRB', k11, hMA⟩ := (mod_rule hMT hRB).2 C ep
    have hRM : iR M N Kc Ac Lc R mv F Y E nb := hR'.fc (hRR.c cR_s rfl rfl rfl)
    have hR6 : iR (wI M 201 0 0) N Kc Ac Lc R mv F Y E nb := hRM.fc (SFc.w rfl)
    have hA6 : ∀ i, i < C.length → zI (wI M 201 0 0) 206 i = i3 (C.getD i (0, 0)).1 ∧ zI (wI M 201 0 0) 207 i = i3 (C.getD i (0, 0)).2 := fun i hi => by rw [zI_ne (by decide), zI_ne (by decide)]; exact hMA i hi
    have k6 : zI (wI M 201 0 0) 201 11 = i3 C.length := by rw [zI_nk (by decide), k11]
    obtain ⟨x, ex, hx⟩ := r_names hR6.1.1 h20 k6 hA6 hvL h40
    have hnd := mod_needs (K := fun i => (C.getD i (0, 0)).1) (A := fun i => (C.getD i (0, 0)).2) w1 hR6.1 hp h40 k6 hA6 (fun i hi => by
      have hvs := hvL i hi
      have hbd := hvs.bd h40
      refine ⟨⟨?_, ?_⟩, fun hk => ?_⟩
      · show -1000000 ≤ (C.getD i (0, 0)).1; omega
      · show (C.getD i (0, 0)).1 ≤ 1000000; omega
      · show 0 ≤ (C.getD i (0, 0)).2 ∧ (C.getD i (0, 0)).2 ≤ 19
        have hk : (C.getD i (0, 0)).1 = 4 ∨ (C.getD i (0, 0)).1 = 15 := hk
        unfold vStep at hvs
        omega)
    refine ⟨M, hRR, hRB', hRM, hMA, k11, x, hx, ?_⟩
    generalize (rnds N p (fun f => nms (Kc f) (Ac f) (Lc f)) N (nms (fun i => (C.getD i (0, 0)).1) (fun i => (C.getD i (0, 0)).2) C.length)).testBit p = y at hnd
    unfold f_Mod_mend
    rw [mod_isFeast h20 k19 hf, zBP_some, zLet_eq, decide_eq_true c1, if_neg (show ¬ b3 true = 0 by decide), e2, zBI_some, if_pos rfl]
    dsimp only
    rw [zLet_eq, w00, ex, zBP_some, zLet_eq, zLet_eq]
    cases x with
    | false =>
      rw [if_pos (show b3 false = 0 by decide), if_neg (by decide)]
      dsimp only
      rw [zLet_eq, w0n (by decide)]
    | true =>
      rw [if_neg (show ¬ b3 true = 0 by decide), if_pos rfl, hnd, zBP_some]
      cases y with
      | false =>
        rw [if_pos (show b3 false = 0 by decide), if_neg (by decide)]
        dsimp only
        rw [zLet_eq, w00]
        congr 1
        funext m14
        rw [if_pos hin, hix]
      | true =>
        rw [if_neg (show ¬ b3 true = 0 by decide), if_pos rfl]
        dsimp only
        rw [zLet_eq, w0n (by decide)]
  have pre : ∀ (mX m' : Mm), RdC m mX → EQ mX m' → MT m' T ∧ RB m' ∧ zI m' 201 19 = i3 N ∧ iR m' N Kc Ac Lc R mv F Y E nb := by
    intro mX m' hF hE
    have hX1 := (hX.rc hF (RdC.rb hX.2.2.2.2 hF)).fc (m' := m') hE.c
    exact ⟨hX1.2.1, hX1.2.2.2.2, by rw [hE.zI, hF.1 _ _ (by decide), h19], hR.fc ((hF.c cR_s rfl).trans hE.c)⟩
  by_cases c3 : ∀ i, i < C.length → ((C.getD i (0, 0)).1 = 4 ∨ (C.getD i (0, 0)).1 = 15) → (C.getD i (0, 0)).2 < N
  rotate_left
  · rw [if_neg c3] at hnam
    refine Bo.rth (e := 1) hI hF1 ?_ (by decide) (fun m' hE => ?_)
    · unfold f_Loo_mend
      rw [loo_feast h20 h25 hf, if_pos c1, zBXV_l, e1, zBI_some, if_pos rfl, hnam, zBXV_r]
    · obtain ⟨q1, q2, q3, q4⟩ := pre m1 m' hF1 hE
      obtain ⟨M, hRR, hRB, -, -, -, x, hx, hr⟩ := ref m' q1 q2 q3 q4
      refine ⟨M, wI (wI M 201 0 0) 201 0 3, ?_, hRR, hRB, fun b j h => by rw [w0_ne b j h, w0_ne b j h], rfl, zI_eq⟩
      rw [hr, if_neg (fun z => c3 (hx.mp z))]
  rw [if_pos c3] at hnam
  -- the class drafts an order
  have hnmb : ∀ f, f < N → ∀ g, (nms (Kc f) (Ac f) (Lc f)).testBit g = true ↔ Nm Kc Ac Lc f g := fun f hf g => nms_bit (Lc f) (fun i hi hk => (w1.nm hf hi hk).2.2.1)
  have hnml : ∀ f, f < N → nms (Kc f) (Ac f) (Lc f) < 2 ^ 20 := fun f hf => nms_lt (Lc f) (fun i hi hk => (w1.nm hf hi hk).2.2.2)
  have hS0 : ∀ g, (nms (fun i => (C.getD i (0, 0)).1) (fun i => (C.getD i (0, 0)).2) C.length).testBit g = true ↔ ∃ i, i < C.length ∧ ((C.getD i (0, 0)).1 = 4 ∨ (C.getD i (0, 0)).1 = 15) ∧ (C.getD i (0, 0)).2 = g := fun g => nms_bit C.length (fun i hi hk => by
    have hvs := hvL i hi
    have hk : (C.getD i (0, 0)).1 = 4 ∨ (C.getD i (0, 0)).1 = 15 := hk
    show 0 ≤ (C.getD i (0, 0)).2
    unfold vStep at hvs
    omega)
  have eS := nmC_nms hvL h40
  have hSl := (nm_rule (N := N) hvL h40).2
  generalize hnf : (fun f => if f = p then nmC C else nms (Kc f) (Ac f) (Lc f)) = nf
  have nfp : nf p = nmC C := by rw [← hnf]; exact if_pos rfl
  have nfn : ∀ f, f ≠ p → nf f = nms (Kc f) (Ac f) (Lc f) := fun f h => by rw [← hnf]; exact if_neg h
  have hC1 : iC m1 N Kc Ac Lc o R mv F Y E nb Tx := hC.fc h20 (hF1.c cC_s rfl)
  obtain ⟨b, mD, ed, hFD, hbt, hbf⟩ := alm_draft (m := m1) (nf := nf) h20 f25 hp (fun f hf => by
    refine ⟨?_, fun h => ?_⟩
    · by_cases e : f = p
      · rw [e, nfp]; exact hSl
      · rw [nfn f e]; have := hnml f hf; omega
    · rw [nfn f h]; exact hC1.2.2.2.2.2 f hf)
  have hag := mend_agree (N := N) (p := p) (S0 := nmC C) (nm := fun f => nms (Kc f) (Ac f) (Lc f)) (nf := nf) (rk := rk) (b := b) hp nfp (fun f hf h => nfn f h) (fun f hf h g hg => (w2 f hf).2 g ((hnmb f hf g).mp hg)) (fun f hf => (w2 f hf).1) (fun f hf h g hg => by
    obtain ⟨i, hi, hk, ha⟩ := (hnmb f hf g).mp hg
    have := (w1.nm hf hi hk).2.1
    omega) (fun g hg => by
    rw [eS] at hg
    obtain ⟨i, hi, hk, ha⟩ := (hS0 g).mp hg
    have := c3 i hi hk
    omega) (fun e => by
    obtain ⟨ord, -, h⟩ := hbt e
    exact ⟨ord, h⟩) hbf
  rw [eS] at hag
  have zq : ∀ (K : Nat → Option ((Int32 ⊕ Nat) × Mm)), zBQ 3 (f_Par_code m1) K = K 20 := fun K => by
    show (if zT 20 = 3 then K 20 else none) = K 20
    exact if_pos (by decide)
  have hnd : f_Cod_named 20 m1 = some (i3 ((nf p : Nat) : Int)) := by
    unfold f_Cod_named
    rw [k3, nfp]
  cases b with
  | false =>
    refine Bo.rth (m1 := mD) (e := 1) hI (hF1.fx hFD) ?_ (by decide) (fun m' hE => ?_)
    · unfold f_Loo_mend
      rw [loo_feast h20 h25 hf, if_pos c1, zBXV_l, e1, zBI_some, if_pos rfl, hnam, zBXV_l, zq]
      unfold f_Alm_rewrite
      rw [hnd, zBP_some, ed, zBI_some, if_pos (show b3 false = 0 by decide), zBI_some, if_pos rfl]
    · obtain ⟨q1, q2, q3, q4⟩ := pre mD m' (hF1.fx hFD) hE
      obtain ⟨M, hRR, hRB, -, -, -, x, hx, hr⟩ := ref m' q1 q2 q3 q4
      refine ⟨M, wI (wI M 201 0 0) 201 0 3, ?_, hRR, hRB, fun b j h => by rw [w0_ne b j h, w0_ne b j h], rfl, zI_eq⟩
      rw [hr, if_pos (hx.mpr c3), hag, if_pos (show (!false) = true from rfl)]
  | true =>
    obtain ⟨ord, ho, hdO⟩ := hbt rfl
    have hX1 := hX.rc hF1 (RdC.rb hX.2.2.2.2 hF1)
    have wne : ∀ b j, b ≠ 27 → b ≠ 28 → zI (wC mD 28 27 N) b j = zI m1 b j := fun b j q1 q2 => by
      rw [zI_wC, if_neg (fun z => q1 z.1), hFD.2 _ _ q2]
    obtain ⟨⟨x1, x2, x3, x4⟩, -, hch, -⟩ := id hX1
    obtain ⟨mA, m2, a1, a2, f22, f2, t2, d2, n2⟩ := c_copy (m := wC mD 28 27 N) (p := p) (C := C) (T := T) (by omega) ⟨x1, by rw [wne _ _ (by decide) (by decide)]; exact x2, fun i hi => by rw [wne _ _ (by decide) (by decide)]; exact x3 i hi, x4⟩ (fun i hi => by rw [wne _ _ (by decide) (by decide)]; exact hch i hi) (by rw [wne _ _ (by decide) (by decide)]; exact k2) h40 (fun i hi => by rw [wne _ _ (by decide) (by decide), wne _ _ (by decide) (by decide)]; exact hCA i hi)
    have g2 : ∀ b j, b ≠ 27 → b ≠ 28 → ¬ (32 + 6 * p + 1 ≤ b ∧ b ≤ 32 + 6 * p + 5) → zI m2 b j = zI m1 b j := fun b j q1 q2 q3 => by rw [f2 b j q3, wne b j q1 q2]
    have hCE : iC m2 N (uK Kc p C) (uA Ac p C) (uL Lc p C.length) ord R mv F Y E nb (uT Tx p T) := c_men h20 hp hC1 hvL h40 k3 g2 (fun i hi => by
      rw [f2 _ _ (by omega), zI_wC, if_pos ⟨rfl, hi⟩]
      exact ho i hi) t2 d2 (by rw [n2, wne _ _ (by decide) (by decide)])
    have lowE : ∀ b j, ¬ (25 ≤ b ∧ b ≤ 151) → (b ≠ 17 ∨ j ≠ 1) → zI (wI m2 17 1 0) b j = zI m1 b j := by
      intro b' j q1 q2
      have s1 : zI m2 b' j = zI m1 b' j := g2 b' j (by omega) (by omega) (by omega)
      by_cases e : b' = 17
      · subst e
        rw [zI_nk (by omega), s1]
      · rw [zI_ne e, s1]
    have hND : ∀ f, f < N → ∀ g, Nm (uK Kc p C) (uA Ac p C) (uL Lc p C.length) f g → (nf f).testBit g = true := fun f hf g hg => by
      by_cases e : f = p
      · subst e
        rw [nfp, eS]
        exact (hS0 g).mpr (Nm_eq.mp hg)
      · rw [nfn f e]
        exact (hnmb f hf g).mpr ((Nm_ne e).mp hg)
    have hvo := vO_of hdO hND
    obtain ⟨rk', hrk', -⟩ := rk_of hvo hdO.2.1
    have zt : zT (32 + 6 * p + 3) = 3 := by
      have q : ∀ f, f < 20 → zT (32 + 6 * f + 3) = 3 := by decide +kernel
      exact q p (by omega)
    refine ⟨.inl (i3 C.length), wI m2 17 1 0, ?_, fun m' hE => ?_⟩
    · unfold f_Loo_mend
      rw [loo_feast h20 h25 hf, if_pos c1, zBXV_l, e1, zBI_some, if_pos rfl, hnam, zBXV_l, zq]
      unfold f_Alm_rewrite
      have D25 : zI mD 25 3 = i3 N := by rw [hFD.2 _ _ (by decide), f25]
      have hNx : zIx (i3 (N : Int)) = N := by rw [i3_ix ⟨by omega, by omega⟩, Int.toNat_natCast]
      have hl : zLn 28 = 20 ∧ zLn 27 = 20 := by decide
      have hcp : zCpy mD 0 28 27 (i3 (N : Int)) := ⟨by rw [show (0 : Int32) = i3 0 from rfl, i3_le ⟨by decide, by decide⟩ ⟨by omega, by omega⟩]; omega, by rw [hNx, hl.1]; exact h20, by rw [hNx, hl.2]; exact h20, fun z => absurd z (by decide)⟩
      rw [hnd, zBP_some, ed, zBI_some, if_neg (show ¬ b3 true = 0 by decide), D25, if_pos hcp, zLet_eq, hNx, if_pos hin, hix, a1, zBV_some, if_pos hin, a2, zBV_some, zBI_some, if_neg (by decide)]
      unfold f_Txt_clear f_Alm_code
      have zq2 : ∀ (K : Nat → Option ((Int32 ⊕ Nat) × Mm)), zBQ 3 (some (32 + 6 * p + 3)) K = K (32 + 6 * p + 3) := fun K => if_pos zt
      rw [zLet_eq, zBV_some, if_pos hin, hix, zq2]
      unfold f_Cod_size
      rw [zI_ne (by omega), d2.2.1, zBP_some]
    · have q1 : MT m' T := by
        obtain ⟨q1, q2, q3, q4⟩ := hX1.2.1
        exact ⟨q1, by rw [hE.zI, lowE _ _ (by decide) (by decide)]; exact q2, fun i hi => by rw [hE.zI, lowE _ _ (by decide) (Or.inl (by decide))]; exact q3 i hi, q4⟩
      have q2 : RB m' := hX1.2.2.2.2.c fun j _ => by rw [hE.zI, lowE _ _ (by decide) (Or.inl (by decide))]
      have q4 : iR m' N Kc Ac Lc R mv F Y E nb := hR.fc (((hF1.c cR_s rfl).trans (fun b j q => lowE b j (fun e => by rw [(lo_x e).2.2.1] at q; exact nomatch q) (by
        by_cases e : b = 17
        · subst e; exact nomatch q
        · exact Or.inl e))).trans hE.c)
      obtain ⟨M, hRR, hRB, hRM, hMA, k11, x, hx, hr⟩ := ref m' q1 q2 q4.1.1 q4
      rw [if_pos (hx.mpr c3), hag, if_neg (by decide)] at hr
      obtain ⟨V, e3, hFK, kl, kn, kk⟩ := mod_keeps (m := wI (wI M 201 0 0) 201 0 0) (show p < 20 by omega) h40 (by rw [zI_nk (by decide), zI_nk (by decide), k11])
      rw [e3, zBV_some, kn] at hr
      have hVR : iR V N (uK Kc p C) (uA Ac p C) (uL Lc p C.length) R mv F Y E nb := r_men h20 hp hRM hMA (fun b j h => by rw [w0_ne b j h, w0_ne b j h]) hFK kn kk (fun f hf => (w1.2 f hf).1)
      have vM : ∀ b j, ¬ ((208 ≤ b ∧ b ≤ 215) ∨ (b = 201 ∧ (j = 0 ∨ j = 3 ∨ j = 19 ∨ j = 25))) → zI V b j = zI M b j := by
        intro b' j q
        by_cases e : b' = 201
        · subst e
          rw [hFK.2.2.1 _ (by omega), w0_ne _ _ (by omega), w0_ne _ _ (by omega)]
        · rw [hFK.2.1 _ _ e (by omega) (by omega) (by omega), w0_ne _ _ (by omega), w0_ne _ _ (by omega)]
      obtain ⟨fT, fB, fQ⟩ := i_keep hF1 lowE hE hRR vM
      have hv2 : V.2 = M.2 := hFK.1
      refine ⟨i3 C.length, V, hr, ⟨t, [], N, hT.fc fT, ⟨⟨by decide, ?_, fun i hi => absurd hi (Nat.not_lt_zero i), fun c hc => absurd hc List.not_mem_nil⟩, ⟨by decide, kl, fun i hi => absurd hi (Nat.not_lt_zero i), fun c hc => absurd hc List.not_mem_nil⟩, fun i hi => ?_, ⟨(zI V 19 3).toInt, (i3_of _).symm⟩, hRB.c fun j hj => vM _ _ (by omega)⟩, ⟨uK Kc p C, uA Ac p C, uL Lc p C.length, rk', ord, R, mv, F, Y, E, nb, uT Tx p T, ⟨w1.up (Nat.le_refl N) h20 (fun f h1 h2 => h1) hvL h40 c3, hrk', hvo, w4, w5, w6, w7.up (fun f h1 h2 => h1) ep⟩, hCE.fc h20 (SFc.trans (SFc.w rfl) (hE.c.trans ((hRR.c cC_s rfl rfl rfl).trans (SFc.hi vM (fun b j e => (hi_x e).2.2.1) rfl)))), hVR⟩, hB.fc fB, hS.fc fQ (fun b j hb => ?_) (Nat.le_refl N)⟩, fun j => ?_, ?_, rfl⟩
      · rw [vM _ _ (by decide), hRR.1 _ _ (by decide), hE.zI, zI_eq]
        rfl
      · rw [vM _ _ (by omega), hRR.1 _ _ (by omega), hE.zI, lowE _ _ (by omega) (by omega)]
        exact hch i hi
      · rw [zL_of hv2, zL_of hRR.2, hE.2 b j hb]
        show m2.2.2.1 b j = m.2.2.1 b j
        rw [f22]
        show mD.2.2.1 b j = m.2.2.1 b j
        rw [hFD.1, hF1.2]
      · rw [zL_of hv2, zL_of hRR.2]
      · rw [hFK.2.2.1 _ (by decide), zI_eq]
end MEO
