/-! THE CLASS'S CALLS THAT THE LAW MAKES: a new feast, a search -/
theorem cStp_k {s : Int} (hs : vS s) {q : Int × Int} (h : q ∈ cStp s) : 5 ≤ q.1 ∧ q.1 ≤ 12 := by
  unfold cStp at h
  split at h
  · exact absurd h List.not_mem_nil
  · rw [List.mem_singleton] at h
    rw [h]
    unfold vS at hs
    show 5 ≤ wK s ∧ wK s ≤ 12
    unfold wK
    split <;> omega
theorem cAtm_n {n : Nat} {c : Int} (hc : c.natAbs / 10000 = 15 → c.natAbs % 10000 < n) {q : Int × Int} (h : q ∈ cAtm c) (h2 : 13 ≤ c.natAbs / 10000) : 13 ≤ q.1 ∧ (q.1 = 15 → q.2 < n) := by
  unfold cAtm at h
  rcases List.mem_cons.mp h with rfl | h
  · exact ⟨by show (13 : Int) ≤ ((c.natAbs / 10000 : Nat) : Int); omega, fun e => by
      have e : ((c.natAbs / 10000 : Nat) : Int) = 15 := e
      have := hc (by omega)
      show ((c.natAbs % 10000 : Nat) : Int) < n
      omega⟩
  · split at h
    · rw [List.mem_singleton] at h
      rw [h]
      exact ⟨by decide, fun e => absurd e (by decide)⟩
    · exact absurd h List.not_mem_nil
theorem cBr_n {n k : Nat} {f : Nat → Int} (hc : vC n (f 1)) (h2 : vS (f 2)) (h3 : f 3 = -1 ∨ vS (f 3)) {q : Int × Int} (h : q ∈ cBr k f) : (q.1 = 4 ∨ q.1 = 15) → q.2 < n := by
  have ha : ∀ q, q ∈ cAtm (f 1) → (q.1 = 4 ∨ q.1 = 15) → q.2 < n := fun q hq e => by
    have := cAtm_n (n := n) (c := f 1) (by have := hc.2.2; omega) hq (by have := hc.2.2; omega)
    rcases e with e | e
    · omega
    · exact this.2 e
  have hs : ∀ s, vS s → ∀ q, q ∈ cStp s → (q.1 = 4 ∨ q.1 = 15) → q.2 < n := fun s hs q hq e => by
    have := cStp_k hs hq
    omega
  unfold cBr at h
  split at h
  · rw [List.mem_append, List.mem_append, List.mem_singleton] at h
    rcases h with (h | h) | h
    · exact ha q h
    · rw [h]
      exact fun e => by
        have e : (19 : Int) = 4 ∨ (19 : Int) = 15 := e
        omega
    · exact hs _ h2 q h
  · rename_i c3
    rw [List.mem_append, List.mem_append, List.mem_append, List.mem_append, List.mem_singleton, List.mem_singleton] at h
    rcases h with (((h | h) | h) | h) | h
    · exact ha q h
    · rw [h]
      exact fun e => by
        have e : (19 : Int) = 4 ∨ (19 : Int) = 15 := e
        omega
    · exact hs _ h2 q h
    · rw [h]
      exact fun e => by
        have e : (18 : Int) = 4 ∨ (18 : Int) = 15 := e
        omega
    · exact hs _ (h3.resolve_left (by omega)) q h
theorem lC_n {n : Nat} {f : Nat → Int} (hv : vR n f) {q : Int × Int} (h : q ∈ lC f) : (q.1 = 4 ∨ q.1 = 15) → q.2 < n := by
  obtain ⟨v0, v1, v2, v3, v4, v5⟩ := hv
  have hs : ∀ s, vS s → ∀ q, q ∈ cStp s → (q.1 = 4 ∨ q.1 = 15) → q.2 < n := fun s hs q hq e => by
    have := cStp_k hs hq
    omega
  unfold lC at h
  rcases List.mem_cons.mp h with rfl | h
  · intro e
    have e : f 0 / 10000 = 4 ∨ f 0 / 10000 = 15 := e
    show f 0 % 10000 < n
    unfold vG at v0
    omega
  · rw [List.mem_append, List.mem_append] at h
    rcases h with h | h | h
    · split at h
      · exact hs _ v2 q h
      · rename_i c
        exact cBr_n (v1.resolve_left c) v2 v3 h
    · exact hs _ v4 q h
    · exact hs _ v5 q h
def upF (fr : Nat → Nat → Int) (N : Nat) (f : Nat → Int) : Nat → Nat → Int := fun k => if k = N then f else fr k
theorem lK_up {fr : Nat → Nat → Int} {N : Nat} {f : Nat → Int} : lK (upF fr N f) = uK (lK fr) N (lC f) := funext fun k => funext fun i => by
  unfold lK uK upF
  by_cases e : k = N
  · rw [if_pos e, if_pos e]
    rfl
  · rw [if_neg e, if_neg e]
theorem lA_up {fr : Nat → Nat → Int} {N : Nat} {f : Nat → Int} : lA (upF fr N f) = uA (lA fr) N (lC f) := funext fun k => funext fun i => by
  unfold lA uA upF
  by_cases e : k = N
  · rw [if_pos e, if_pos e]
    rfl
  · rw [if_neg e, if_neg e]
theorem lL_up {fr : Nat → Nat → Int} {N : Nat} {f : Nat → Int} : lL (upF fr N f) = uL (lL fr) N (lC f).length := funext fun k => by
  unfold lL uL upF
  by_cases e : k = N
  · rw [if_pos e, if_pos e]
  · rw [if_neg e, if_neg e]
section KFE
variable {m : Mm} {N nb nR t : Nat} {fr : Nat → Nat → Int} {Rv F Y E PR RE BE : Nat → Int} {T : List Int}
theorem k_feast (hA : LA N fr Rv nb F Y E) (h : CM m N fr Rv nb F Y E) (hN : N < 10) {f : Nat → Int} (hf : vR N f) (hm : okM f) (hX : kX m (rlT f)) {v : Int} (hv : 0 ≤ v ∧ v ≤ 19) : ∃ m1, n_Loo_feast (i3 (v / 2)) (b3 (decide (v % 2 = 1))) m = some (i3 N, m1) ∧ CM m1 (N + 1) (upF fr N f) (upI Rv N v) nb F Y E ∧ kX m1 [] ∧ Fz 3 2 m m1 ∧ Lo m m1 := by
  have ep := rl_parse (by omega) hf hm hX.1.1
  obtain ⟨m1, e1, hF1, k2, k3, hCA⟩ := cls_rule hX ep
  obtain ⟨hvL, hCT⟩ := v_rule hX.1.1 ep
  have hX1 := RdC.kx hX hF1
  have hT40 := hX.1.1
  have hnm : ∀ i, i < (lC f).length → (((lC f).getD i (0, 0)).1 = 4 ∨ ((lC f).getD i (0, 0)).1 = 15) → ((lC f).getD i (0, 0)).2 < N := fun i hi => lC_n hf (getD_mem hi)
  obtain ⟨o, Tx, ⟨w1, w2, w3, w4, w5, w6, w7⟩, hC⟩ := h
  have h20 := w1.1
  generalize hCf : lC f = C at *
  have h40 : C.length ≤ 40 := by omega
  have hC1 : iC m1 N (lK fr) (lA fr) (lL fr) o (rR Rv) (rM Rv) F Y E nb Tx := hC.gx h20 (fun b j hb => hF1.1 b j (by omega))
  have f25 := hC1.1.1
  have hsz : f_Alm_size m1 = some (i3 N) := by
    unfold f_Alm_size
    rw [f25]
  have zq : ∀ {β : Type} (K : Nat → Option β), zBQ 3 (f_Par_code m1) K = K 20 := fun K => by
    show (if zT 20 = 3 then K 20 else none) = K 20
    exact if_pos (by decide)
  have hchk : n_Loo_checkNames m1 = some m1 := by
    obtain ⟨n1, n2⟩ := nm_rule (N := N) hvL h40
    unfold n_Loo_checkNames
    rw [zq, hsz, zBP_some, cod_beyond h20 n2 k3, zBP_some, decide_eq_true (n1.mpr hnm), if_pos (show b3 (!true) = 0 by decide)]
  have hfull : f_Alm_isFull m1 = some 0 := by
    unfold f_Alm_isFull
    rw [f25, show (20 : Int32) = i3 20 from rfl, it_lt ⟨by omega, by omega⟩ ⟨by decide, by decide⟩, if_pos (by omega)]
  obtain ⟨hinN, hixN⟩ := fi20 (show N < 20 by omega)
  obtain ⟨mA, m2, a1, a2, f22, f2, t2, d2, n2⟩ := c_copy (m := m1) (p := N) (by omega) hX1.1 hX1.2.1 k2 h40 hCA
  generalize hmE : wI (wI (wI (wI m2 27 N (i3 N)) 25 3 (i3 ((N + 1 : Nat) : Int))) (32 + 6 * N) 2 (i3 (v / 2))) (32 + 6 * N) 3 (b3 (decide (v % 2 = 1))) = mE
  have hCE := c_new (r := v / 2) (b := decide (v % 2 = 1)) (by omega) hC1 hvL h40 k3 f2 t2 d2 n2
  rw [hmE] at hCE
  have e1R : (fun g => if g = N then v / 2 else rR Rv g) = rR (upI Rv N v) := funext fun g => by
    unfold rR upI
    split <;> rfl
  have e2R : (fun g => if g = N then decide (v % 2 = 1) else rM Rv g) = rM (upI Rv N v) := funext fun g => by
    unfold rM upI
    split <;> rfl
  rw [e1R, e2R] at hCE
  have lowE : ∀ b j, ¬ (25 ≤ b ∧ b ≤ 151) → zI mE b j = zI m1 b j := fun b' j q1 => by rw [← hmE, zI_ne (by omega), zI_ne (by omega), zI_ne (by omega), zI_ne (by omega), f2 b' j (by omega)]
  have hFE : Fz 3 0 m1 mE := ⟨fun b' j a1 a2 a3 => lowE b' j (fun c => by
    by_cases e : b' = 28
    · have := zone_lo (b := b') (j := j) (Or.inr e)
      have h28 : zone b' j = 0 := by rw [e]; rfl
      exact a1 h28
    · exact a2 (zone_A (by omega))), by rw [← hmE]; exact zL_of f22 170 3⟩
  have hNm : ∀ g, Nm (uK (lK fr) N C) (uA (lA fr) N C) (uL (lL fr) N C.length) N g → g < N := fun g hg => by
    obtain ⟨i, hi, hk, e⟩ := Nm_eq.mp hg
    have := hnm i hi hk
    omega
  have hCM : CM (wI mE 17 1 0) (N + 1) (upF fr N f) (upI Rv N v) nb F Y E := by
    unfold CM
    rw [lK_up, lA_up, lL_up, hCf]
    refine ⟨fun i => if i = N then N else o i, uT Tx N (rlT f), ⟨VW.up w1 (Nat.le_succ N) (by omega) (fun k h1 h2 => by omega) hvL h40 (fun i hi hk => by have := hnm i hi hk; omega), fun k hk => ⟨hk, fun g hg => ?_⟩, vO_add w3 (fun k hk g hg => (Nm_ne (by omega)).mp hg) hNm, fun k hk => ?_, w5, w6, w7.up (fun k h1 h2 => by omega) ep⟩, hCE.gx (by omega) (fun b' j hb => zI_ne (by omega))⟩
    · by_cases e : k = N
      · subst e
        exact hNm g hg
      · exact (w2 k (by omega)).2 g ((Nm_ne e).mp hg)
    · unfold rR upI
      by_cases e : k = N
      · rw [if_pos e]; omega
      · rw [if_neg e]
        have := hA.2.2.2.1 k (by omega)
        omega
  refine ⟨wI mE 17 1 0, ?_, hCM, k_clear (hX1.fz hFE ⟨by decide, by decide⟩), ((hF1.fz.up (Or.inr (Or.inr rfl)) (Or.inl rfl)).trans (hFE.up (Or.inr (Or.inl rfl)) (Or.inl rfl))).trans (Fz.w (Or.inr (Or.inr rfl))), fun b' j hb => by rw [zI_ne (by omega), lowE b' j (by omega), hF1.lo b' j hb]⟩
  unfold n_Loo_feast
  rw [n_rank (by omega), zBV_some, e1, zBI_some, if_pos rfl, hfull, zBP_some, if_pos rfl, hchk, zBV_some, zq]
  unfold f_Alm_add
  have g25 : zI (wI m2 27 N (i3 N)) 25 3 = i3 N := by rw [zI_ne (by decide), f2 _ _ (by omega), f25]
  rw [zLet_eq, f25, if_pos hinN, hixN, a1, zBV_some, if_pos hinN, a2, zBV_some, if_pos hinN, zLet_eq, zLet_eq, g25, i3_add1, zBI_some]
  unfold f_Alm_setRank
  rw [if_pos hinN, hixN, zLet_eq, if_pos hinN, if_pos (b3_bo _), zLet_eq, zBV_some]
  unfold f_Txt_clear
  rw [zLet_eq, zBV_some]
  rw [← hmE]
  rfl
end KFE
/-! the question's code -/
theorem qA_q {n : Nat} {g : Nat → Int} (hv : vQ n g) (hn : n ≤ 10) : qCl (20 + g 1) (qV g) ∧ qNm n (20 + g 1) (qV g) := by
  obtain ⟨v0, v1, v2, v3⟩ := hv
  unfold qV
  rcases (show g 1 = 1 ∨ g 1 = 2 ∨ g 1 = 3 ∨ g 1 = 4 ∨ g 1 = 5 by omega) with c | c | c | c | c
  · rw [c, if_pos rfl]
    exact ⟨Or.inl ⟨by decide, rfl⟩, fun z => by omega, fun z => by omega, fun z => by omega, fun z => by omega⟩
  · rw [c, if_neg (by decide), if_pos rfl]
    have hb : 0 ≤ g 3 ∧ g 3 < 10000 := by
      rcases v3 with h | h | h
      · have := h.2.bz
        omega
      · omega
      · omega
    exact ⟨Or.inr (Or.inl ⟨by decide, by omega, by omega⟩), fun z => by omega, fun z => by omega, fun z => by omega, fun z => by omega⟩
  · rw [c, if_neg (by decide), if_neg (by decide), if_pos rfl]
    exact ⟨Or.inr (Or.inr (Or.inl ⟨by decide, by omega, by omega, by omega⟩)), fun z => by omega, fun z => by omega, fun z => by omega, fun z => by omega⟩
  · rw [c, if_neg (by decide), if_neg (by decide), if_neg (by decide), if_pos rfl]
    exact ⟨Or.inr (Or.inr (Or.inr (Or.inl ⟨by decide, by omega, by omega⟩))), fun z => by omega, fun z => by omega, fun z => by omega, fun z => by omega⟩
  · rw [c, if_neg (by decide), if_neg (by decide), if_neg (by decide), if_neg (by decide)]
    exact ⟨Or.inr (Or.inr (Or.inr (Or.inr ⟨by decide, by omega, by omega, by omega⟩))), fun z => by omega, fun z => by omega, fun z => by omega, fun z => by omega⟩
theorem qA_len (g : Nat → Int) : (qA g).length ≤ 2 := by
  unfold qA
  split <;> simp
theorem qL_nil {M n : Nat} : qL M n [] := fun i hi => absurd hi (Nat.not_lt_zero i)
theorem qA_L {n M k : Nat} {g : Nat → Int} (hv : vQ n g) (hn : n ≤ 10) : qL M k (qA g) := by
  unfold qA
  refine qL.app (qL.one (Or.inl (qA_q hv hn).1)) ?_
  split
  · exact qL.one (Or.inr (Or.inl ⟨rfl, rfl⟩))
  · exact qL_nil
theorem cNm_0 {k x : Int} (h : k = 17 ∨ k = 19 ∨ k = 20) : cNm (k, x) = 0 := by
  unfold cNm
  rw [if_neg (by show ¬ (k = 4 ∨ k = 15 ∨ k = 24); omega), if_neg (by show ¬ k = 22; omega), if_neg (by show ¬ k = 23; omega), if_neg (by show ¬ k = 25; omega)]
theorem qA_m {n : Nat} {g : Nat → Int} (hv : vQ n g) (hn : n ≤ 10) {q : Int × Int} (h : q ∈ qA g) : qNm n q.1 q.2 ∧ cNm q < 2 ^ n := by
  have hq := qA_q hv hn
  unfold qA at h
  rw [List.mem_append, List.mem_singleton] at h
  rcases h with h | h
  · rw [h]
    exact ⟨hq.2, (cNm_q hq.1).1.mpr hq.2⟩
  · split at h
    · rw [List.mem_singleton] at h
      rw [h]
      exact ⟨qNm_no (Or.inl (by decide)), by rw [cNm_0 (Or.inl rfl)]; exact Nat.two_pow_pos n⟩
    · exact absurd h List.not_mem_nil
theorem lQ_m {n : Nat} {q0 : Int} {g h : Nat → Int} (hg : vQ n g) (hh : vQ n h) (hn : n ≤ 10) {q : Int × Int} (hq : q ∈ lQ q0 g h) : qNm n q.1 q.2 ∧ cNm q < 2 ^ n := by
  unfold lQ at hq
  split at hq
  · exact qA_m hg hn hq
  · rw [List.mem_append, List.mem_append, List.mem_singleton] at hq
    rcases hq with (hq | hq) | hq
    · exact qA_m hg hn hq
    · rw [hq]
      have hk : ((if q0 = 1 then 19 else 20 : Int)) = 19 ∨ (if q0 = 1 then 19 else 20 : Int) = 20 := by split <;> simp
      exact ⟨qNm_no (Or.inl (by show (if q0 = 1 then 19 else 20 : Int) < 22; omega)), by rw [cNm_0 (Or.inr hk)]; exact Nat.two_pow_pos n⟩
    · exact qA_m hh hn hq
theorem lQ_L {n : Nat} {q0 : Int} {g h : Nat → Int} (hg : vQ n g) (hh : vQ n h) (hn : n ≤ 10) : qL (lQ q0 g h).length 0 (lQ q0 g h) := by
  unfold lQ
  split
  · exact qA_L hg hn
  · refine qL.app (qL.app (qA_L hg hn) (qL.one (Or.inr (Or.inr ⟨by split <;> simp, by omega, ?_⟩)))) (qA_L hh hn)
    rw [List.length_append, List.length_append]
    simp
theorem nm_lt {n : Nat} : ∀ C : Cx, (∀ q, q ∈ C → cNm q < 2 ^ n) → nmC C < 2 ^ n
  | [], _ => Nat.two_pow_pos n
  | q :: C, h => by
    show cNm q ||| nmC C < 2 ^ n
    exact or_lt.mpr ⟨h q List.mem_cons_self, nm_lt C fun z hz => h z (List.mem_cons_of_mem q hz)⟩
section KSE
variable {m : Mm} {N nb nR t : Nat} {fr : Nat → Nat → Int} {Rv F Y E PR RE BE : Nat → Int} {T : List Int}
theorem k_search (hT : kTb m t) (h10 : N ≤ 10) (h : CM m N fr Rv nb F Y E) {q0 : Int} {g h' : Nat → Int} (hg : vQ N g) (hh : vQ N h') (h0 : 0 ≤ q0 ∧ q0 ≤ 2) (hX : kX m (qTx q0 g h')) {y : Nat} (hy : y < 400) :
    ∃ m1, n_Loo_search (i3 y) m = some (i3 (cYr y t F Y E nb (lK fr) (lA fr) (lL fr) N), m1) ∧ kX m1 [] ∧ Fz 5 2 m m1 ∧ Lo m m1 ∧ zI m1 170 1 = 1 ∧ zI m1 170 2 = i3 y ∧ Cd m1 171 (kK (lQ q0 g h')) (kA (lQ q0 g h')) (lQ q0 g h').length := by
  have ep := q_parse h10 hg (fun _ => hh) h0
  obtain ⟨m1, e1, hF1, k2, k3, hCA⟩ := cls_ask hX ep
  have hX1 := RdC.kx hX hF1
  have hnm : nmC (lQ q0 g h') < 2 ^ N := nm_lt _ (fun q hq => (lQ_m hg hh h10 hq).2)
  have h40 : (lQ q0 g h').length ≤ 40 := by
    have l1 := qA_len g
    have l2 := qA_len h'
    unfold lQ
    split
    · omega
    · rw [List.length_append, List.length_append]
      show (qA g).length + 1 + (qA h').length ≤ 40
      omega
  obtain ⟨o, Tx, ⟨w1, w2, w3, w4, w5, w6, w7⟩, hC⟩ := h
  have h20 := w1.1
  have hC1 : iC m1 N (lK fr) (lA fr) (lL fr) o (rR Rv) (rM Rv) F Y E nb Tx := hC.gx h20 (fun b j hb => hF1.1 b j (by omega))
  have f25 := hC1.1.1
  have hsz : f_Alm_size m1 = some (i3 N) := by
    unfold f_Alm_size
    rw [f25]
  have zq : ∀ {β : Type} (K : Nat → Option β), zBQ 3 (f_Par_code m1) K = K 20 := fun K => by
    show (if zT 20 = 3 then K 20 else none) = K 20
    exact if_pos (by decide)
  have hb31 : nmC (lQ q0 g h') < 2147483648 := Nat.lt_of_lt_of_le hnm (Nat.le_trans (Nat.pow_le_pow_right (by decide) h10) (by decide))
  have hchk : n_Loo_checkNames m1 = some m1 := by
    unfold n_Loo_checkNames
    rw [zq, hsz, zBP_some, cod_beyond h20 hb31 k3, zBP_some, decide_eq_true hnm, if_pos (show b3 (!true) = 0 by decide)]
  generalize hCq : lQ q0 g h' = C at *
  obtain ⟨mQ, eq, fq2, fq, dq⟩ := cod_copyQ (m := m1) rfl h40 k2 hCA
  generalize hmT : wI (wI (wI mQ 170 2 (i3 y)) 170 1 1) 17 1 0 = mT
  have lowT : ∀ b j, ¬ (170 ≤ b ∧ b ≤ 173) → (b ≠ 17 ∨ j ≠ 1) → zI mT b j = zI m1 b j := by
    intro b j q1 q2
    rw [← hmT]
    by_cases e : b = 17
    · subst e
      rw [zI_nk (by omega), zI_ne (by decide), zI_ne (by decide), fq _ _ (by decide)]
    · rw [zI_ne e, zI_ne (by omega), zI_ne (by omega), fq _ _ (by omega)]
  have hFT : Fz 5 2 m1 mT := ⟨fun b j a1 a2 a3 => lowT b j (fun c => by
    by_cases e : b = 170
    · subst e
      by_cases e1 : j = 1
      · subst e1; exact a2 rfl
      · by_cases e2 : j = 2
        · subst e2; exact a2 rfl
        · refine a1 ?_
          unfold zone
          rw [if_neg (by omega), if_neg (by omega), if_neg (by omega), if_neg (by omega), if_neg (by omega), if_neg (by omega)]
    · rcases (show b = 171 ∨ b = 172 ∨ b = 173 by omega) with rfl | rfl | rfl
      · exact a2 rfl
      · exact a2 rfl
      · exact a2 rfl) (by
    by_cases e : b = 17
    · subst e
      by_cases e1 : j = 1
      · subst e1; exact absurd rfl a3
      · exact Or.inr e1
    · exact Or.inl e), by rw [← hmT]; exact zL_of fq2 170 3⟩
  have hTt : zI mT 16 8 = i3 t := by rw [lowT _ _ (by decide) (by decide), hF1.1 _ _ (by decide)]; exact hT.2
  have hCT : iC mT N (lK fr) (lA fr) (lL fr) o (rR Rv) (rM Rv) F Y E nb Tx := hC1.gx h20 (fun b j q => lowT b j (by omega) (by omega))
  obtain ⟨mF, eF, hFB, -, -, -, hv1⟩ := boo_reckon (m := mT) (a := 152) (by decide) hy hT.1 w1 w2 w5 w6 hCT.1 hCT.2.2.2.1 hCT.2.1 w3
  have hS := hFB.sf (Or.inl rfl)
  have hXT : kX mT [] := by
    have hXQ : kX (wI (wI mQ 170 2 (i3 y)) 170 1 1) (qTx q0 g h') := by
      obtain ⟨⟨a1, a2, a3, a4⟩, h3, ⟨vv, hv⟩⟩ := hX1
      have lo : ∀ b j, b < 170 → zI (wI (wI mQ 170 2 (i3 y)) 170 1 1) b j = zI m1 b j := fun b j hb => by rw [zI_ne (by omega), zI_ne (by omega), fq _ _ (by omega)]
      exact ⟨⟨a1, by rw [lo _ _ (by decide)]; exact a2, fun i hi => by rw [lo _ _ (by decide)]; exact a3 i hi, a4⟩, fun i hi => by rw [lo _ _ (by decide)]; exact h3 i hi, ⟨vv, by rw [lo _ _ (by decide)]; exact hv⟩⟩
    rw [← hmT]
    exact k_clear hXQ
  refine ⟨mF, ?_, hXT.fx hS, ((hF1.fz.up (Or.inr (Or.inr rfl)) (Or.inl rfl)).trans hFT).trans hS.fz, ((hF1.lo.trans fun b j hb => lowT b j (by omega) (by omega))).trans hS.lo, ?_, ?_, ?_⟩
  · unfold n_Loo_search
    rw [n_year hy, zBV_some, e1, zBI_some, if_pos rfl, hchk, zBV_some, zq]
    unfold f_Sol_start f_Txt_clear
    rw [eq, zBV_some, zLet_eq, zLet_eq, zBV_some, zLet_eq, zBV_some, hmT, hTt, eF, zBV_some, boo_costs (c := fun f => (sG y t F Y E nb (lK fr) (lA fr) (lL fr) f).2) h20 (by rw [hFB.2.1 _ _ (by decide)]; exact hCT.1.1) (fun f hf => (hv1 f hf).2), zBP_some]
    rfl
  · rw [hS.1 _ _ (by exact rfl), ← hmT, zI_ne (by decide), zI_eq]
  · rw [hS.1 _ _ (by exact rfl), ← hmT, zI_ne (by decide), zI_nk (by decide), zI_eq]
  · obtain ⟨d1, d2, d3⟩ := dq
    have up : ∀ b j, b = 171 ∨ b = 172 ∨ b = 173 → zI mF b j = zI mQ b j := fun b j hb => by
      rw [hFB.2.1 _ _ (by omega), ← hmT, zI_ne (by omega), zI_ne (by omega), zI_ne (by omega)]
    exact ⟨d1, by rw [up _ _ (by decide)]; exact d2, fun i hi => ⟨by rw [up _ _ (by decide)]; exact (d3 i hi).1, by rw [up _ _ (by decide)]; exact (d3 i hi).2⟩⟩
theorem k_goOn (hT : kTb m t) (h10 : N ≤ 10) (h : CM m N fr Rv nb F Y E) {q0 : Int} {g h' : Nat → Int} (hg : vQ N g) (hh : vQ N h') (hS1 : zI m 170 1 = 1) {y0 : Nat} (hy0 : y0 ≤ 400) (hS2 : zI m 170 2 = i3 y0) (hQ : Cd m 171 (kK (lQ q0 g h')) (kA (lQ q0 g h')) (lQ q0 g h').length) {l : Int} (hl : 1 ≤ l ∧ l ≤ 100000)
    {r : Int × Nat × Int64} (hr : gG (fun y => cYr y t F Y E nb (lK fr) (lA fr) (lL fr) N) (fun y => hYr y t F Y E nb (lK fr) (lA fr) (lL fr) N (rR Rv) (rM Rv) (lQ q0 g h')) (400 - y0) l y0 (zL m 170 3) = r) :
    ∃ m1, n_Loo_goOn (i3 l) m = some (i3 r.1, m1) ∧ (∀ b j, zone b j ≠ 0 → (b ≠ 170 ∨ j ≠ 2) → zI m1 b j = zI m b j) ∧ Lo m m1 ∧ zI m1 170 2 = i3 r.2.1 ∧ zL m1 170 3 = r.2.2 := by
  obtain ⟨o, Tx, hW, hC⟩ := h
  have hL := lQ_L (q0 := q0) hg hh h10
  have hM : ∀ q, q ∈ lQ q0 g h' → _ := fun q hq => lQ_m (q0 := q0) hg hh h10 hq
  obtain ⟨mF, e1, hF, h2, h3, -⟩ := c_look hT hW hC hQ (fun i hi => ⟨by have := hL i hi; rw [Nat.zero_add] at this; exact this, (hM _ (getD_mem hi)).1⟩) ⟨by omega, hl.2⟩ hy0 hS2 hr
  refine ⟨mF, ?_, fun b j a1 a2 => hF b j (fun c => a1 ?_) a2, fun b j hb => hF b j (by omega) (by omega), h2, h3⟩
  · unfold n_Loo_goOn
    rw [zLet_q, show (1 : Int32) = i3 1 from rfl, it_lt ⟨by omega, by omega⟩ ⟨by decide, by decide⟩, if_neg (by omega), show (100000 : Int32) = i3 100000 from rfl, it_le ⟨by omega, by omega⟩ ⟨by decide, by decide⟩, if_pos hl.2]
    unfold f_Sol_isStarted
    rw [hS1, if_pos (by decide), zBP_some, if_neg (by decide), hT.2, e1, zBI_some]
  · unfold zone
    rw [if_neg (by omega), if_neg (by omega), if_neg (by omega), if_neg (by omega), if_neg (by omega), if_neg (by omega)]
theorem k_goOnX (hS : zI m 170 1 = 0) {l : Int} (hl : 1 ≤ l ∧ l ≤ 100000) : f_Loo_goOn (i3 l) m = some (.inr 1, m) := by
  unfold f_Loo_goOn
  rw [zLet_eq, show (1 : Int32) = i3 1 from rfl, it_lt ⟨by omega, by omega⟩ ⟨by decide, by decide⟩, if_neg (by omega), show (100000 : Int32) = i3 100000 from rfl, it_le ⟨by omega, by omega⟩ ⟨by decide, by decide⟩, if_pos hl.2]
  unfold f_Sol_isStarted
  rw [hS, if_pos (by decide), zBP_some, if_pos rfl]
theorem k_spent : f_Loo_spent m = some (zL m 170 3) := rfl
end KSE
