/-! THE CLASS'S CALLS THAT THE LAW MAKES -/
/-- the law's own cells stay -/
def Lo (m m' : Mm) : Prop := ∀ b j, 201 ≤ b → zI m' b j = zI m b j
theorem Lo.refl {m : Mm} : Lo m m := fun _ _ _ => rfl
theorem Lo.trans {m m' m'' : Mm} (h : Lo m m') (h2 : Lo m' m'') : Lo m m'' := fun b j q => (h2 b j q).trans (h b j q)
theorem SF.lo {m m' : Mm} (h : SF m m') : Lo m m' := fun b j q => h.1 b j (Sc.l q)
section KCL
variable {m : Mm} {N nb nR t : Nat} {fr : Nat → Nat → Int} {Rv F Y E PR RE BE : Nat → Int} {T : List Int}
theorem k_table (hT : kTb m t) {v : Nat} (hv : v < 2) : ∃ m1, n_Loo_table (i3 v) m = some (i3 t, m1) ∧ kTb m1 v ∧ Fz 1 0 m m1 ∧ Lo m m1 :=
  ⟨wI m 16 8 (i3 v), by unfold n_Loo_table; rw [n_table hv, zBV_some, zLet_q, zLet_q, hT.2], ⟨hv, zI_eq⟩, Fz.w (Or.inr (Or.inl rfl)), fun b j hb => zI_ne (by omega)⟩
theorem k_rank (hA : LA N fr Rv nb F Y E) (h : CM m N fr Rv nb F Y E) {f : Nat} (hf : f < N) {v : Int} (hv : 0 ≤ v ∧ v ≤ 19) : ∃ m1, n_Loo_rank (i3 f) (i3 (v / 2)) (b3 (decide (v % 2 = 1))) m = some (i3 (Rv f / 2), m1) ∧ CM m1 N fr (upI Rv f v) nb F Y E ∧ Fz 3 0 m m1 ∧ Lo m m1 := by
  obtain ⟨o, Tx, ⟨w1, w2, w3, w4, w5, w6, w7⟩, hC⟩ := h
  have h20 := w1.1
  have h10 := hA.1
  obtain ⟨hin, hix⟩ := fi20 (show f < 20 by omega)
  refine ⟨wI (wI m (32 + 6 * f) 2 (i3 (v / 2))) (32 + 6 * f) 3 (b3 (decide (v % 2 = 1))), ?_, ⟨o, Tx, ⟨w1, w2, w3, fun g hg => ?_, w5, w6, w7⟩, ?_⟩, ?_, fun b j hb => by rw [zI_ne (by omega), zI_ne (by omega)]⟩
  · unfold n_Loo_rank
    rw [n_feast h20 hC.1.1 hf, zBV_some, n_rank (by omega), zBV_some]
    unfold f_Alm_rankOf f_Alm_setRank
    rw [if_pos hin, hix, zBP_some, (hC.2.2.1 f hf).1, if_pos hin, zLet_eq, if_pos hin, if_pos (b3_bo _), zLet_eq, zBV_some]
    rfl
  · have := hA.2.2.2.1 g hg
    unfold rR upI
    split <;> omega
  · have e := c_set (f := f) (r := v / 2) (b := decide (v % 2 = 1)) h20 hC
    have e1 : (fun g => if g = f then v / 2 else rR Rv g) = rR (upI Rv f v) := funext fun g => by
      unfold rR upI
      split <;> rfl
    have e2 : (fun g => if g = f then decide (v % 2 = 1) else rM Rv g) = rM (upI Rv f v) := funext fun g => by
      unfold rM upI
      split <;> rfl
    rw [e1, e2] at e
    exact e
  · exact (Fz.w (Or.inr (Or.inl (zone_A (by omega))))).trans (Fz.w (Or.inr (Or.inl (zone_A (by omega)))))
theorem k_disp (h : CM m N fr Rv nb F Y E) {f y : Nat} (hf : f < N) (hy : y < 400) {k : Int} (hk : k = 99 ∨ (-30 ≤ k ∧ k ≤ 30)) (hn : near F Y f y nb = false) (h10 : nb < 10) : ∃ m1, n_Loo_dispense (i3 f) (i3 y) (i3 k) m = some (i3 ((nb + 1 : Nat) : Int), m1) ∧ CM m1 N fr Rv (nb + 1) (upI F nb f) (upI Y nb y) (upI E nb k) ∧ Fz 3 0 m m1 ∧ Lo m m1 := by
  obtain ⟨o, Tx, ⟨w1, w2, w3, w4, w5, w6, w7⟩, hC⟩ := h
  have h20 := w1.1
  have hg := alm_grant (k := k) w5 hC.2.2.2.1 (show 0 ≤ (f : Int) ∧ (f : Int) < 20 by omega) (show 0 ≤ (y : Int) ∧ (y : Int) < 400 by omega)
  rw [hn, decide_eq_true (show nb < 30 by omega), if_pos (show (true && !false) = true from rfl)] at hg
  have e99 : (i3 k = 99) ↔ k = 99 := i3_eq (b := 99) ⟨by omega, by omega⟩ ⟨by decide, by decide⟩
  refine ⟨wCn m nb f y k, ?_, ⟨o, Tx, ⟨w1, w2, w3, w4, ⟨by omega, fun i hi => ?_⟩, grant_u w6 hn, w7⟩, c_bn h20 hC (fun b j a1 a2 a3 a4 => wCn_ne b j a1 a2 a3 a4) (grant_c hC.2.2.2.1)⟩, ⟨fun b j a1 a2 a3 => ?_, rfl⟩, fun b j hb => wCn_ne b j (by omega) (by omega) (by omega) (by omega)⟩
  · unfold n_Loo_dispense
    rw [n_feast h20 hC.1.1 hf, zBV_some, n_year hy, zBV_some, zLet_q]
    have hres : (zBI (f_Alm_grant (i3 f) (i3 y) (i3 k) m) fun v6 m5 => if v6 = 0 then none else zBP (f_Alm_dispensations m5) fun v8 => some (v8, m5)) = some (i3 ((nb + 1 : Nat) : Int), wCn m nb f y k) := by
      rw [hg, zBI_some, if_neg (by decide)]
      unfold f_Alm_dispensations
      rw [(grant_c hC.2.2.2.1).1, zBP_some]
    by_cases c4 : k = 99
    · rw [if_pos (e99.mpr c4)]
      exact hres
    · rw [if_neg (fun z => c4 (e99.mp z)), zLet_q, show (-30 : Int32) = i3 (-30) from by decide, it_lt ⟨by omega, by omega⟩ ⟨by decide, by decide⟩, if_neg (by omega), show (30 : Int32) = i3 30 from rfl, it_le ⟨by omega, by omega⟩ ⟨by decide, by decide⟩, if_pos (by omega)]
      exact hres
  · show (0 ≤ upI F nb f i ∧ upI F nb f i < 20) ∧ (0 ≤ upI Y nb y i ∧ upI Y nb y i < 400) ∧ (-30 ≤ upI E nb k i ∧ upI E nb k i ≤ 99)
    unfold upI
    by_cases e : i = nb
    · rw [if_pos e, if_pos e, if_pos e]; omega
    · rw [if_neg e, if_neg e, if_neg e]; exact w5.2 i (by omega)
  · refine wCn_ne b j (fun e => a2 ?_) (fun e => a2 ?_) (fun e => a2 ?_) ?_
    · rw [e]; exact zone_A (by omega)
    · rw [e]; exact zone_A (by omega)
    · rw [e]; exact zone_A (by omega)
    · by_cases e : b = 25
      · exact absurd (by rw [e]; exact zone_A (by omega)) a2
      · exact Or.inl e
theorem k_dispX (h : CM m N fr Rv nb F Y E) {f y : Nat} (hf : f < N) (hy : y < 400) {k : Int} (hk : k = 99 ∨ (-30 ≤ k ∧ k ≤ 30)) (hn : near F Y f y nb = true) : f_Loo_dispense (i3 f) (i3 y) (i3 k) m = some (.inr 1, m) := by
  obtain ⟨o, Tx, ⟨w1, w2, w3, w4, w5, w6, w7⟩, hC⟩ := h
  have h20 := w1.1
  have hg := alm_grant (k := k) w5 hC.2.2.2.1 (show 0 ≤ (f : Int) ∧ (f : Int) < 20 by omega) (show 0 ≤ (y : Int) ∧ (y : Int) < 400 by omega)
  have hb : (decide (nb < 30) && !near F Y f y nb) = false := by rw [hn]; cases decide (nb < 30) <;> rfl
  rw [hb, if_neg (by decide)] at hg
  have e99 : (i3 k = 99) ↔ k = 99 := i3_eq (b := 99) ⟨by omega, by omega⟩ ⟨by decide, by decide⟩
  unfold f_Loo_dispense
  rw [loo_feast h20 hC.1.1 ⟨by omega, by omega⟩, if_pos (by omega), zBXV_l, loo_year ⟨by omega, by omega⟩, if_pos (by omega), zBXV_l, zLet_eq]
  have hres : (zBI (f_Alm_grant (i3 f) (i3 y) (i3 k) m) fun v6 m5 => if v6 = 0 then some ((.inr 1 : Int32 ⊕ Nat), m5) else zBP (f_Alm_dispensations m5) fun v8 => some (.inl v8, m5)) = some (.inr 1, m) := by
    rw [hg, zBI_some, if_pos rfl]
  by_cases c4 : k = 99
  · rw [if_pos (e99.mpr c4)]
    exact hres
  · rw [if_neg (fun z => c4 (e99.mp z)), zLet_eq, show (-30 : Int32) = i3 (-30) from by decide, it_lt ⟨by omega, by omega⟩ ⟨by decide, by decide⟩, if_neg (by omega), show (30 : Int32) = i3 30 from rfl, it_le ⟨by omega, by omega⟩ ⟨by decide, by decide⟩, if_pos (by omega)]
    exact hres
theorem up_bn {i : Nat} (hi : i < nb) (hv : vB F Y E nb) (hu : Un F Y nb) : vB (upI F i (F (nb - 1))) (upI Y i (Y (nb - 1))) (upI E i (E (nb - 1))) (nb - 1) ∧ Un (upI F i (F (nb - 1))) (upI Y i (Y (nb - 1))) (nb - 1) := by
  have h30 := hv.1
  refine ⟨⟨by omega, fun j hj => ?_⟩, fun a b ha hb e1 e2 => ?_⟩
  · unfold upI
    by_cases e : j = i
    · rw [if_pos e, if_pos e, if_pos e]
      exact hv.2 _ (by omega)
    · rw [if_neg e, if_neg e, if_neg e]
      exact hv.2 _ (by omega)
  · unfold upI at e1 e2
    by_cases ea : a = i
    · by_cases eb : b = i
      · omega
      · rw [if_pos ea, if_neg eb] at e1 e2
        have := hu (nb - 1) b (by omega) (by omega) e1 e2
        omega
    · by_cases eb : b = i
      · rw [if_neg ea, if_pos eb] at e1 e2
        have := hu a (nb - 1) (by omega) (by omega) e1 e2
        omega
      · rw [if_neg ea, if_neg eb] at e1 e2
        exact hu a b (by omega) (by omega) e1 e2
theorem k_take (h : CM m N fr Rv nb F Y E) (hFN : ∀ i, i < nb → F i < N) {i : Nat} (hi : i < nb) : ∃ m1, n_Loo_takeBack (i3 (F i)) (i3 (Y i)) m = some (i3 (E i), m1) ∧ CM m1 N fr Rv (nb - 1) (upI F i (F (nb - 1))) (upI Y i (Y (nb - 1))) (upI E i (E (nb - 1))) ∧ Fz 3 0 m m1 ∧ Lo m m1 := by
  obtain ⟨o, Tx, ⟨w1, w2, w3, w4, w5, w6, w7⟩, hC⟩ := h
  have h20 := w1.1
  have h30 := w5.1
  obtain ⟨b1, b2, b3'⟩ := w5.2 i hi
  have hFi := hFN i hi
  obtain ⟨f, ef⟩ : ∃ f : Nat, F i = f := ⟨(F i).toNat, by omega⟩
  obtain ⟨y, ey⟩ : ∃ y : Nat, Y i = y := ⟨(Y i).toNat, by omega⟩
  have hdf := alm_dispFor w5 w6 hC.2.2.2.1 (f := F i) (y := Y i) b1 b2
  rw [sIx_at w6 hi ⟨rfl, rfl⟩] at hdf
  obtain ⟨m1, e1, e12, hF1, hcb⟩ := alm_revoke w5 hC.2.2.2.1 hi
  obtain ⟨u1, u2⟩ := up_bn hi w5 w6
  have hne : ¬ i3 (i : Int) = -1 := by rw [show (-1 : Int32) = i3 (-1) from rfl, i3_eq ⟨by omega, by omega⟩ ⟨by decide, by decide⟩]; omega
  refine ⟨m1, ?_, ⟨o, Tx, ⟨w1, w2, w3, w4, u1, u2, w7⟩, c_bn h20 hC hF1 hcb⟩, ⟨fun b j a1 a2 a3 => ?_, zL_of e12 _ _⟩, fun b j hb => hF1 b j (by omega) (by omega) (by omega) (by omega)⟩
  · unfold n_Loo_takeBack
    rw [ef, ey] at hdf
    rw [ef, ey, n_feast h20 hC.1.1 (by omega), zBV_some, n_year (by omega), zBV_some, hdf, zBP_some, if_neg hne, e1, zBI_some]
  · refine hF1 b j (fun e => a2 ?_) (fun e => a2 ?_) (fun e => a2 ?_) ?_
    · rw [e]; exact zone_A (by omega)
    · rw [e]; exact zone_A (by omega)
    · rw [e]; exact zone_A (by omega)
    · by_cases e : b = 25
      · exact absurd (by rw [e]; exact zone_A (by omega)) a2
      · exact Or.inl e
theorem k_takeX (h : CM m N fr Rv 0 F Y E) {f y : Nat} (hf : f < N) (hy : y < 400) : f_Loo_takeBack (i3 f) (i3 y) m = some (.inr 1, m) := by
  obtain ⟨o, Tx, ⟨w1, w2, w3, w4, w5, w6, w7⟩, hC⟩ := h
  have h20 := w1.1
  have hdf := alm_dispFor w5 w6 hC.2.2.2.1 (f := (f : Int)) (y := (y : Int)) ⟨by omega, by omega⟩ ⟨by omega, by omega⟩
  rw [show sIx F Y (f : Int) (y : Int) 0 = -1 from rfl] at hdf
  unfold f_Loo_takeBack
  rw [loo_feast h20 hC.1.1 ⟨by omega, by omega⟩, if_pos (by omega), zBXV_l, loo_year ⟨by omega, by omega⟩, if_pos (by omega), zBXV_l, hdf, zBP_some, if_pos (show i3 (-1) = -1 from rfl)]
theorem k_bells (hB : kB m nR PR RE BE) {p : Nat} (hp : p < 6) {v : Int} (hv : 0 ≤ v ∧ v ≤ 6) : ∃ m1, n_Loo_bells (i3 p) (i3 v) m = some (i3 (BE p), m1) ∧ kB m1 nR PR RE (upI BE p v) ∧ Fz 4 0 m m1 ∧ Lo m m1 := by
  obtain ⟨k1, k2, k3, k4⟩ := hB
  obtain ⟨hin, hix⟩ := in_n (k := p) (n := 6) hp (by decide)
  refine ⟨wI m 175 p (i3 v), ?_, ⟨k1, fun x hx => ?_, ⟨?_, fun k hk => ⟨?_, ?_⟩⟩, fun x hx => ?_⟩, Fz.w (Or.inr (Or.inl rfl)), fun b j hb => zI_ne (by omega)⟩
  · unfold n_Loo_bells
    rw [n_parish hp, zBV_some, zLet_q, it_lt0 ⟨by omega, by omega⟩, if_neg (by omega), show (6 : Int32) = i3 6 from rfl, it_le ⟨by omega, by omega⟩ ⟨by decide, by decide⟩, if_pos hv.2]
    unfold f_Bel_hang
    rw [if_pos hin, zLet_eq, if_pos hin, zLet_eq, hix, k4 p hp, zBI_some]
  · unfold upI
    split
    · exact hv
    · exact k2 x hx
  · rw [zI_ne (by decide)]; exact k3.1
  · rw [zI_ne (by decide)]; exact (k3.2 k hk).1
  · rw [zI_ne (by decide)]; exact (k3.2 k hk).2
  · unfold upI
    by_cases e : x = p
    · rw [if_pos e, e, zI_eq]
    · rw [if_neg e, zI_nk e]
      exact k4 x hx
theorem k_ringer (hB : kB m nR PR RE BE) (hn : nR < 10) {p : Nat} (hp : p < 6) {v : Int} (hv : 0 ≤ v ∧ v ≤ 6) : ∃ m1, n_Loo_ringer (i3 p) (i3 v) m = some (i3 nR, m1) ∧ kB m1 (nR + 1) (upI PR nR p) (upI RE nR v) BE ∧ Fz 4 0 m m1 ∧ Lo m m1 := by
  obtain ⟨k1, k2, k3, k4⟩ := hB
  have hin : zIn (i3 (nR : Int)) 24 := (i3_in ⟨by omega, by omega⟩).mpr ⟨by omega, by omega⟩
  have hix : zIx (i3 (nR : Int)) = nR := by rw [i3_ix ⟨by omega, by omega⟩, Int.toNat_natCast]
  have hsub : ∀ x : Int, i3 (x + 1) - 1 = i3 x := fun x => by rw [show (1 : Int32) = i3 1 from rfl, i3_sub]; exact congrArg i3 (by omega)
  have s3 : zI (wI m 176 nR (i3 p)) 174 3 = i3 nR := by rw [zI_ne (by decide), k3.1]
  have s4 : zI (wI (wI m 176 nR (i3 p)) 177 nR (i3 v)) 174 3 = i3 nR := by rw [zI_ne (by decide), s3]
  have z1 : Fz 4 0 m (wI m 176 nR (i3 p)) := Fz.w (Or.inr (Or.inl rfl))
  have z2 : Fz 4 0 (wI m 176 nR (i3 p)) (wI (wI m 176 nR (i3 p)) 177 nR (i3 v)) := Fz.w (Or.inr (Or.inl rfl))
  have z3 : Fz 4 0 (wI (wI m 176 nR (i3 p)) 177 nR (i3 v)) (wI (wI (wI m 176 nR (i3 p)) 177 nR (i3 v)) 174 3 (i3 ((nR : Int) + 1))) := Fz.w (Or.inr (Or.inl rfl))
  refine ⟨wI (wI (wI m 176 nR (i3 p)) 177 nR (i3 v)) 174 3 (i3 ((nR : Int) + 1)), ?_, ⟨⟨by omega, fun x hx => ?_⟩, k2, ⟨?_, fun k hk => ?_⟩, fun x hx => ?_⟩, (z1.trans z2).trans z3, fun b j hb => by rw [zI_ne (by omega), zI_ne (by omega), zI_ne (by omega)]⟩
  · unfold n_Loo_ringer
    rw [n_parish hp, zBV_some, zLet_q, it_lt0 ⟨by omega, by omega⟩, if_neg (by omega), show (6 : Int32) = i3 6 from rfl, it_le ⟨by omega, by omega⟩ ⟨by decide, by decide⟩, if_pos hv.2]
    unfold f_Bel_hire
    rw [k3.1, show (24 : Int32) = i3 24 from rfl, it_lt ⟨by omega, by omega⟩ ⟨by decide, by decide⟩, if_pos (by omega), if_pos hin, hix, zLet_eq, s3, if_pos hin, hix, zLet_eq, zLet_eq, s4, zI_eq, i3_add1, hsub, zBI_some, if_neg (show ¬ i3 (nR : Int) = -1 by rw [show (-1 : Int32) = i3 (-1) from rfl, i3_eq ⟨by omega, by omega⟩ ⟨by decide, by decide⟩]; omega)]
  · unfold upI
    by_cases e : x = nR
    · rw [if_pos e, if_pos e]; omega
    · rw [if_neg e, if_neg e]; exact k1.2 x (by omega)
  · rw [zI_eq]
    rfl
  · unfold upI
    by_cases e : k = nR
    · rw [if_pos e, if_pos e, e]
      exact ⟨by rw [zI_ne (by decide), zI_ne (by decide), zI_eq], by rw [zI_ne (by decide), zI_eq]⟩
    · rw [if_neg e, if_neg e]
      exact ⟨by rw [zI_ne (by decide), zI_ne (by decide), zI_nk e]; exact (k3.2 k (by omega)).1, by rw [zI_ne (by decide), zI_nk e, zI_ne (by decide)]; exact (k3.2 k (by omega)).2⟩
  · rw [zI_ne (by decide), zI_ne (by decide), zI_ne (by decide)]
    exact k4 x hx
/-! a text is read -/
/-- what reading leaves -/
def RdC (m m' : Mm) : Prop := (∀ b j, b < 19 ∨ (22 < b ∧ b ≠ 28) → zI m' b j = zI m b j) ∧ m'.2.2 = m.2.2
theorem RdC.of {m : Mm} {rl : Bool} {p v : Int32} {FK FA : Nat → Int32} {n nm : Int32} : RdC m (pM (kR m rl) p v FK FA n nm) := ⟨fun b j h => by rw [pM_o (by omega), kR_o (Or.inl (by omega))], rfl⟩
theorem zone_lo {b j : Nat} (h : 19 ≤ b ∧ b ≤ 22 ∨ b = 28) : zone b j = 0 ∨ zone b j = 2 := by
  unfold zone
  rw [if_neg (by omega)]
  by_cases c : (b = 17 ∧ j = 1) ∨ b = 18 ∨ (b = 19 ∧ j = 3)
  · rw [if_pos c]
    exact Or.inr rfl
  · rw [if_neg c, if_neg (by omega), if_neg (by omega), if_neg (by omega), if_neg (by omega)]
    exact Or.inl rfl
theorem RdC.fz {m m' : Mm} (h : RdC m m') : Fz 2 0 m m' := ⟨fun b j a1 a2 a3 => h.1 b j (by
  by_cases c : 19 ≤ b ∧ b ≤ 22 ∨ b = 28
  · have := zone_lo (j := j) c
    omega
  · omega), by unfold zL; rw [h.2]⟩
theorem RdC.lo {m m' : Mm} (h : RdC m m') : Lo m m' := fun b j hb => h.1 b j (by omega)
theorem RdC.kx {m m' : Mm} (h : kX m T) (hF : RdC m m') : kX m' T := by
  obtain ⟨⟨a1, a2, a3, a4⟩, h3, -⟩ := h
  refine ⟨⟨a1, ?_, fun i hi => ?_, a4⟩, fun i hi => ?_, ⟨(zI m' 19 3).toInt, (i3_of _).symm⟩⟩
  · rw [hF.1 _ _ (by decide)]; exact a2
  · rw [hF.1 _ _ (by decide)]; exact a3 i hi
  · rw [hF.1 _ _ (by decide)]; exact h3 i hi
theorem cls_rule {C : Cx} (hX : kX m T) (e : pRule T = .inr C) : ∃ m1, f_Par_readRule 17 m = some (-1, m1) ∧ RdC m m1 ∧ zI m1 20 2 = i3 C.length ∧ zI m1 20 3 = i3 ((nmC C : Nat) : Int) ∧ CA (zI m1 21) (zI m1 22) 0 C := by
  have hp := par_rule hX.1 hX.2.2
  rw [e] at hp
  obtain ⟨v', FK, FA, e1, hCA⟩ := hp
  exact ⟨_, e1, RdC.of, pM_n, pM_nm, hCA⟩
theorem cls_ask {C : Cx} (hX : kX m T) (e : pAsk T = .inr C) : ∃ m1, f_Par_readQuestion 17 m = some (-1, m1) ∧ RdC m m1 ∧ zI m1 20 2 = i3 C.length ∧ zI m1 20 3 = i3 ((nmC C : Nat) : Int) ∧ CA (zI m1 21) (zI m1 22) 0 C := by
  have hp := par_ask hX.1 hX.2.2
  rw [e] at hp
  obtain ⟨v', FK, FA, e1, hCA⟩ := hp
  exact ⟨_, e1, RdC.of, pM_n, pM_nm, hCA⟩
theorem k_fault {C : Cx} (hX : kX m T) (e : pRule T = .inr C) : ∃ m1, f_Loo_fault m = some (-1, m1) ∧ kX m1 T ∧ Fz 2 0 m m1 ∧ Lo m m1 := by
  obtain ⟨m1, e1, hF, -⟩ := cls_rule hX e
  refine ⟨m1, ?_, RdC.kx hX hF, hF.fz, hF.lo⟩
  unfold f_Loo_fault
  rw [e1, zBI_some]
theorem k_qfault {C : Cx} (hX : kX m T) (e : pAsk T = .inr C) : ∃ m1, f_Loo_questionFault m = some (-1, m1) ∧ kX m1 T ∧ Fz 2 0 m m1 ∧ Lo m m1 := by
  obtain ⟨m1, e1, hF, -⟩ := cls_ask hX e
  refine ⟨m1, ?_, RdC.kx hX hF, hF.fz, hF.lo⟩
  unfold f_Loo_questionFault
  rw [e1, zBI_some]
theorem k_clear (hX : kX m T) : kX (wI m 17 1 0) [] := by
  obtain ⟨⟨a1, a2, a3, a4⟩, h3, ⟨vv, hv⟩⟩ := hX
  exact ⟨⟨by decide, zI_eq, fun i hi => absurd hi (Nat.not_lt_zero i), fun c hc => absurd hc List.not_mem_nil⟩, fun i hi => by rw [zI_ne (by decide)]; exact h3 i hi, ⟨vv, by rw [zI_ne (by decide)]; exact hv⟩⟩
theorem k_wipe (hX : kX m []) : ∃ m1, f_Loo_wipe m = some (0, m1) ∧ kX m1 [] ∧ Fz 2 0 m m1 ∧ Lo m m1 := by
  refine ⟨wI m 17 1 0, ?_, k_clear hX, Fz.w (Or.inr (Or.inl rfl)), fun b j hb => zI_ne (by omega)⟩
  unfold f_Loo_wipe f_Txt_length f_Txt_clear
  rw [zBP_some, hX.1.2.1]
  rfl
end KCL
