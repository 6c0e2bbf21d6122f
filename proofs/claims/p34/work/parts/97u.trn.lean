/-! THE LAW'S TURNS: ranks, tables, bells, dispensations -/
/-- what stands between two turns -/
def TI (m : Mm) (N : Nat) (b : Int) : Prop := ∃ (t : Nat) (fr : Nat → Nat → Int) (Rv : Nat → Int) (nb : Nat) (F Y E : Nat → Int) (nR : Nat) (PR RE BE : Nat → Int) (sp : Int), StT m t ∧ StA m N fr Rv nb F Y E ∧ StB m nR PR RE BE ∧ kX m [] ∧ StQ m N sp ∧ sp ≤ b
/-- what a turn comes to: the next turn, or a year and then the next turn -/
def TR (X : Option (Int32 × Mm)) (j19 : Mm → Option (Int32 × Mm)) (j23 : Int32 → Mm → Option (Int32 × Mm)) (N : Nat) (b : Int) : Prop := ∃ (m' : Mm) (N' : Nat), N ≤ N' ∧ 1 ≤ N' ∧ TI m' N' b ∧ (X = j19 m' ∨ ∃ yy : Nat, yy < 400 ∧ X = j23 (i3 yy) m')
theorem LF.g2 {m m' : Mm} {N : Nat} {fr : Nat → Nat → Int} (h : LF m N fr) (h1 : ∀ j, zI m' 201 j = zI m 201 j) (h0 : zI m' 204 0 = zI m 204 0) : LF m' N fr := ⟨by rw [h0]; exact h.1, fun k hk j hj => by rw [h1]; exact h.2 k hk j hj⟩
theorem LD.g2 {m m' : Mm} {nb : Nat} {F Y E : Nat → Int} (h : LD m nb F Y E) (h1 : ∀ j, zI m' 203 j = zI m 203 j) (h0 : zI m' 204 1 = zI m 204 1) : LD m' nb F Y E := ⟨by rw [h0]; exact h.1, fun i hi => by rw [h1, h1, h1]; exact h.2 i hi⟩
theorem z16 : zIn (1 : Int32) 6 ∧ zIx (1 : Int32) = 1 := by decide
theorem z46 : zIn (4 : Int32) 6 ∧ zIx (4 : Int32) = 4 := by decide
theorem z56 : zIn (5 : Int32) 6 ∧ zIx (5 : Int32) = 5 := by decide
section TRN
variable {m : Mm} {N nb nR t y : Nat} {fr : Nat → Nat → Int} {Rv F Y E PR RE BE : Nat → Int} {sp b : Int}
theorem turn_5 (hI : TI m N b) (hN : 1 ≤ N) {f : Nat} (hf : f < N) (hy : y < 400) (v8 : Int32) (j19 : Mm → Option (Int32 × Mm)) (j23 : Int32 → Mm → Option (Int32 × Mm)) : TR (kc_5 v8 (i3 f) (i3 y) m j23) j19 j23 N b := by
  obtain ⟨t, fr, Rv, nb, F, Y, E, nR, PR, RE, BE, sp, hT, hA, hB, hX, hQ, hb⟩ := hI
  have h10 := hA.1.1
  have hrv := hA.1.2.2.2.1 f hf
  obtain ⟨i1, x1⟩ := in_n (k := f) (n := 10) (by omega) (by decide)
  obtain ⟨v, hv, e1⟩ : ∃ v : Nat, v < 20 ∧ f_Law_low v8 20 m = some (i3 v) := law_low v8 (n := 20) (by decide) m
  have hFw : Fz 3 0 m (wI m 202 f (i3 v)) := Fz.w (Or.inr (Or.inl (zone_A (by omega))))
  have hC1 : CM (wI m 202 f (i3 v)) N fr Rv nb F Y E := hA.2.2.gx (by omega) (fun b j hb => zI_ne (by omega))
  obtain ⟨m1, e2, c2, f2, l2⟩ := k_rank hA.1 hC1 hf (v := (v : Int)) ⟨by omega, by omega⟩
  have hF := hFw.trans f2
  have hA1 : StA m1 N fr (upI Rv f v) nb F Y E := by
    obtain ⟨⟨a1, a2, a3, a4, a5, a6, a7⟩, ⟨b1, b2, b3'⟩, -⟩ := hA
    refine ⟨⟨a1, a2, a3, fun k hk => ?_, a5, a6, a7⟩, ⟨b1.g2 (fun j => by rw [l2 _ _ (by decide), zI_ne (by decide)]) (by rw [l2 _ _ (by decide), zI_ne (by decide)]), b2.g2 (fun j => by rw [l2 _ _ (by decide), zI_ne (by decide)]) (by rw [l2 _ _ (by decide), zI_ne (by decide)]), fun k hk => ?_⟩, c2⟩
    · unfold upI
      split
      · omega
      · exact a4 k hk
    · rw [l2 _ _ (by decide)]
      unfold upI
      by_cases e : k = f
      · rw [if_pos e, e, zI_eq]
      · rw [if_neg e, zI_nk e]
        exact b3' k hk
  refine ⟨m1, N, Nat.le_refl N, hN, ⟨t, fr, upI Rv f v, nb, F, Y, E, nR, PR, RE, BE, sp, hT.fz hF ⟨by decide, by decide⟩, hA1, hB.fz hF ⟨by decide, by decide⟩, hX.fz hF ⟨by decide, by decide⟩, hQ.fz (Nat.le_refl N) hF ⟨by decide, by decide⟩, hb⟩, Or.inr ⟨y, hy, ?_⟩⟩
  unfold kc_5
  have eb : (if i3 (v : Int) % 2 = 1 then (1 : Int32) else 0) = b3 (decide ((v : Int) % 2 = 1)) := by
    rw [show (2 : Int32) = i3 2 from rfl, i3_mod ⟨by omega, by omega⟩ ⟨by decide, by decide⟩, it_e1 ⟨by omega, by omega⟩]
    by_cases c : (v : Int) % 2 = 1
    · rw [if_pos c, decide_eq_true c]; rfl
    · rw [if_neg c, decide_eq_false c]; rfl
  have q2 : i3 (v : Int) / 2 = i3 ((v : Int) / 2) := by rw [show (2 : Int32) = i3 2 from rfl, i3_div ⟨by omega, by omega⟩ ⟨by decide, by decide⟩]
  have q3 : i3 (Rv f) / 2 = i3 (Rv f / 2) := by rw [show (2 : Int32) = i3 2 from rfl, i3_div ⟨by omega, by omega⟩ ⟨by decide, by decide⟩]
  rw [if_pos i1, x1, hA.2.1.2.2 f hf, q3, zLet_q, e1, zBP_some, if_pos i1, zLet_q, if_pos i1, if_pos i1, zI_eq, q2, zl_if, eb, e2, zBI_some, if_pos rfl]
theorem turn_9 (hI : TI m N b) (hN : 1 ≤ N) (hy : y < 400) (v8 : Int32) (j19 : Mm → Option (Int32 × Mm)) (j23 : Int32 → Mm → Option (Int32 × Mm)) : TR (kc_9 v8 (i3 y) m j23) j19 j23 N b := by
  obtain ⟨t, fr, Rv, nb, F, Y, E, nR, PR, RE, BE, sp, hT, hA, hB, hX, hQ, hb⟩ := hI
  obtain ⟨v, hv, e1⟩ : ∃ v : Nat, v < 2 ∧ f_Law_low v8 2 m = some (i3 v) := law_low v8 (n := 2) (by decide) m
  have hFw : Fz 1 0 m (wI m 204 2 (i3 v)) := Fz.w (Or.inr (Or.inl rfl))
  have hT1 : kTb (wI m 204 2 (i3 v)) t := ⟨hT.1.1, by rw [zI_ne (by decide)]; exact hT.1.2⟩
  obtain ⟨m1, e2, c2, f2, l2⟩ := k_table hT1 hv
  have hF := hFw.trans f2
  refine ⟨m1, N, Nat.le_refl N, hN, ⟨v, fr, Rv, nb, F, Y, E, nR, PR, RE, BE, sp, ⟨c2, by rw [l2 _ _ (by decide), zI_eq]⟩, hA.fz hF ⟨by decide, by decide⟩, hB.fz hF ⟨by decide, by decide⟩, hX.fz hF ⟨by decide, by decide⟩, hQ.fz (Nat.le_refl N) hF ⟨by decide, by decide⟩, hb⟩, Or.inr ⟨y, hy, ?_⟩⟩
  unfold kc_9
  rw [if_pos z26.1, z26.2, hT.2, zLet_q, e1, zBP_some, if_pos z26.1, zLet_q, if_pos z26.1, zI_eq, e2, zBI_some, if_pos rfl]
theorem turn_10 (hI : TI m N b) (hN : 1 ≤ N) (hy : y < 400) (v8 : Int32) (j19 : Mm → Option (Int32 × Mm)) (j23 : Int32 → Mm → Option (Int32 × Mm)) : TR (kc_10 v8 (i3 y) m j23) j19 j23 N b := by
  obtain ⟨t, fr, Rv, nb, F, Y, E, nR, PR, RE, BE, sp, hT, hA, hB, hX, hQ, hb⟩ := hI
  obtain ⟨hn10, hk, h204, hbe, hw⟩ := hB
  obtain ⟨p, hp, e1⟩ : ∃ v : Nat, v < 6 ∧ f_Law_low v8 6 m = some (i3 v) := law_low v8 (n := 6) (by decide) m
  obtain ⟨v, hv, e2⟩ : ∃ v : Nat, v < 7 ∧ f_Law_low (v8 >>> (3 &&& 31)) 7 m = some (i3 v) := law_low _ (n := 7) (by decide) m
  obtain ⟨i1, x1⟩ := in_n (k := p) (n := 26) (by omega) (by decide)
  have zB : ∀ j, zone 206 j = 4 := fun j => rfl
  have hFw : Fz 4 0 m (wI m 206 p (i3 v)) := Fz.w (Or.inr (Or.inl rfl))
  have kw : ∀ (M : Mm) (k : Nat) (x : Int32), kB M nR PR RE BE → kB (wI M 206 k x) nR PR RE BE := fun M k x h => by
    obtain ⟨k1, k2, k3, k4⟩ := h
    exact ⟨k1, k2, ⟨by rw [zI_ne (by decide)]; exact k3.1, fun k hk => by rw [zI_ne (by decide), zI_ne (by decide)]; exact k3.2 k hk⟩, fun p hp => by rw [zI_ne (by decide)]; exact k4 p hp⟩
  obtain ⟨m1, e3, c3, f3, l3⟩ := k_bells (kw m p (i3 v) hk) hp (v := (v : Int)) ⟨by omega, by omega⟩
  have hF := hFw.trans f3
  have hbe1 : ∀ q, q < 6 → zI m1 206 q = i3 (upI BE p v q) := fun q hq => by
    rw [l3 _ _ (by decide)]
    unfold upI
    by_cases e : q = p
    · rw [if_pos e, e, zI_eq]
    · rw [if_neg e, zI_nk e]
      exact hbe q hq
  have hw1 : ∀ k, k < nR → zI m1 206 (6 + 2 * k) = i3 (PR k) ∧ zI m1 206 (7 + 2 * k) = i3 (RE k) := fun k hk => by
    rw [l3 _ _ (by decide), l3 _ _ (by decide), zI_nk (by omega), zI_nk (by omega)]
    exact hw k hk
  have h2041 : zI m1 204 3 = i3 nR := by rw [l3 _ _ (by decide), zI_ne (by decide)]; exact h204
  have pre : kc_10 v8 (i3 y) m j23 = if 10 ≤ i3 (nR : Int) then j23 (i3 y) m1 else if zIn (6 + 2 * i3 (nR : Int)) 26 then (zLet (wI m1 206 (zIx (6 + 2 * i3 (nR : Int))) (i3 p)) fun m153 => if zIn 3 6 then zBP (f_Law_low (v8 >>> (6 &&& 31)) 7 m153) fun v154 => if zIn (7 + (2 * (zI m153 204 (zIx 3)))) 26 then zLet (wI m153 206 (zIx (7 + (2 * (zI m153 204 (zIx 3))))) v154) fun m155 => if zIn 3 6 then if zIn 3 6 then zLet (wI m155 204 (zIx 3) ((zI m155 204 (zIx 3)) + 1)) fun m156 => if zIn 3 6 then if zIn (5 + (2 * (zI m156 204 (zIx 3)))) 26 then zBI (n_Loo_ringer (i3 p) (zI m156 206 (zIx (5 + (2 * (zI m156 204 (zIx 3)))))) m156) fun v158 m157 => if zIn 3 6 then if v158 = ((zI m157 204 (zIx 3)) - 1) then j23 (i3 y) m157 else some (0, m157) else none else none else none else none else none else none else none) else none := by
    unfold kc_10
    rw [e1, zBP_some, if_pos i1, x1, hbe p hp, zLet_q, e2, zBP_some, if_pos i1, zLet_q, if_pos i1, zI_eq, e3, zBI_some, if_pos rfl, if_pos z36.1, z36.2, h2041, if_pos z36.1]
  rw [pre, show (10 : Int32) = i3 10 from rfl, it_le ⟨by decide, by decide⟩ ⟨by omega, by omega⟩]
  by_cases c : 10 ≤ nR
  · rw [if_pos (by omega)]
    exact ⟨m1, N, Nat.le_refl N, hN, ⟨t, fr, Rv, nb, F, Y, E, nR, PR, RE, upI BE p v, sp, hT.fz hF ⟨by decide, by decide⟩, hA.fz hF ⟨by decide, by decide⟩, ⟨hn10, c3, h2041, hbe1, hw1⟩, hX.fz hF ⟨by decide, by decide⟩, hQ.fz (Nat.le_refl N) hF ⟨by decide, by decide⟩, hb⟩, Or.inr ⟨y, hy, rfl⟩⟩
  · have hlt : nR < 10 := by omega
    have q6 : (6 : Int32) + 2 * i3 (nR : Int) = i3 ((6 + 2 * nR : Nat) : Int) := by rw [show (2 : Int32) = i3 2 from rfl, i3_mul, show (6 : Int32) = i3 6 from rfl, i3_add]; rfl
    have q7 : (7 : Int32) + 2 * i3 (nR : Int) = i3 ((7 + 2 * nR : Nat) : Int) := by rw [show (2 : Int32) = i3 2 from rfl, i3_mul, show (7 : Int32) = i3 7 from rfl, i3_add]; rfl
    have q5 : (5 : Int32) + 2 * i3 ((nR + 1 : Nat) : Int) = i3 ((7 + 2 * nR : Nat) : Int) := by
      rw [show (2 : Int32) = i3 2 from rfl, i3_mul, show (5 : Int32) = i3 5 from rfl, i3_add]
      congr 1
      omega
    obtain ⟨j6, y6⟩ := in_n (k := 6 + 2 * nR) (n := 26) (by omega) (by decide)
    obtain ⟨j7, y7⟩ := in_n (k := 7 + 2 * nR) (n := 26) (by omega) (by decide)
    rw [if_neg (by omega), q6, if_pos j6, y6, zLet_q, if_pos z36.1]
    obtain ⟨u, hu, e4⟩ : ∃ u : Nat, u < 7 ∧ f_Law_low (v8 >>> (6 &&& 31)) 7 (wI m1 206 (6 + 2 * nR) (i3 p)) = some (i3 u) := law_low _ (n := 7) (by decide) _
    have a1 : zI (wI m1 206 (6 + 2 * nR) (i3 p)) 204 3 = i3 nR := by rw [zI_ne (by decide)]; exact h2041
    have a2 : zI (wI (wI m1 206 (6 + 2 * nR) (i3 p)) 206 (7 + 2 * nR) (i3 u)) 204 3 = i3 nR := by rw [zI_ne (by decide)]; exact a1
    generalize hM : wI (wI (wI m1 206 (6 + 2 * nR) (i3 p)) 206 (7 + 2 * nR) (i3 u)) 204 3 (i3 ((nR + 1 : Nat) : Int)) = M
    have hMB : kB M nR PR RE (upI BE p v) := by
      obtain ⟨k1, k2, k3, k4⟩ := c3
      rw [← hM]
      exact ⟨k1, k2, ⟨by rw [zI_ne (by decide), zI_ne (by decide), zI_ne (by decide)]; exact k3.1, fun k hk => by rw [zI_ne (by decide), zI_ne (by decide), zI_ne (by decide), zI_ne (by decide), zI_ne (by decide), zI_ne (by decide)]; exact k3.2 k hk⟩, fun p hp => by rw [zI_ne (by decide), zI_ne (by decide), zI_ne (by decide)]; exact k4 p hp⟩
    obtain ⟨m2, e5, c5, f5, l5⟩ := k_ringer hMB hlt hp (v := (u : Int)) ⟨by omega, by omega⟩
    have z1 : Fz 4 0 m1 (wI m1 206 (6 + 2 * nR) (i3 p)) := Fz.w (Or.inr (Or.inl rfl))
    have z2 : Fz 4 0 (wI m1 206 (6 + 2 * nR) (i3 p)) (wI (wI m1 206 (6 + 2 * nR) (i3 p)) 206 (7 + 2 * nR) (i3 u)) := Fz.w (Or.inr (Or.inl rfl))
    have z3 : Fz 4 0 (wI (wI m1 206 (6 + 2 * nR) (i3 p)) 206 (7 + 2 * nR) (i3 u)) M := by rw [← hM]; exact Fz.w (Or.inr (Or.inl rfl))
    have hF2 := (((hF.trans z1).trans z2).trans z3).trans f5
    have b6 : ∀ j, zI M 206 j = if j = 7 + 2 * nR then i3 u else if j = 6 + 2 * nR then i3 p else zI m1 206 j := fun j => by
      rw [← hM, zI_ne (by decide)]
      by_cases c7 : j = 7 + 2 * nR
      · rw [if_pos c7, c7, zI_eq]
      · rw [if_neg c7, zI_nk c7]
        by_cases c6 : j = 6 + 2 * nR
        · rw [if_pos c6, c6, zI_eq]
        · rw [if_neg c6, zI_nk c6]
    have hB2 : StB m2 (nR + 1) (upI PR nR p) (upI RE nR u) (upI BE p v) := by
      refine ⟨by omega, c5, ?_, fun q hq => ?_, fun k hk => ?_⟩
      · rw [l5 _ _ (by decide), ← hM, zI_eq]
      · rw [l5 _ _ (by decide), b6, if_neg (by omega), if_neg (by omega)]
        exact hbe1 q hq
      · rw [l5 _ _ (by decide), l5 _ _ (by decide), b6, b6]
        unfold upI
        by_cases ek : k = nR
        · subst ek
          rw [if_pos rfl, if_pos rfl, if_neg (by omega), if_pos rfl, if_pos rfl]
          exact ⟨rfl, rfl⟩
        · rw [if_neg ek, if_neg ek, if_neg (by omega), if_neg (by omega), if_neg (by omega), if_neg (by omega)]
          exact hw1 k (by omega)
    refine ⟨m2, N, Nat.le_refl N, hN, ⟨t, fr, Rv, nb, F, Y, E, nR + 1, upI PR nR p, upI RE nR u, upI BE p v, sp, hT.fz hF2 ⟨by decide, by decide⟩, hA.fz hF2 ⟨by decide, by decide⟩, hB2, hX.fz hF2 ⟨by decide, by decide⟩, hQ.fz (Nat.le_refl N) hF2 ⟨by decide, by decide⟩, hb⟩, Or.inr ⟨y, hy, ?_⟩⟩
    have hM3 : zI M 204 3 = i3 ((nR + 1 : Nat) : Int) := by rw [← hM, zI_eq]
    have hM6 : zI M 206 (7 + 2 * nR) = i3 u := by rw [b6, if_pos rfl]
    have hm23 : zI m2 204 3 - 1 = i3 nR := by
      rw [l5 _ _ (by decide), hM3, i3_sub1]
      congr 1
      omega
    rw [e4, zBP_some, z36.2, a1, q7, if_pos j7, y7, zLet_q, if_pos z36.1, if_pos z36.1, a2, ad1, hM, zLet_q, if_pos z36.1, hM3, q5, if_pos j7, y7, hM6, e5, zBI_some, if_pos z36.1, hm23, if_pos rfl]
end TRN
