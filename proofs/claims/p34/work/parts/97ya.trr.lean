/-! THE LAW'S TURNS: a search -/
section TRR
variable {m M : Mm} {N nb nR t y : Nat} {fr : Nat → Nat → Int} {Rv F Y E PR RE BE : Nat → Int} {sp b q0 : Int} {g h : Nat → Int}
theorem q_end (hN1 : 1 ≤ N) (hT : StT M t) (hA : StA M N fr Rv nb F Y E) (hB : StB M nR PR RE BE) (hX : kX M []) (hs : 0 ≤ sp) (h5 : zI M 204 5 = i3 sp) (hl : zL M 170 3 = (i3 sp).toInt64) (hb : sp ≤ b) (hq0 : 0 ≤ q0 ∧ q0 ≤ 2) (c0 : zI M 205 0 = i3 q0) (hg : vQ N g) (cg : ∀ j, j < 4 → zI M 205 (1 + j) = i3 (g j)) (hh : vQ N h) (ch : ∀ j, j < 4 → zI M 205 (5 + j) = i3 (h j)) (hy : y < 400) (v7 v8 v9 : Int32) (j19 : Mm → Option (Int32 × Mm)) (j23 : Int32 → Mm → Option (Int32 × Mm)) (r : Int32 → Mm → Option (Int32 × Mm)) : TR (l_Law_law_4 v7 j23 (i3 y) v8 v9 r (i3 ((2 : Nat) : Int)) M) j19 j23 N b := by
  have h10 := hA.1.1
  have ht2 := hT.1.1
  obtain ⟨m', X1, F1, K1⟩ := q_text h10 hX hq0 c0 hg cg hh ch
  obtain ⟨u, hu, e2⟩ : ∃ v : Nat, v < 390 ∧ f_Law_low (v7 >>> (9 &&& 31)) 390 m' = some (i3 v) := law_low _ (n := 390) (by decide) m'
  have FA : Fz 5 2 M (wI m' 204 4 (i3 u)) := (F1.fz.up (Or.inr (Or.inr rfl)) (Or.inl rfl)).trans (Fz.w (Or.inr (Or.inl rfl)))
  have w4 : zI (wI m' 204 4 (i3 u)) 204 4 = i3 u := zI_eq
  have w5 : zI (wI m' 204 4 (i3 u)) 204 5 = i3 sp := by rw [zI_nk (by decide), F1.at (by decide), h5]
  have w205 : ∀ j, zI (wI m' 204 4 (i3 u)) 205 j = zI M 205 j := fun j => by rw [zI_ne (by decide), F1.at (by decide)]
  have XA := X1.fz (s := 5) (s' := 0) (m' := wI m' 204 4 (i3 u)) (Fz.w (Or.inr (Or.inl rfl))) ⟨by decide, by decide⟩
  generalize hM1 : wI m' 204 4 (i3 u) = M1 at FA w4 w5 w205 XA
  have FN : Fz 6 0 M1 (zNt (zNt M1 (207 + 0)) (207 + 1)) := Fz.nt.trans Fz.nt
  have ln : ∀ b j, b < 207 → zI (zNt (zNt M1 (207 + 0)) (207 + 1)) b j = zI M1 b j := fun b j hb => by rw [zI_zNt, if_neg (by omega), zI_zNt, if_neg (by omega)]
  generalize hM2 : zNt (zNt M1 (207 + 0)) (207 + 1) = M2 at FN ln
  have hA2 := (hA.fz FA ⟨by decide, by decide⟩).fz FN ⟨by decide, by decide⟩
  have hT2 := (hT.fz FA ⟨by decide, by decide⟩).fz FN ⟨by decide, by decide⟩
  obtain ⟨M3, e3, c3, f3, g3⟩ := law_B (y := u) (t := t) (t6 := 0) (t7 := 1) hA.1 hA2.2.1 hA.2.2 (by omega) ht2 (by decide)
  have FB : Fz 6 0 M1 M3 := FN.trans (Fz.of (fun b j hb => f3 b j (by omega) (by omega)) g3)
  have l3 : ∀ b j, b < 207 → zI M3 b j = zI M1 b j := fun b j hb => by rw [f3 b j (by omega) (by omega), ln b j hb]
  have hA3 := (hA.fz FA ⟨by decide, by decide⟩).fz FB ⟨by decide, by decide⟩
  have hT3 := (hT.fz FA ⟨by decide, by decide⟩).fz FB ⟨by decide, by decide⟩
  have X3 := XA.fz FB ⟨by decide, by decide⟩
  obtain ⟨m5, e5, X5, F5, l5⟩ := k_qfault X3 (q_parse h10 hg (fun _ => hh) hq0)
  have hT5 := hT3.fz F5 ⟨by decide, by decide⟩
  have hA5 := hA3.fz F5 ⟨by decide, by decide⟩
  obtain ⟨mF, e6, X6, F6, l6, s1, s2, s3⟩ := k_search hT5.1 h10 hA5.2.2 hg hh hq0 X5 (y := u) (by omega)
  have e6' : n_Loo_search (i3 u) m5 = some (i3 (sSum (lCs u t F Y E nb fr) N), mF) := e6
  have FC : Fz 5 2 M3 mF := (F5.up (Or.inr (Or.inr rfl)) (Or.inl rfl)).trans F6
  have lF : ∀ b j, 201 ≤ b → b < 207 → zI mF b j = zI M1 b j := fun b j h1 h2 => by rw [l6 b j h1, l5 b j h1, l3 b j h2]
  have hN0 := hA3.2.1.1.1
  have h45 : zI m5 204 4 = i3 u := by rw [l5 _ _ (by decide), l3 _ _ (by decide), w4]
  have hres : zLq2 (l_Law_law_3 M3 j23 (i3 y)) zFu 1 0 = j23 (i3 y) mF := by
    refine run_zLq2 (fun j x105 x106 => ∃ k : Nat, k ≤ N ∧ j = N - k ∧ x106 = i3 k ∧ x105 = i3 (sSum (lCs u t F Y E nb fr) k)) ?_ zFu N _ _ ⟨0, Nat.zero_le _, rfl, rfl, rfl⟩ (by unfold zFu; omega)
    rintro r j _ _ ⟨k, hk, rfl, rfl, rfl⟩
    unfold l_Law_law_3
    rw [if_pos z06.1, z06.2, hN0, it_le ⟨by omega, by omega⟩ ⟨by omega, by omega⟩]
    by_cases e : k = N
    · left
      rw [e, if_pos (Int.le_refl _), e5, zBI_some, if_pos rfl, if_pos z46.1, z46.2, h45, e6', zBI_some, if_pos rfl]
    · right
      have hkN : k < N := by omega
      obtain ⟨i1, x1⟩ := in_n (k := k) (n := 10) (by omega) (by decide)
      refine ⟨i3 (sSum (lCs u t F Y E nb fr) (k + 1)), i3 ((k + 1 : Nat) : Int), N - (k + 1), by omega, ⟨k + 1, by omega, rfl, rfl, rfl⟩, ?_⟩
      rw [if_neg (by omega), if_pos i1, x1, (c3 k hkN).2, zLet_q, zLet_q, ad1, i3_add]
      rfl
  refine ⟨mF, N, Nat.le_refl N, hN1, ⟨t, fr, Rv, nb, F, Y, E, nR, PR, RE, BE, sp, hT3.fz FC ⟨by decide, by decide⟩, hA3.fz FC ⟨by decide, by decide⟩, ((hB.fz FA ⟨by decide, by decide⟩).fz FB ⟨by decide, by decide⟩).fz FC ⟨by decide, by decide⟩, X6, ⟨hs, by rw [lF _ _ (by decide) (by decide), w5], by rw [FC.2, FB.2, FA.2, hl], Or.inr ⟨u, q0, g, h, by omega, by rw [lF _ _ (by decide) (by decide), w4], s1, s2, s3, by rw [lF _ _ (by decide) (by decide), w205, c0], hq0, fun j hj => by rw [lF _ _ (by decide) (by decide), w205]; exact cg j hj, fun j hj => by rw [lF _ _ (by decide) (by decide), w205]; exact ch j hj, hg, hh⟩⟩, hb⟩, Or.inr ⟨y, hy, ?_⟩⟩
  unfold l_Law_law_4
  rw [if_pos (show (2 : Int32) ≤ i3 ((2 : Nat) : Int) by decide), if_pos z09.1, K1, e2, zBP_some, if_pos z46.1, z46.2, hM1, zLet_q, zLet_q, zLet_q, hM2, if_pos z46.1, if_pos z26.1, z26.2, ln _ _ (by decide), w4, hT2.2, e3, zBV_some, hres]
theorem turn_12 (hI : TI m N b) (hN : 1 ≤ N) (hy : y < 400) (v7 v8 v9 : Int32) (j19 : Mm → Option (Int32 × Mm)) (j23 : Int32 → Mm → Option (Int32 × Mm)) : TR (kc_12 v7 v8 v9 (i3 y) m j23) j19 j23 N b := by
  obtain ⟨t, fr, Rv, nb, F, Y, E, nR, PR, RE, BE, sp, hT, hA, hB, hX, ⟨hs, h5, hl, -⟩, hb⟩ := hI
  have h10 := hA.1.1
  have hL0 := hA.2.1.1.1
  obtain ⟨q0, hq0, e1⟩ : ∃ v : Nat, v < 3 ∧ f_Law_low v8 3 m = some (i3 v) := law_low _ (n := 3) (by decide) m
  unfold kc_12
  rw [e1, zBP_some, if_pos z09.1, z09.2, zLet_q]
  refine ex_zLp1 (Q := fun X => TR X j19 j23 N b) (fun j x MM => ∃ i : Nat, i ≤ 2 ∧ j = 2 - i ∧ x = i3 i ∧ (∃ G : Nat → Nat → Int, ∀ k, k < i → vQ N (G k) ∧ ∀ j, j < 4 → zI MM 205 (1 + 4 * k + j) = i3 (G k j)) ∧ zI MM 205 0 = i3 q0 ∧ (∀ b j, b ≠ 205 → zI MM b j = zI m b j) ∧ MM.2 = m.2) ?_ zFu 2 _ _ ⟨0, by omega, rfl, rfl, ⟨fun _ _ => 0, fun k hk => absurd hk (Nat.not_lt_zero k)⟩, zI_eq, fun b j hb => zI_ne hb, rfl⟩ (by unfold zFu; omega)
  rintro r j _ MM ⟨i, hi, rfl, rfl, ⟨G, hG⟩, h0, hfr, hm2⟩
  by_cases e : i = 2
  · left
    subst e
    have hF : Fz 5 0 m MM := ⟨fun b j a1 a2 a3 => hfr b j (fun e => a2 (by rw [e]; rfl)), zL_of hm2 _ _⟩
    obtain ⟨g1, g2⟩ := hG 0 (by decide)
    obtain ⟨g3, g4⟩ := hG 1 (by decide)
    exact q_end hN (hT.fz hF ⟨by decide, by decide⟩) (hA.fz hF ⟨by decide, by decide⟩) (hB.fz hF ⟨by decide, by decide⟩) (hX.fz hF ⟨by decide, by decide⟩) hs (by rw [hfr _ _ (by decide), h5]) (by rw [hF.2, hl]) hb ⟨by omega, by omega⟩ h0 g1 g2 g3 g4 hy v7 v8 v9 j19 j23 r
  · right
    have hi2 : i < 2 := by omega
    obtain ⟨M', gg, p1, p2, p3, p4, p5⟩ := q_draw (M := MM) ⟨hN, h10⟩ hi2 (if i3 (i : Int) = 0 then v8 >>> (3 &&& 31) else v9 >>> (5 &&& 31)) (by rw [hfr _ _ (by decide), hL0])
    refine ⟨i3 ((i + 1 : Nat) : Int), M', 2 - (i + 1), by omega, ⟨i + 1, by omega, rfl, rfl, ⟨fun k => if k = i then gg else G k, fun k hk => ?_⟩, by rw [p3 _ _ (Or.inr (by omega)), h0], fun b j hb => by rw [p3 _ _ (Or.inl hb), hfr _ _ hb], by rw [p4, hm2]⟩, ?_⟩
    · dsimp only
      by_cases e : k = i
      · rw [if_pos e, e]
        exact ⟨p1, p2⟩
      · rw [if_neg e]
        obtain ⟨a1, a2⟩ := hG k (by omega)
        exact ⟨a1, fun j hj => by rw [p3 _ _ (Or.inr (by omega))]; exact a2 j hj⟩
    · unfold l_Law_law_4
      rw [show (2 : Int32) = i3 2 from rfl, it_le ⟨by decide, by decide⟩ ⟨by omega, by omega⟩, if_neg (by omega), zl_if]
      exact p5 r
end TRR
