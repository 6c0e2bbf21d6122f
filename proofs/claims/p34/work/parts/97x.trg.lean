/-! THE LAW'S TURNS: a new feast is taken -/
theorem FxX.fz {m m' : Mm} (h : FxX m m') : Fz 2 0 m m' := ⟨fun b j _ a2 _ => by
  by_cases e : b = 18
  · exact absurd (by rw [e]; rfl) a2
  · by_cases e1 : b = 17 ∧ j = 1
    · exact absurd (by rw [e1.1, e1.2]; rfl) a2
    · exact h.1 b j (by omega) e, zL_of h.2 _ _⟩
section TRG
variable {m : Mm} {N nb nR t y : Nat} {fr : Nat → Nat → Int} {Rv F Y E PR RE BE : Nat → Int} {sp b : Int}
theorem turn_F (hI : TI m N b) {f : Nat} (hf : f < N ∨ N = 0) (hy : y < 400) (v7 v8 v9 : Int32) (j19 : Mm → Option (Int32 × Mm)) (j23 : Int32 → Mm → Option (Int32 × Mm)) : TR (kc_F v7 v8 v9 (i3 f) (i3 y) m j19 j23) j19 j23 N b := by
  have hI0 := hI
  obtain ⟨t, fr, Rv, nb, F, Y, E, nR, PR, RE, BE, sp, hT, hA, hB, hX, hQ, hb⟩ := hI
  obtain ⟨hL, ⟨hLF, hLD, hLr⟩, hC⟩ := id hA
  have h10 := hL.1
  have hnb := hL.2.1
  by_cases c : N = 10
  · refine ⟨m, N, Nat.le_refl N, by omega, hI0, Or.inl ?_⟩
    unfold kc_F
    rw [if_pos z06.1, z06.2, hLF.1, if_pos (by rw [c]; rfl)]
  · have hN : N < 10 := by omega
    have hne : ¬ i3 (N : Int) = 10 := i3n (k := 10) c (by omega) (by decide)
    obtain ⟨i0, x0⟩ := in_n (k := 6 * N) (n := 60) (by omega) (by decide)
    obtain ⟨i1, x1⟩ := in_n (k := 6 * N + 1) (n := 60) (by omega) (by decide)
    obtain ⟨i2, x2⟩ := in_n (k := 6 * N + 2) (n := 60) (by omega) (by decide)
    obtain ⟨i3', x3⟩ := in_n (k := 6 * N + 3) (n := 60) (by omega) (by decide)
    obtain ⟨i4, x4⟩ := in_n (k := 6 * N + 4) (n := 60) (by omega) (by decide)
    obtain ⟨i5, x5⟩ := in_n (k := 6 * N + 5) (n := 60) (by omega) (by decide)
    have R0 : RW m m N 0 (fun _ => 0) := ⟨fun _ _ _ => rfl, rfl, fun j hj => absurd hj (Nat.not_lt_zero j)⟩
    obtain ⟨s0, hs0, K0⟩ := dr_0 hN hf v7 v8 m
    have R1 : RW m (wI m 201 (6 * N) (i3 s0)) N 1 _ := R0.w (k' := 1) (i := 0) (fun j hj => by omega) s0
    generalize hM1 : wI m 201 (6 * N) (i3 s0) = M1 at R1
    obtain ⟨c, hc, K1⟩ := dr_1 hN hf v7 v8 M1 ((R1.1 _ _ (Or.inl (by decide))).trans hLF.1)
    have R2 := R1.w (k' := 2) (i := 1) (fun j hj => by omega) c
    generalize hM2 : wI M1 201 (6 * N + 1) (i3 (c : Int)) = M2 at R2
    have hc6 : c < 1000000 := by unfold vCc at hc; omega
    obtain ⟨M3, c', hc', R3, K2⟩ := dr_s hN v7 hc6 R2 rfl
    obtain ⟨s2, hs2, e2⟩ := law_drawStep v9 M3
    have R4 := R3.w (k' := 3) (i := 2) (fun j hj => by omega) s2
    generalize hM4 : wI M3 201 (6 * N + 2) (i3 s2) = M4 at R4
    obtain ⟨s3, hs3, K3⟩ := dr_3 v7 v9 M4
    have R5 := R4.w (k' := 4) (i := 3) (fun j hj => by omega) s3
    generalize hM5 : wI M4 201 (6 * N + 3) (i3 s3) = M5 at R5
    obtain ⟨s4, hs4, K4⟩ := dr_4 v7 v8 M5
    have R6 := R5.w (k' := 5) (i := 4) (fun j hj => by omega) s4
    generalize hM6 : wI M5 201 (6 * N + 4) (i3 s4) = M6 at R6
    obtain ⟨s5, hs5, K5⟩ := dr_5 v7 v8 M6
    have R7 := R6.w (k' := 6) (i := 5) (fun j hj => by omega) s5
    generalize hM7 : wI M6 201 (6 * N + 5) (i3 s5) = M7 at R7
    have hcv := hc.c hc'
    obtain ⟨M8, s4', hs4', hm4, R8, K7⟩ := dr_m4 hN R7 (show -170000 < c' ∧ c' < 170000 by omega) hs4
    obtain ⟨M9, s5', hs5', hm5, R9, K8⟩ := dr_m5 hN R8 hs5
    generalize hg : upI (upI (upI (upI (upI (upI (upI (upI (upI (fun _ => (0 : Int)) 0 s0) 1 c) 1 c') 2 s2) 3 s3) 4 s4) 5 s5) 4 s4') 5 s5' = g at R9
    have hv : vR N g := by
      rw [← hg]
      exact ⟨hs0, hcv, hs2, hs3, hs4', hs5'⟩
    have hm : okM g := by
      rw [← hg]
      exact ⟨hm5, hm4⟩
    have hX9 := hX.fz R9.fz ⟨by decide, by decide⟩
    obtain ⟨m1, q1, X1, F1⟩ := law_rule hN hv h10 R9.2.2 hX9
    obtain ⟨r1, hr1, q2⟩ : ∃ v : Nat, v < 10 ∧ f_Law_low (v7 >>> (18 &&& 31)) 10 m1 = some (i3 v) := law_low _ (n := 10) (by decide) m1
    obtain ⟨r2, hr2, q3⟩ : ∃ v : Nat, v < 2 ∧ f_Law_low (v7 >>> (22 &&& 31)) 2 m1 = some (i3 v) := law_low _ (n := 2) (by decide) m1
    obtain ⟨v, ev⟩ : ∃ v : Int, v = 2 * r1 + r2 := ⟨_, rfl⟩
    have hvb : 0 ≤ v ∧ v ≤ 19 := by omega
    have a0 : zI m1 204 0 = i3 N := by rw [F1.at (by decide), R9.1 _ _ (Or.inl (by decide)), hLF.1]
    have a1 : zI (wI m1 202 N (i3 v)) 204 0 = i3 N := by rw [zI_ne (by decide), a0]
    generalize hM : wI (wI m1 202 N (i3 v)) 204 0 (i3 ((N + 1 : Nat) : Int)) = M
    have hz : ∀ b j, 19 ≤ b → b ≠ 201 → b ≠ 202 → (b ≠ 204 ∨ j ≠ 0) → zI M b j = zI m b j := fun b j h1 h2 h3 h4 => by
      rw [← hM]
      by_cases e : b = 204
      · subst e
        rw [zI_nk (by omega), zI_ne h3, F1.at h1, R9.1 _ _ (Or.inl h2)]
      · rw [zI_ne e, zI_ne h3, F1.at h1, R9.1 _ _ (Or.inl h2)]
    have hFM : Fz 3 0 m1 M := by
      rw [← hM]
      exact (Fz.w (Or.inr (Or.inl (zone_A (by omega))))).trans (Fz.w (Or.inr (Or.inl (zone_A (by omega)))))
    have hF1 : Fz 3 2 m M := ((R9.fz.up (Or.inr (Or.inl rfl)) (Or.inl rfl)).trans (F1.fz.up (Or.inr (Or.inr rfl)) (Or.inl rfl))).trans (hFM.up (Or.inr (Or.inl rfl)) (Or.inl rfl))
    have XM := X1.fz hFM ⟨by decide, by decide⟩
    obtain ⟨m2, q4, X2, F2, l2⟩ := k_fault XM (rl_parse h10 hv hm XM.1.1)
    have hC2 : CM m2 N fr Rv nb F Y E := hC.gx (by omega) (fun b j hb => by
      rw [F2.at (zone_A (by omega)) ⟨by decide, by decide, by decide⟩]
      exact hz b j (by omega) (by omega) (by omega) (by omega))
    obtain ⟨m3, q5, C3, X3, F3, l3⟩ := k_feast hL hC2 hN hv hm X2 hvb
    obtain ⟨m4, q6, X4, F4, l4⟩ := k_wipe X3
    have hF : Fz 3 2 m m4 := ((hF1.trans (F2.up (Or.inr (Or.inr rfl)) (Or.inl rfl))).trans F3).trans (F4.up (Or.inr (Or.inr rfl)) (Or.inl rfl))
    have lo : ∀ b j, 201 ≤ b → zI m4 b j = zI M b j := fun b j hb => by rw [l4 b j hb, l3 b j hb, l2 b j hb]
    have hM0 : zI M 204 0 = i3 ((N + 1 : Nat) : Int) := by rw [← hM, zI_eq]
    have b2 : ∀ k, zI M 202 k = if k = N then i3 v else zI m 202 k := fun k => by
      rw [← hM, zI_ne (by decide)]
      by_cases e : k = N
      · rw [if_pos e, e, zI_eq]
      · rw [if_neg e, zI_nk e, F1.at (by decide), R9.1 _ _ (Or.inl (by decide))]
    have b1 : ∀ j, zI M 201 j = zI M9 201 j := fun j => by rw [← hM, zI_ne (by decide), zI_ne (by decide), F1.at (by decide)]
    have hC4 : CM m4 (N + 1) (upF fr N g) (upI Rv N v) nb F Y E := C3.gx (by omega) (fun b j hb => F4.at (zone_A (by omega)) ⟨by decide, by decide, by decide⟩)
    have hA4 : StA m4 (N + 1) (upF fr N g) (upI Rv N v) nb F Y E := by
      refine ⟨⟨by omega, hnb, fun k hk => ?_, fun k hk => ?_, hL.2.2.2.2.1, hL.2.2.2.2.2.1, fun i hi => ?_⟩, ⟨⟨by rw [lo _ _ (by decide), hM0], fun k hk j hj => ?_⟩, hLD.g2 (fun j => by rw [lo _ _ (by decide)]; exact hz _ _ (by decide) (by decide) (by decide) (Or.inl (by decide))) (by rw [lo _ _ (by decide)]; exact hz _ _ (by decide) (by decide) (by decide) (Or.inr (by decide))), fun k hk => ?_⟩, hC4⟩
      · unfold upF
        by_cases e : k = N
        · rw [if_pos e, e]; exact hv
        · rw [if_neg e]; exact hL.2.2.1 k (by omega)
      · unfold upI
        by_cases e : k = N
        · rw [if_pos e]; exact hvb
        · rw [if_neg e]; exact hL.2.2.2.1 k (by omega)
      · have := hL.2.2.2.2.2.2 i hi
        omega
      · rw [lo _ _ (by decide), b1]
        unfold upF
        by_cases e : k = N
        · rw [if_pos e, e]; exact R9.2.2 j hj
        · rw [if_neg e, R9.1 _ _ (Or.inr (by omega))]
          exact hLF.2 k (by omega) j hj
      · rw [lo _ _ (by decide), b2]
        unfold upI
        by_cases e : k = N
        · rw [if_pos e, if_pos e]
        · rw [if_neg e, if_neg e]; exact hLr k (by omega)
    refine ⟨m4, N + 1, by omega, by omega, ⟨t, upF fr N g, upI Rv N v, nb, F, Y, E, nR, PR, RE, BE, sp, hT.fz hF ⟨by decide, by decide⟩, hA4, hB.fz hF ⟨by decide, by decide⟩, X4, hQ.fz (Nat.le_succ N) hF ⟨by decide, by decide⟩, hb⟩, Or.inr ⟨y, hy, ?_⟩⟩
    obtain ⟨iN, xN⟩ := in_n (k := N) (n := 10) hN (by decide)
    have n2 : zI m2 204 0 = i3 ((N + 1 : Nat) : Int) := by rw [l2 _ _ (by decide), hM0]
    have n3 : zI m3 204 0 = i3 ((N + 1 : Nat) : Int) := by rw [l3 _ _ (by decide), n2]
    have n1 : i3 ((N + 1 : Nat) : Int) - 1 = i3 (N : Int) := by
      rw [i3_sub1]
      congr 1
      omega
    have n4 : zI m2 202 N = i3 v := by rw [l2 _ _ (by decide), b2, if_pos rfl]
    have evv : (2 : Int32) * i3 (r1 : Int) + i3 (r2 : Int) = i3 v := by
      rw [ev]
      show i3 2 * i3 (r1 : Int) + i3 (r2 : Int) = _
      rw [i3_mul, i3_add]
    have dv : i3 v / 2 = i3 (v / 2) := by rw [show (2 : Int32) = i3 2 from rfl, i3_div ⟨by omega, by omega⟩ ⟨by decide, by decide⟩]
    have ebv : (if i3 v % 2 = 1 then (1 : Int32) else 0) = b3 (decide (v % 2 = 1)) := by
      rw [show (2 : Int32) = i3 2 from rfl, i3_mod ⟨by omega, by omega⟩ ⟨by decide, by decide⟩, it_e1 ⟨by omega, by omega⟩]
      by_cases c : v % 2 = 1
      · rw [if_pos c, decide_eq_true c]; rfl
      · rw [if_neg c, decide_eq_false c]; rfl
    unfold kc_F
    rw [if_pos z06.1, z06.2, hLF.1, if_neg hne, if_pos z06.1, m6_i, zLet_q, if_pos z06.1, ad1, ad2, ad3, ad4, ad5, x0, x1, x2, x3, x4, x5, K0, if_pos i0, hM1, zLet_q, K1, if_pos i1, hM2, zLet_q, K2, e2, zBP_some, if_pos i2, hM4, zLet_q, K3, if_pos i3', hM5, zLet_q, K4, if_pos i4, hM6, zLet_q, K5, if_pos i5, hM7, zLet_q, K7, K8, if_pos z06.1, R9.1 _ _ (Or.inl (by decide)), hLF.1, q1, zBV_some, if_pos z06.1, q2, zBP_some, q3, zBP_some, a0, xN, if_pos iN, evv, zLet_q, if_pos z06.1, if_pos z06.1, a1, ad1, hM, zLet_q, q4, zBI_some, if_pos rfl, if_pos z06.1, n2, n1, xN, if_pos iN, if_pos z06.1, if_pos iN, n4, dv, zl_if, ebv, q5, zBI_some, if_pos z06.1, n3, n1, if_pos rfl, q6, zBI_some, if_pos rfl]
end TRG
