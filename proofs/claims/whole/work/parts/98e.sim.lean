/-! CALLS: the small ones that change what is kept -/
theorem lo_x {b j : Nat} (h : 25 ≤ b ∧ b ≤ 151) : cT b j = false ∧ cX b j = false ∧ cR b j = false ∧ cB b j = false ∧ cQ b j = false := by
  refine ⟨?_, ?_, ?_, ?_, ?_⟩
  · cases e : cT b j with
    | false => rfl
    | true =>
      exfalso
      unfold cT at e
      simp only [Bool.or_eq_true, Bool.and_eq_true, beq_iff_eq, Nat.ble_eq] at e
      omega
  · cases e : cX b j with
    | false => rfl
    | true =>
      exfalso
      unfold cX at e
      simp only [Bool.or_eq_true, Bool.and_eq_true, beq_iff_eq, Nat.ble_eq] at e
      omega
  · cases e : cR b j with
    | false => rfl
    | true =>
      exfalso
      unfold cR at e
      simp only [Bool.or_eq_true, Bool.and_eq_true, beq_iff_eq, Nat.ble_eq] at e
      omega
  · cases e : cB b j with
    | false => rfl
    | true =>
      exfalso
      unfold cB at e
      simp only [Bool.or_eq_true, Bool.and_eq_true, beq_iff_eq, Nat.ble_eq] at e
      omega
  · cases e : cQ b j with
    | false => rfl
    | true =>
      exfalso
      unfold cQ at e
      simp only [Bool.or_eq_true, Bool.and_eq_true, beq_iff_eq, Nat.ble_eq] at e
      omega
/-- a throw: what is kept stays -/
theorem Bo.thr {c : Nat → Int} {A : Option ((Int32 ⊕ Nat) × Mm)} {G : Mm → Option (Int32 × Mm)} {m : Mm} {e : Nat} (hI : Inv m) (hA : A = some (.inr e, m)) (hc : 1 ≤ c e ∧ c e ≤ 3) (hG : ∀ m', SF m m' → G m' = some (0, wI m' 201 0 (i3 (c e)))) : Bo c A G :=
  Bo.of hI hA SF.refl (fun m' hF => ⟨0, _, hG m' hF, SF.w0, rfl, zI_eq, hc⟩)
section SIM
variable {m : Mm}
theorem b_table (hI : Inv m) (p : Int32) : Bo cA (f_Loo_table p m) (f_Mod_table p) := by
  obtain ⟨t, T, N, hT, hX, hA, hB, hS⟩ := id hI
  obtain ⟨q, rfl, hq⟩ := i3_abs (a := p)
  have ht2 := hT.1
  have hm : ∀ m', f_Mod_isIn (i3 q) 0 1 m' = some (b3 (decide (0 ≤ q ∧ q ≤ 1))) := fun m' => mod_in (b := 0) (c := 1) hq ⟨by decide, by decide⟩ ⟨by decide, by decide⟩
  by_cases c : 0 ≤ q ∧ q < 2
  · obtain ⟨n, rfl⟩ : ∃ n : Nat, q = n := ⟨q.toNat, by omega⟩
    refine ⟨.inl (i3 t), wI m 16 8 (i3 n), ?_, fun m' hE => ?_⟩
    · unfold f_Loo_table
      rw [loo_table hq, if_pos c, zBXV_l, hT.2.1]
      rfl
    · have fr : ∀ c : Nat → Nat → Bool, c 16 8 = false → c 201 0 = false → c 201 1 = false → SFc c m (wI (wI m' 201 0 0) 201 1 (i3 n)) := fun c h1 h2 h3 => ((SFc.w h1).trans hE.c).trans ((SFc.w h2).trans (SFc.w h3))
      refine ⟨i3 t, wI (wI m' 201 0 0) 201 1 (i3 n), ?_, ⟨n, T, N, ⟨by omega, ?_, ?_⟩, hX.fc (fr cX rfl rfl rfl), hA.fc (fr cC rfl rfl rfl) (fr cR rfl rfl rfl), hB.fc (fr cB rfl rfl rfl), hS.fc (fr cQ rfl rfl rfl) (fun b j hb => hE.2 b j hb) (Nat.le_refl N)⟩, fun j => rfl, ?_, rfl⟩
      · unfold f_Mod_table
        simp only [zLet]
        rw [hm, zBP_some, decide_eq_true (by omega : 0 ≤ (n : Int) ∧ (n : Int) ≤ 1), if_neg (show ¬ b3 true = 0 by decide), w00, zI_nk (by decide), hE.zI, zI_ne (by decide), hT.2.2]
      · rw [zI_ne (by decide), zI_ne (by decide), hE.zI, zI_eq]
      · rw [zI_eq]
      · rw [zI_nk (by decide), zI_eq]
  · refine Bo.thr (e := 0) hI ?_ (by decide) (fun m' hF => ?_)
    · unfold f_Loo_table
      rw [loo_table hq, if_neg c, zBXV_r]
    · unfold f_Mod_table
      simp only [zLet]
      rw [hm, zBP_some, decide_eq_false (by omega : ¬ (0 ≤ q ∧ q ≤ 1)), if_pos (show b3 false = 0 by decide), w0n (by decide)]
      rfl
theorem b_wipe (hI : Inv m) : ∃ v m1 m2, f_Loo_wipe m = some (v, m1) ∧ f_Mod_wipe m1 = some (v, m2) ∧ Inv m2 := by
  obtain ⟨t, T, N, hT, hX, hA, hB, hS⟩ := id hI
  have fr : ∀ c : Nat → Nat → Bool, c 17 1 = false → c 201 0 = false → c 201 3 = false → SFc c m (wI (wI (wI m 17 1 0) 201 0 0) 201 3 0) := fun c h1 h2 h3 => (SFc.w h1).trans ((SFc.w h2).trans (SFc.w h3))
  obtain ⟨⟨a1, a2, a3, a4⟩, ⟨b1, b2, b3, b4⟩, h3, ⟨vv, hv⟩, dg, nu, dn, r0, r1, r2, r3⟩ := hX
  refine ⟨i3 T.length, wI m 17 1 0, wI (wI (wI m 17 1 0) 201 0 0) 201 3 0, ?_, ?_, ⟨t, [], N, hT.fc (fr cT rfl rfl rfl), ⟨⟨by decide, rfl, fun i hi => absurd hi (Nat.not_lt_zero i), fun c hc => absurd hc (List.not_mem_nil)⟩, ⟨by decide, rfl, fun i hi => absurd hi (Nat.not_lt_zero i), fun c hc => absurd hc (List.not_mem_nil)⟩, fun i hi => ?_, ⟨vv, hv⟩, dg, nu, dn, r0, r1, r2, r3⟩, hA.fc (fr cC rfl rfl rfl) (fr cR rfl rfl rfl), hB.fc (fr cB rfl rfl rfl), hS.fc (fr cQ rfl rfl rfl) (fun b j hb => rfl) (Nat.le_refl N)⟩⟩
  · unfold f_Loo_wipe f_Txt_length f_Txt_clear
    rw [zBP_some, a2]
    rfl
  · unfold f_Mod_wipe
    simp only [zLet]
    rw [zI_nk (by decide), zI_ne (by decide), b2]
  · rw [zI_ne (by decide), zI_ne (by decide), zI_ne (by decide)]
    exact h3 i hi
theorem b_feasts (hI : Inv m) : ∃ v m2, f_Loo_feasts m = some v ∧ f_Mod_feasts m = some (v, m2) ∧ Inv m2 := by
  obtain ⟨t, T, N, hT, hX, hA, hB, hS⟩ := id hI
  obtain ⟨h19, h25, h20⟩ := hA.n19
  refine ⟨i3 N, wI m 201 0 0, ?_, ?_, hI.fx SF.w0⟩
  · unfold f_Loo_feasts f_Alm_size
    rw [zBP_some, h25]
  · unfold f_Mod_feasts
    simp only [zLet]
    rw [zI_nk (by decide), h19]
theorem b_spent (hI : Inv m) : ∃ v m2, f_Loo_spent m = some v ∧ f_Mod_spent m = some (v, m2) ∧ Inv m2 := by
  obtain ⟨t, T, N, hT, hX, hA, hB, hS⟩ := id hI
  refine ⟨zL m 170 3, wI m 201 0 0, rfl, ?_, hI.fx SF.w0⟩
  unfold f_Mod_spent
  simp only [zLet]
  rw [hS.1]
  rfl
theorem b_steps (hI : Inv m) (p : Int32) : Bo cI (f_Loo_steps p m) (f_Mod_steps p) := by
  obtain ⟨t, T, N, hT, hX, hA, hB, hS⟩ := id hI
  obtain ⟨h19, h25, h20⟩ := hA.n19
  obtain ⟨Kc, Ac, Lc, rk, o, R, mv, F, Y, E, nb, Tx, hW, hC, hR⟩ := hA
  obtain ⟨f, rfl, hf⟩ := i3_abs (a := p)
  have k19 : ∀ m', SF m m' → zI m' 201 19 = i3 N := fun m' hF => by rw [hF.1 _ _ (by exact rfl), h19]
  by_cases c : 0 ≤ f ∧ f < N
  · obtain ⟨g, rfl⟩ : ∃ g : Nat, f = g := ⟨f.toNat, by omega⟩
    have hg : g < N := by omega
    obtain ⟨hin, hix⟩ := fi20 (show g < 20 by omega)
    have zt : zT (32 + 6 * g + 3) = 3 := by
      have q : ∀ f, f < 20 → zT (32 + 6 * f + 3) = 3 := by decide +kernel
      exact q g (by omega)
    refine Bo.of hI (r := .inl (i3 (Lc g))) (m1 := m) ?_ SF.refl (fun m' hF => ⟨i3 (Lc g), wI m' 201 0 0, ?_, SF.w0, rfl, zI_eq, rfl⟩)
    · unfold f_Loo_steps
      have hc : f_Alm_code (i3 (g : Int)) m = some (32 + 6 * g + 3) := by
        unfold f_Alm_code
        rw [if_pos hin, hix]
      have zq : ∀ (K : Nat → Option ((Int32 ⊕ Nat) × Mm)), zBQ 3 (some (32 + 6 * g + 3)) K = K (32 + 6 * g + 3) := fun K => if_pos zt
      rw [loo_feast h20 h25 hf, if_pos c, zBXV_l, hc, zq, cod_size (hC.1.2 g hg), zBP_some]
    · have hR' := hR.fx hF
      unfold f_Mod_steps
      simp only [zLet]
      rw [mod_isFeast h20 (k19 m' hF) hf, zBP_some, decide_eq_true c, if_neg (show ¬ b3 true = 0 by decide), w00, if_pos hin, hix, zI_ne (by decide), (hR'.1.2 g hg).1]
  · refine Bo.thr (e := 2) hI ?_ (by decide) (fun m' hF => ?_)
    · unfold f_Loo_steps
      rw [loo_feast h20 h25 hf, if_neg c, zBXV_r]
    · unfold f_Mod_steps
      simp only [zLet]
      rw [mod_isFeast h20 (k19 m' hF) hf, zBP_some, decide_eq_false c, if_pos (show b3 false = 0 by decide), w0n (by decide)]
      rfl
theorem b_step (hI : Inv m) (p q : Int32) : Bo cI (f_Loo_step p q m) (f_Mod_step p q) := by
  obtain ⟨t, T, N, hT, hX, hA, hB, hS⟩ := id hI
  obtain ⟨h19, h25, h20⟩ := hA.n19
  obtain ⟨Kc, Ac, Lc, rk, o, R, mv, F, Y, E, nb, Tx, hW, hC, hR⟩ := hA
  obtain ⟨f, rfl, hf⟩ := i3_abs (a := p)
  obtain ⟨k, rfl, hk⟩ := i3_abs (a := q)
  have k19 : ∀ m', SF m m' → zI m' 201 19 = i3 N := fun m' hF => by rw [hF.1 _ _ (by exact rfl), h19]
  by_cases c : 0 ≤ f ∧ f < N
  · obtain ⟨g, rfl⟩ : ∃ g : Nat, f = g := ⟨f.toNat, by omega⟩
    have hg : g < N := by omega
    obtain ⟨hin, hix⟩ := fi20 (show g < 20 by omega)
    have zt : zT (32 + 6 * g + 3) = 3 := by
      have q : ∀ f, f < 20 → zT (32 + 6 * f + 3) = 3 := by decide +kernel
      exact q g (by omega)
    have hc : f_Alm_code (i3 (g : Int)) m = some (32 + 6 * g + 3) := by
      unfold f_Alm_code
      rw [if_pos hin, hix]
    have zq : ∀ (K : Nat → Option ((Int32 ⊕ Nat) × Mm)), zBQ 3 (some (32 + 6 * g + 3)) K = K (32 + 6 * g + 3) := fun K => if_pos zt
    have hCd := hC.1.2 g hg
    have h40 := hCd.1
    have hin2 : ∀ m', SF m m' → f_Mod_isIn (i3 k) 0 (zI m' 210 g - 1) m' = some (b3 (decide (0 ≤ k ∧ k ≤ (Lc g : Int) - 1))) := fun m' hF => by
      have e : zI m' 210 g - 1 = i3 ((Lc g : Int) - 1) := by rw [hF.1 _ _ (by exact rfl), (hR.1.2 g hg).1, show (1 : Int32) = i3 1 from rfl, i3_sub]
      rw [e]
      exact mod_in (b := 0) hk ⟨by decide, by decide⟩ ⟨by omega, by omega⟩
    by_cases c2 : 0 ≤ k ∧ k < Lc g
    · obtain ⟨i, rfl⟩ : ∃ i : Nat, k = i := ⟨k.toNat, by omega⟩
      have hi : i < Lc g := by omega
      have e80 : (80 : Int32) * i3 (g : Int) + i3 (i : Int) = i3 ((80 * g + i : Nat) : Int) := by rw [show (80 : Int32) = i3 80 from rfl, i3_mul, i3_add]; rfl
      have hin3 : zIn (i3 ((80 * g + i : Nat) : Int)) 1600 := (i3_in ⟨by omega, by omega⟩).mpr ⟨by omega, by omega⟩
      have hix3 : zIx (i3 ((80 * g + i : Nat) : Int)) = 80 * g + i := by rw [i3_ix ⟨by omega, by omega⟩, Int.toNat_natCast]
      refine Bo.of hI (r := .inl (10000 * i3 (Kc g i) + i3 (Ac g i))) (m1 := m) ?_ SF.refl (fun m' hF => ⟨10000 * i3 (Kc g i) + i3 (Ac g i), wI m' 201 0 0, ?_, SF.w0, rfl, zI_eq, rfl⟩)
      · unfold f_Loo_step
        rw [loo_feast h20 h25 hf, if_pos c, zBXV_l, hc, zq]
        simp only [zLet]
        rw [it_lt0 hk, if_neg (by omega), cod_size hCd, zBP_some, it_lt hk ⟨by omega, by omega⟩, if_pos c2.2, cod_kind hCd hi, zBP_some, cod_arg hCd hi, zBP_some]
      · have hR' := hR.fx hF
        unfold f_Mod_step
        simp only [zLet]
        rw [mod_isFeast h20 (k19 m' hF) hf, zBP_some, decide_eq_true c, if_neg (show ¬ b3 true = 0 by decide), zBP_some, if_neg (show ¬ b3 true = 0 by decide), if_pos hin, hix, hin2 m' hF, zBP_some, decide_eq_true (by omega : 0 ≤ (i : Int) ∧ (i : Int) ≤ (Lc g : Int) - 1), if_neg (show ¬ b3 true = 0 by decide), w00, e80, if_pos hin3, if_pos hin3, hix3, zI_ne (by decide), zI_ne (by decide), ((hR'.1.2 g hg).2 i hi).1, ((hR'.1.2 g hg).2 i hi).2]
    · refine Bo.thr (e := 2) hI ?_ (by decide) (fun m' hF => ?_)
      · unfold f_Loo_step
        rw [loo_feast h20 h25 hf, if_pos c, zBXV_l, hc, zq]
        simp only [zLet]
        rw [it_lt0 hk, cod_size hCd, zBP_some, it_lt hk ⟨by omega, by omega⟩]
        by_cases c3 : k < 0
        · rw [if_pos c3]
        · rw [if_neg c3, if_neg (by omega)]
      · unfold f_Mod_step
        simp only [zLet]
        rw [mod_isFeast h20 (k19 m' hF) hf, zBP_some, decide_eq_true c, if_neg (show ¬ b3 true = 0 by decide), zBP_some, if_neg (show ¬ b3 true = 0 by decide), if_pos hin, hix, hin2 m' hF, zBP_some, decide_eq_false (by omega : ¬ (0 ≤ k ∧ k ≤ (Lc g : Int) - 1)), if_pos (show b3 false = 0 by decide), w0n (by decide)]
        rfl
  · refine Bo.thr (e := 2) hI ?_ (by decide) (fun m' hF => ?_)
    · unfold f_Loo_step
      rw [loo_feast h20 h25 hf, if_neg c, zBXV_r]
    · unfold f_Mod_step
      simp only [zLet]
      rw [mod_isFeast h20 (k19 m' hF) hf, zBP_some, decide_eq_false c, if_pos (show b3 false = 0 by decide), w0n (by decide)]
      rfl
end SIM
