/-! RINGING: the class rings a year -/
section YEP
variable {PR RE BE pl R : Nat → Int} {nR N : Nat} {nt : Nat → Bool} {s : RS} {d : Nat}
theorem rDy_none : ∀ n : Nat, (∀ g, g < n → pl g ≠ d) → rDy PR RE nR BE nt pl R d n s = s
  | 0, _ => rfl
  | n + 1, h => by
    unfold rDy
    rw [if_neg (h n (by omega)), rDy_none n (fun g hg => h g (by omega))]
theorem rDy_one {g : Nat} (he : pl g = d) : ∀ n : Nat, g < n → (∀ g', g' < n → pl g' = d → g' = g) → rDy PR RE nR BE nt pl R d n s = rPa PR RE nR BE d (rLd nt d g) (R g) g 6 s
  | 0, hg, _ => absurd hg (Nat.not_lt_zero g)
  | n + 1, hg, h => by
    unfold rDy
    by_cases e : n = g
    · subst e
      rw [if_pos he, rDy_none n (fun g' hg' hd => by have := h g' (by omega) hd; omega)]
    · rw [if_neg (fun hd => e (h n (by omega) hd)), rDy_one he n (by omega) (fun g' hg' => h g' (by omega))]
theorem rYr_late {L : Nat} (hp : ∀ g, g < N → pl g < L) : ∀ d : Nat, L ≤ d → rYr PR RE nR BE nt pl R N d = rYr PR RE nR BE nt pl R N L
  | 0, h => by rw [show L = 0 by omega]
  | d + 1, h => by
    by_cases e : L = d + 1
    · rw [e]
    · show rDy PR RE nR BE nt pl R d N (rYr PR RE nR BE nt pl R N d) = _
      rw [rDy_none N (fun g hg => by have := hp g hg; omega), rYr_late hp d (by omega)]
end YEP
section YEA
variable {m mm : Mm} {PR RE BE pl R b1 b2 : Nat → Int} {nR N : Nat} {mv nt : Nat → Bool}
theorem fg_0 {f : Nat} (hf : f < 20) (r7 : Int32 → Mm → Option Mm) : ∃ m', zLp1 (l_Bel_forgetYear_0 (i3 f) r7) zFu 0 m = r7 (i3 ((f + 1 : Nat) : Int)) m' ∧ Fx1 (181 + f) m m' ∧ ∀ k, k < 36 → zI m' (181 + f) k = i3 (-1) := by
  have hinf : zIn (i3 (f : Int)) 20 := (i3_in ⟨by omega, by omega⟩).mpr ⟨by omega, by omega⟩
  have hixf : zIx (i3 (f : Int)) = f := by rw [i3_ix ⟨by omega, by omega⟩, Int.toNat_natCast]
  refine ex_zLp1 (Q := fun X => ∃ m', X = r7 (i3 ((f + 1 : Nat) : Int)) m' ∧ Fx1 (181 + f) m m' ∧ ∀ k, k < 36 → zI m' (181 + f) k = i3 (-1))
    (fun j x mm => ∃ k : Nat, x = i3 k ∧ k ≤ 36 ∧ j = 36 - k ∧ Fx1 (181 + f) m mm ∧ ∀ k', k' < k → zI mm (181 + f) k' = i3 (-1)) ?_ zFu 36 _ _ ⟨0, rfl, by omega, rfl, Fx1.refl, fun k' h => absurd h (Nat.not_lt_zero k')⟩ (by unfold zFu; omega)
  rintro r j x mm ⟨k, rfl, hk, rfl, hF, hv⟩
  unfold l_Bel_forgetYear_0
  rw [show (36 : Int32) = i3 36 from rfl, it_le ⟨by decide, by decide⟩ ⟨by omega, by omega⟩]
  by_cases e : (36 : Int) ≤ k
  · left
    rw [if_pos e]
    simp only [zLet, i3_add1]
    exact ⟨mm, rfl, hF, fun k' hk' => hv k' (by omega)⟩
  · right
    have hin : zIn (i3 (k : Int)) 36 := (i3_in ⟨by omega, by omega⟩).mpr ⟨by omega, by omega⟩
    have hix : zIx (i3 (k : Int)) = k := by rw [i3_ix ⟨by omega, by omega⟩, Int.toNat_natCast]
    rw [if_neg e, if_pos hinf, if_pos hin, hixf, hix]
    simp only [zLet, i3_add1]
    refine ⟨_, _, 36 - (k + 1), by omega, ⟨k + 1, rfl, by omega, rfl, hF.w, fun k' hk' => ?_⟩, rfl⟩
    by_cases e2 : k' = k
    · rw [e2]; exact zI_eq
    · rw [zI_nk e2]; exact hv k' (by omega)
theorem fg_1 : ∃ m', zLp1 l_Bel_forgetYear_1 zFu 0 m = some m' ∧ (m'.2 = m.2 ∧ ∀ b j, (b < 181 ∨ 200 < b) → zI m' b j = zI m b j) ∧ ∀ f k, f < 20 → k < 36 → zI m' (181 + f) k = i3 (-1) := by
  refine ex_zLp1 (Q := fun X => ∃ m', X = some m' ∧ (m'.2 = m.2 ∧ ∀ b j, (b < 181 ∨ 200 < b) → zI m' b j = zI m b j) ∧ ∀ f k, f < 20 → k < 36 → zI m' (181 + f) k = i3 (-1))
    (fun j x mm => ∃ f : Nat, x = i3 f ∧ f ≤ 20 ∧ j = 20 - f ∧ (mm.2 = m.2 ∧ ∀ b j, (b < 181 ∨ 200 < b) → zI mm b j = zI m b j) ∧ ∀ f' k, f' < f → k < 36 → zI mm (181 + f') k = i3 (-1)) ?_ zFu 20 _ _ ⟨0, rfl, by omega, rfl, ⟨rfl, fun _ _ _ => rfl⟩, fun f' _ h => absurd h (Nat.not_lt_zero f')⟩ (by unfold zFu; omega)
  rintro r j x mm ⟨f, rfl, hf, rfl, hF, hv⟩
  unfold l_Bel_forgetYear_1
  rw [show (20 : Int32) = i3 20 from rfl, it_le ⟨by decide, by decide⟩ ⟨by omega, by omega⟩]
  by_cases e : (20 : Int) ≤ f
  · left
    rw [if_pos e]
    exact ⟨mm, rfl, hF, fun f' k hf' => hv f' k (by omega)⟩
  · right
    rw [if_neg e]
    obtain ⟨m', q1, q2, q3⟩ := fg_0 (m := mm) (f := f) (by omega) r
    refine ⟨_, m', 20 - (f + 1), by omega, ⟨f + 1, rfl, by omega, rfl, ⟨q2.1.trans hF.1, fun b j hb => (q2.2 b j (by omega)).trans (hF.2 b j hb)⟩, fun f' k hf' hk => ?_⟩, q1⟩
    by_cases e2 : f' = f
    · rw [e2]; exact q3 k hk
    · rw [q2.2 _ _ (by omega)]; exact hv f' k (by omega) hk
theorem bel_forget : ∃ m', f_Bel_forgetYear m = some m' ∧ CS m' rS0 ∧ FxR m m' := by
  rw [e_Bel_forgetYear, zLet_eq]
  refine ex_zLp1 (Q := fun X => ∃ m', X = some m' ∧ CS m' rS0 ∧ FxR m m')
    (fun j x mm => ∃ k : Nat, x = i3 k ∧ k ≤ 24 ∧ j = 24 - k ∧ FxR m mm ∧ zI mm 174 7 = i3 0 ∧ ∀ k', k' < k → zI mm 178 k' = i3 (-1) ∧ zI mm 179 k' = i3 0) ?_ zFu 24 _ _ ⟨0, rfl, by omega, rfl, FxR.w (Or.inr (Or.inr (Or.inr ⟨rfl, rfl⟩))), zI_eq, fun k' h => absurd h (Nat.not_lt_zero k')⟩ (by unfold zFu; omega)
  rintro r j x mm ⟨k, rfl, hk, rfl, hF, h7, hv⟩
  unfold l_Bel_forgetYear_2
  rw [show (24 : Int32) = i3 24 from rfl, it_le ⟨by decide, by decide⟩ ⟨by omega, by omega⟩]
  by_cases e : (24 : Int) ≤ k
  · left
    rw [if_pos e]
    obtain ⟨m', q1, q2, q3⟩ := fg_1 (m := mm)
    refine ⟨m', q1, ⟨fun k' hk' => ?_, fun f k' hf hk' => ?_, ?_⟩, hF.trans ⟨q2.1, fun b j a1 a2 a3 a4 => q2.2 b j a3⟩⟩
    · show zI m' 178 k' = i3 (-1) ∧ zI m' 179 k' = i3 0
      rw [q2.2 _ _ (by decide), q2.2 _ _ (by decide)]
      exact hv k' (by omega)
    · show zI m' (181 + f) k' = i3 (if (-2 : Int) = -2 then -1 else -2)
      rw [if_pos rfl]
      exact q3 f k' hf hk'
    · show zI m' 174 7 = i3 0
      rw [q2.2 _ _ (by decide)]
      exact h7
  · right
    have hin : zIn (i3 (k : Int)) 24 := (i3_in ⟨by omega, by omega⟩).mpr ⟨by omega, by omega⟩
    have hix : zIx (i3 (k : Int)) = k := by rw [i3_ix ⟨by omega, by omega⟩, Int.toNat_natCast]
    rw [if_neg e, if_pos hin, zLet_eq, if_pos hin, zLet_eq, zLet_eq, hix, i3_add1]
    refine ⟨_, _, 24 - (k + 1), by omega, ⟨k + 1, rfl, by omega, rfl, hF.trans ((FxR.w (Or.inl rfl)).trans (FxR.w (Or.inr (Or.inl rfl)))), ?_, fun k' hk' => ?_⟩, rfl⟩
    · rw [zI_ne (by decide), zI_ne (by decide)]
      exact h7
    · by_cases e2 : k' = k
      · rw [e2, zI_ne (by decide), zI_eq, zI_eq]
        exact ⟨rfl, rfl⟩
      · rw [zI_ne (by decide), zI_nk e2, zI_nk e2, zI_ne (by decide)]
        exact hv k' (by omega)
theorem bel_year (hv : vRg nR PR RE) (hg : Crg m nR PR RE) (hbv : vBE BE) (hbe : Cbe m BE) (hN : N ≤ 20) (hr : Crk m N R mv) (hR : ∀ k, k < N → 0 ≤ R k ∧ R k ≤ 9)
    (hd : Cdy m 157 N pl) (hp : ∀ g, g < N → -1 ≤ pl g ∧ pl g < 366) (hi : Inj pl N) (h1 : ∀ f, f < N → zI m 154 f = i3 (b1 f) ∧ -1 ≤ b1 f ∧ b1 f < 400) (h2 : ∀ f, f < N → zI m 160 f = i3 (b2 f) ∧ -1 ≤ b2 f ∧ b2 f < 400) :
    ∃ m', f_Bel_ringYear 152 158 m = some m' ∧ CS m' (rYr PR RE nR BE (fun f => midn (b1 f) (b2 f)) pl R N 366) ∧ FxR m m' := by
  generalize hnt : (fun f => midn (b1 f) (b2 f)) = nt
  have hnt' : ∀ f, nt f = midn (b1 f) (b2 f) := fun f => by rw [← hnt]
  rw [e_Bel_ringYear]
  obtain ⟨m0, q1, q2, q3⟩ := bel_forget (m := m)
  rw [q1, zBV_some]
  refine ex_zLp1 (Q := fun X => ∃ m', X = some m' ∧ CS m' (rYr PR RE nR BE nt pl R N 366) ∧ FxR m m')
    (fun j x mm => ∃ d : Nat, x = i3 d ∧ d ≤ 366 ∧ j = 366 - d ∧ CS mm (rYr PR RE nR BE nt pl R N d) ∧ FxR m mm) ?_ zFu 366 _ _ ⟨0, rfl, Nat.zero_le _, rfl, q2, q3⟩ (by unfold zFu; omega)
  rintro r j x mm ⟨d, rfl, hd6, rfl, hC, hF⟩
  unfold l_Bel_ringYear_0
  rw [show (365 : Int32) = i3 365 from rfl, it_lt ⟨by decide, by decide⟩ ⟨by omega, by omega⟩]
  by_cases e : (365 : Int) < d
  · left
    rw [if_pos e]
    obtain rfl : d = 366 := by omega
    exact ⟨mm, rfl, hC, hF⟩
  · right
    rw [if_neg e]
    have hin : zIn (i3 (d : Int)) 366 := (i3_in ⟨by omega, by omega⟩).mpr ⟨by omega, by omega⟩
    have hix : zIx (i3 (d : Int)) = d := by rw [i3_ix ⟨by omega, by omega⟩, Int.toNat_natCast]
    have hon : f_Boo_feastOn 152 (i3 d) mm = some (zI m 157 d) := by
      unfold f_Boo_feastOn
      simp only [zLet]
      rw [it_lt0 ⟨by omega, by omega⟩, if_neg (by omega), show (366 : Int32) = i3 366 from rfl, it_le ⟨by decide, by decide⟩ ⟨by omega, by omega⟩, if_neg (by omega), if_pos hin, hix, hF.2 _ _ (by decide) (by decide) (by decide) (Or.inl (by decide))]
    rw [hon, zBP_some]
    simp only [zLet, i3_add1]
    rcases hd d (by omega) with ⟨h0, hno⟩ | ⟨g, hg1, hg2, h0⟩
    · rw [h0, if_pos (show i3 (-1) = -1 from rfl)]
      refine ⟨_, mm, 366 - (d + 1), by omega, ⟨d + 1, rfl, by omega, rfl, ?_, hF⟩, rfl⟩
      show CS mm (rDy PR RE nR BE nt pl R d N (rYr PR RE nR BE nt pl R N d))
      rw [rDy_none N hno]
      exact hC
    · have hing : zIn (i3 (g : Int)) 20 := (i3_in ⟨by omega, by omega⟩).mpr ⟨by omega, by omega⟩
      have hixg : zIx (i3 (g : Int)) = g := by rw [i3_ix ⟨by omega, by omega⟩, Int.toNat_natCast]
      have hnx := boo_night (m := mm) (a := 152) (o := 158) (b1 := b1) (b2 := b2) (f := g) (by omega) (by rw [hF.2 _ _ (by decide) (by decide) (by decide) (Or.inl (by decide))]; exact (h1 g hg1).1) (by rw [hF.2 _ _ (by decide) (by decide) (by decide) (Or.inl (by decide))]; exact (h2 g hg1).1) (h1 g hg1).2 (h2 g hg1).2
      have hrk : f_Alm_rankOf (i3 g) mm = some (i3 (R g)) := by
        unfold f_Alm_rankOf
        rw [if_pos hing, hixg, hF.2 _ _ (by omega) (by omega) (by omega) (Or.inl (by omega)), (hr g hg1).1]
      have hld : 0 ≤ rLd nt d g ∧ rLd nt d g ≤ 400 := by unfold rLd; split <;> omega
      obtain ⟨m', p1, p2, p3⟩ := bel_feast (d := d) (ld := rLd nt d g) (rk := R g) (f := g) hv (hg.fx hF) hbv (hbe.fx hF) hC (rYr_b hv.1 hN hbv hR d (by omega)) (by omega) ⟨by omega, by omega⟩ hld (hR g hg1) (by omega)
      rw [h0, if_neg (show ¬ i3 (g : Int) = -1 by rw [show (-1 : Int32) = i3 (-1) from rfl, i3_eq ⟨by omega, by omega⟩ ⟨by decide, by decide⟩]; omega), hnx, zBP_some, ← hnt' g, hrk, zBP_some]
      have fin : (zBV (f_Bel_ringFeast (i3 g) (i3 (R g)) (i3 d) (i3 (rLd nt d g)) mm) fun m16 => r (i3 ((d + 1 : Nat) : Int)) m16) = r (i3 ((d + 1 : Nat) : Int)) m' := by rw [p1, zBV_some]
      refine ⟨_, m', 366 - (d + 1), by omega, ⟨d + 1, rfl, by omega, rfl, ?_, hF.trans p3⟩, ?_⟩
      · show CS m' (rDy PR RE nR BE nt pl R d N (rYr PR RE nR BE nt pl R N d))
        rw [rDy_one hg2 N hg1 (fun g' hg' he => hi g' g hg' hg1 (he.trans hg2.symm) (by omega))]
        exact p2
      · refine Eq.trans ?_ fin
        unfold rLd
        cases nt g with
        | false => rw [if_pos (show b3 false = 0 by decide)]; rfl
        | true =>
          rw [if_neg (show ¬ b3 true = 0 by decide)]
          rfl
end YEA
