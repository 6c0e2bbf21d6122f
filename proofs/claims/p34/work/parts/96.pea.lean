/-! RINGING: the reference rings -/
def RrS (m : Mm) (nR : Nat) (s : RS) : Prop := RSl m nR s ∧ ∀ j, j < 720 → zI m 228 j = i3 (s.2.2.1 j)
def FxQ (m m' : Mm) : Prop := m'.2 = m.2 ∧ ∀ b j, b ≠ 226 → b ≠ 227 → b ≠ 228 → zI m' b j = zI m b j
theorem FxQ.refl {m : Mm} : FxQ m m := ⟨rfl, fun _ _ _ _ _ => rfl⟩
theorem FxQ.trans {m m' m'' : Mm} (h : FxQ m m') (h2 : FxQ m' m'') : FxQ m m'' := ⟨h2.1.trans h.1, fun b j a1 a2 a3 => (h2.2 b j a1 a2 a3).trans (h.2 b j a1 a2 a3)⟩
theorem FxQ.w {m : Mm} {a k : Nat} {v : Int32} (h : a = 226 ∨ a = 227 ∨ a = 228) : FxQ m (wI m a k v) := ⟨rfl, fun b j a1 a2 a3 => zI_ne (by omega)⟩
theorem Rrg.fx {m m' : Mm} {nR : Nat} {PR RE : Nat → Int} (h : Rrg m nR PR RE) (hF : FxQ m m') : Rrg m' nR PR RE := by
  refine ⟨?_, fun k hk => ⟨?_, ?_⟩⟩
  · rw [hF.2 _ _ (by decide) (by decide) (by decide)]; exact h.1
  · rw [hF.2 _ _ (by decide) (by decide) (by decide)]; exact (h.2 k hk).1
  · rw [hF.2 _ _ (by decide) (by decide) (by decide)]; exact (h.2 k hk).2
def Rbe (m : Mm) (BE : Nat → Int) : Prop := ∀ p, p < 6 → zI m 223 p = i3 (BE p)
/-- both bent days of each feast are found -/
def Rnt (m : Mm) (N : Nat) (b1 b2 : Nat → Int) : Prop := ∀ f, f < N → (zI m 216 f = i3 (b1 f) ∧ -1 ≤ b1 f ∧ b1 f < 400) ∧ zI m 216 (20 + f) = i3 (b2 f) ∧ -1 ≤ b2 f ∧ b2 f < 400
section PEA
variable {m mm : Mm} {PR RE BE pl R b1 b2 : Nat → Int} {nR N : Nat} {mv nt : Nat → Bool} {B : Int} {f p d : Nat} {s : RS}
theorem mod_bells (hv : vRg nR PR RE) (hg : Rrg m nR PR RE) (hS : RrS m nR s) (hb : RSb B s) (hB : B ≤ 900000) (hd : d ≤ 399) (hN : N ≤ 20) (hf : f < N) (hn : Rnt m N b1 b2) (hp : p < 6) {nb : Nat} (hnb : nb ≤ 6) (r2 : Int32 → Mm → Option Mm) :
    ∃ m', zLp1 (l_Mod_peal_0 (i3 nb) (i3 p) r2 (i3 d) (i3 f)) zFu 0 m = r2 (i3 ((p + 1 : Nat) : Int)) m' ∧ RrS m' nR (rBl PR RE nR d (rLd (fun f => midn (b1 f) (b2 f)) d f) f p nb s) ∧ FxQ m m' := by
  have h24 := hv.1
  generalize hld : rLd (fun f => midn (b1 f) (b2 f)) d f = ld
  have hl : 0 ≤ ld ∧ ld ≤ 400 := by rw [← hld]; unfold rLd; split <;> omega
  refine ex_zLp1 (Q := fun X => ∃ m', X = r2 (i3 ((p + 1 : Nat) : Int)) m' ∧ RrS m' nR (rBl PR RE nR d ld f p nb s) ∧ FxQ m m')
    (fun j x mm => ∃ b : Nat, x = i3 b ∧ b ≤ nb ∧ j = nb - b ∧ RrS mm nR (rBl PR RE nR d ld f p b s) ∧ FxQ m mm) ?_ zFu nb _ _ ⟨0, rfl, Nat.zero_le _, rfl, hS, FxQ.refl⟩ (by unfold zFu; omega)
  rintro r j x mm ⟨b, rfl, hbn, rfl, hC, hF⟩
  unfold l_Mod_peal_0
  simp only [zLet, i3_add1]
  rw [it_le ⟨by omega, by omega⟩ ⟨by omega, by omega⟩]
  by_cases e : (nb : Int) ≤ b
  · left
    obtain rfl : b = nb := by omega
    rw [if_pos e]
    exact ⟨mm, rfl, hC, hF⟩
  · right
    have hbb := hb.bl (PR := PR) (RE := RE) (d := d) (f := f) (p := p) h24 hl b
    have e6 : 36 * i3 (f : Int) + 6 * i3 (p : Int) + i3 (b : Int) = i3 ((36 * f + (6 * p + b) : Nat) : Int) := by
      rw [show (6 : Int32) = i3 6 from rfl, show (36 : Int32) = i3 36 from rfl, i3_mul, i3_mul, i3_add, i3_add]
      congr 1
      omega
    have hin6 : zIn (i3 ((36 * f + (6 * p + b) : Nat) : Int)) 720 := (i3_in ⟨by omega, by omega⟩).mpr ⟨by omega, by omega⟩
    have hix6 : zIx (i3 ((36 * f + (6 * p + b) : Nat) : Int)) = 36 * f + (6 * p + b) := by rw [i3_ix ⟨by omega, by omega⟩, Int.toNat_natCast]
    rw [if_neg e, mod_ringer hv (hg.fx hF) hC.1 hbb (by omega) ⟨by omega, by omega⟩ hp, zBP_some, e6, if_pos hin6, hix6]
    obtain ⟨c1, c2⟩ := hC
    have es : rBl PR RE nR d ld f p (b + 1) s = rOne PR RE nR d ld f p b (rBl PR RE nR d ld f p b s) := rfl
    generalize rBl PR RE nR d ld f p b s = s' at c1 c2 hbb es
    rcases rIts_cases (PR := PR) (RE := RE) (nR := nR) (p := p) (d := d) (s := s') with ei | ⟨g, hgn, ei⟩
    · rw [ei, if_pos (show i3 (-1) = -1 from rfl)]
      refine ⟨_, _, nb - (b + 1), by omega, ⟨b + 1, rfl, by omega, rfl, ?_, hF.trans (FxQ.w (Or.inr (Or.inr rfl)))⟩, rfl⟩
      rw [es]
      unfold rOne
      rw [if_pos ei]
      refine ⟨fun k hk => ?_, fun j hj => ?_⟩
      · rw [zI_ne (by decide), zI_ne (by decide)]
        exact c1 k hk
      · show _ = i3 (upI s'.2.2.1 _ _ _)
        unfold upI
        by_cases ej : j = 36 * f + (6 * p + b)
        · rw [if_pos ej, ej, zI_eq]
        · rw [if_neg ej, zI_nk ej]
          exact c2 j hj
    · have hing : zIn (i3 (g : Int)) 24 := (i3_in ⟨by omega, by omega⟩).mpr ⟨by omega, by omega⟩
      have hixg : zIx (i3 (g : Int)) = g := by rw [i3_ix ⟨by omega, by omega⟩, Int.toNat_natCast]
      have hnight : ∀ (k1 k2 : Nat) (v1 v2 : Int32), f_Mod_isNight (i3 f) (wI (wI mm 228 k1 v1) 226 k2 v2) = some (b3 (midn (b1 f) (b2 f))) := fun k1 k2 v1 v2 => mod_night (by omega) (by rw [zI_ne (by decide), zI_ne (by decide), hF.2 _ _ (by decide) (by decide) (by decide)]; exact (hn f hf).1.1) (by rw [zI_ne (by decide), zI_ne (by decide), hF.2 _ _ (by decide) (by decide) (by decide)]; exact (hn f hf).2.1) (hn f hf).1.2 (hn f hf).2.2
      rw [ei, if_neg (show ¬ i3 (g : Int) = -1 by rw [show (-1 : Int32) = i3 (-1) from rfl, i3_eq ⟨by omega, by omega⟩ ⟨by decide, by decide⟩]; omega), if_pos hing, if_pos hing, hixg, hnight, zBP_some, if_pos hing]
      refine ⟨_, wI (wI (wI mm 228 (36 * f + (6 * p + b)) (i3 (g : Int))) 226 g (zI (wI mm 228 (36 * f + (6 * p + b)) (i3 (g : Int))) 226 g + 1)) 227 g (i3 ld), nb - (b + 1), by omega, ⟨b + 1, rfl, by omega, rfl, ?_, hF.trans (((FxQ.w (Or.inr (Or.inr rfl))).trans (FxQ.w (Or.inl rfl))).trans (FxQ.w (Or.inr (Or.inl rfl))))⟩, ?_⟩
      · rw [es]
        unfold rOne
        rw [ei, if_neg (by omega), Int.toNat_natCast]
        refine ⟨fun k hk => ?_, fun j hj => ?_⟩
        · show _ = i3 (upI s'.2.1 g (s'.2.1 g + 1) k) ∧ (upI s'.2.1 g (s'.2.1 g + 1) k ≠ 0 → _ = i3 (upI s'.1 g ld k))
          unfold upI
          by_cases ek : k = g
          · subst ek
            rw [if_pos rfl, if_pos rfl, zI_ne (by decide), zI_eq, zI_ne (by decide), (c1 k hk).1, zI_eq]
            exact ⟨i3_add1 _, fun _ => rfl⟩
          · rw [if_neg ek, if_neg ek, zI_ne (by decide), zI_nk ek, zI_ne (by decide), zI_nk ek, zI_ne (by decide), zI_ne (by decide)]
            exact c1 k hk
        · show _ = i3 (upI s'.2.2.1 _ _ _)
          unfold upI
          rw [zI_ne (by decide), zI_ne (by decide)]
          by_cases ej : j = 36 * f + (6 * p + b)
          · rw [if_pos ej, ej, zI_eq]
          · rw [if_neg ej, zI_nk ej]
            exact c2 j hj
      · have : ld = if midn (b1 f) (b2 f) then (d : Int) + 1 else d := hld.symm
        rw [this]
        cases midn (b1 f) (b2 f) with
        | false => rw [if_pos (show b3 false = 0 by decide)]; rfl
        | true => rw [if_neg (show ¬ b3 true = 0 by decide), if_pos hing]; rfl
theorem mod_peal (hv : vRg nR PR RE) (hg : Rrg m nR PR RE) (hbv : vBE BE) (hbe : Rbe m BE) (hS : RrS m nR s) (hb : RSb B s) (hB : B ≤ 800000) (hd : d ≤ 399) (hN : N ≤ 20) (hf : f < N) (hn : Rnt m N b1 b2) (hr : Rrk m N R mv) (hR : ∀ k, k < N → 0 ≤ R k ∧ R k ≤ 9) :
    ∃ m', f_Mod_peal (i3 f) (i3 d) m = some m' ∧ RrS m' nR (rPa PR RE nR BE d (rLd (fun f => midn (b1 f) (b2 f)) d f) (R f) f 6 s) ∧ FxQ m m' := by
  have hl : 0 ≤ rLd (fun f => midn (b1 f) (b2 f)) d f ∧ rLd (fun f => midn (b1 f) (b2 f)) d f ≤ 400 := by unfold rLd; split <;> omega
  have hRf := hR f hf
  rw [e_Mod_peal]
  refine ex_zLp1 (Q := fun X => ∃ m', X = some m' ∧ RrS m' nR (rPa PR RE nR BE d (rLd (fun f => midn (b1 f) (b2 f)) d f) (R f) f 6 s) ∧ FxQ m m')
    (fun j x mm => ∃ p : Nat, x = i3 p ∧ p ≤ 6 ∧ j = 6 - p ∧ RrS mm nR (rPa PR RE nR BE d (rLd (fun f => midn (b1 f) (b2 f)) d f) (R f) f p s) ∧ FxQ m mm) ?_ zFu 6 _ _ ⟨0, rfl, Nat.zero_le _, rfl, hS, FxQ.refl⟩ (by unfold zFu; omega)
  rintro r j x mm ⟨p, rfl, hp, rfl, hC, hF⟩
  unfold l_Mod_peal_1
  rw [show (6 : Int32) = i3 6 from rfl, it_le ⟨by decide, by decide⟩ ⟨by omega, by omega⟩]
  by_cases e : (6 : Int) ≤ p
  · left
    rw [if_pos e]
    obtain rfl : p = 6 := by omega
    exact ⟨mm, rfl, hC, hF⟩
  · right
    have hinf : zIn (i3 (f : Int)) 20 := (i3_in ⟨by omega, by omega⟩).mpr ⟨by omega, by omega⟩
    have hixf : zIx (i3 (f : Int)) = f := by rw [i3_ix ⟨by omega, by omega⟩, Int.toNat_natCast]
    have hinp : zIn (i3 (p : Int)) 6 := (i3_in ⟨by omega, by omega⟩).mpr ⟨by omega, by omega⟩
    have hixp : zIx (i3 (p : Int)) = p := by rw [i3_ix ⟨by omega, by omega⟩, Int.toNat_natCast]
    have hBp := hbv p (by omega)
    obtain ⟨n1, -⟩ := nBl_bd hbv (show p < 6 by omega) hRf
    have hbp : zI mm 223 p = i3 (BE p) := by rw [hF.2 _ _ (by decide) (by decide) (by decide)]; exact hbe p (by omega)
    have hrf : zI mm 208 f = i3 (R f) := by rw [hF.2 _ _ (by decide) (by decide) (by decide)]; exact (hr f hf).1
    obtain ⟨m', q1, q2, q3⟩ := mod_bells (p := p) hv (hg.fx hF) hC (hb.pa hv.1 hbv hl hRf p hp) (by omega) hd hN hf (b1 := b1) (b2 := b2) (fun f hf => by rw [hF.2 _ _ (by decide) (by decide) (by decide), hF.2 _ _ (by decide) (by decide) (by decide)]; exact hn f hf) (by omega) n1 r
    refine ⟨_, m', 6 - (p + 1), by omega, ⟨p + 1, rfl, by omega, rfl, q2, hF.trans q3⟩, ?_⟩
    rw [if_neg e, if_pos hinf, if_pos hinp, hixp, hixf, hbp, hrf, zLet_eq, it_le ⟨by omega, by omega⟩ ⟨by omega, by omega⟩, ← q1]
    unfold nBl
    by_cases c : BE p ≤ R f
    · rw [if_pos c, if_pos c, if_pos hinp, show (((BE p).toNat : Nat) : Int) = BE p by omega]
    · rw [if_neg c, if_neg c, if_pos hinf, show (((R f).toNat : Nat) : Int) = R f by omega]
/-- the days of a year -/
theorem mod_days {y : Nat} (hy : y < 400) (hv : vRg nR PR RE) (hg : Rrg m nR PR RE) (hbv : vBE BE) (hbe : Rbe m BE) (hS : RrS m nR rS0) (hN : N ≤ 20) (h19 : zI m 201 19 = i3 N) (hn : Rnt m N b1 b2) (hr : Rrk m N R mv) (hR : ∀ k, k < N → 0 ≤ R k ∧ R k ≤ 9) (hpl : Rpl m N pl) (hpb : ∀ g, g < N → -1 ≤ pl g ∧ pl g < 366) :
    ∃ m', zLp1 (l_Mod_ringsAll_1 (i3 y)) zFu 0 m = some m' ∧ RrS m' nR (rYr PR RE nR BE (fun f => midn (b1 f) (b2 f)) pl R N (sLen y)) ∧ FxQ m m' := by
  have hL := sLen_bd y
  generalize hnt : (fun f => midn (b1 f) (b2 f)) = nt
  refine ex_zLp1 (Q := fun X => ∃ m', X = some m' ∧ RrS m' nR (rYr PR RE nR BE nt pl R N (sLen y)) ∧ FxQ m m')
    (fun j x mm => ∃ d : Nat, x = i3 d ∧ d ≤ sLen y ∧ j = sLen y - d ∧ RrS mm nR (rYr PR RE nR BE nt pl R N d) ∧ FxQ m mm) ?_ zFu (sLen y) _ _ ⟨0, rfl, Nat.zero_le _, rfl, hS, FxQ.refl⟩ (by unfold zFu; omega)
  rintro r j x mm ⟨d, rfl, hd, rfl, hC, hF⟩
  unfold l_Mod_ringsAll_1
  rw [mod_len hy, zBP_some, it_le ⟨by omega, by omega⟩ ⟨by omega, by omega⟩]
  by_cases e : (sLen y : Int) ≤ d
  · left
    rw [if_pos e]
    obtain rfl : d = sLen y := by omega
    exact ⟨mm, rfl, hC, hF⟩
  · right
    rw [if_neg e]
    have one : ∃ m', zLp1 (l_Mod_ringsAll_0 (i3 d) r) zFu 0 mm = r (i3 ((d + 1 : Nat) : Int)) m' ∧ RrS m' nR (rDy PR RE nR BE nt pl R d N (rYr PR RE nR BE nt pl R N d)) ∧ FxQ m m' := by
      have hb0 := rYr_b (PR := PR) (RE := RE) (nt := nt) (pl := pl) hv.1 hN hbv hR d (by omega)
      refine ex_zLp1 (Q := fun X => ∃ m', X = r (i3 ((d + 1 : Nat) : Int)) m' ∧ RrS m' nR (rDy PR RE nR BE nt pl R d N (rYr PR RE nR BE nt pl R N d)) ∧ FxQ m m')
        (fun j x m2 => ∃ k : Nat, x = i3 k ∧ k ≤ N ∧ j = N - k ∧ RrS m2 nR (rDy PR RE nR BE nt pl R d k (rYr PR RE nR BE nt pl R N d)) ∧ FxQ m m2) ?_ zFu N _ _ ⟨0, rfl, Nat.zero_le _, rfl, hC, hF⟩ (by unfold zFu; omega)
      rintro r' j x m2 ⟨k, rfl, hk, rfl, hC2, hF2⟩
      unfold l_Mod_ringsAll_0
      simp only [zLet, i3_add1]
      rw [hF2.2 _ _ (by decide) (by decide) (by decide), h19, it_le ⟨by omega, by omega⟩ ⟨by omega, by omega⟩]
      by_cases e2 : (N : Int) ≤ k
      · left
        rw [if_pos e2]
        obtain rfl : k = N := by omega
        exact ⟨m2, rfl, hC2, hF2⟩
      · right
        have hkN : k < N := by omega
        have hin : zIn (i3 (k : Int)) 20 := (i3_in ⟨by omega, by omega⟩).mpr ⟨by omega, by omega⟩
        have hix : zIx (i3 (k : Int)) = k := by rw [i3_ix ⟨by omega, by omega⟩, Int.toNat_natCast]
        have hpk := hpb k hkN
        rw [if_neg e2, if_pos hin, hix, hF2.2 _ _ (by decide) (by decide) (by decide), hpl k hkN, it_eq ⟨by omega, by omega⟩ ⟨by omega, by omega⟩]
        by_cases c : pl k = d
        · obtain ⟨m', q1, q2, q3⟩ := mod_peal (d := d) (f := k) (BE := BE) (R := R) (mv := mv) (b1 := b1) (b2 := b2) hv (hg.fx hF2) hbv (fun p hp => by rw [hF2.2 _ _ (by decide) (by decide) (by decide)]; exact hbe p hp) hC2 (hb0.dy hv.1 hbv (by omega) hR k hk) (by omega) (by omega) hN hkN (fun f hf => by rw [hF2.2 _ _ (by decide) (by decide) (by decide), hF2.2 _ _ (by decide) (by decide) (by decide)]; exact hn f hf) (fun f hf => by rw [hF2.2 _ _ (by decide) (by decide) (by decide), hF2.2 _ _ (by decide) (by decide) (by decide)]; exact hr f hf) hR
          rw [if_pos c, q1, zBV_some]
          refine ⟨_, m', N - (k + 1), by omega, ⟨k + 1, rfl, by omega, rfl, ?_, hF2.trans q3⟩, rfl⟩
          unfold rDy
          rw [if_pos c, ← hnt]
          rw [← hnt] at q2
          exact q2
        · rw [if_neg c]
          refine ⟨_, m2, N - (k + 1), by omega, ⟨k + 1, rfl, by omega, rfl, ?_, hF2⟩, rfl⟩
          unfold rDy
          rw [if_neg c]
          exact hC2
    obtain ⟨m', q1, q2, q3⟩ := one
    exact ⟨_, m', sLen y - (d + 1), by omega, ⟨d + 1, rfl, by omega, rfl, q2, q3⟩, q1⟩
theorem mod_rings0 {y : Nat} (hy : y < 400) (hv : vRg nR PR RE) (hg : Rrg m nR PR RE) (hbv : vBE BE) (hbe : Rbe m BE) (hN : N ≤ 20) (h19 : zI m 201 19 = i3 N) (hn : Rnt m N b1 b2) (hr : Rrk m N R mv) (hR : ∀ k, k < N → 0 ≤ R k ∧ R k ≤ 9) (hpl : Rpl m N pl) (hpb : ∀ g, g < N → -1 ≤ pl g ∧ pl g < 366) :
    ∃ m', zLp1 (l_Mod_ringsAll_3 (i3 y)) zFu 0 m = some m' ∧ RrS m' nR (rYr PR RE nR BE (fun f => midn (b1 f) (b2 f)) pl R N (sLen y)) ∧ FxQ m m' := by
  have h24 := hv.1
  refine ex_zLp1 (Q := fun X => ∃ m', X = some m' ∧ RrS m' nR (rYr PR RE nR BE (fun f => midn (b1 f) (b2 f)) pl R N (sLen y)) ∧ FxQ m m')
    (fun j x mm => ∃ k : Nat, x = i3 k ∧ k ≤ 720 ∧ j = 720 - k ∧ FxQ m mm ∧ ∀ k', k' < k → zI mm 228 k' = i3 (-2)) ?_ zFu 720 _ _ ⟨0, rfl, by omega, rfl, FxQ.refl, fun k' h => absurd h (Nat.not_lt_zero k')⟩ (by unfold zFu; omega)
  rintro r j x mm ⟨k, rfl, hk, rfl, hF, hz⟩
  unfold l_Mod_ringsAll_3
  rw [show (720 : Int32) = i3 720 from rfl, it_le ⟨by decide, by decide⟩ ⟨by omega, by omega⟩]
  by_cases e : (720 : Int) ≤ k
  · left
    rw [if_pos e]
    refine ex_zLp1 (Q := fun X => ∃ m', X = some m' ∧ RrS m' nR (rYr PR RE nR BE (fun f => midn (b1 f) (b2 f)) pl R N (sLen y)) ∧ FxQ m m')
      (fun j x m2 => ∃ i : Nat, x = i3 i ∧ i ≤ nR ∧ j = nR - i ∧ FxQ m m2 ∧ (∀ k', k' < 720 → zI m2 228 k' = i3 (-2)) ∧ ∀ i', i' < i → zI m2 226 i' = i3 0) ?_ zFu nR _ _ ⟨0, rfl, by omega, rfl, hF, fun k' h => hz k' (by omega), fun k' h => absurd h (Nat.not_lt_zero k')⟩ (by unfold zFu; omega)
    rintro r' j x m2 ⟨i, rfl, hi, rfl, hF2, hz2, h0⟩
    unfold l_Mod_ringsAll_2
    rw [hF2.2 _ _ (by decide) (by decide) (by decide), hg.1, it_le ⟨by omega, by omega⟩ ⟨by omega, by omega⟩]
    by_cases e2 : (nR : Int) ≤ i
    · left
      rw [if_pos e2]
      obtain ⟨m', q1, q2, q3⟩ := mod_days (m := m2) (BE := BE) (R := R) (mv := mv) (pl := pl) (b1 := b1) (b2 := b2) (N := N) hy hv (hg.fx hF2) hbv (fun p hp => by rw [hF2.2 _ _ (by decide) (by decide) (by decide)]; exact hbe p hp) ⟨fun k hk => ⟨h0 k (by omega), fun z => absurd rfl z⟩, hz2⟩ hN (by rw [hF2.2 _ _ (by decide) (by decide) (by decide)]; exact h19) (fun f hf => by rw [hF2.2 _ _ (by decide) (by decide) (by decide), hF2.2 _ _ (by decide) (by decide) (by decide)]; exact hn f hf) (fun f hf => by rw [hF2.2 _ _ (by decide) (by decide) (by decide), hF2.2 _ _ (by decide) (by decide) (by decide)]; exact hr f hf) hR (fun f hf => by rw [hF2.2 _ _ (by decide) (by decide) (by decide)]; exact hpl f hf) hpb
      exact ⟨m', q1, q2, hF2.trans q3⟩
    · right
      have hin : zIn (i3 (i : Int)) 24 := (i3_in ⟨by omega, by omega⟩).mpr ⟨by omega, by omega⟩
      have hix : zIx (i3 (i : Int)) = i := by rw [i3_ix ⟨by omega, by omega⟩, Int.toNat_natCast]
      rw [if_neg e2, if_pos hin, hix]
      simp only [zLet, i3_add1]
      refine ⟨_, _, nR - (i + 1), by omega, ⟨i + 1, rfl, by omega, rfl, hF2.trans (FxQ.w (Or.inl rfl)), fun k' hk' => ?_, fun i' hi' => ?_⟩, rfl⟩
      · rw [zI_ne (by decide)]
        exact hz2 k' hk'
      · by_cases e3 : i' = i
        · rw [e3]; exact zI_eq
        · rw [zI_nk e3]; exact h0 i' (by omega)
  · right
    have hin : zIn (i3 (k : Int)) 720 := (i3_in ⟨by omega, by omega⟩).mpr ⟨by omega, by omega⟩
    have hix : zIx (i3 (k : Int)) = k := by rw [i3_ix ⟨by omega, by omega⟩, Int.toNat_natCast]
    rw [if_neg e, if_pos hin, hix]
    simp only [zLet, i3_add1]
    refine ⟨_, _, 720 - (k + 1), by omega, ⟨k + 1, rfl, by omega, rfl, hF.trans (FxQ.w (Or.inr (Or.inr rfl))), fun k' hk' => ?_⟩, rfl⟩
    by_cases e3 : k' = k
    · rw [e3]; exact zI_eq
    · rw [zI_nk e3]; exact hz k' (by omega)
end PEA
