/-! RINGING: a year, and how the class rings it -/
def rOne (PR RE : Nat → Int) (nR : Nat) (d ld : Int) (f p b : Nat) (s : RS) : RS :=
  if rIts PR RE nR p d s = -1 then (s.1, s.2.1, upI s.2.2.1 (36 * f + (6 * p + b)) (-1), s.2.2.2 + 1)
  else (upI s.1 (rIts PR RE nR p d s).toNat ld, upI s.2.1 (rIts PR RE nR p d s).toNat (s.2.1 (rIts PR RE nR p d s).toNat + 1), upI s.2.2.1 (36 * f + (6 * p + b)) (rIts PR RE nR p d s), s.2.2.2)
def rBl (PR RE : Nat → Int) (nR : Nat) (d ld : Int) (f p : Nat) : Nat → RS → RS
  | 0, s => s
  | b + 1, s => rOne PR RE nR d ld f p b (rBl PR RE nR d ld f p b s)
def nBl (rk : Int) (BE : Nat → Int) (p : Nat) : Nat := (if BE p ≤ rk then BE p else rk).toNat
def rPa (PR RE : Nat → Int) (nR : Nat) (BE : Nat → Int) (d ld rk : Int) (f : Nat) : Nat → RS → RS
  | 0, s => s
  | p + 1, s => rBl PR RE nR d ld f p (nBl rk BE p) (rPa PR RE nR BE d ld rk f p s)
def rLd (nt : Nat → Bool) (d : Int) (k : Nat) : Int := if nt k then d + 1 else d
def rDy (PR RE : Nat → Int) (nR : Nat) (BE : Nat → Int) (nt : Nat → Bool) (pl R : Nat → Int) (d : Nat) : Nat → RS → RS
  | 0, s => s
  | k + 1, s => if pl k = d then rPa PR RE nR BE d (rLd nt d k) (R k) k 6 (rDy PR RE nR BE nt pl R d k s) else rDy PR RE nR BE nt pl R d k s
def rS0 : RS := (fun _ => -1, fun _ => 0, fun _ => -2, 0)
def rYr (PR RE : Nat → Int) (nR : Nat) (BE : Nat → Int) (nt : Nat → Bool) (pl R : Nat → Int) (N : Nat) : Nat → RS
  | 0 => rS0
  | d + 1 => rDy PR RE nR BE nt pl R d N (rYr PR RE nR BE nt pl R N d)
def vBE (BE : Nat → Int) : Prop := ∀ p, p < 6 → 0 ≤ BE p ∧ BE p ≤ 6
section BLP
variable {PR RE BE pl R : Nat → Int} {nR N : Nat} {nt : Nat → Bool} {d ld rk B : Int} {f p : Nat} {s : RS}
theorem rIts_cases : rIts PR RE nR p d s = -1 ∨ ∃ g : Nat, g < nR ∧ rIts PR RE nR p d s = g := by
  rcases bst_cases (R := fun k => -(s.2.1 k)) (ask := rFr PR RE p d s) nR with e | ⟨g, h1, h2, -⟩
  · exact Or.inl e
  · exact Or.inr ⟨g, h1, h2⟩
theorem RSb.mono {B' : Int} (h : RSb B s) (hB : B ≤ B') : RSb B' s := ⟨fun k => ⟨(h.1 k).1, by have := (h.1 k).2; omega⟩, h.2⟩
theorem RSb.one {b : Nat} (hn : nR ≤ 24) (hl : 0 ≤ ld ∧ ld ≤ 400) (h : RSb B s) : RSb (B + 1) (rOne PR RE nR d ld f p b s) := by
  obtain ⟨h1, h2, h3, h4⟩ := h
  unfold rOne
  rcases rIts_cases (PR := PR) (RE := RE) (nR := nR) (p := p) (d := d) (s := s) with e | ⟨g, hg, e⟩
  · rw [if_pos e]
    refine ⟨fun k => ⟨(h1 k).1, by have := (h1 k).2; show s.2.1 k ≤ B + 1; omega⟩, h2, h3, fun j => ?_⟩
    show -2 ≤ upI _ _ _ j ∧ upI _ _ _ j < 24
    unfold upI
    split
    · omega
    · exact h4 j
  · rw [e, if_neg (by omega), Int.toNat_natCast]
    refine ⟨fun k => ?_, fun k => ?_, fun k => ?_, fun j => ?_⟩
    · show 0 ≤ upI _ _ _ k ∧ upI _ _ _ k ≤ B + 1
      have := h1 k
      have := h1 g
      unfold upI
      split <;> omega
    · show -1 ≤ upI _ _ _ k ∧ upI _ _ _ k ≤ 400
      have := h2 k
      unfold upI
      split <;> omega
    · show upI _ _ _ k = -1 ↔ upI _ _ _ k = 0
      have := h3 k
      have := h1 g
      unfold upI
      split
      · omega
      · exact h3 k
    · show -2 ≤ upI _ _ _ j ∧ upI _ _ _ j < 24
      unfold upI
      split
      · omega
      · exact h4 j
theorem RSb.bl (hn : nR ≤ 24) (hl : 0 ≤ ld ∧ ld ≤ 400) (h : RSb B s) : ∀ b : Nat, RSb (B + b) (rBl PR RE nR d ld f p b s)
  | 0 => by rw [show B + ((0 : Nat) : Int) = B by omega]; exact h
  | b + 1 => by rw [show B + ((b + 1 : Nat) : Int) = B + b + 1 by omega]; exact (RSb.bl hn hl h b).one hn hl
theorem nBl_bd (hv : vBE BE) (hp : p < 6) (hk : 0 ≤ rk ∧ rk ≤ 9) : nBl rk BE p ≤ 6 ∧ (nBl rk BE p : Int) ≤ rk ∧ (nBl rk BE p : Int) ≤ BE p ∧ ∀ b : Nat, nBl rk BE p ≤ b → rk ≤ b ∨ BE p ≤ b := by
  have := hv p hp
  unfold nBl
  split
  · refine ⟨by omega, by omega, by omega, fun b hb => by omega⟩
  · refine ⟨by omega, by omega, by omega, fun b hb => by omega⟩
theorem RSb.pa (hn : nR ≤ 24) (hv : vBE BE) (hl : 0 ≤ ld ∧ ld ≤ 400) (hk : 0 ≤ rk ∧ rk ≤ 9) (h : RSb B s) : ∀ p : Nat, p ≤ 6 → RSb (B + 6 * p) (rPa PR RE nR BE d ld rk f p s)
  | 0, _ => by rw [show B + 6 * ((0 : Nat) : Int) = B by omega]; exact h
  | p + 1, hp => by
    have hb := nBl_bd hv (show p < 6 by omega) hk
    exact ((RSb.pa hn hv hl hk h p (by omega)).bl hn hl _).mono (by omega)
theorem RSb.dy {d : Nat} (hn : nR ≤ 24) (hv : vBE BE) (hd : d < 400) (hR : ∀ k, k < N → 0 ≤ R k ∧ R k ≤ 9) (h : RSb B s) : ∀ k : Nat, k ≤ N → RSb (B + 36 * k) (rDy PR RE nR BE nt pl R d k s)
  | 0, _ => by rw [show B + 36 * ((0 : Nat) : Int) = B by omega]; exact h
  | k + 1, hk => by
    have ih := RSb.dy hn hv hd hR h k (by omega)
    unfold rDy
    split
    · refine (ih.pa hn hv ?_ (hR k (by omega)) 6 (Nat.le_refl _)).mono (by omega)
      unfold rLd
      split <;> omega
    · exact ih.mono (by omega)
theorem rS0_b : RSb 0 rS0 := ⟨fun _ => ⟨Int.le_refl 0, Int.le_refl 0⟩, fun _ => by show (-1 : Int) ≤ -1 ∧ (-1 : Int) ≤ 400; omega, fun _ => by show (-1 : Int) = -1 ↔ (0 : Int) = 0; omega, fun _ => by show (-2 : Int) ≤ -2 ∧ (-2 : Int) < 24; omega⟩
theorem rYr_b (hn : nR ≤ 24) (hN : N ≤ 20) (hv : vBE BE) (hR : ∀ k, k < N → 0 ≤ R k ∧ R k ≤ 9) : ∀ d : Nat, d ≤ 366 → RSb (720 * d) (rYr PR RE nR BE nt pl R N d)
  | 0, _ => rS0_b
  | d + 1, hd => ((rYr_b hn hN hv hR d (by omega)).dy hn hv (by omega) hR N (Nat.le_refl _)).mono (by omega)
end BLP
/-! the class -/
def CS (m : Mm) (s : RS) : Prop := CSl m s ∧ (∀ f k, f < 20 → k < 36 → zI m (181 + f) k = i3 (if s.2.2.1 (36 * f + k) = -2 then -1 else s.2.2.1 (36 * f + k))) ∧ zI m 174 7 = i3 s.2.2.2
def Cbe (m : Mm) (BE : Nat → Int) : Prop := ∀ p, p < 6 → zI m 175 p = i3 (BE p)
def FxR (m m' : Mm) : Prop := m'.2 = m.2 ∧ ∀ b j, b ≠ 178 → b ≠ 179 → (b < 181 ∨ 200 < b) → (b ≠ 174 ∨ j ≠ 7) → zI m' b j = zI m b j
theorem FxR.refl {m : Mm} : FxR m m := ⟨rfl, fun _ _ _ _ _ _ => rfl⟩
theorem FxR.trans {m m' m'' : Mm} (h : FxR m m') (h2 : FxR m' m'') : FxR m m'' := ⟨h2.1.trans h.1, fun b j a1 a2 a3 a4 => (h2.2 b j a1 a2 a3 a4).trans (h.2 b j a1 a2 a3 a4)⟩
theorem FxR.w {m : Mm} {a k : Nat} {v : Int32} (h : a = 178 ∨ a = 179 ∨ (181 ≤ a ∧ a ≤ 200) ∨ (a = 174 ∧ k = 7)) : FxR m (wI m a k v) := by
  refine ⟨rfl, fun b j a1 a2 a3 a4 => ?_⟩
  by_cases e : b = a
  · subst e
    exact zI_nk (by omega)
  · exact zI_ne e
theorem Crg.fx {m m' : Mm} {nR : Nat} {PR RE : Nat → Int} (h : Crg m nR PR RE) (hF : FxR m m') : Crg m' nR PR RE := by
  refine ⟨?_, fun k hk => ⟨?_, ?_⟩⟩
  · rw [hF.2 _ _ (by decide) (by decide) (by decide) (by decide)]; exact h.1
  · rw [hF.2 _ _ (by decide) (by decide) (by decide) (Or.inl (by decide))]; exact (h.2 k hk).1
  · rw [hF.2 _ _ (by decide) (by decide) (by decide) (Or.inl (by decide))]; exact (h.2 k hk).2
theorem Cbe.fx {m m' : Mm} {BE : Nat → Int} (h : Cbe m BE) (hF : FxR m m') : Cbe m' BE := fun p hp => by
  rw [hF.2 _ _ (by decide) (by decide) (by decide) (Or.inl (by decide))]; exact h p hp
section BEL
variable {m mm : Mm} {PR RE BE pl R : Nat → Int} {nR N : Nat} {nt : Nat → Bool} {d ld rk B : Int} {f p : Nat} {s : RS}
theorem bel_bells (hv : vRg nR PR RE) (hg : Crg m nR PR RE) (hbv : vBE BE) (hbe : Cbe m BE) (hS : CS m s) (hb : RSb B s) (hB : B ≤ 900000) (hd : 0 ≤ d ∧ d ≤ 399) (hl : 0 ≤ ld ∧ ld ≤ 400) (hk : 0 ≤ rk ∧ rk ≤ 9) (hf : f < 20) (hp : p < 6) (r2 : Int32 → Mm → Option Mm) :
    ∃ m', zLp1 (l_Bel_ringFeast_0 (i3 p) r2 (i3 rk) (i3 d) (i3 f) (i3 ld)) zFu 0 m = r2 (i3 ((p + 1 : Nat) : Int)) m' ∧ CS m' (rBl PR RE nR d ld f p (nBl rk BE p) s) ∧ FxR m m' := by
  have h24 := hv.1
  obtain ⟨n1, n2, n3, n4⟩ := nBl_bd hbv hp hk
  have hbp := hbv p hp
  generalize hnb : nBl rk BE p = nb at n1 n2 n3 n4
  refine ex_zLp1 (Q := fun X => ∃ m', X = r2 (i3 ((p + 1 : Nat) : Int)) m' ∧ CS m' (rBl PR RE nR d ld f p nb s) ∧ FxR m m')
    (fun j x mm => ∃ b : Nat, x = i3 b ∧ b ≤ nb ∧ j = nb - b ∧ CS mm (rBl PR RE nR d ld f p b s) ∧ FxR m mm) ?_ zFu nb _ _ ⟨0, rfl, Nat.zero_le _, rfl, hS, FxR.refl⟩ (by unfold zFu; omega)
  rintro r j x mm ⟨b, rfl, hbn, rfl, hC, hF⟩
  have hinp : zIn (i3 (p : Int)) 6 := (i3_in ⟨by omega, by omega⟩).mpr ⟨by omega, by omega⟩
  have hixp : zIx (i3 (p : Int)) = p := by rw [i3_ix ⟨by omega, by omega⟩, Int.toNat_natCast]
  unfold l_Bel_ringFeast_0
  simp only [zLet, i3_add1]
  rw [it_le ⟨by omega, by omega⟩ ⟨by omega, by omega⟩, if_pos hinp, hixp, hbe.fx hF p hp, it_le ⟨by omega, by omega⟩ ⟨by omega, by omega⟩]
  by_cases e : nb ≤ b
  · left
    have eb : b = nb := by omega
    subst eb
    rcases n4 b (Nat.le_refl _) with h | h
    · rw [if_pos h]
      exact ⟨mm, rfl, hC, hF⟩
    · by_cases h2 : rk ≤ (b : Int)
      · rw [if_pos h2]
        exact ⟨mm, rfl, hC, hF⟩
      · rw [if_neg h2, if_pos h]
        exact ⟨mm, rfl, hC, hF⟩
  · right
    have hbb := hb.bl (PR := PR) (RE := RE) (d := d) (f := f) (p := p) h24 hl b
    have hinf : zIn (i3 (f : Int)) 20 := (i3_in ⟨by omega, by omega⟩).mpr ⟨by omega, by omega⟩
    have hixf : zIx (i3 (f : Int)) = f := by rw [i3_ix ⟨by omega, by omega⟩, Int.toNat_natCast]
    have e6 : 6 * i3 (p : Int) + i3 (b : Int) = i3 ((6 * p + b : Nat) : Int) := by rw [show (6 : Int32) = i3 6 from rfl, i3_mul, i3_add]; rfl
    have hin6 : zIn (i3 ((6 * p + b : Nat) : Int)) 36 := (i3_in ⟨by omega, by omega⟩).mpr ⟨by omega, by omega⟩
    have hix6 : zIx (i3 ((6 * p + b : Nat) : Int)) = 6 * p + b := by rw [i3_ix ⟨by omega, by omega⟩, Int.toNat_natCast]
    rw [if_neg (by omega), if_neg (by omega), bel_ringer hv (hg.fx hF) hC.1 hbb (by omega) ⟨hd.1, by omega⟩ hp, zBP_some, if_pos hinf, e6, if_pos hin6, hixf, hix6]
    obtain ⟨c1, c2, c3⟩ := hC
    have es : rBl PR RE nR d ld f p (b + 1) s = rOne PR RE nR d ld f p b (rBl PR RE nR d ld f p b s) := rfl
    generalize rBl PR RE nR d ld f p b s = s' at c1 c2 c3 hbb es
    rcases rIts_cases (PR := PR) (RE := RE) (nR := nR) (p := p) (d := d) (s := s') with ei | ⟨g, hgn, ei⟩
    · rw [ei, if_pos (show i3 (-1) = -1 from rfl)]
      refine ⟨_, _, nb - (b + 1), by omega, ⟨b + 1, rfl, by omega, rfl, ?_, hF.trans ((FxR.w (Or.inr (Or.inr (Or.inl ⟨by omega, by omega⟩)))).trans (FxR.w (Or.inr (Or.inr (Or.inr ⟨rfl, rfl⟩)))))⟩, rfl⟩
      rw [es]
      unfold rOne
      rw [if_pos ei]
      refine ⟨fun k hk => ?_, fun f' k hf' hk => ?_, ?_⟩
      · rw [zI_ne (by decide), zI_ne (by omega), zI_ne (by decide), zI_ne (by omega)]
        exact c1 k hk
      · rw [zI_ne (by omega)]
        show _ = i3 (if upI s'.2.2.1 _ _ _ = -2 then -1 else upI s'.2.2.1 _ _ _)
        unfold upI
        by_cases ef : f' = f ∧ k = 6 * p + b
        · obtain ⟨rfl, rfl⟩ := ef
          rw [zI_eq, if_pos rfl]
          rfl
        · have hne : ¬ (36 * f' + k = 36 * f + (6 * p + b)) := by omega
          rw [if_neg hne, ← c2 f' k hf' hk]
          by_cases ef2 : f' = f
          · subst ef2
            exact zI_nk (by omega)
          · exact zI_ne (by omega)
      · rw [zI_eq, zI_ne (by omega), c3]
        exact i3_add1 _
    · have hing : zIn (i3 (g : Int)) 24 := (i3_in ⟨by omega, by omega⟩).mpr ⟨by omega, by omega⟩
      have hixg : zIx (i3 (g : Int)) = g := by rw [i3_ix ⟨by omega, by omega⟩, Int.toNat_natCast]
      rw [ei, if_neg (show ¬ i3 (g : Int) = -1 by rw [show (-1 : Int32) = i3 (-1) from rfl, i3_eq ⟨by omega, by omega⟩ ⟨by decide, by decide⟩]; omega), if_pos hing, if_pos hing, if_pos hing, hixg]
      refine ⟨_, _, nb - (b + 1), by omega, ⟨b + 1, rfl, by omega, rfl, ?_, hF.trans (((FxR.w (Or.inr (Or.inr (Or.inl ⟨by omega, by omega⟩)))).trans (FxR.w (Or.inr (Or.inl rfl)))).trans (FxR.w (Or.inl rfl)))⟩, rfl⟩
      rw [es]
      unfold rOne
      rw [ei, if_neg (by omega), Int.toNat_natCast]
      refine ⟨fun k hk => ?_, fun f' k hf' hk => ?_, ?_⟩
      · show _ = i3 (upI s'.1 g ld k) ∧ _ = i3 (upI s'.2.1 g (s'.2.1 g + 1) k)
        unfold upI
        by_cases ek : k = g
        · subst ek
          rw [if_pos rfl, if_pos rfl, zI_eq, zI_ne (by decide), zI_eq, zI_ne (by omega), (c1 k hk).2]
          exact ⟨rfl, i3_add1 _⟩
        · rw [if_neg ek, if_neg ek, zI_nk ek, zI_ne (by decide), zI_ne (by omega), zI_ne (by decide), zI_nk ek, zI_ne (by omega)]
          exact c1 k hk
      · rw [zI_ne (by omega), zI_ne (by omega)]
        show _ = i3 (if upI s'.2.2.1 _ _ _ = -2 then -1 else upI s'.2.2.1 _ _ _)
        unfold upI
        by_cases ef : f' = f ∧ k = 6 * p + b
        · obtain ⟨rfl, rfl⟩ := ef
          rw [zI_eq, if_pos rfl, if_neg (by omega)]
        · have hne : ¬ (36 * f' + k = 36 * f + (6 * p + b)) := by omega
          rw [if_neg hne, ← c2 f' k hf' hk]
          by_cases ef2 : f' = f
          · subst ef2
            exact zI_nk (by omega)
          · exact zI_ne (by omega)
      · rw [zI_ne (by decide), zI_ne (by decide), zI_ne (by omega), c3]
theorem bel_feast (hv : vRg nR PR RE) (hg : Crg m nR PR RE) (hbv : vBE BE) (hbe : Cbe m BE) (hS : CS m s) (hb : RSb B s) (hB : B ≤ 800000) (hd : 0 ≤ d ∧ d ≤ 399) (hl : 0 ≤ ld ∧ ld ≤ 400) (hk : 0 ≤ rk ∧ rk ≤ 9) (hf : f < 20) :
    ∃ m', f_Bel_ringFeast (i3 f) (i3 rk) (i3 d) (i3 ld) m = some m' ∧ CS m' (rPa PR RE nR BE d ld rk f 6 s) ∧ FxR m m' := by
  rw [e_Bel_ringFeast]
  refine ex_zLp1 (Q := fun X => ∃ m', X = some m' ∧ CS m' (rPa PR RE nR BE d ld rk f 6 s) ∧ FxR m m')
    (fun j x mm => ∃ p : Nat, x = i3 p ∧ p ≤ 6 ∧ j = 6 - p ∧ CS mm (rPa PR RE nR BE d ld rk f p s) ∧ FxR m mm) ?_ zFu 6 _ _ ⟨0, rfl, Nat.zero_le _, rfl, hS, FxR.refl⟩ (by unfold zFu; omega)
  rintro r j x mm ⟨p, rfl, hp, rfl, hC, hF⟩
  unfold l_Bel_ringFeast_1
  rw [show (6 : Int32) = i3 6 from rfl, it_le ⟨by decide, by decide⟩ ⟨by omega, by omega⟩]
  by_cases e : (6 : Int) ≤ p
  · left
    rw [if_pos e]
    obtain rfl : p = 6 := by omega
    exact ⟨mm, rfl, hC, hF⟩
  · right
    rw [if_neg e]
    obtain ⟨m', q1, q2, q3⟩ := bel_bells (rk := rk) (ld := ld) (d := d) (f := f) (p := p) hv (hg.fx hF) hbv (hbe.fx hF) hC (hb.pa hv.1 hbv hl hk p hp) (by omega) hd hl hk hf (by omega) r
    exact ⟨_, m', 6 - (p + 1), by omega, ⟨p + 1, rfl, by omega, rfl, q2, hF.trans q3⟩, q1⟩
end BEL
