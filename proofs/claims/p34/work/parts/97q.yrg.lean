/-! THE LAW RINGS THROUGH A YEAR -/
section YRG
variable {m0 M : Mm} {N nb nR t y : Nat} {fr : Nat → Nat → Int} {Rv F Y E PR RE BE : Nat → Int} {S : RS} {d ld ntv rv B lk : Int} {p f : Nat}
theorem ring2 (hf : f < 10) (hp : p < 6) (hg : zI m0 204 3 = i3 nR) (hw : ∀ k, k < nR → zI m0 206 (6 + 2 * k) = i3 (PR k) ∧ zI m0 206 (7 + 2 * k) = i3 (RE k)) (hbe : zI m0 206 p = i3 (BE p)) (hr : zI m0 202 f = i3 rv) (hrv : 0 ≤ rv ∧ rv ≤ 19) (hv : vRg nR PR RE) (hbv : vBE BE) (hn : nR ≤ 10) (hb : RSb B S) (hB : B ≤ 900000) (hd : 0 ≤ d ∧ d ≤ 399) (hl : 0 ≤ ld ∧ ld ≤ 400) (hld : d + ntv = ld) (hlk : 0 ≤ lk ∧ lk ≤ 12) (hF : FH m0 M) (hH : HL M nR S) (r88 : Int32 → Int32 → Int32 → Mm → Option (Int32 × Mm))
    (hcall : ∀ M, FH m0 M → ∀ b : Nat, b < 6 → ∃ m1, n_Loo_rings (i3 f) (i3 y) (i3 p) (i3 b) M = some (i3 (if decide (b < nBl (rv / 2) BE p) = true then rIts PR RE nR p d (rBl PR RE nR d ld f p b S) else -1), m1) ∧ SF M m1) :
    ∃ M' lk', (0 ≤ lk' ∧ lk' ≤ 12) ∧ HL M' nR (rBl PR RE nR d ld f p (nBl (rv / 2) BE p) S) ∧ FH m0 M' ∧ zLp3 (l_Law_year_2 (i3 p) r88 (i3 d) (i3 ntv) (i3 f) (i3 y)) zFu (i3 S.2.2.2) (i3 lk) 0 M = r88 (i3 (rBl PR RE nR d ld f p (nBl (rv / 2) BE p) S).2.2.2) (i3 lk') (i3 ((p + 1 : Nat) : Int)) M' := by
  obtain ⟨n1, n2, n3, n4⟩ := nBl_bd hbv hp (show 0 ≤ rv / 2 ∧ rv / 2 ≤ 9 by omega)
  have hbep := hbv p hp
  generalize nBl (rv / 2) BE p = c at *
  refine ex_zLp3 (Q := fun X => ∃ M' lk', (0 ≤ lk' ∧ lk' ≤ 12) ∧ HL M' nR (rBl PR RE nR d ld f p c S) ∧ FH m0 M' ∧ X = r88 (i3 (rBl PR RE nR d ld f p c S).2.2.2) (i3 lk') (i3 ((p + 1 : Nat) : Int)) M')
    (fun j x91 x92 x93 MM => ∃ (b : Nat) (lk2 : Int), b ≤ 6 ∧ j = 6 - b ∧ x93 = i3 b ∧ x92 = i3 lk2 ∧ (0 ≤ lk2 ∧ lk2 ≤ 12) ∧ x91 = i3 (rBl PR RE nR d ld f p (if b ≤ c then b else c) S).2.2.2 ∧ HL MM nR (rBl PR RE nR d ld f p (if b ≤ c then b else c) S) ∧ FH m0 MM) ?_ zFu 6 _ _ _ _ ⟨0, lk, by omega, rfl, rfl, rfl, hlk, by rw [if_pos (Nat.zero_le c)]; rfl, by rw [if_pos (Nat.zero_le c)]; exact hH, hF⟩ (by unfold zFu; omega)
  rintro r j _ _ _ MM ⟨b, lk2, hb6, rfl, rfl, rfl, hlk2, rfl, hH2, hF2⟩
  unfold l_Law_year_2
  rw [show (6 : Int32) = i3 6 from rfl, it_le ⟨by decide, by decide⟩ ⟨by omega, by omega⟩]
  by_cases e : b = 6
  · left
    have ec : (if b ≤ c then b else c) = c := by split <;> omega
    rw [ec] at hH2 ⊢
    rw [if_pos (by omega), zLet_q, ad1]
    exact ⟨MM, lk2, hlk2, hH2, hF2, rfl⟩
  · right
    obtain ⟨ip, xp⟩ := in_n (k := p) (n := 26) (by omega) (by decide)
    obtain ⟨jf, xf⟩ := in_n (k := f) (n := 10) hf (by decide)
    have h206 : zI MM 206 p = i3 (BE p) := by rw [hF2.lo (by decide) (by decide)]; exact hbe
    have h202 : zI MM 202 f = i3 rv := by rw [hF2.lo (by decide) (by decide)]; exact hr
    have hS2 : RSb (B + 6) (rBl PR RE nR d ld f p (if b ≤ c then b else c) S) := (RSb.bl (by omega) hl hb _).mono (by split <;> omega)
    obtain ⟨M', lk', q1, q2, q3, q4⟩ := ring1 (M := MM) (s := rBl PR RE nR d ld f p (if b ≤ c then b else c) S) (f := f) (y := y) (b := b) (rg := decide (b < c)) (by rw [hF2.lo (by decide) (by decide)]; exact hg) (fun k hk => ⟨by rw [hF2.lo (by decide) (by decide)]; exact (hw k hk).1, by rw [hF2.lo (by decide) (by decide)]; exact (hw k hk).2⟩) hv hH2 hn hS2 (by omega) ⟨hd.1, by omega⟩ hp hlk2 r hld (by
      obtain ⟨m1, e1, e2⟩ := hcall MM hF2 b (by omega)
      refine ⟨m1, ?_, e2⟩
      rw [e1]
      by_cases cb : b < c
      · rw [if_pos (decide_eq_true cb), if_pos (decide_eq_true cb), if_pos (show b ≤ c by omega)]
      · rw [if_neg (by rw [decide_eq_false cb]; decide), if_neg (by rw [decide_eq_false cb]; decide)])
    have es : (if decide (b < c) = true then rOne PR RE nR d ld f p b (rBl PR RE nR d ld f p (if b ≤ c then b else c) S) else rBl PR RE nR d ld f p (if b ≤ c then b else c) S) = rBl PR RE nR d ld f p (if b + 1 ≤ c then b + 1 else c) S := by
      by_cases cb : b < c
      · rw [if_pos (decide_eq_true cb), if_pos (show b ≤ c by omega), if_pos (show b + 1 ≤ c by omega)]
        rfl
      · rw [if_neg (by rw [decide_eq_false cb]; decide), if_neg (show ¬ b + 1 ≤ c by omega)]
        by_cases cb2 : b ≤ c
        · rw [if_pos cb2, show b = c by omega]
        · rw [if_neg cb2]
    rw [es] at q2 q4
    refine ⟨_, i3 lk', i3 ((b + 1 : Nat) : Int), M', 6 - (b + 1), by omega, ⟨b + 1, lk', by omega, rfl, rfl, rfl, q1, rfl, q2, hF2.trans q3⟩, Eq.trans ?_ q4⟩
    rw [if_neg (by omega), if_pos ip, xp]
    simp only [zLet_q, if_pos jf, xf, h206, h202]
    rw [it_le ⟨by omega, by omega⟩ ⟨by omega, by omega⟩, show (2 : Int32) = i3 2 from rfl, i3_div ⟨by omega, by omega⟩ ⟨by decide, by decide⟩, it_le ⟨by omega, by omega⟩ ⟨by omega, by omega⟩]
    by_cases cb : b < c
    · rw [if_neg (by omega), if_neg (by omega), decide_eq_true cb]
      rfl
    · rw [decide_eq_false cb]
      rcases n4 b (by omega) with h | h
      · by_cases h9 : BE p ≤ b
        · rw [if_pos h9]
          rfl
        · rw [if_neg h9, if_pos h]
          rfl
      · rw [if_pos h]
        rfl
theorem ring3 (hf : f < 10) (hg : zI m0 204 3 = i3 nR) (hw : ∀ k, k < nR → zI m0 206 (6 + 2 * k) = i3 (PR k) ∧ zI m0 206 (7 + 2 * k) = i3 (RE k)) (hbe : ∀ p, p < 6 → zI m0 206 p = i3 (BE p)) (hr : zI m0 202 f = i3 rv) (hrv : 0 ≤ rv ∧ rv ≤ 19) (hv : vRg nR PR RE) (hbv : vBE BE) (hn : nR ≤ 10) (hb : RSb B S) (hB : B ≤ 800000) (hd : 0 ≤ d ∧ d ≤ 399) (hl : 0 ≤ ld ∧ ld ≤ 400) (hld : d + ntv = ld) (hlk : 0 ≤ lk ∧ lk ≤ 12) (hF : FH m0 M) (hH : HL M nR S) (j80 : Int32 → Int32 → Mm → Option (Int32 × Mm))
    (hcall : ∀ M, FH m0 M → ∀ p b : Nat, p < 6 → b < 6 → ∃ m1, n_Loo_rings (i3 f) (i3 y) (i3 p) (i3 b) M = some (i3 (if decide (b < nBl (rv / 2) BE p) = true then rIts PR RE nR p d (rBl PR RE nR d ld f p b (rPa PR RE nR BE d ld (rv / 2) f p S)) else -1), m1) ∧ SF M m1) :
    ∃ M' lk', (0 ≤ lk' ∧ lk' ≤ 12) ∧ HL M' nR (rPa PR RE nR BE d ld (rv / 2) f 6 S) ∧ FH m0 M' ∧ zLp3 (l_Law_year_3 j80 (i3 d) (i3 ntv) (i3 f) (i3 y)) zFu (i3 S.2.2.2) (i3 lk) 0 M = j80 (i3 (rPa PR RE nR BE d ld (rv / 2) f 6 S).2.2.2) (i3 lk') M' := by
  refine ex_zLp3 (Q := fun X => ∃ M' lk', (0 ≤ lk' ∧ lk' ≤ 12) ∧ HL M' nR (rPa PR RE nR BE d ld (rv / 2) f 6 S) ∧ FH m0 M' ∧ X = j80 (i3 (rPa PR RE nR BE d ld (rv / 2) f 6 S).2.2.2) (i3 lk') M')
    (fun j x85 x86 x87 MM => ∃ (p : Nat) (lk2 : Int), p ≤ 6 ∧ j = 6 - p ∧ x87 = i3 p ∧ x86 = i3 lk2 ∧ (0 ≤ lk2 ∧ lk2 ≤ 12) ∧ x85 = i3 (rPa PR RE nR BE d ld (rv / 2) f p S).2.2.2 ∧ HL MM nR (rPa PR RE nR BE d ld (rv / 2) f p S) ∧ FH m0 MM) ?_ zFu 6 _ _ _ _ ⟨0, lk, by omega, rfl, rfl, rfl, hlk, rfl, hH, hF⟩ (by unfold zFu; omega)
  rintro r j _ _ _ MM ⟨p, lk2, hp6, rfl, rfl, rfl, hlk2, rfl, hH2, hF2⟩
  unfold l_Law_year_3
  rw [show (6 : Int32) = i3 6 from rfl, it_le ⟨by decide, by decide⟩ ⟨by omega, by omega⟩]
  by_cases e : p = 6
  · left
    subst e
    rw [if_pos (by omega)]
    exact ⟨MM, lk2, hlk2, hH2, hF2, rfl⟩
  · right
    have hp : p < 6 := by omega
    have hS2 := RSb.pa (PR := PR) (RE := RE) (d := d) (f := f) (show nR ≤ 24 by omega) hbv hl (show 0 ≤ rv / 2 ∧ rv / 2 ≤ 9 by omega) hb p (by omega)
    obtain ⟨M', lk', q1, q2, q3, q4⟩ := ring2 (y := y) (M := MM) hf hp hg hw (hbe p hp) hr hrv hv hbv hn hS2 (by omega) hd hl hld hlk2 hF2 hH2 r (fun M hM b hb => hcall M hM p b hp hb)
    rw [if_neg (by omega)]
    exact ⟨_, i3 lk', i3 ((p + 1 : Nat) : Int), M', 6 - (p + 1), by omega, ⟨p + 1, lk', by omega, rfl, rfl, rfl, q1, rfl, q2, q3⟩, q4⟩
theorem sq_f {z : Int} (h : -800 ≤ z ∧ z ≤ 800) : (0 ≤ z * z ∧ z * z ≤ 640000) ∧ (z * z = 1 ↔ z = 1 ∨ z = -1) := by
  have e : ((z.natAbs * z.natAbs : Nat) : Int) = z * z := Int.natAbs_mul_self
  obtain ⟨n, hn⟩ : ∃ n, z.natAbs = n := ⟨_, rfl⟩
  rw [hn] at e
  rw [← e]
  have h8 : n ≤ 800 := by omega
  have h9 : n * n ≤ 800 * 800 := Nat.mul_le_mul h8 h8
  refine ⟨⟨by omega, by omega⟩, ⟨fun h1 => ?_, fun h1 => ?_⟩⟩
  · have h1 : n * n = 1 := by omega
    by_cases c : 2 ≤ n
    · have := Nat.mul_le_mul c c
      omega
    · by_cases c0 : n = 0
      · subst c0
        omega
      · omega
  · have : n = 1 := by omega
    subst this
    rfl
/-- what a year's ringing rests on -/
def YC (m0 : Mm) (y t N : Nat) (fr : Nat → Nat → Int) (Rv : Nat → Int) (nb : Nat) (F Y E : Nat → Int) (nR : Nat) (PR RE BE : Nat → Int) : Prop := StT m0 t ∧ StA m0 N fr Rv nb F Y E ∧ StB m0 nR PR RE BE ∧ ∀ k, k < N → zI m0 (207 + 0) k = i3 (lB y (1 - t) F Y E nb fr k) ∧ zI m0 (207 + 1) k = i3 (lB y t F Y E nb fr k) ∧ zI m0 (207 + 3) k = i3 (sAll N (sLen y) (lB y t F Y E nb fr) (rR Rv) (rM Rv) 10 k)
def lNt (y : Nat) (F Y E : Nat → Int) (nb : Nat) (fr : Nat → Nat → Int) : Nat → Bool := fun f => midn (lB y 0 F Y E nb fr f) (lB y 1 F Y E nb fr f)
def lPl (y t N : Nat) (F Y E : Nat → Int) (nb : Nat) (fr : Nat → Nat → Int) (Rv : Nat → Int) : Nat → Int := sAll N (sLen y) (lB y t F Y E nb fr) (rR Rv) (rM Rv) 10
theorem sRing_l : sRing y N F Y E nb t (lK fr) (lA fr) (lL fr) (rR Rv) (rM Rv) PR RE BE nR = rYr PR RE nR BE (lNt y F Y E nb fr) (lPl y t N F Y E nb fr Rv) (rR Rv) N (sLen y) := rfl
theorem nt_eq (ht : t < 2) {k : Nat} (hb : lB y t F Y E nb fr k ≠ -1) : lNt y F Y E nb fr k = decide (lB y (1 - t) F Y E nb fr k ≠ -1 ∧ (lB y (1 - t) F Y E nb fr k - lB y t F Y E nb fr k = 1 ∨ lB y (1 - t) F Y E nb fr k - lB y t F Y E nb fr k = -1)) := by
  unfold lNt midn
  rcases (show t = 0 ∨ t = 1 by omega) with rfl | rfl
  · show decide (lB y 0 F Y E nb fr k ≠ -1 ∧ lB y 1 F Y E nb fr k ≠ -1 ∧ (lB y 0 F Y E nb fr k - lB y 1 F Y E nb fr k = 1 ∨ lB y 1 F Y E nb fr k - lB y 0 F Y E nb fr k = 1)) = decide (lB y 1 F Y E nb fr k ≠ -1 ∧ (lB y 1 F Y E nb fr k - lB y 0 F Y E nb fr k = 1 ∨ lB y 1 F Y E nb fr k - lB y 0 F Y E nb fr k = -1))
    generalize lB y 0 F Y E nb fr k = u at *
    generalize lB y 1 F Y E nb fr k = v at *
    exact decide_eq_decide.mpr ⟨fun h => ⟨h.2.1, by omega⟩, fun h => ⟨hb, h.1, by omega⟩⟩
  · show decide (lB y 0 F Y E nb fr k ≠ -1 ∧ lB y 1 F Y E nb fr k ≠ -1 ∧ (lB y 0 F Y E nb fr k - lB y 1 F Y E nb fr k = 1 ∨ lB y 1 F Y E nb fr k - lB y 0 F Y E nb fr k = 1)) = decide (lB y 0 F Y E nb fr k ≠ -1 ∧ (lB y 0 F Y E nb fr k - lB y 1 F Y E nb fr k = 1 ∨ lB y 0 F Y E nb fr k - lB y 1 F Y E nb fr k = -1))
    generalize lB y 0 F Y E nb fr k = u at *
    generalize lB y 1 F Y E nb fr k = v at *
    exact decide_eq_decide.mpr ⟨fun h => ⟨h.1, by omega⟩, fun h => ⟨h.1, hb, by omega⟩⟩
theorem YC.call (hY : YC m0 y t N fr Rv nb F Y E nR PR RE BE) (hy : y < 400) {d : Nat} (hd : d < sLen y) (hf : f < N) (hpl : lPl y t N F Y E nb fr Rv f = d) : ∀ M, FH m0 M → ∀ p b : Nat, p < 6 → b < 6 → ∃ m1, n_Loo_rings (i3 f) (i3 y) (i3 p) (i3 b) M = some (i3 (if decide (b < nBl (Rv f / 2) BE p) = true then rIts PR RE nR p d (rBl PR RE nR d (rLd (lNt y F Y E nb fr) d f) f p b (rPa PR RE nR BE d (rLd (lNt y F Y E nb fr) d f) (Rv f / 2) f p (rDy PR RE nR BE (lNt y F Y E nb fr) (lPl y t N F Y E nb fr Rv) (rR Rv) d f (rYr PR RE nR BE (lNt y F Y E nb fr) (lPl y t N F Y E nb fr Rv) (rR Rv) N d)))) else -1), m1) ∧ SF M m1 := by
  intro M hM p b hp hb
  obtain ⟨hT, hA, hB, -⟩ := hY
  have hT' := hT.fz hM.fz ⟨by decide, by decide⟩
  have hA' := hA.fz hM.fz ⟨by decide, by decide⟩
  have hB' := hB.fz hM.fz ⟨by decide, by decide⟩
  obtain ⟨o, Tx, hW, hC⟩ := hA'.2.2
  obtain ⟨m1, e1, e2⟩ := a_rings hT'.1 hW hC hB'.2.1 hf hy hp hb
  refine ⟨m1, ?_, e2⟩
  rw [e1, sRing_l, rFin hB'.2.1.2.1 hW.2.2.2.1 hf hpl hd hp hb]
  have hrR : rR Rv f = Rv f / 2 := rfl
  rw [hrR]
  by_cases c : b < nBl (Rv f / 2) BE p
  · rw [if_pos c, if_pos (decide_eq_true c)]
    congr 3
    rcases rIts_cases (PR := PR) (RE := RE) (nR := nR) (p := p) (d := d) (s := rBl PR RE nR d (rLd (lNt y F Y E nb fr) d f) f p b (rPa PR RE nR BE d (rLd (lNt y F Y E nb fr) d f) (Rv f / 2) f p (rDy PR RE nR BE (lNt y F Y E nb fr) (lPl y t N F Y E nb fr Rv) (rR Rv) d f (rYr PR RE nR BE (lNt y F Y E nb fr) (lPl y t N F Y E nb fr Rv) (rR Rv) N d)))) with e | ⟨g, -, e⟩
    · rw [e]; rfl
    · rw [e, if_neg (by omega)]
  · rw [if_neg c, if_pos rfl, if_neg (by rw [decide_eq_false c]; decide)]
theorem ring4 (hY : YC m0 y t N fr Rv nb F Y E nR PR RE BE) (hy : y < 400) {d : Nat} (hd : d < sLen y) (hlk : 0 ≤ lk ∧ lk ≤ 12) (hF : FH m0 M) (hH : HL M nR (rYr PR RE nR BE (lNt y F Y E nb fr) (lPl y t N F Y E nb fr Rv) (rR Rv) N d)) (r31 : Int32 → Int32 → Int32 → Mm → Option (Int32 × Mm)) :
    ∃ M' lk', (0 ≤ lk' ∧ lk' ≤ 12) ∧ HL M' nR (rYr PR RE nR BE (lNt y F Y E nb fr) (lPl y t N F Y E nb fr Rv) (rR Rv) N (d + 1)) ∧ FH m0 M' ∧ zLp3 (l_Law_year_4 (i3 d) r31 (i3 y)) zFu (i3 (rYr PR RE nR BE (lNt y F Y E nb fr) (lPl y t N F Y E nb fr Rv) (rR Rv) N d).2.2.2) (i3 lk) 0 M = r31 (i3 (rYr PR RE nR BE (lNt y F Y E nb fr) (lPl y t N F Y E nb fr Rv) (rR Rv) N (d + 1)).2.2.2) (i3 lk') (i3 ((d + 1 : Nat) : Int)) M' := by
  have hLn := sLen_bd y
  have hcall := fun f hf hpl => hY.call (f := f) hy hd hf hpl
  obtain ⟨hT, hA, hB, hTm⟩ := hY
  have hTM := fun k hk => br_B hA.1 hA.2.2 y (1 - t) (k := k) hk
  have hTM2 := fun k hk => br_B hA.1 hA.2.2 y t (k := k) hk
  obtain ⟨⟨h10, -, -, hRv, -⟩, ⟨⟨hN0, -⟩, -, hr⟩, o, Tx, ⟨w1, w2, w3, w4, -⟩, -⟩ := hA
  obtain ⟨hn10, ⟨hv, hbv, -, -⟩, hg, hbe, hw⟩ := hB
  have ht2 := hT.1.1
  have hS0 := rYr_b (PR := PR) (RE := RE) (nt := lNt y F Y E nb fr) (pl := lPl y t N F Y E nb fr Rv) (R := rR Rv) (N := N) (show nR ≤ 24 by omega) (show N ≤ 20 by omega) hbv w4 d (by omega)
  have hsucc : rYr PR RE nR BE (lNt y F Y E nb fr) (lPl y t N F Y E nb fr Rv) (rR Rv) N (d + 1) = rDy PR RE nR BE (lNt y F Y E nb fr) (lPl y t N F Y E nb fr Rv) (rR Rv) d N (rYr PR RE nR BE (lNt y F Y E nb fr) (lPl y t N F Y E nb fr Rv) (rR Rv) N d) := rfl
  rw [hsucc]
  generalize rYr PR RE nR BE (lNt y F Y E nb fr) (lPl y t N F Y E nb fr Rv) (rR Rv) N d = S at *
  have z06' := z06
  refine ex_zLp3 (Q := fun X => ∃ M' lk', (0 ≤ lk' ∧ lk' ≤ 12) ∧ HL M' nR (rDy PR RE nR BE (lNt y F Y E nb fr) (lPl y t N F Y E nb fr Rv) (rR Rv) d N S) ∧ FH m0 M' ∧ X = r31 (i3 (rDy PR RE nR BE (lNt y F Y E nb fr) (lPl y t N F Y E nb fr Rv) (rR Rv) d N S).2.2.2) (i3 lk') (i3 ((d + 1 : Nat) : Int)) M')
    (fun j x69 x70 x71 MM => ∃ (k : Nat) (lk2 : Int), k ≤ N ∧ j = N - k ∧ x71 = i3 k ∧ x70 = i3 lk2 ∧ (0 ≤ lk2 ∧ lk2 ≤ 12) ∧ x69 = i3 (rDy PR RE nR BE (lNt y F Y E nb fr) (lPl y t N F Y E nb fr Rv) (rR Rv) d k S).2.2.2 ∧ HL MM nR (rDy PR RE nR BE (lNt y F Y E nb fr) (lPl y t N F Y E nb fr Rv) (rR Rv) d k S) ∧ FH m0 MM) ?_ zFu N _ _ _ _ ⟨0, lk, Nat.zero_le _, rfl, rfl, rfl, hlk, rfl, hH, hF⟩ (by unfold zFu; omega)
  rintro r j _ _ _ MM ⟨k, lk2, hk, rfl, rfl, rfl, hlk2, rfl, hH2, hF2⟩
  have h204 : zI MM 204 0 = i3 N := by rw [hF2.lo (by decide) (by decide)]; exact hN0
  unfold l_Law_year_4
  rw [if_pos z06'.1, z06'.2, h204, it_le ⟨by omega, by omega⟩ ⟨by omega, by omega⟩]
  by_cases e : k = N
  · left
    rw [e] at hH2 ⊢
    rw [if_pos (Int.le_refl _), zLet_q, ad1]
    exact ⟨MM, lk2, hlk2, hH2, hF2, rfl⟩
  · right
    have hkN : k < N := by omega
    obtain ⟨ik, xk⟩ := in_n (k := k) (n := 10) (by omega) (by decide)
    obtain ⟨t0, t1, t3⟩ := hTm k hkN
    have s0 : zI MM (207 + 0) k = i3 (lB y (1 - t) F Y E nb fr k) := by rw [hF2.lo (by decide) (by decide)]; exact t0
    have s1 : zI MM (207 + 1) k = i3 (lB y t F Y E nb fr k) := by rw [hF2.lo (by decide) (by decide)]; exact t1
    have s3 : zI MM (207 + 3) k = i3 (lPl y t N F Y E nb fr Rv k) := by rw [hF2.lo (by decide) (by decide)]; exact t3
    have b0 := (hTM k hkN).2.2
    have b1 := (hTM2 k hkN).2.2
    have hplb : -1 ≤ lPl y t N F Y E nb fr Rv k ∧ lPl y t N F Y E nb fr Rv k < sLen y := sAll_bd (by omega) (fun f hf => (hTM2 f hf).2.2.1) 10 k
    rw [if_neg (by omega), if_pos ik, xk]
    simp only [zLet_q, s3, s0, s1, if_pos ik, ad1]
    rw [it_eq ⟨by omega, by omega⟩ ⟨by omega, by omega⟩]
    have hds : rDy PR RE nR BE (lNt y F Y E nb fr) (lPl y t N F Y E nb fr Rv) (rR Rv) d (k + 1) S = if lPl y t N F Y E nb fr Rv k = d then rPa PR RE nR BE d (rLd (lNt y F Y E nb fr) d k) (rR Rv k) k 6 (rDy PR RE nR BE (lNt y F Y E nb fr) (lPl y t N F Y E nb fr Rv) (rR Rv) d k S) else rDy PR RE nR BE (lNt y F Y E nb fr) (lPl y t N F Y E nb fr Rv) (rR Rv) d k S := rfl
    by_cases ed : lPl y t N F Y E nb fr Rv k = d
    · rw [if_pos ed] at hds ⊢
      have hbt : lB y t F Y E nb fr k ≠ -1 := al_b 10 (show lPl y t N F Y E nb fr Rv k ≠ -1 by omega)
      have hS2 := RSb.dy (PR := PR) (RE := RE) (nt := lNt y F Y E nb fr) (pl := lPl y t N F Y E nb fr Rv) (show nR ≤ 24 by omega) hbv (show d < 400 by omega) w4 hS0 k (by omega)
      have hrv := hRv k hkN
      have hldb : 0 ≤ rLd (lNt y F Y E nb fr) d k ∧ rLd (lNt y F Y E nb fr) d k ≤ 400 := by unfold rLd; split <;> omega
      have hld : (d : Int) + (if lNt y F Y E nb fr k then 1 else 0) = rLd (lNt y F Y E nb fr) d k := by unfold rLd; split <;> omega
      obtain ⟨M', lk', q1, q2, q3, q4⟩ := ring3 (y := y) (M := MM) (show k < 10 by omega) hg hw hbe (hr k hkN) hrv hv hbv hn10 hS2 (by omega) ⟨by omega, by omega⟩ hldb hld hlk2 hF2 hH2 (fun x77 x78 m79 => r x77 x78 (i3 ((k + 1 : Nat) : Int)) m79) (hcall k hkN ed)
      have hrR : rR Rv k = Rv k / 2 := rfl
      rw [hrR] at hds
      rw [← hds] at q2 q4
      refine ⟨_, i3 lk', i3 ((k + 1 : Nat) : Int), M', N - (k + 1), by omega, ⟨k + 1, lk', by omega, rfl, rfl, rfl, q1, rfl, q2, q3⟩, Eq.trans ?_ q4⟩
      obtain ⟨sq1, sq2⟩ := sq_f (z := lB y (1 - t) F Y E nb fr k - lB y t F Y E nb fr k) ⟨by omega, by omega⟩
      have hnt := nt_eq (y := y) (F := F) (Y := Y) (E := E) (nb := nb) (fr := fr) ht2 hbt
      rw [it_lt0 ⟨by omega, by omega⟩, i3_sub, i3_mul, it_e1 ⟨by omega, by omega⟩]
      by_cases c1 : lB y (1 - t) F Y E nb fr k < 0
      · rw [if_pos c1, hnt, decide_eq_false (fun z => z.1 (by omega))]
        rfl
      · rw [if_neg c1]
        by_cases c2 : (lB y (1 - t) F Y E nb fr k - lB y t F Y E nb fr k) * (lB y (1 - t) F Y E nb fr k - lB y t F Y E nb fr k) = 1
        · rw [if_pos c2, hnt, decide_eq_true ⟨by omega, sq2.mp c2⟩]
          rfl
        · rw [if_neg c2, hnt, decide_eq_false (fun z => c2 (sq2.mpr z.2))]
          rfl
    · rw [if_neg ed] at hds ⊢
      rw [← hds] at hH2 ⊢
      exact ⟨_, i3 lk2, i3 ((k + 1 : Nat) : Int), MM, N - (k + 1), by omega, ⟨k + 1, lk2, by omega, rfl, rfl, rfl, hlk2, rfl, hH2, hF2⟩, rfl⟩
theorem ring5 (hY : YC m0 y t N fr Rv nb F Y E nR PR RE BE) (hy : y < 400) (hF : FH m0 M) (hH : HL M nR rS0) :
    ∃ M', HL M' nR (rYr PR RE nR BE (lNt y F Y E nb fr) (lPl y t N F Y E nb fr Rv) (rR Rv) N (sLen y)) ∧ FH m0 M' ∧ zLp3 (l_Law_year_5 (i3 y)) zFu 0 0 0 M = zLp1 (l_Law_year_0 (i3 y) (i3 (rYr PR RE nR BE (lNt y F Y E nb fr) (lPl y t N F Y E nb fr Rv) (rR Rv) N (sLen y)).2.2.2)) zFu 0 M' := by
  have hLn := sLen_bd y
  refine ex_zLp3 (Q := fun X => ∃ M', HL M' nR (rYr PR RE nR BE (lNt y F Y E nb fr) (lPl y t N F Y E nb fr Rv) (rR Rv) N (sLen y)) ∧ FH m0 M' ∧ X = zLp1 (l_Law_year_0 (i3 y) (i3 (rYr PR RE nR BE (lNt y F Y E nb fr) (lPl y t N F Y E nb fr Rv) (rR Rv) N (sLen y)).2.2.2)) zFu 0 M')
    (fun j x28 x29 x30 MM => ∃ (d : Nat) (lk : Int), d ≤ sLen y ∧ j = sLen y - d ∧ x30 = i3 d ∧ x29 = i3 lk ∧ (0 ≤ lk ∧ lk ≤ 12) ∧ x28 = i3 (rYr PR RE nR BE (lNt y F Y E nb fr) (lPl y t N F Y E nb fr Rv) (rR Rv) N d).2.2.2 ∧ HL MM nR (rYr PR RE nR BE (lNt y F Y E nb fr) (lPl y t N F Y E nb fr Rv) (rR Rv) N d) ∧ FH m0 MM) ?_ zFu (sLen y) _ _ _ _ ⟨0, 0, Nat.zero_le _, rfl, rfl, rfl, ⟨by decide, by decide⟩, rfl, hH, hF⟩ (by unfold zFu; omega)
  rintro r j _ _ _ MM ⟨d, lk, hd, rfl, rfl, rfl, hlk, rfl, hH2, hF2⟩
  unfold l_Law_year_5
  rw [law_days hy, zBP_some, it_le ⟨by omega, by omega⟩ ⟨by omega, by omega⟩]
  by_cases e : d = sLen y
  · left
    rw [e] at hH2 ⊢
    rw [if_pos (Int.le_refl _)]
    exact ⟨MM, hH2, hF2, rfl⟩
  · right
    obtain ⟨M', lk', q1, q2, q3, q4⟩ := ring4 hY hy (show d < sLen y by omega) hlk hF2 hH2 r
    rw [if_neg (by omega)]
    exact ⟨_, i3 lk', i3 ((d + 1 : Nat) : Int), M', sLen y - (d + 1), by omega, ⟨d + 1, lk', by omega, rfl, rfl, rfl, q1, rfl, q2, q3⟩, q4⟩
end YRG
