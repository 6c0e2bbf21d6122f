/-! THE CLASS READS ALL RULES PLAINLY -/
def Ctx (m : Mm) (N : Nat) (Tx : Nat → List Int) : Prop := ∀ f, f < N → TX m (32 + 6 * f + 1) (Tx f)
/-- each feast's code is its text's -/
def vT (N : Nat) (Kc Ac : Nat → Nat → Int) (Lc : Nat → Nat) (Tx : Nat → List Int) : Prop := ∀ f, f < N → ∃ C : Cx, pRule (Tx f) = .inr C ∧ Lc f = C.length ∧ ∀ i, i < C.length → Kc f i = (C.getD i (0, 0)).1 ∧ Ac f i = (C.getD i (0, 0)).2
def FxL (m m' : Mm) : Prop := (∀ b j, b ≠ 164 → b ≠ 165 → b ≠ 166 → zI m' b j = zI m b j) ∧ (∀ j, j ≠ 5 → zI m' 164 j = zI m 164 j) ∧ (∀ b j, b ≠ 164 ∨ j ≠ 4 → zR m' b j = zR m b j) ∧ m'.2.2 = m.2.2
theorem FxL.refl {m : Mm} : FxL m m := ⟨fun _ _ _ _ _ => rfl, fun _ _ => rfl, fun _ _ _ => rfl, rfl⟩
theorem FxL.trans {m m' m'' : Mm} (h : FxL m m') (h2 : FxL m' m'') : FxL m m'' := ⟨fun b j q1 q2 q3 => (h2.1 b j q1 q2 q3).trans (h.1 b j q1 q2 q3), fun j q => (h2.2.1 j q).trans (h.2.1 j q), fun b j q => (h2.2.2.1 b j q).trans (h.2.2.1 b j q), h2.2.2.2.trans h.2.2.2⟩
theorem FxL.w {m : Mm} {b k : Nat} {v : Int32} (h : b = 165 ∨ b = 166 ∨ b = 164 ∧ k = 5) : FxL m (wI m b k v) := by
  refine ⟨fun c j q1 q2 q3 => zI_ne (by omega), fun j q => ?_, fun c j q => rfl, rfl⟩
  by_cases e : b = 164
  · subst e; exact zI_nk (by omega)
  · exact zI_ne (by omega)
theorem FxL.wr {m : Mm} {v : Nat} : FxL m (wR m 164 4 v) := ⟨fun _ _ _ _ _ => rfl, fun _ _ => rfl, fun c j q => by rw [zR_wR, if_neg (by omega)], rfl⟩
theorem rule_inv {T : List Int} {C : Cx} (h : pRule T = .inr C) : ∃ a b r, pSta T = .inr (a, r) ∧ pStp 41 a.length r = .inr (b, []) ∧ C = a ++ b := by
  unfold pRule at h
  generalize hx : (pB (pSta T) fun a r => pB (pStp 41 a.length r) fun b r2 => (.inr (a ++ b, r2) : Rd Cx)) = x at h
  cases x with
  | inl q => cases h
  | inr z =>
    obtain ⟨c, r⟩ := z
    cases r with
    | cons e r => cases h
    | nil =>
      cases h
      obtain ⟨a, r1, h1, h2⟩ := pB_inv hx
      obtain ⟨b, r2, h3, h4⟩ := pB_inv h2
      cases h4
      exact ⟨a, b, r1, h1, h3, rfl⟩
section PLL
variable {m mm : Mm} {y t N nb : Nat} {F Y E : Nat → Int} {Kc Ac : Nat → Nat → Int} {Lc rk o : Nat → Nat} {Tx : Nat → List Int}
theorem pla_one {q : Nat} {T : List Int} (h : LT m q T y t) (h5 : zI m 164 5 = i3 0) (h6 : zI m 165 5 = i3 (-1)) {B K A : Nat → Int} {C : Cx} (hp : pRule T = .inr C) (hV : cV K A C.length) (hN : C.length ≤ 40) (hA : At K A 0 C) (hB : ∀ i, i < C.length → (K i = 4 ∨ K i = 15) → zI m 166 (A i).toNat = i3 (B (A i).toNat) ∧ -1 ≤ B (A i).toNat ∧ B (A i).toNat < sLen y) :
    ∃ p, (zBV (f_Pla_readStart m) fun m11 => f_Pla_readSteps 1 0 m11) = some (lM m p (i3 (xgo y t B K A C.length C.length 0 (-1) false 0).1)) := by
  have hL := sLen_bd y
  have h40 := h.2.2.2.1.1
  have e0 : pl T T = 0 := Int.sub_self _
  have em : m = lM m (i3 (pl T T)) (i3 (-1)) := by
    unfold lM
    rw [e0, wI_same h5, wI_same h6]
  obtain ⟨a, b, r, p1, p2, rfl⟩ := rule_inv hp
  obtain ⟨hal, hrl⟩ := sta_ne p1
  obtain ⟨q0, rfl⟩ : ∃ q0, a = [q0] := List.length_eq_one_iff.mp hal
  obtain ⟨kd, v⟩ := q0
  obtain ⟨k1, k2⟩ := hA.l.hd
  simp only at k1 k2
  have hlen : ([(kd, v)] ++ b).length = 1 + b.length := by simp; omega
  have hvs := hV 0 (by omega)
  have hkd : kd ≤ 4 := by
    cases T with
    | nil => cases p1
    | cons c s =>
      have p1 : (if stK c = 0 then .inl (c :: s) else pPart (stK c) (stF c) s) = (.inr ([(kd, v)], r) : Rd Cx) := p1
      by_cases h0 : stK c = 0
      · rw [if_pos h0] at p1; cases p1
      · rw [if_neg h0] at p1
        obtain ⟨v', e1, -⟩ := part_ne p1
        cases e1
        unfold stK
        repeat (first | omega | split)
  have hB0 := hB 0 (by omega)
  rw [k1, k2] at hvs hB0
  obtain ⟨s1, s2⟩ := pln_start (d0 := i3 (-1)) (d := -1) (B := B) h p1 hvs (fun e => hB0 (Or.inl e))
  have hd1 := xD_bd (t := t) (B := B) (d := -1) hvs (by omega) (fun e => (hB0 (Or.inl e)).2)
  have hA2 : At K A 1 b := by
    have := hA.r
    rw [hal, Nat.zero_add] at this
    exact this
  have hs2 := s2.le
  rw [hal] at p2
  obtain ⟨⟨d', f', bd', g2, e2⟩, -, sf⟩ := pln_steps h hV hN hB 41 99 zFu 1 0 0 r [] b (xD y t B kd v (-1)) false (by omega) (by omega) (by unfold zFu; omega) (by omega) (by unfold pl; omega) p2 (Or.inr rfl) hA2 (by omega) s2 hd1
  have g1 := Go.one (y := y) (t := t) (B := B) (d := -1) (f := false) hV (pc := 0) (by omega)
  rw [k1, k2] at g1
  have eF : xF y B kd v (-1) false = false := by unfold xF; rw [if_neg (by omega), if_neg (by omega)]
  have eN : xN kd v 0 false = 1 := by unfold xN; rw [if_neg (by omega)]
  rw [eF, eN] at g1
  obtain ⟨c', gg⟩ := (g1.trans g2) 0
  rw [Nat.sub_zero, ← hlen] at gg
  rw [gg, xgo_end (Nat.le_refl _)]
  refine ⟨i3 (pl T []), ?_⟩
  have es : ∀ M, f_Pla_readSteps 1 0 M = zLp1 (l_g_Pla_readSteps_0 (i3 ((0 : Nat) : Int)) (zP_Pla 99).2.1 (b3 true)) zFu (i3 ((0 : Nat) : Int)) M := fun M => by
    have e1 : f_Pla_readSteps 1 0 M = g_Pla_readSteps (zP_Pla 99).2.1 1 0 M := rfl
    have hb1 : (1 : Int32) = b3 true := by decide
    rw [e1, e_g_Pla_readSteps, hb1]
    rfl
  conv => lhs; rw [em]
  rw [s1, zBV_some, es, e2]
theorem pla_readAll (hy : y < 400) (ht : t < 2) (hW : VW N Kc Ac Lc) (hR : RK N Kc Ac Lc rk) (hv : vB F Y E nb) (hu : Un F Y nb) (h25 : zI m 25 3 = i3 N) (hD : Cbn m F Y E nb) (hO : Cor m N o) (vo : vO N Kc Ac Lc o) (hT : Ctx m N Tx) (vt : vT N Kc Ac Lc Tx) :
    ∃ m', f_Pla_readAll (i3 y) (i3 t) m = some m' ∧ FxL m m' ∧ ∀ f, f < N → zI m' 166 f = i3 (sB y t F Y E nb Kc Ac Lc f) := by
  have h20 := hW.1
  have hL := sLen_bd y
  rw [e_Pla_readAll]
  refine ex_zLp1 (Q := fun X => ∃ m', X = some m' ∧ FxL m m' ∧ ∀ f, f < N → zI m' 166 f = i3 (sB y t F Y E nb Kc Ac Lc f))
    (fun j x4 mm => ∃ i : Nat, x4 = i3 i ∧ i ≤ N ∧ j = N - i ∧ FxL m mm ∧ ∀ k, k < i → zI mm 166 (o k) = i3 (sB y t F Y E nb Kc Ac Lc (o k))) ?_ zFu N _ _ ⟨0, rfl, Nat.zero_le _, rfl, FxL.refl, fun k hk => absurd hk (Nat.not_lt_zero k)⟩ (by unfold zFu; omega)
  rintro r j x4 mm ⟨i, rfl, hi, rfl, hF, hval⟩
  have hsz : f_Alm_size mm = some (i3 N) := by
    unfold f_Alm_size
    rw [hF.1 _ _ (by decide) (by decide) (by decide), h25]
  unfold l_Pla_readAll_0
  rw [hsz, zBP_some, it_le ⟨by omega, by omega⟩ ⟨by omega, by omega⟩]
  by_cases e : (N : Int) ≤ i
  · left
    rw [if_pos e]
    refine ⟨mm, rfl, hF, fun f hf => ?_⟩
    obtain ⟨k, hk, rfl⟩ := vo.2.1 f hf
    exact hval k (by omega)
  · right
    have hlt : i < N := by omega
    have hin : zIn (i3 (i : Int)) 20 := (i3_in ⟨by omega, by omega⟩).mpr ⟨by omega, by omega⟩
    have hix : zIx (i3 (i : Int)) = i := by rw [i3_ix ⟨by omega, by omega⟩, Int.toNat_natCast]
    have hof := vo.1 i hlt
    have hon := vo.2.2 i hlt
    have hord : f_Alm_inOrder (i3 i) mm = some (i3 (o i)) := by
      unfold f_Alm_inOrder
      rw [if_pos hin, hix, hF.1 _ _ (by decide) (by decide) (by decide), hO i hlt]
    generalize hof' : o i = f at hof hon hord
    have hinf : zIn (i3 (f : Int)) 20 := (i3_in ⟨by omega, by omega⟩).mpr ⟨by omega, by omega⟩
    have hixf : zIx (i3 (f : Int)) = f := by rw [i3_ix ⟨by omega, by omega⟩, Int.toNat_natCast]
    obtain ⟨w1, w2, w3⟩ := wal_enter (m := mm) (a := 165) hy ht
    have hrule : f_Alm_rule (i3 f) (wWk mm 165 y t) = some (32 + 6 * f + 1) := by
      unfold f_Alm_rule
      rw [if_pos hinf, hixf]
    have zt : zT (32 + 6 * f + 1) = 8 := by
      have q : ∀ f, f < 20 → zT (32 + 6 * f + 1) = 8 := by decide +kernel
      exact q f (by omega)
    have zq : ∀ (K : Nat → Option Mm), zBQ 8 (some (32 + 6 * f + 1)) K = K (32 + 6 * f + 1) := fun K => if_pos zt
    obtain ⟨C, c1, c2, c3⟩ := vt f hof
    obtain ⟨v1, v2, v3⟩ := hW.2 f hof
    rw [c2] at v1 v2
    have hFw : FxL mm (wWk mm 165 y t) := by
      unfold wWk
      exact FxL.trans (FxL.trans (FxL.trans (FxL.trans (FxL.trans (FxL.w (Or.inl rfl)) (FxL.w (Or.inl rfl))) (FxL.w (Or.inl rfl))) (FxL.w (Or.inl rfl))) (FxL.w (Or.inl rfl))) (FxL.w (Or.inl rfl))
    have hk166 : ∀ j, zI (wWk mm 165 y t) 166 j = zI mm 166 j := by
      intro j
      unfold wWk
      rw [zI_ne (by decide), zI_ne (by decide), zI_ne (by decide), zI_ne (by decide), zI_ne (by decide), zI_ne (by decide)]
    generalize hm10 : wI (wR (wWk mm 165 y t) 164 4 (32 + 6 * f + 1)) 164 5 (i3 0) = m10
    have hF10 : FxL mm m10 := by rw [← hm10]; exact hFw.trans (FxL.wr.trans (FxL.w (Or.inr (Or.inr ⟨rfl, rfl⟩))))
    have hT10 : TX m10 (32 + 6 * f + 1) (Tx f) := by
      obtain ⟨t1, t2, t3, t4⟩ := hT f hof
      refine ⟨t1, ?_, fun i hi => ?_, t4⟩
      · rw [hF10.1 _ _ (by omega) (by omega) (by omega), hF.1 _ _ (by omega) (by omega) (by omega), t2]
      · rw [hF10.1 _ _ (by omega) (by omega) (by omega), hF.1 _ _ (by omega) (by omega) (by omega), t3 i hi]
    have hLT : LT m10 (32 + 6 * f + 1) (Tx f) y t := by
      refine ⟨?_, zt, by omega, hT10, ?_⟩
      · rw [← hm10]; rfl
      · rw [← hm10]
        exact Wk.ne w2 (by decide)
    have h5 : zI m10 164 5 = i3 0 := by rw [← hm10, zI_eq]
    have h6 : zI m10 165 5 = i3 (-1) := by rw [← hm10, zI_ne (by decide)]; exact w3
    have h166 : ∀ j, zI m10 166 j = zI mm 166 j := fun j => by rw [← hm10, zI_ne (by decide)]; exact hk166 j
    obtain ⟨p, eP⟩ := pla_one (B := sB y t F Y E nb Kc Ac Lc) hLT h5 h6 c1 v2 v1 (fun i hi => by rw [Nat.zero_add]; exact c3 i hi) (fun k hk hkd => by
      obtain ⟨n1, n2, -⟩ := hW.nm hof (by omega) hkd
      obtain ⟨k', hk', e'⟩ := hon _ n1
      refine ⟨?_, sB_bd hW n2⟩
      rw [h166, ← e']
      exact hval k' hk')
    have eG : (xgo y t (sB y t F Y E nb Kc Ac Lc) (Kc f) (Ac f) C.length C.length 0 (-1) false 0).1 = (sG y t F Y E nb Kc Ac Lc f).1 := by
      unfold sG
      rw [c2]
    rw [eG] at eP
    have hG := sG_bd (y := y) (t := t) (F := F) (Y := Y) (E := E) (nb := nb) hW hof
    have hFl : FxL m10 (lM m10 p (i3 (sG y t F Y E nb Kc Ac Lc f).1)) := by
      unfold lM
      exact (FxL.w (Or.inr (Or.inr ⟨rfl, rfl⟩))).trans (FxL.w (Or.inl rfl))
    have hFa : FxL m (lM m10 p (i3 (sG y t F Y E nb Kc Ac Lc f).1)) := hF.trans (hF10.trans hFl)
    have hDa : Cbn (lM m10 p (i3 (sG y t F Y E nb Kc Ac Lc f).1)) F Y E nb := by
      refine ⟨by rw [hFa.1 _ _ (by decide) (by decide) (by decide)]; exact hD.1, fun i hi => ⟨?_, ?_, ?_⟩⟩
      · rw [hFa.1 _ _ (by decide) (by decide) (by decide)]; exact (hD.2 i hi).1
      · rw [hFa.1 _ _ (by decide) (by decide) (by decide)]; exact (hD.2 i hi).2.1
      · rw [hFa.1 _ _ (by decide) (by decide) (by decide)]; exact (hD.2 i hi).2.2
    have hbd := alm_bend hv hu hDa (f := f) ⟨by omega, by omega⟩ hy hG
    have efix : sBend y F Y E nb f (sG y t F Y E nb Kc Ac Lc f).1 = sB y t F Y E nb Kc Ac Lc f := (sB_fix hW hR hof).symm
    rw [efix] at hbd
    have e1 : i3 (i : Int) + 1 = i3 ((i + 1 : Nat) : Int) := i3_add1 _
    refine ⟨_, wI (lM m10 p (i3 (sG y t F Y E nb Kc Ac Lc f).1)) 166 f (i3 (sB y t F Y E nb Kc Ac Lc f)), N - (i + 1), by omega, ⟨i + 1, rfl, by omega, rfl, hFa.trans (FxL.w (Or.inr (Or.inl rfl))), fun k hk => ?_⟩, ?_⟩
    · by_cases e2 : o k = f
      · rw [e2, zI_eq]
      · have hki : k < i := by
          by_cases e3 : k = i
          · subst e3; exact absurd hof' e2
          · omega
        rw [zI_nk e2, lM_o (by omega), h166]
        exact hval k hki
    · have ht' : f_Wal_today 165 (lM m10 p (i3 (sG y t F Y E nb Kc Ac Lc f).1)) = some (i3 (sG y t F Y E nb Kc Ac Lc f).1) := by
        unfold f_Wal_today
        rw [lM_d]
      have assoc : ∀ (K : Mm → Option Mm), (zBV (f_Pla_readStart m10) fun m11 => zBV (f_Pla_readSteps 1 0 m11) K) = zBV (zBV (f_Pla_readStart m10) fun m11 => f_Pla_readSteps 1 0 m11) K := by
        intro K
        cases f_Pla_readStart m10 with
        | none => rfl
        | some M => rw [zBV_some, zBV_some]
      rw [if_neg e, hord, zBP_some, w1, zBV_some, hrule, zq]
      simp only [zLet]
      have hm10' : wI (wR (wWk mm 165 y t) 164 4 (32 + 6 * f + 1)) 164 5 0 = m10 := hm10
      rw [hm10', assoc, eP, zBV_some, ht', zBP_some, hbd, zBP_some, if_pos hinf, hixf, e1]
end PLL
