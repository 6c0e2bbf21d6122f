/-! THE REFERENCE FINDS ALL BENT DAYS -/
theorem ex_zLp1 {β : Type} {F : (Int32 → Mm → Option β) → Int32 → Mm → Option β} {Q : Option β → Prop} (I : Nat → Int32 → Mm → Prop)
    (step : ∀ (r : Int32 → Mm → Option β) (j : Nat) (x0 : Int32) (m : Mm), I j x0 m → Q (F r x0 m) ∨ ∃ (x0' : Int32) (m' : Mm) (j' : Nat), j' < j ∧ I j' x0' m' ∧ F r x0 m = r x0' m') :
    ∀ (n j : Nat) (x0 : Int32) (m : Mm), I j x0 m → j < n → Q (zLp1 F n x0 m) := by
  intro n
  induction n with
  | zero => intro j x0 m _ h; exact absurd h (Nat.not_lt_zero j)
  | succ n ih =>
    intro j x0 m hI hj
    rcases step (zLp1 F n) j x0 m hI with h | ⟨x0', m', j', hj', hI', h⟩
    · exact h
    · show Q (F (zLp1 F n) x0 m)
      rw [h]
      exact ih j' x0' m' hI' (by omega)
theorem ex_zLp2 {β : Type} {F : (Int32 → Int32 → Mm → Option β) → Int32 → Int32 → Mm → Option β} {Q : Option β → Prop} (I : Nat → Int32 → Int32 → Mm → Prop)
    (step : ∀ (r : Int32 → Int32 → Mm → Option β) (j : Nat) (x0 x1 : Int32) (m : Mm), I j x0 x1 m → Q (F r x0 x1 m) ∨ ∃ (x0' x1' : Int32) (m' : Mm) (j' : Nat), j' < j ∧ I j' x0' x1' m' ∧ F r x0 x1 m = r x0' x1' m') :
    ∀ (n j : Nat) (x0 x1 : Int32) (m : Mm), I j x0 x1 m → j < n → Q (zLp2 F n x0 x1 m) := by
  intro n
  induction n with
  | zero => intro j x0 x1 m _ h; exact absurd h (Nat.not_lt_zero j)
  | succ n ih =>
    intro j x0 x1 m hI hj
    rcases step (zLp2 F n) j x0 x1 m hI with h | ⟨x0', x1', m', j', hj', hI', h⟩
    · exact h
    · show Q (F (zLp2 F n) x0 x1 m)
      rw [h]
      exact ih j' x0' x1' m' hI' (by omega)
theorem ex_zLq1 {β : Type} {F : (Int32 → Option β) → Int32 → Option β} {Q : Option β → Prop} (I : Nat → Int32 → Prop)
    (step : ∀ (r : Int32 → Option β) (j : Nat) (x0 : Int32), I j x0 → Q (F r x0) ∨ ∃ (x0' : Int32) (j' : Nat), j' < j ∧ I j' x0' ∧ F r x0 = r x0') :
    ∀ (n j : Nat) (x0 : Int32), I j x0 → j < n → Q (zLq1 F n x0) := by
  intro n
  induction n with
  | zero => intro j x0 _ h; exact absurd h (Nat.not_lt_zero j)
  | succ n ih =>
    intro j x0 hI hj
    rcases step (zLq1 F n) j x0 hI with h | ⟨x0', j', hj', hI', h⟩
    · exact h
    · show Q (F (zLq1 F n) x0)
      rw [h]
      exact ih j' x0' hI' (by omega)
/-- only the cells of bent days of the table t, and their marks, are changed -/
def FxF (t : Nat) (m m' : Mm) : Prop := m'.2 = m.2 ∧ (∀ b j, b ≠ 216 → b ≠ 217 → b ≠ 218 → zI m' b j = zI m b j) ∧ ∀ j, j < 20 * t ∨ 20 * t + 20 ≤ j → zI m' 216 j = zI m 216 j
theorem FxF.refl {t : Nat} {m : Mm} : FxF t m m := ⟨rfl, fun _ _ _ _ _ => rfl, fun _ _ => rfl⟩
theorem FxF.trans {t : Nat} {m m' m'' : Mm} (h : FxF t m m') (h2 : FxF t m' m'') : FxF t m m'' := ⟨h2.1.trans h.1, fun b j a1 a2 a3 => (h2.2.1 b j a1 a2 a3).trans (h.2.1 b j a1 a2 a3), fun j hj => (h2.2.2 j hj).trans (h.2.2 j hj)⟩
theorem FxF.w217 {t : Nat} {m : Mm} {k : Nat} {v : Int32} : FxF t m (wI m 217 k v) := ⟨rfl, fun b j a1 a2 a3 => zI_ne a2, fun j hj => zI_ne (by decide)⟩
theorem FxF.w218 {t : Nat} {m : Mm} {k : Nat} {v : Int32} : FxF t m (wI m 218 k v) := ⟨rfl, fun b j a1 a2 a3 => zI_ne a3, fun j hj => zI_ne (by decide)⟩
theorem FxF.w216 {t : Nat} {m : Mm} {f : Nat} {v : Int32} (hf : f < 20) : FxF t m (wI m 216 (20 * t + f) v) := ⟨rfl, fun b j a1 a2 a3 => zI_ne a1, fun j hj => zI_nk (by omega)⟩
section FDS
variable {m mm : Mm} {y t N nb : Nat} {F Y E : Nat → Int} {Kc Ac : Nat → Nat → Int} {Lc rk : Nat → Nat}
theorem Rfe.fx (h : Rfe m N Kc Ac Lc) (hF : FxF t m mm) : Rfe mm N Kc Ac Lc := by
  obtain ⟨f1, f2, f3⟩ := hF
  refine ⟨by rw [f2 _ _ (by decide) (by decide) (by decide)]; exact h.1, fun f hf => ⟨?_, fun i hi => ⟨?_, ?_⟩⟩⟩
  · rw [f2 _ _ (by decide) (by decide) (by decide)]; exact (h.2 f hf).1
  · rw [f2 _ _ (by decide) (by decide) (by decide)]; exact ((h.2 f hf).2 i hi).1
  · rw [f2 _ _ (by decide) (by decide) (by decide)]; exact ((h.2 f hf).2 i hi).2
theorem Rbn.fx (h : Rbn m F Y E nb) (hF : FxF t m mm) : Rbn mm F Y E nb := by
  obtain ⟨f1, f2, f3⟩ := hF
  refine ⟨by rw [f2 _ _ (by decide) (by decide) (by decide)]; exact h.1, fun i hi => ⟨?_, ?_, ?_⟩⟩
  · rw [f2 _ _ (by decide) (by decide) (by decide)]; exact (h.2 i hi).1
  · rw [f2 _ _ (by decide) (by decide) (by decide)]; exact (h.2 i hi).2.1
  · rw [f2 _ _ (by decide) (by decide) (by decide)]; exact (h.2 i hi).2.2
/-- what holds on the way: those in P are found -/
def IFn (m : Mm) (y t N : Nat) (F Y E : Nat → Int) (nb : Nat) (Kc Ac : Nat → Nat → Int) (Lc : Nat → Nat) (P : Nat → Bool) (mm : Mm) : Prop :=
  FxF t m mm ∧ Fnd mm N P ∧ ∀ f, f < N → P f = true → zI mm 216 (20 * t + f) = i3 (sB y t F Y E nb Kc Ac Lc f) ∧ zI mm 218 f = i3 (sG y t F Y E nb Kc Ac Lc f).2
theorem fnd_one (hy : y < 400) (ht : t < 2) (hW : VW N Kc Ac Lc) (hR : RK N Kc Ac Lc rk) (hv : vB F Y E nb) (h : Rfe m N Kc Ac Lc) (hD : Rbn m F Y E nb) {P : Nat → Bool} (hI : IFn m y t N F Y E nb Kc Ac Lc P mm) {f : Nat} (hf : f < N) (x5 : Int32) (r6 r : Int32 → Mm → Option Mm) :
    ∃ (P' : Nat → Bool) (mm' : Mm), IFn m y t N F Y E nb Kc Ac Lc P' mm' ∧ (∀ g, P g = true → P' g = true) ∧ ((∀ g, Nm Kc Ac Lc f g → P g = true) → P' f = true) ∧ l_Mod_finds_0 x5 r6 (i3 y) (i3 t) r (i3 f) mm = r (i3 ((f + 1 : Nat) : Int)) mm' := by
  obtain ⟨hF, hP, hval⟩ := hI
  have h20 := hW.1
  have hinf : zIn (i3 (f : Int)) 20 := (i3_in ⟨by omega, by omega⟩).mpr ⟨by omega, by omega⟩
  have hixf : zIx (i3 (f : Int)) = f := by rw [i3_ix ⟨by omega, by omega⟩, Int.toNat_natCast]
  obtain ⟨b, hb, hb2⟩ := mod_isReady hW (h.fx hF) hP hf
  have e1 : i3 (f : Int) + 1 = i3 ((f + 1 : Nat) : Int) := i3_add1 _
  have hf1 := h.fx hF
  obtain ⟨w1, w2, w3⟩ := hW.2 f hf
  unfold l_Mod_finds_0
  rw [hf1.1, if_neg (show ¬ i3 (N : Int) ≤ i3 (f : Int) by rw [i3_le ⟨by omega, by omega⟩ ⟨by omega, by omega⟩]; omega), hb, zBP_some]
  simp only [zLet, e1]
  cases b with
  | false =>
    refine ⟨P, mm, ⟨hF, hP, hval⟩, fun g hg => hg, fun hn => ?_, if_pos (show b3 false = 0 by decide)⟩
    cases hpf : P f with
    | true => rfl
    | false => exact (hb2.mpr ⟨hpf, hn⟩)
  | true =>
    obtain ⟨p1, p2⟩ := hb2.mp rfl
    rw [if_neg (show ¬ b3 true = 0 by decide)]
    have hgo := mod_go (B := sB y t F Y E nb Kc Ac Lc) hy ht (show f < 20 by omega) w1 (hf1.2 f hf).1 (hf1.2 f hf).2 w2 (fun i hi hk => by
      obtain ⟨n1, n2, -⟩ := hW.nm hf hi hk
      exact ⟨(hval _ n2 (p2 _ n1)).1, sB_bd hW n2⟩) hv (hD.fx hF)
    have efix : sBend y F Y E nb f (xgo y t (sB y t F Y E nb Kc Ac Lc) (Kc f) (Ac f) (Lc f) (Lc f) 0 (-1) false 0).1 = sB y t F Y E nb Kc Ac Lc f := (sB_fix hW hR hf).symm
    have ec : (xgo y t (sB y t F Y E nb Kc Ac Lc) (Kc f) (Ac f) (Lc f) (Lc f) 0 (-1) false 0).2 = (sG y t F Y E nb Kc Ac Lc f).2 := rfl
    rw [efix, ec] at hgo
    rw [hgo, zBV_some, if_pos hinf, hixf]
    refine ⟨fun g => P g || decide (g = f), _, ⟨(hF.trans (FxF.w216 (f := f) (by omega))).trans (FxF.w218.trans FxF.w217), ?_, ?_⟩, fun g hg => by simp [hg], fun _ => by simp, rfl⟩
    · intro g hg
      by_cases e : g = f
      · subst e
        rw [zI_eq]
        simp
        decide
      · rw [zI_nk e, zI_ne (by decide), zI_ne (by decide), hP g hg]
        simp [e]
    · intro g hg hpg
      by_cases e : g = f
      · subst e
        exact ⟨by rw [zI_ne (by decide), zI_ne (by decide), zI_eq], by rw [zI_ne (by decide), zI_eq]⟩
      · have hpg : P g = true := by simpa [e] using hpg
        obtain ⟨v1, v2⟩ := hval g hg hpg
        exact ⟨by rw [zI_ne (by decide), zI_ne (by decide), zI_nk (by omega), v1], by rw [zI_ne (by decide), zI_nk e, zI_ne (by decide), v2]⟩
theorem mod_finds (hy : y < 400) (ht : t < 2) (hW : VW N Kc Ac Lc) (hR : RK N Kc Ac Lc rk) (hv : vB F Y E nb) (h : Rfe m N Kc Ac Lc) (hD : Rbn m F Y E nb) :
    ∃ m', f_Mod_finds (i3 y) (i3 t) m = some m' ∧ FxF t m m' ∧ ∀ f, f < N → zI m' 216 (20 * t + f) = i3 (sB y t F Y E nb Kc Ac Lc f) ∧ zI m' 218 f = i3 (sG y t F Y E nb Kc Ac Lc f).2 := by
  have h20 := hW.1
  rw [e_Mod_finds]
  refine ex_zLp1 (Q := fun X => ∃ m', X = some m' ∧ FxF t m m' ∧ ∀ f, f < N → zI m' 216 (20 * t + f) = i3 (sB y t F Y E nb Kc Ac Lc f) ∧ zI m' 218 f = i3 (sG y t F Y E nb Kc Ac Lc f).2)
    (fun j x1 mm => ∃ i : Nat, x1 = i3 i ∧ i ≤ N ∧ j = N - i ∧ FxF t m mm ∧ ∀ f, f < i → zI mm 217 f = b3 false) ?_ zFu N _ _ ⟨0, rfl, Nat.zero_le _, rfl, FxF.refl, fun f hf => absurd hf (Nat.not_lt_zero f)⟩ (by unfold zFu; omega)
  rintro r j x1 mm ⟨i, rfl, hi, rfl, hF, hz⟩
  unfold l_Mod_finds_2
  rw [(h.fx hF).1, it_le ⟨by omega, by omega⟩ ⟨by omega, by omega⟩]
  by_cases e : (N : Int) ≤ i
  case neg =>
    right
    have hin : zIn (i3 (i : Int)) 20 := (i3_in ⟨by omega, by omega⟩).mpr ⟨by omega, by omega⟩
    have hix : zIx (i3 (i : Int)) = i := by rw [i3_ix ⟨by omega, by omega⟩, Int.toNat_natCast]
    refine ⟨_, _, N - (i + 1), by omega, ⟨i + 1, rfl, by omega, rfl, hF.trans (FxF.w217 (k := i) (v := b3 false)), fun f hf => ?_⟩, ?_⟩
    · by_cases e2 : f = i
      · subst e2; exact zI_eq
      · rw [zI_nk e2]; exact hz f (by omega)
    · rw [if_neg e, if_pos hin, hix]
      simp only [zLet, i3_add1]
      rfl
  left
  rw [if_pos e]
  have hN : i = N := by omega
  subst hN
  -- the rounds
  refine ex_zLp1 (Q := fun X => ∃ m', X = some m' ∧ FxF t m m' ∧ ∀ f, f < i → zI m' 216 (20 * t + f) = i3 (sB y t F Y E nb Kc Ac Lc f) ∧ zI m' 218 f = i3 (sG y t F Y E nb Kc Ac Lc f).2)
    (fun j x5 mm => ∃ (k : Nat) (P : Nat → Bool), x5 = i3 k ∧ k ≤ i ∧ j = i - k ∧ IFn m y t i F Y E nb Kc Ac Lc P mm ∧ ∀ f, f < i → rk f < k → P f = true) ?_ zFu i _ _ ⟨0, fun _ => false, rfl, Nat.zero_le _, rfl, ⟨hF, fun f hf => hz f hf, fun f _ hp => nomatch hp⟩, fun f _ hk => absurd hk (Nat.not_lt_zero _)⟩ (by unfold zFu; omega)
  rintro r5 j x5 mm ⟨k, P, rfl, hk, rfl, hI, hrk⟩
  unfold l_Mod_finds_1
  rw [(h.fx hI.1).1, it_le ⟨by omega, by omega⟩ ⟨by omega, by omega⟩]
  by_cases e2 : (i : Int) ≤ k
  · left
    rw [if_pos e2]
    exact ⟨mm, rfl, hI.1, fun f hf => hI.2.2 f hf (hrk f hf (by have := (hR f hf).1; omega))⟩
  · right
    rw [if_neg e2]
    have inner := ex_zLp1 (F := l_Mod_finds_0 (i3 k) r5 (i3 y) (i3 t)) (Q := fun X => ∃ (P' : Nat → Bool) (m' : Mm), X = r5 (i3 ((k + 1 : Nat) : Int)) m' ∧ IFn m y t i F Y E nb Kc Ac Lc P' m' ∧ ∀ f, f < i → rk f < k + 1 → P' f = true)
      (fun j x9 mm => ∃ (g : Nat) (P : Nat → Bool), x9 = i3 g ∧ g ≤ i ∧ j = i - g ∧ IFn m y t i F Y E nb Kc Ac Lc P mm ∧ (∀ f, f < i → rk f < k → P f = true) ∧ ∀ f, f < g → rk f < k + 1 → P f = true) ?_ zFu i (i3 0) mm ⟨0, P, rfl, Nat.zero_le _, rfl, hI, hrk, fun f hf => absurd hf (Nat.not_lt_zero f)⟩ (by unfold zFu; omega)
    · obtain ⟨P', m', e3, hI', hrk'⟩ := inner
      exact ⟨_, m', i - (k + 1), by omega, ⟨k + 1, P', rfl, by omega, rfl, hI', hrk'⟩, e3⟩
    · rintro r j x9 mm ⟨g, P, rfl, hg, rfl, hI, hrk, hrg⟩
      by_cases e3 : i ≤ g
      · left
        unfold l_Mod_finds_0
        rw [(h.fx hI.1).1, it_le ⟨by omega, by omega⟩ ⟨by omega, by omega⟩, if_pos (by omega)]
        simp only [zLet, i3_add1]
        exact ⟨P, mm, rfl, hI, fun f hf => hrg f (by omega)⟩
      · right
        obtain ⟨P', mm', hI', hm, hn, e4⟩ := fnd_one hy ht hW hR hv h hD hI (show g < i by omega) (i3 k) r5 r
        refine ⟨_, mm', i - (g + 1), by omega, ⟨g + 1, P', rfl, by omega, rfl, hI', fun f hf hk => hm f (hrk f hf hk), fun f hf hk => ?_⟩, e4⟩
        by_cases e5 : f = g
        · subst e5
          refine hn (fun g' hg' => ?_)
          have h1 := (hR f (by omega)).2 g' hg'
          obtain ⟨i', hi', hkd, hgg⟩ := hg'
          have h2 := (hW.nm (show f < i by omega) hi' hkd).2.1
          exact hrk g' (by omega) (by omega)
        · exact hm f (hrg f (by omega) hk)
end FDS
