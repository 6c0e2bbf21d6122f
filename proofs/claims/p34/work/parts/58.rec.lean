/-! THE CLASS RECKONS ALL BENT DAYS -/
def Cfe (m : Mm) (N : Nat) (Kc Ac : Nat → Nat → Int) (Lc : Nat → Nat) : Prop := zI m 25 3 = i3 N ∧ ∀ f, f < N → Cd m (32 + 6 * f + 3) (Kc f) (Ac f) (Lc f)
/-- the order in which the class reckons -/
def Cor (m : Mm) (N : Nat) (o : Nat → Nat) : Prop := ∀ i, i < N → zI m 27 i = i3 (o i)
def vO (N : Nat) (Kc Ac : Nat → Nat → Int) (Lc : Nat → Nat) (o : Nat → Nat) : Prop := (∀ i, i < N → o i < N) ∧ (∀ f, f < N → ∃ i, i < N ∧ o i = f) ∧ ∀ i, i < N → ∀ g, Nm Kc Ac Lc (o i) g → ∃ j, j < i ∧ o j = g
def FxB (a : Nat) (m m' : Mm) : Prop := m'.2 = m.2 ∧ (∀ b j, b < a ∨ a + 3 < b → zI m' b j = zI m b j) ∧ ∀ j, j ≠ 6 → j ≠ 7 → zI m' a j = zI m a j
theorem FxB.trans {a : Nat} {m m' m'' : Mm} (h : FxB a m m') (h2 : FxB a m' m'') : FxB a m m'' := ⟨h2.1.trans h.1, fun b j q => (h2.2.1 b j q).trans (h.2.1 b j q), fun j q1 q2 => (h2.2.2 j q1 q2).trans (h.2.2 j q1 q2)⟩
theorem FxB.w {a b k : Nat} {m : Mm} {v : Int32} (h : a < b ∧ b ≤ a + 3 ∨ b = a ∧ (k = 6 ∨ k = 7)) : FxB a m (wI m b k v) := by
  refine ⟨rfl, fun c j q => zI_ne (by omega), fun j q1 q2 => ?_⟩
  by_cases e : b = a
  · subst e
    exact zI_nk (by omega)
  · exact zI_ne (by omega)
section REC
variable {m mm : Mm} {a y t N nb : Nat} {F Y E : Nat → Int} {Kc Ac : Nat → Nat → Int} {Lc rk o : Nat → Nat}
theorem FxB.ofWk : FxB a m (wWk m (a + 1) y t) := by
  unfold wWk
  refine FxB.trans (FxB.trans (FxB.trans (FxB.trans (FxB.trans (FxB.w (Or.inl (by omega))) (FxB.w (Or.inl (by omega)))) (FxB.w (Or.inl (by omega)))) (FxB.w (Or.inl (by omega)))) (FxB.w (Or.inl (by omega)))) (FxB.w (Or.inl (by omega)))
theorem Cd.fx {K A : Nat → Int} {q n : Nat} (h : Cd m q K A n) (hq : q + 2 < a) (hF : FxB a m mm) : Cd mm q K A n := by
  refine ⟨h.1, ?_, fun i hi => ⟨?_, ?_⟩⟩
  · rw [hF.2.1 _ _ (by omega)]; exact h.2.1
  · rw [hF.2.1 _ _ (by omega)]; exact (h.2.2 i hi).1
  · rw [hF.2.1 _ _ (by omega)]; exact (h.2.2 i hi).2
theorem Cbn.fx (h : Cbn m F Y E nb) (ha : 31 < a) (hF : FxB a m mm) : Cbn mm F Y E nb := by
  refine ⟨by rw [hF.2.1 _ _ (by omega)]; exact h.1, fun i hi => ⟨?_, ?_, ?_⟩⟩
  · rw [hF.2.1 _ _ (by omega)]; exact (h.2 i hi).1
  · rw [hF.2.1 _ _ (by omega)]; exact (h.2 i hi).2.1
  · rw [hF.2.1 _ _ (by omega)]; exact (h.2 i hi).2.2
theorem boo_reckon (ha : 152 ≤ a) (hy : y < 400) (ht : t < 2) (hW : VW N Kc Ac Lc) (hR : RK N Kc Ac Lc rk) (hv : vB F Y E nb) (hu : Un F Y nb) (h : Cfe m N Kc Ac Lc) (hD : Cbn m F Y E nb) (hO : Cor m N o) (vo : vO N Kc Ac Lc o) :
    ∃ m', f_Boo_reckon a (i3 y) (i3 t) m = some m' ∧ FxB a m m' ∧ zI m' a 6 = i3 y ∧ zI m' a 7 = i3 (sLen y) ∧ (0 < N → Wk m' (a + 1) y t) ∧ ∀ f, f < N → zI m' (a + 2) f = i3 (sB y t F Y E nb Kc Ac Lc f) ∧ zI m' (a + 3) f = i3 (sG y t F Y E nb Kc Ac Lc f).2 := by
  have h20 := hW.1
  have hL := sLen_bd y
  rw [e_Boo_reckon]
  simp only [zLet, zI_eq, cal_len hy, zBP_some]
  refine ex_zLp1 (Q := fun X => ∃ m', X = some m' ∧ FxB a m m' ∧ zI m' a 6 = i3 y ∧ zI m' a 7 = i3 (sLen y) ∧ (0 < N → Wk m' (a + 1) y t) ∧ ∀ f, f < N → zI m' (a + 2) f = i3 (sB y t F Y E nb Kc Ac Lc f) ∧ zI m' (a + 3) f = i3 (sG y t F Y E nb Kc Ac Lc f).2)
    (fun j x4 mm => ∃ i : Nat, x4 = i3 i ∧ i ≤ N ∧ j = N - i ∧ FxB a m mm ∧ (zI mm a 6 = i3 y ∧ zI mm a 7 = i3 (sLen y) ∧ (0 < i → Wk mm (a + 1) y t)) ∧ ∀ k, k < i → zI mm (a + 2) (o k) = i3 (sB y t F Y E nb Kc Ac Lc (o k)) ∧ zI mm (a + 3) (o k) = i3 (sG y t F Y E nb Kc Ac Lc (o k)).2) ?_ zFu N _ _ ⟨0, rfl, Nat.zero_le _, rfl, (FxB.w (Or.inr ⟨rfl, Or.inl rfl⟩)).trans (FxB.w (Or.inr ⟨rfl, Or.inr rfl⟩)), ⟨by rw [zI_nk (by decide), zI_eq], zI_eq, fun h0 => absurd h0 (Nat.lt_irrefl 0)⟩, fun k hk => absurd hk (Nat.not_lt_zero k)⟩ (by unfold zFu; omega)
  rintro r j x4 mm ⟨i, rfl, hi, rfl, hF, ⟨h6, h7, hWk⟩, hval⟩
  have hsz : f_Alm_size mm = some (i3 N) := by
    unfold f_Alm_size
    rw [hF.2.1 _ _ (by omega), h.1]
  unfold l_Boo_reckon_0
  rw [hsz, zBP_some, it_le ⟨by omega, by omega⟩ ⟨by omega, by omega⟩]
  by_cases e : (N : Int) ≤ i
  · left
    rw [if_pos e]
    refine ⟨mm, rfl, hF, h6, h7, fun h0 => hWk (by omega), fun f hf => ?_⟩
    obtain ⟨k, hk, rfl⟩ := vo.2.1 f hf
    exact hval k (by omega)
  · right
    have hlt : i < N := by omega
    have hin : zIn (i3 (i : Int)) 20 := (i3_in ⟨by omega, by omega⟩).mpr ⟨by omega, by omega⟩
    have hix : zIx (i3 (i : Int)) = i := by rw [i3_ix ⟨by omega, by omega⟩, Int.toNat_natCast]
    have hof := vo.1 i hlt
    have hon := vo.2.2 i hlt
    have hord : f_Alm_inOrder (i3 i) mm = some (i3 (o i)) := by
      unfold f_Alm_inOrder
      rw [if_pos hin, hix, hF.2.1 _ _ (by omega), hO i hlt]
    generalize hof' : o i = f at hof hon hord
    have hinf : zIn (i3 (f : Int)) 20 := (i3_in ⟨by omega, by omega⟩).mpr ⟨by omega, by omega⟩
    have hixf : zIx (i3 (f : Int)) = f := by rw [i3_ix ⟨by omega, by omega⟩, Int.toNat_natCast]
    obtain ⟨w1, w2, w3⟩ := wal_enter (m := mm) (a := a + 1) hy ht
    obtain ⟨v1, v2, v3⟩ := hW.2 f hof
    have hF2 : FxB a mm (wWk mm (a + 1) y t) := FxB.ofWk
    have hcode : f_Alm_code (i3 f) (wWk mm (a + 1) y t) = some (32 + 6 * f + 3) := by
      unfold f_Alm_code
      rw [if_pos hinf, hixf]
    have zt : zT (32 + 6 * f + 3) = 3 := by
      have q : ∀ f, f < 20 → zT (32 + 6 * f + 3) = 3 := by decide +kernel
      exact q f (by omega)
    have zq : ∀ (K : Nat → Option Mm), zBQ 3 (some (32 + 6 * f + 3)) K = K (32 + 6 * f + 3) := fun K => if_pos zt
    have hkeep : ∀ b j, b = a + 2 ∨ b = a + 3 ∨ b = a → zI (wWk mm (a + 1) y t) b j = zI mm b j := by
      intro b j hb
      unfold wWk
      rw [zI_ne (by omega), zI_ne (by omega), zI_ne (by omega), zI_ne (by omega), zI_ne (by omega), zI_ne (by omega)]
    have hgo := boo_go (B := sB y t F Y E nb Kc Ac Lc) w2 w3 (show 32 + 6 * f + 3 + 2 < a by omega) ((h.2 f hof).fx (by omega) (hF.trans hF2)) v2 (fun k hk hkd => by
      obtain ⟨n1, n2, -⟩ := hW.nm hof hk hkd
      obtain ⟨k', hk', e'⟩ := hon _ n1
      refine ⟨?_, sB_bd hW n2⟩
      rw [hkeep _ _ (Or.inl rfl), ← e']
      exact (hval k' hk').1)
    have ec : (xgo y t (sB y t F Y E nb Kc Ac Lc) (Kc f) (Ac f) (Lc f) (Lc f) 0 (-1) false 0) = sG y t F Y E nb Kc Ac Lc f := rfl
    rw [ec] at hgo
    have hG := sG_bd (y := y) (t := t) (F := F) (Y := Y) (E := E) (nb := nb) hW hof
    have e1 : i3 (i : Int) + 1 = i3 ((i + 1 : Nat) : Int) := i3_add1 _
    generalize hm1 : wI (wWk mm (a + 1) y t) (a + 1) 5 (i3 (sG y t F Y E nb Kc Ac Lc f).1) = m1 at hgo
    have hF3 : FxB a (wWk mm (a + 1) y t) m1 := by rw [← hm1]; exact FxB.w (Or.inl (by omega))
    have k1 : ∀ b j, b = a + 2 ∨ b = a + 3 ∨ b = a → zI m1 b j = zI mm b j := fun b j hb => by rw [← hm1, zI_ne (by omega), hkeep b j hb]
    have k5 : zI m1 (a + 1) 5 = i3 (sG y t F Y E nb Kc Ac Lc f).1 := by rw [← hm1, zI_eq]
    have hF4 : FxB a m1 (wI m1 (a + 3) f (i3 (sG y t F Y E nb Kc Ac Lc f).2)) := FxB.w (Or.inl (by omega))
    have hbd := alm_bend hv hu (hD.fx (by omega) (hF.trans (hF2.trans (hF3.trans hF4)))) (f := f) ⟨by omega, by omega⟩ hy hG
    have efix : sBend y F Y E nb f (sG y t F Y E nb Kc Ac Lc f).1 = sB y t F Y E nb Kc Ac Lc f := (sB_fix hW hR hof).symm
    rw [efix] at hbd
    refine ⟨_, wI (wI m1 (a + 3) f (i3 (sG y t F Y E nb Kc Ac Lc f).2)) (a + 2) f (i3 (sB y t F Y E nb Kc Ac Lc f)), N - (i + 1), by omega, ⟨i + 1, rfl, by omega, rfl, hF.trans (hF2.trans (hF3.trans (hF4.trans (FxB.w (Or.inl (by omega)))))), ⟨?_, ?_, fun _ => ?_⟩, fun k hk => ?_⟩, ?_⟩
    · rw [zI_ne (by omega), zI_ne (by omega), k1 _ _ (by omega), h6]
    · rw [zI_ne (by omega), zI_ne (by omega), k1 _ _ (by omega), h7]
    · rw [← hm1]
      exact ((w2.w5 _).ne (by omega)).ne (by omega)
    · by_cases e2 : o k = f
      · rw [e2]
        exact ⟨zI_eq, by rw [zI_ne (by omega), zI_eq]⟩
      · have hki : k < i := by
          by_cases e3 : k = i
          · subst e3; exact absurd hof' e2
          · omega
        obtain ⟨q1, q2⟩ := hval k hki
        exact ⟨by rw [zI_nk e2, zI_ne (by omega), k1 _ _ (by omega), q1], by rw [zI_ne (by omega), zI_nk e2, k1 _ _ (by omega), q2]⟩
    · rw [if_neg e, hord, zBP_some, h6, w1, zBV_some, hcode, zq, hgo, zBI_some, if_pos hinf, hixf]
      simp only [zLet]
      have ht' : f_Wal_today (a + 1) (wI m1 (a + 3) f (i3 (sG y t F Y E nb Kc Ac Lc f).2)) = some (i3 (sG y t F Y E nb Kc Ac Lc f).1) := by
        unfold f_Wal_today
        rw [zI_ne (by omega), k5]
      have h6' : zI (wI m1 (a + 3) f (i3 (sG y t F Y E nb Kc Ac Lc f).2)) a 6 = i3 y := by rw [zI_ne (by omega), k1 _ _ (by omega), h6]
      rw [ht', zBP_some, h6', hbd, zBP_some, if_pos hinf, e1]
end REC
