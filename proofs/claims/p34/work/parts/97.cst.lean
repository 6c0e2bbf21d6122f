/-! WHAT THE CLASS HOLDS -/
/-- the cells that hold what is kept from call to call, and the law's own (from 201 on) -/
def scB (b j : Nat) : Bool := (b == 16 && j == 8) || (b == 17 && j == 1) || b == 18 || (b == 19 && j == 3) || (Nat.ble 25 b && Nat.ble b 27) || (Nat.ble 29 b && Nat.ble b 151) || (b == 170 && (j == 1 || j == 2)) || (Nat.ble 171 b && Nat.ble b 173) || (b == 174 && j == 3) || (Nat.ble 175 b && Nat.ble b 177) || Nat.ble 201 b
def Sc (b j : Nat) : Prop := scB b j = true
theorem Sc.iff {b j : Nat} : Sc b j ↔ ((b = 16 ∧ j = 8) ∨ (b = 17 ∧ j = 1) ∨ b = 18 ∨ (b = 19 ∧ j = 3) ∨ (25 ≤ b ∧ b ≤ 27) ∨ (29 ≤ b ∧ b ≤ 151) ∨ (b = 170 ∧ (j = 1 ∨ j = 2)) ∨ (171 ≤ b ∧ b ≤ 173) ∨ (b = 174 ∧ j = 3) ∨ (175 ≤ b ∧ b ≤ 177) ∨ 201 ≤ b) := by
  unfold Sc scB
  simp only [Bool.or_eq_true, Bool.and_eq_true, beq_iff_eq, Nat.ble_eq, or_assoc]
theorem Sc.m {b j : Nat} (h : 29 ≤ b ∧ b ≤ 151) : Sc b j := Sc.iff.mpr (Or.inr (Or.inr (Or.inr (Or.inr (Or.inr (Or.inl h))))))
theorem Sc.l {b j : Nat} (h : 201 ≤ b) : Sc b j := Sc.iff.mpr (by omega)
def SF (m m' : Mm) : Prop := (∀ b j, Sc b j → zI m' b j = zI m b j) ∧ ∀ b j, zL m' b j = zL m b j
theorem SF.refl {m : Mm} : SF m m := ⟨fun _ _ _ => rfl, fun _ _ => rfl⟩
theorem SF.trans {m m' m'' : Mm} (h : SF m m') (h2 : SF m' m'') : SF m m'' := ⟨fun b j q => (h2.1 b j q).trans (h.1 b j q), fun b j => (h2.2 b j).trans (h.2 b j)⟩
theorem zL_of {m m' : Mm} (h : m'.2 = m.2) (b j : Nat) : zL m' b j = zL m b j := by unfold zL; rw [h]
theorem SF.of {m m' : Mm} (h : ∀ b j, Sc b j → zI m' b j = zI m b j) (h2 : m'.2 = m.2) : SF m m' := ⟨h, fun b j => zL_of h2 b j⟩
theorem FxB.sf {a : Nat} {m m' : Mm} (ha : a = 152 ∨ a = 158) (h : FxB a m m') : SF m m' := SF.of (fun b j hs => h.2.1 b j (by rw [Sc.iff] at hs; omega)) h.1
theorem Fx2.sf {a : Nat} {m m' : Mm} (ha : a = 152 ∨ a = 158) (h : Fx2 a m m') : SF m m' := SF.of (fun b j hs => h.2 b j (by rw [Sc.iff] at hs; omega) (by rw [Sc.iff] at hs; omega)) h.1
theorem FxR.sf {m m' : Mm} (h : FxR m m') : SF m m' := SF.of (fun b j hs => h.2 b j (by rw [Sc.iff] at hs; omega) (by rw [Sc.iff] at hs; omega) (by rw [Sc.iff] at hs; omega) (by rw [Sc.iff] at hs; omega)) h.1
theorem Fx1.sf {c : Nat} {m m' : Mm} (hc : c = 28 ∨ c = 167) (h : Fx1 c m m') : SF m m' := SF.of (fun b j hs => h.2 b j (by rw [Sc.iff] at hs; omega)) h.1
theorem FxL.sf {m m' : Mm} (h : FxL m m') : SF m m' := ⟨fun b j hs => h.1 b j (by rw [Sc.iff] at hs; omega) (by rw [Sc.iff] at hs; omega) (by rw [Sc.iff] at hs; omega), fun b j => by unfold zL; rw [h.2.2.2]⟩
def kTb (m : Mm) (t : Nat) : Prop := t < 2 ∧ zI m 16 8 = i3 t
def kX (m : Mm) (T : List Int) : Prop := TX m 17 T ∧ (∀ i, i < 40 → zCh (zI m 18 i)) ∧ ∃ vv : Int, zI m 19 3 = i3 vv
def iW (N : Nat) (Kc Ac : Nat → Nat → Int) (Lc rk o : Nat → Nat) (R : Nat → Int) (F Y E : Nat → Int) (nb : Nat) (Tx : Nat → List Int) : Prop := VW N Kc Ac Lc ∧ RK N Kc Ac Lc rk ∧ vO N Kc Ac Lc o ∧ (∀ f, f < N → 0 ≤ R f ∧ R f ≤ 9) ∧ vB F Y E nb ∧ Un F Y nb ∧ vT N Kc Ac Lc Tx
def iC (m : Mm) (N : Nat) (Kc Ac : Nat → Nat → Int) (Lc o : Nat → Nat) (R : Nat → Int) (mv : Nat → Bool) (F Y E : Nat → Int) (nb : Nat) (Tx : Nat → List Int) : Prop := Cfe m N Kc Ac Lc ∧ Cor m N o ∧ Crk m N R mv ∧ Cbn m F Y E nb ∧ Ctx m N Tx ∧ ∀ f, f < N → zI m (32 + 6 * f + 3) 3 = i3 ((nms (Kc f) (Ac f) (Lc f) : Nat) : Int)
def kB (m : Mm) (nR : Nat) (PR RE BE : Nat → Int) : Prop := vRg nR PR RE ∧ vBE BE ∧ Crg m nR PR RE ∧ Cbe m BE
section CST
variable {m m' : Mm} {t N nb nR : Nat} {T : List Int} {F Y E : Nat → Int} {Kc Ac : Nat → Nat → Int} {Lc rk o : Nat → Nat} {R : Nat → Int} {mv : Nat → Bool} {Tx : Nat → List Int} {PR RE BE : Nat → Int}
theorem kTb.fx (h : kTb m t) (hF : SF m m') : kTb m' t := ⟨h.1, by rw [hF.1 _ _ (by exact rfl)]; exact h.2⟩
theorem kX.fx (h : kX m T) (hF : SF m m') : kX m' T := by
  obtain ⟨⟨a1, a2, a3, a4⟩, h3, ⟨vv, hv⟩⟩ := h
  refine ⟨⟨a1, ?_, fun i hi => ?_, a4⟩, fun i hi => ?_, ⟨vv, ?_⟩⟩
  · rw [hF.1 _ _ (by exact rfl)]; exact a2
  · rw [hF.1 _ _ (by exact rfl)]; exact a3 i hi
  · rw [hF.1 _ _ (by exact rfl)]; exact h3 i hi
  · rw [hF.1 _ _ (by exact rfl)]; exact hv
theorem Cd.sf {q n : Nat} {K A : Nat → Int} (h : Cd m q K A n) (hF : SF m m') (hq : (∀ j, Sc q j) ∧ (∀ j, Sc (q + 1) j) ∧ ∀ j, Sc (q + 2) j) : Cd m' q K A n := by
  refine ⟨h.1, ?_, fun i hi => ⟨?_, ?_⟩⟩
  · rw [hF.1 _ _ (hq.1 _)]; exact h.2.1
  · rw [hF.1 _ _ (hq.2.1 _)]; exact (h.2.2 i hi).1
  · rw [hF.1 _ _ (hq.2.2 _)]; exact (h.2.2 i hi).2
theorem iC.fx (hN : N ≤ 20) (h : iC m N Kc Ac Lc o R mv F Y E nb Tx) (hF : SF m m') : iC m' N Kc Ac Lc o R mv F Y E nb Tx := by
  obtain ⟨⟨h1, h2⟩, h3, h4, ⟨h5, h6⟩, h7, h8⟩ := h
  refine ⟨⟨?_, fun f hf => (h2 f hf).sf hF ⟨fun _ => Sc.m (by omega), fun _ => Sc.m (by omega), fun _ => Sc.m (by omega)⟩⟩, fun i hi => ?_, fun f hf => ⟨?_, ?_⟩, ⟨?_, fun i hi => ⟨?_, ?_, ?_⟩⟩, fun f hf => ?_, fun f hf => ?_⟩
  · rw [hF.1 _ _ (by first | exact rfl | exact Sc.m (by omega))]; exact h1
  · rw [hF.1 _ _ (by first | exact rfl | exact Sc.m (by omega))]; exact h3 i hi
  · rw [hF.1 _ _ (by first | exact rfl | exact Sc.m (by omega))]; exact (h4 f hf).1
  · rw [hF.1 _ _ (by first | exact rfl | exact Sc.m (by omega))]; exact (h4 f hf).2
  · rw [hF.1 _ _ (by first | exact rfl | exact Sc.m (by omega))]; exact h5
  · rw [hF.1 _ _ (by first | exact rfl | exact Sc.m (by omega))]; exact (h6 i hi).1
  · rw [hF.1 _ _ (by first | exact rfl | exact Sc.m (by omega))]; exact (h6 i hi).2.1
  · rw [hF.1 _ _ (by first | exact rfl | exact Sc.m (by omega))]; exact (h6 i hi).2.2
  · obtain ⟨a1, a2, a3, a4⟩ := h7 f hf
    refine ⟨a1, ?_, fun i hi => ?_, a4⟩
    · rw [hF.1 _ _ (by first | exact rfl | exact Sc.m (by omega))]; exact a2
    · rw [hF.1 _ _ (by first | exact rfl | exact Sc.m (by omega))]; exact a3 i hi
  · rw [hF.1 _ _ (by first | exact rfl | exact Sc.m (by omega))]; exact h8 f hf
theorem kB.fx (h : kB m nR PR RE BE) (hF : SF m m') : kB m' nR PR RE BE := by
  obtain ⟨h1, h2, h3, h4⟩ := h
  refine ⟨h1, h2, ⟨?_, fun k hk => ⟨?_, ?_⟩⟩, fun p hp => ?_⟩
  · rw [hF.1 _ _ (by exact rfl)]; exact h3.1
  · rw [hF.1 _ _ (by exact rfl)]; exact (h3.2 k hk).1
  · rw [hF.1 _ _ (by exact rfl)]; exact (h3.2 k hk).2
  · rw [hF.1 _ _ (by exact rfl)]; exact h4 p hp
end CST
theorem zBXV_l {β : Type} {M : Mm} {K : Mm → Option ((β ⊕ Nat) × Mm)} : zBXV (some (.inl (), M)) K = K M := Eq.trans rfl rfl
theorem zBXV_r {β : Type} {M : Mm} {e : Nat} {K : Mm → Option ((β ⊕ Nat) × Mm)} : zBXV (some (.inr e, M)) K = some (.inr e, M) := Eq.trans rfl rfl
section CHK
variable {m : Mm} {N : Nat}
theorem loo_year {y : Int} (hy : -2147483648 ≤ y ∧ y < 2147483648) : f_Loo_checkYear (i3 y) m = some (if 0 ≤ y ∧ y < 400 then .inl () else .inr 0, m) := by
  unfold f_Loo_checkYear
  simp only [zLet]
  rw [show (0 : Int32) = i3 0 from rfl, show (399 : Int32) = i3 399 from rfl, it_lt hy ⟨by decide, by decide⟩, it_le hy ⟨by decide, by decide⟩]
  by_cases c1 : y < 0
  · rw [if_pos c1, if_neg (by omega)]
  · by_cases c2 : y ≤ 399
    · rw [if_neg c1, if_pos c2, if_pos (by omega)]
    · rw [if_neg c1, if_neg c2, if_neg (by omega)]
theorem loo_rank {y : Int} (hy : -2147483648 ≤ y ∧ y < 2147483648) : f_Loo_checkRank (i3 y) m = some (if 0 ≤ y ∧ y < 10 then .inl () else .inr 0, m) := by
  unfold f_Loo_checkRank
  simp only [zLet]
  rw [show (0 : Int32) = i3 0 from rfl, show (9 : Int32) = i3 9 from rfl, it_lt hy ⟨by decide, by decide⟩, it_le hy ⟨by decide, by decide⟩]
  by_cases c1 : y < 0
  · rw [if_pos c1, if_neg (by omega)]
  · by_cases c2 : y ≤ 9
    · rw [if_neg c1, if_pos c2, if_pos (by omega)]
    · rw [if_neg c1, if_neg c2, if_neg (by omega)]
theorem loo_parish {y : Int} (hy : -2147483648 ≤ y ∧ y < 2147483648) : f_Loo_checkParish (i3 y) m = some (if 0 ≤ y ∧ y < 6 then .inl () else .inr 2, m) := by
  unfold f_Loo_checkParish
  simp only [zLet]
  rw [show (0 : Int32) = i3 0 from rfl, show (6 : Int32) = i3 6 from rfl, it_lt hy ⟨by decide, by decide⟩, it_lt hy ⟨by decide, by decide⟩]
  by_cases c1 : y < 0
  · rw [if_pos c1, if_neg (by omega)]
  · by_cases c2 : y < 6
    · rw [if_neg c1, if_pos c2, if_pos (by omega)]
    · rw [if_neg c1, if_neg c2, if_neg (by omega)]
theorem loo_feast (h20 : N ≤ 20) (h25 : zI m 25 3 = i3 N) {y : Int} (hy : -2147483648 ≤ y ∧ y < 2147483648) : f_Loo_checkFeast (i3 y) m = some (if 0 ≤ y ∧ y < N then .inl () else .inr 2, m) := by
  have hsz : f_Alm_size m = some (i3 N) := by
    unfold f_Alm_size
    rw [h25]
  unfold f_Loo_checkFeast
  simp only [zLet]
  rw [hsz, zBP_some, show (0 : Int32) = i3 0 from rfl, it_lt hy ⟨by decide, by decide⟩, it_lt hy ⟨by omega, by omega⟩]
  by_cases c1 : y < 0
  · rw [if_pos c1, if_neg (by omega)]
  · by_cases c2 : y < N
    · rw [if_neg c1, if_pos c2, if_pos (by omega)]
    · rw [if_neg c1, if_neg c2, if_neg (by omega)]
theorem loo_table {y : Int} (hy : -2147483648 ≤ y ∧ y < 2147483648) : f_Loo_checkTable (i3 y) m = some (if 0 ≤ y ∧ y < 2 then .inl () else .inr 0, m) := by
  unfold f_Loo_checkTable
  rw [show (0 : Int32) = i3 0 from rfl, show (1 : Int32) = i3 1 from rfl, it_eq hy ⟨by decide, by decide⟩, it_eq hy ⟨by decide, by decide⟩]
  by_cases c1 : y = 0
  · rw [if_pos c1, if_pos (by omega)]
  · by_cases c2 : y = 1
    · rw [if_neg c1, if_pos c2, if_pos (by omega)]
    · rw [if_neg c1, if_neg c2, if_neg (by omega)]
end CHK
theorem fi20 {f : Nat} (hf : f < 20) : zIn (i3 (f : Int)) 20 ∧ zIx (i3 (f : Int)) = f := ⟨(i3_in ⟨by omega, by omega⟩).mpr ⟨by omega, by omega⟩, by rw [i3_ix ⟨by omega, by omega⟩, Int.toNat_natCast]⟩
theorem midn_symm (x y : Int) : midn x y = midn y x := by
  unfold midn
  congr 1
  exact propext ⟨fun ⟨a, b, c⟩ => ⟨b, a, c.symm⟩, fun ⟨a, b, c⟩ => ⟨b, a, c.symm⟩⟩
/-- both tables are reckoned, one after the other -/
def f_Loo_reckonBothTables (p1 : Int32) (m : Mm) : Option Mm :=
  zBV (f_Boo_reckon 152 p1 (zI m 16 8) m) fun m1 => zBP (f_Loo_otherTable m1) fun v2 => zBV (f_Boo_reckon 158 p1 v2 m1) fun m3 => some m3
theorem zBV_both {α : Type} (p : Int32) (m : Mm) (K : Mm → Option α) : (zBV (f_Boo_reckon 152 p (zI m 16 8) m) fun m1 => zBP (f_Loo_otherTable m1) fun v2 => zBV (f_Boo_reckon 158 p v2 m1) K) = zBV (f_Loo_reckonBothTables p m) K := by
  unfold f_Loo_reckonBothTables
  simp only [zBV, zBP, Option.bind_assoc, ob_s]
section RGS
variable {m : Mm} {N t nb nR y : Nat} {T : List Int} {F Y E : Nat → Int} {Kc Ac : Nat → Nat → Int} {Lc rk o : Nat → Nat} {R : Nat → Int} {mv : Nat → Bool} {Tx : Nat → List Int} {PR RE BE : Nat → Int}
theorem c_both (hT : kTb m t) (hW : iW N Kc Ac Lc rk o R F Y E nb Tx) (hC : iC m N Kc Ac Lc o R mv F Y E nb Tx) (hy : y < 400) :
    ∃ m1, f_Loo_reckonBothTables (i3 y) m = some m1 ∧ SF m m1 ∧ zI m1 152 7 = i3 (sLen y) ∧ ∀ f, f < N → zI m1 154 f = i3 (sB y t F Y E nb Kc Ac Lc f) ∧ zI m1 160 f = i3 (sB y (1 - t) F Y E nb Kc Ac Lc f) := by
  obtain ⟨w1, w2, w3, w4, w5, w6, w7⟩ := hW
  obtain ⟨m1, e1, hF1, -, k7, -, hv1⟩ := boo_reckon (m := m) (a := 152) (by decide) hy hT.1 w1 w2 w5 w6 hC.1 hC.2.2.2.1 hC.2.1 w3
  have hS1 := hF1.sf (Or.inl rfl)
  have hC1 := hC.fx w1.1 hS1
  have hT1 := hT.fx hS1
  have ht2 := hT.1
  obtain ⟨m2, e2, hF2, -, -, -, hv2⟩ := boo_reckon (m := m1) (a := 158) (t := 1 - t) (by decide) hy (by omega) w1 w2 w5 w6 hC1.1 hC1.2.2.2.1 hC1.2.1 w3
  refine ⟨m2, ?_, hS1.trans (hF2.sf (Or.inr rfl)), ?_, fun f hf => ⟨?_, (hv2 f hf).1⟩⟩
  · unfold f_Loo_reckonBothTables
    rw [hT.2, e1, zBV_some]
    unfold f_Loo_otherTable
    rw [hT1.2, show (0 : Int32) = i3 0 from rfl, it_eq ⟨by omega, by omega⟩ ⟨by decide, by decide⟩]
    by_cases c : (t : Int) = 0
    · have e2' : f_Boo_reckon 158 (i3 y) 1 m1 = some m2 := by rw [← e2, show 1 - t = 1 by omega]; rfl
      rw [if_pos c, zBP_some, e2', zBV_some]
    · have e2' : f_Boo_reckon 158 (i3 y) (i3 0) m1 = some m2 := by rw [← e2, show 1 - t = 0 by omega]; rfl
      rw [if_neg c, zBP_some, e2', zBV_some]
  · rw [hF2.2.1 _ _ (by decide), k7]
  · rw [hF2.2.1 _ _ (by decide)]
    exact (hv1 f hf).1
/-- who rings in a year -/
def sRing (y N : Nat) (F Y E : Nat → Int) (nb t : Nat) (Kc Ac : Nat → Nat → Int) (Lc : Nat → Nat) (R : Nat → Int) (mv : Nat → Bool) (PR RE BE : Nat → Int) (nR : Nat) : RS := rYr PR RE nR BE (fun f => midn (sB y 0 F Y E nb Kc Ac Lc f) (sB y 1 F Y E nb Kc Ac Lc f)) (sAll N (sLen y) (sB y t F Y E nb Kc Ac Lc) R mv 10) R N (sLen y)
theorem c_ring (hT : kTb m t) (hW : iW N Kc Ac Lc rk o R F Y E nb Tx) (hC : iC m N Kc Ac Lc o R mv F Y E nb Tx) (hv : vRg nR PR RE) (hbv : vBE BE) (hg : Crg m nR PR RE) (hbe : Cbe m BE) (hy : y < 400) :
    ∃ m1, f_Loo_ringYear (i3 y) m = some m1 ∧ SF m m1 ∧ CS m1 (sRing y N F Y E nb t Kc Ac Lc R mv PR RE BE nR) := by
  have hL := sLen_bd y
  have ht2 := hT.1
  obtain ⟨m1, e1, hS1, k7, hv1⟩ := c_both hT hW hC hy
  obtain ⟨w1, w2, w3, w4, w5, w6, w7⟩ := hW
  have h20 := w1.1
  have hC1 := hC.fx h20 hS1
  obtain ⟨m2, e2, hF2, hv2, hd2⟩ := boo_placeAll (m := m1) (a := 152) (R := R) (mv := mv) (by decide) h20 (by omega) hC1.2.2.1 w4 hC1.1.1 k7 (fun f hf => ⟨(hv1 f hf).1, sB_bd w1 hf⟩)
  have hS2 := hS1.trans (hF2.sf (Or.inl rfl))
  have hC2 := hC.fx h20 hS2
  have hb1 : ∀ t' f, f < N → -1 ≤ sB y t' F Y E nb Kc Ac Lc f ∧ sB y t' F Y E nb Kc Ac Lc f < 400 := fun t' f hf => by have := sB_bd (y := y) (t := t') (F := F) (Y := Y) (E := E) (nb := nb) w1 hf; omega
  have hpb : ∀ f, f < N → -1 ≤ sAll N (sLen y) (sB y t F Y E nb Kc Ac Lc) R mv 10 f ∧ sAll N (sLen y) (sB y t F Y E nb Kc Ac Lc) R mv 10 f < sLen y := fun f _ => sAll_bd (by omega) (fun f hf => (sB_bd w1 hf).1) 10 f
  obtain ⟨m3, e3, c3, hF3⟩ := bel_year (m := m2) (PR := PR) (RE := RE) (BE := BE) (nR := nR) (R := R) (mv := mv) (N := N) (b1 := sB y t F Y E nb Kc Ac Lc) (b2 := sB y (1 - t) F Y E nb Kc Ac Lc) hv
    ⟨by rw [hS2.1 _ _ (by first | exact rfl | exact Sc.m (by omega))]; exact hg.1, fun k hk => ⟨by rw [hS2.1 _ _ (by first | exact rfl | exact Sc.m (by omega))]; exact (hg.2 k hk).1, by rw [hS2.1 _ _ (by first | exact rfl | exact Sc.m (by omega))]; exact (hg.2 k hk).2⟩⟩ hbv (fun p hp => by rw [hS2.1 _ _ (by first | exact rfl | exact Sc.m (by omega))]; exact hbe p hp) h20 hC2.2.2.1 w4 hd2 (fun g hg => by have := hpb g hg; omega) (sAll_inj (fun f hf => (sB_bd w1 hf).1) 10) (fun f hf => ⟨by rw [hF2.2 _ _ (by decide) (by decide)]; exact (hv1 f hf).1, hb1 t f hf⟩) (fun f hf => ⟨by rw [hF2.2 _ _ (by decide) (by decide)]; exact (hv1 f hf).2, hb1 (1 - t) f hf⟩)
  refine ⟨m3, ?_, hS2.trans hF3.sf, ?_⟩
  · unfold f_Loo_ringYear
    rw [zBV_both, e1, zBV_some, e2, zBV_some, e3, zBV_some]
  · rw [rYr_late (L := sLen y) (fun g hg => (hpb g hg).2) 366 (by omega)] at c3
    have en : (fun f => midn (sB y t F Y E nb Kc Ac Lc f) (sB y (1 - t) F Y E nb Kc Ac Lc f)) = fun f => midn (sB y 0 F Y E nb Kc Ac Lc f) (sB y 1 F Y E nb Kc Ac Lc f) := by
      funext f
      rcases (show t = 0 ∨ t = 1 by omega) with rfl | rfl
      · rfl
      · exact midn_symm _ _
    rw [en] at c3
    exact c3
end RGS
