/-! CALLS: a search goes on -/
theorem xgo_cost {y t : Nat} {B K A : Nat → Int} {n : Nat} : ∀ (u pc : Nat) (d : Int) (f : Bool) (c : Int), c ≤ (xgo y t B K A n u pc d f c).2 ∧ (xgo y t B K A n u pc d f c).2 ≤ c + 6 * u
  | 0, _, _, _, c => by show c ≤ c ∧ c ≤ c + 6 * ((0 : Nat) : Int); omega
  | u + 1, pc, d, f, c => by
    by_cases e : pc < n
    · rw [xgo_go e]
      have h := xgo_cost (y := y) (t := t) (B := B) (K := K) (A := A) (n := n) u (xN (K pc) (A pc) pc (xF y B (K pc) (A pc) d f)) (xD y t B (K pc) (A pc) d) (xF y B (K pc) (A pc) d f) (c + sCost (K pc))
      have := sCost_bd (K pc)
      omega
    · rw [xgo_end (by omega)]
      show c ≤ c ∧ c ≤ c + 6 * ((u + 1 : Nat) : Int)
      omega
theorem sSum_bd {c : Nat → Int} : ∀ n : Nat, (∀ i, i < n → 0 ≤ c i ∧ c i ≤ 240) → 1 ≤ sSum c n ∧ sSum c n ≤ 1 + 240 * n
  | 0, _ => by show (1 : Int) ≤ 1 ∧ (1 : Int) ≤ 1 + 240 * ((0 : Nat) : Int); omega
  | n + 1, h => by
    have := sSum_bd n (fun i hi => h i (by omega))
    have := h n (by omega)
    unfold sSum
    omega
/-- a search: what it tells, the year to go on with, what was paid -/
def gG (cs : Nat → Int) (hl : Nat → Bool) : Nat → Int → Nat → Int64 → Int × Nat × Int64
  | 0, _, y, pd => (-1, y, pd)
  | u + 1, l, y, pd => if cs y ≤ l then (if hl y = true then ((y : Int), y + 1, pd + (i3 (cs y)).toInt64) else gG cs hl u (l - cs y) (y + 1) (pd + (i3 (cs y)).toInt64)) else (-2, y, pd)
theorem gG_bd {cs : Nat → Int} {hl : Nat → Bool} : ∀ (u : Nat) (l : Int) (y : Nat) (pd : Int64), y + u ≤ 400 → (gG cs hl u l y pd).2.1 ≤ 400
  | 0, _, y, _, h => by show y ≤ 400; omega
  | u + 1, l, y, pd, h => by
    unfold gG
    split
    · split
      · show y + 1 ≤ 400; omega
      · exact gG_bd u _ _ _ (by omega)
    · show y ≤ 400; omega
section GON
variable {m : Mm} {t N nb : Nat} {F Y E : Nat → Int} {Kc Ac : Nat → Nat → Int} {Lc rk o : Nat → Nat} {R : Nat → Int} {mv : Nat → Bool} {Tx : Nat → List Int} {C C' : Cx}
def cYr (y t : Nat) (F Y E : Nat → Int) (nb : Nat) (Kc Ac : Nat → Nat → Int) (Lc : Nat → Nat) (N : Nat) : Int := sSum (fun f => (sG y t F Y E nb Kc Ac Lc f).2) N
def hYr (y t : Nat) (F Y E : Nat → Int) (nb : Nat) (Kc Ac : Nat → Nat → Int) (Lc : Nat → Nat) (N : Nat) (R : Nat → Int) (mv : Nat → Bool) (C : Cx) : Bool := qgo (sQ y N (sB y t F Y E nb Kc Ac Lc) (sAll N (sLen y) (sB y t F Y E nb Kc Ac Lc) R mv 10)) (fun i => (C.getD i (0, 0)).1) (fun i => (C.getD i (0, 0)).2) C.length C.length 0 false
theorem cYr_bd {y : Nat} (hW : VW N Kc Ac Lc) : 1 ≤ cYr y t F Y E nb Kc Ac Lc N ∧ cYr y t F Y E nb Kc Ac Lc N ≤ 4801 := by
  have h20 := hW.1
  have := sSum_bd (c := fun f => (sG y t F Y E nb Kc Ac Lc f).2) N (fun f hf => by
    have h40 := (hW.2 f hf).1
    have := xgo_cost (y := y) (t := t) (B := sB y t F Y E nb Kc Ac Lc) (K := Kc f) (A := Ac f) (n := Lc f) (Lc f) 0 (-1) false 0
    show 0 ≤ (sG y t F Y E nb Kc Ac Lc f).2 ∧ (sG y t F Y E nb Kc Ac Lc f).2 ≤ 240
    unfold sG
    omega)
  unfold cYr
  omega
theorem c_look (hT : iT m t) (hW : iW N Kc Ac Lc rk o R F Y E nb Tx) (hC : iC m N Kc Ac Lc o R mv F Y E nb Tx) (hQ : Cd m 171 (fun i => (C.getD i (0, 0)).1) (fun i => (C.getD i (0, 0)).2) C.length) (hq : ∀ i, i < C.length → qStep C.length i (C.getD i (0, 0)).1 (C.getD i (0, 0)).2 ∧ qNm N (C.getD i (0, 0)).1 (C.getD i (0, 0)).2) {l0 : Int} (hl0 : 0 ≤ l0 ∧ l0 ≤ 100000) {y0 : Nat} (hy0 : y0 ≤ 400) (h170 : zI m 170 2 = i3 y0)
    {g : Int × Nat × Int64} (hg : gG (fun y => cYr y t F Y E nb Kc Ac Lc N) (fun y => hYr y t F Y E nb Kc Ac Lc N R mv C) (400 - y0) l0 y0 (zL m 170 3) = g) :
    ∃ mF, f_Sol_look (i3 l0) 152 (i3 t) m = some (i3 g.1, mF) ∧ (∀ b j, ¬ (152 ≤ b ∧ b ≤ 157) → (b ≠ 170 ∨ j ≠ 2) → zI mF b j = zI m b j) ∧ zI mF 170 2 = i3 g.2.1 ∧ zL mF 170 3 = g.2.2 ∧ ∀ b j, (b ≠ 170 ∨ j ≠ 3) → zL mF b j = zL m b j := by
  obtain ⟨w1, w2, w3, w4, w5, w6, w7⟩ := hW
  have h20 := w1.1
  have h40 := hQ.1
  rw [e_Sol_look, zLet_eq, h170]
  refine ex_zLp2 (Q := fun X => ∃ mF, X = some (i3 g.1, mF) ∧ (∀ b j, ¬ (152 ≤ b ∧ b ≤ 157) → (b ≠ 170 ∨ j ≠ 2) → zI mF b j = zI m b j) ∧ zI mF 170 2 = i3 g.2.1 ∧ zL mF 170 3 = g.2.2 ∧ ∀ b j, (b ≠ 170 ∨ j ≠ 3) → zL mF b j = zL m b j)
    (fun j x2 x3 mm => ∃ (l : Int) (y : Nat), x2 = i3 l ∧ x3 = i3 y ∧ (0 ≤ l ∧ l ≤ 100000) ∧ y ≤ 400 ∧ j = 400 - y ∧ (∀ b j, ¬ (152 ≤ b ∧ b ≤ 157) → (b ≠ 170 ∨ j ≠ 2) → zI mm b j = zI m b j) ∧ zI mm 170 2 = i3 y ∧ (∀ b j, (b ≠ 170 ∨ j ≠ 3) → zL mm b j = zL m b j) ∧ gG (fun y => cYr y t F Y E nb Kc Ac Lc N) (fun y => hYr y t F Y E nb Kc Ac Lc N R mv C) (400 - y) l y (zL mm 170 3) = g) ?_ zFu (400 - y0) _ _ _ ⟨l0, y0, rfl, rfl, hl0, hy0, rfl, fun _ _ _ _ => rfl, h170, fun _ _ _ => rfl, hg⟩ (by unfold zFu; omega)
  rintro r j x2 x3 mm ⟨l, y, rfl, rfl, hl, hy, rfl, hmm, h2, hL, hgm⟩
  unfold l_Sol_look_0
  rw [show (399 : Int32) = i3 399 from rfl, it_lt ⟨by decide, by decide⟩ ⟨by omega, by omega⟩]
  by_cases e : (399 : Int) < y
  · left
    obtain rfl : y = 400 := by omega
    have : g = (-1, 400, zL mm 170 3) := hgm.symm
    subst this
    rw [if_pos e]
    exact ⟨mm, rfl, hmm, h2, rfl, hL⟩
  · have hy4 : y < 400 := by omega
    have hLn := sLen_bd y
    obtain ⟨u, hu⟩ : ∃ u, 400 - y = u + 1 := ⟨399 - y, by omega⟩
    have hCm : iC mm N Kc Ac Lc o R mv F Y E nb Tx := hC.fc h20 (fun b j q => hmm b j (by have := eC q; omega) (by have := eC q; omega))
    have hcb := cYr_bd (y := y) (t := t) (F := F) (Y := Y) (E := E) (nb := nb) w1
    obtain ⟨m7, e7, hFB, k6, k7, kW, hv7⟩ := boo_reckon (m := mm) (a := 152) (by decide) hy4 hT.1 w1 w2 w5 w6 hCm.1 hCm.2.2.2.1 hCm.2.1 w3
    have hS7 := hFB.sf (Or.inl rfl)
    have hC7 := hCm.fx h20 hS7
    have ec : f_Boo_costOfAll 152 m7 = some (i3 (cYr y t F Y E nb Kc Ac Lc N)) := boo_costs (c := fun f => (sG y t F Y E nb Kc Ac Lc f).2) h20 hC7.1.1 (fun f hf => (hv7 f hf).2)
    have l7 : ∀ b j, zL m7 b j = zL mm b j := fun b j => zL_of hFB.1 b j
    rw [if_neg e, e7, zBV_some, ec, zBP_some, it_le ⟨by omega, by omega⟩ ⟨by omega, by omega⟩]
    rw [hu] at hgm
    unfold gG at hgm
    by_cases cc : cYr y t F Y E nb Kc Ac Lc N ≤ l
    · rw [if_pos cc] at hgm
      rw [if_pos cc, zLet_eq, zLet_eq, zLet_eq]
      generalize hmB : wI (wL m7 170 3 (zL m7 170 3 + (i3 (cYr y t F Y E nb Kc Ac Lc N)).toInt64)) 170 2 (i3 (y : Int) + 1) = mB
      have zB : ∀ b j, (b ≠ 170 ∨ j ≠ 2) → zI mB b j = zI m7 b j := by
        intro b j hb
        rw [← hmB]
        by_cases eb : b = 170
        · subst eb
          rw [zI_nk (by omega)]
          rfl
        · rw [zI_ne eb]
          rfl
      have lB : ∀ b j, zL mB b j = if b = 170 ∧ j = 3 then zL mm 170 3 + (i3 (cYr y t F Y E nb Kc Ac Lc N)).toInt64 else zL mm b j := by
        intro b j
        rw [← hmB]
        show (if b = 170 ∧ j = 3 then zL m7 170 3 + _ else zL m7 b j) = _
        rw [l7, l7]
      have sfB : SF mB mB := SF.refl
      have hCB : iC mB N Kc Ac Lc o R mv F Y E nb Tx := hC7.fc h20 (fun b j q => zB b j (by have := eC q; omega))
      obtain ⟨mP, eP, hF2, hvP, -⟩ := boo_placeAll (m := mB) (a := 152) (R := R) (mv := mv) (L := sLen y) (b := sB y t F Y E nb Kc Ac Lc) (by decide) h20 (by omega) hCB.2.2.1 w4 hCB.1.1 (by rw [zB _ _ (by decide), k7]) (fun f hf => ⟨by rw [zB _ _ (Or.inl (by decide))]; exact (hv7 f hf).1, sB_bd w1 hf⟩)
      have zP : ∀ b j, b ≠ 156 → b ≠ 157 → (b ≠ 170 ∨ j ≠ 2) → zI mP b j = zI m7 b j := fun b j q1 q2 q3 => by rw [hF2.2 b j q1 q2, zB b j q3]
      have zPm : ∀ b j, ¬ (152 ≤ b ∧ b ≤ 157) → (b ≠ 170 ∨ j ≠ 2) → zI mP b j = zI m b j := fun b j q1 q2 => by rw [zP b j (by omega) (by omega) q2, hFB.2.1 b j (by omega), hmm b j q1 q2]
      have hpb : ∀ f, f < N → -1 ≤ sAll N (sLen y) (sB y t F Y E nb Kc Ac Lc) R mv 10 f ∧ sAll N (sLen y) (sB y t F Y E nb Kc Ac Lc) R mv 10 f < sLen y := fun f _ => sAll_bd (by omega) (fun f hf => (sB_bd w1 hf).1) 10 f
      have hQP : Cd mP 171 (fun i => (C.getD i (0, 0)).1) (fun i => (C.getD i (0, 0)).2) C.length := by
        obtain ⟨d1, d2, d3⟩ := hQ
        refine ⟨d1, ?_, fun i hi => ⟨?_, ?_⟩⟩
        · rw [zPm _ _ (by decide) (by decide)]; exact d2
        · rw [zPm _ _ (by decide) (Or.inl (by decide))]; exact (d3 i hi).1
        · rw [zPm _ _ (by decide) (Or.inl (by decide))]; exact (d3 i hi).2
      obtain ⟨mH, eH, hH⟩ := sol_holds (m := mP) (a := 152) (y := y) (t := t) (b := sB y t F Y E nb Kc Ac Lc) (p := sAll N (sLen y) (sB y t F Y E nb Kc Ac Lc) R mv 10) rfl hy4 h20 (by rw [zPm _ _ (by decide) (by decide)]; exact hC.1.1) (by rw [zP _ _ (by decide) (by decide) (by decide)]; exact k6) (fun h0 => by
        have hk := kW h0
        obtain ⟨g0, g1, g2, g3, g4, g5⟩ := hk
        exact ⟨g0, by rw [zP _ _ (by decide) (by decide) (by decide)]; exact g1, by rw [zP _ _ (by decide) (by decide) (by decide)]; exact g2, by rw [zP _ _ (by decide) (by decide) (by decide)]; exact g3, by rw [zP _ _ (by decide) (by decide) (by decide)]; exact g4, by rw [zP _ _ (by decide) (by decide) (by decide)]; exact g5⟩) (fun f hf => ⟨by rw [zP _ _ (by decide) (by decide) (Or.inl (by decide))]; exact (hv7 f hf).1, by have := sB_bd (y := y) (t := t) (F := F) (Y := Y) (E := E) (nb := nb) w1 hf; omega⟩) (fun f hf => ⟨hvP f hf, hpb f hf⟩) hQP hq
      have zH : ∀ b j, ¬ (152 ≤ b ∧ b ≤ 157) → zI mH b j = zI mP b j := by
        intro b j hb
        rcases hH with rfl | ⟨v, rfl⟩
        · rfl
        · exact zI_ne (by omega)
      have lH : ∀ b j, zL mH b j = zL mB b j := by
        intro b j
        have : zL mH b j = zL mP b j := by
          rcases hH with rfl | ⟨v, rfl⟩
          · rfl
          · rfl
        rw [this, zL_of hF2.1]
      have r1 : ∀ b j, ¬ (152 ≤ b ∧ b ≤ 157) → (b ≠ 170 ∨ j ≠ 2) → zI mH b j = zI m b j := fun b j q1 q2 => by rw [zH b j q1, zPm b j q1 q2]
      have r2 : zI mH 170 2 = i3 ((y + 1 : Nat) : Int) := by
        rw [zH _ _ (by decide), hF2.2 _ _ (by decide) (by decide), ← hmB, zI_eq]
        exact i3_add1 _
      have r3 : ∀ b j, (b ≠ 170 ∨ j ≠ 3) → zL mH b j = zL m b j := fun b j q => by rw [lH, lB, if_neg (by omega), hL b j q]
      have r4 : zL mH 170 3 = zL mm 170 3 + (i3 (cYr y t F Y E nb Kc Ac Lc N)).toInt64 := by rw [lH, lB, if_pos ⟨rfl, rfl⟩]
      have eH' : f_Sol_questionHolds 152 mP = some (b3 (hYr y t F Y E nb Kc Ac Lc N R mv C), mH) := eH
      rw [eP, zBV_some, eH', zBI_some]
      cases hh : hYr y t F Y E nb Kc Ac Lc N R mv C with
      | false =>
        right
        rw [hh, if_neg (by decide)] at hgm
        rw [if_pos (show b3 false = 0 by decide), zLet_eq, i3_add1, i3_sub]
        refine ⟨_, _, mH, 400 - (y + 1), by omega, ⟨l - cYr y t F Y E nb Kc Ac Lc N, y + 1, rfl, rfl, by omega, by omega, rfl, r1, r2, r3, ?_⟩, rfl⟩
        rw [show 400 - (y + 1) = u by omega, r4]
        exact hgm
      | true =>
        left
        rw [hh, if_pos rfl] at hgm
        subst hgm
        rw [if_neg (show ¬ b3 true = 0 by decide)]
        exact ⟨mH, rfl, r1, r2, r4, r3⟩
    · left
      rw [if_neg cc] at hgm
      subst hgm
      rw [if_neg cc]
      exact ⟨m7, rfl, fun b j q1 q2 => by rw [hFB.2.1 b j (by omega), hmm b j q1 q2], by rw [hFB.2.1 _ _ (by decide), h2], l7 _ _, fun b j q => by rw [l7, hL b j q]⟩
/-- the reference -/
theorem r_look (hT : iT m t) (hW : iW N Kc Ac Lc rk o R F Y E nb Tx) (hR : iR m N Kc Ac Lc R mv F Y E nb) (hQ : Rq m C') (hP : qP 0 C C') (hq : ∀ q, q ∈ C' → qNm N (q.1 + 20) q.2) {l0 : Int} (hl0 : 0 ≤ l0 ∧ l0 ≤ 100000) {y0 : Nat} (hy0 : y0 ≤ 400) (h38 : zI m 201 38 = i3 y0)
    {g : Int × Nat × Int64} (hg : gG (fun y => cYr y t F Y E nb Kc Ac Lc N) (fun y => hYr y t F Y E nb Kc Ac Lc N R mv C) (400 - y0) l0 y0 (zL m 201 39) = g) :
    ∃ mF, zLp1 l_Mod_goOn_0 zFu (i3 l0) m = some (i3 g.1, mF) ∧ (∀ b j, b ≠ 216 → b ≠ 217 → b ≠ 218 → b ≠ 219 → b ≠ 222 → (b ≠ 201 ∨ j ≠ 38) → zI mF b j = zI m b j) ∧ zI mF 201 38 = i3 g.2.1 ∧ zL mF 201 39 = g.2.2 ∧ ∀ b j, (b ≠ 201 ∨ j ≠ 39) → zL mF b j = zL m b j := by
  obtain ⟨w1, w2, w3, w4, w5, w6, w7⟩ := hW
  have h20 := w1.1
  obtain ⟨p1, p2, p3, p4, p5⟩ := hP
  refine ex_zLp1 (Q := fun X => ∃ mF, X = some (i3 g.1, mF) ∧ (∀ b j, b ≠ 216 → b ≠ 217 → b ≠ 218 → b ≠ 219 → b ≠ 222 → (b ≠ 201 ∨ j ≠ 38) → zI mF b j = zI m b j) ∧ zI mF 201 38 = i3 g.2.1 ∧ zL mF 201 39 = g.2.2 ∧ ∀ b j, (b ≠ 201 ∨ j ≠ 39) → zL mF b j = zL m b j)
    (fun j x7 mm => ∃ (l : Int) (y : Nat), x7 = i3 l ∧ (0 ≤ l ∧ l ≤ 100000) ∧ y ≤ 400 ∧ j = 400 - y ∧ (∀ b j, b ≠ 216 → b ≠ 217 → b ≠ 218 → b ≠ 219 → b ≠ 222 → (b ≠ 201 ∨ j ≠ 38) → zI mm b j = zI m b j) ∧ zI mm 201 38 = i3 y ∧ (∀ b j, (b ≠ 201 ∨ j ≠ 39) → zL mm b j = zL m b j) ∧ gG (fun y => cYr y t F Y E nb Kc Ac Lc N) (fun y => hYr y t F Y E nb Kc Ac Lc N R mv C) (400 - y) l y (zL mm 201 39) = g) ?_ zFu (400 - y0) _ _ ⟨l0, y0, rfl, hl0, hy0, rfl, fun _ _ _ _ _ _ _ _ => rfl, h38, fun _ _ _ => rfl, hg⟩ (by unfold zFu; omega)
  rintro r j x7 mm ⟨l, y, rfl, hl, hy, rfl, hmm, h2, hL, hgm⟩
  have tm : zI mm 201 1 = i3 t := by rw [hmm _ _ (by decide) (by decide) (by decide) (by decide) (by decide) (by decide)]; exact hT.2.2
  unfold l_Mod_goOn_0
  rw [h2, show (400 : Int32) = i3 400 from rfl, it_le ⟨by decide, by decide⟩ ⟨by omega, by omega⟩]
  by_cases e : (400 : Int) ≤ y
  · left
    obtain rfl : y = 400 := by omega
    have : g = (-1, 400, zL mm 201 39) := hgm.symm
    subst this
    rw [if_pos e]
    exact ⟨mm, rfl, hmm, h2, rfl, hL⟩
  · have hy4 : y < 400 := by omega
    have hLn := sLen_bd y
    obtain ⟨u, hu⟩ : ∃ u, 400 - y = u + 1 := ⟨399 - y, by omega⟩
    have hRm : iR mm N Kc Ac Lc R mv F Y E nb := hR.fc (fun b j q => hmm b j (by have := eR q; omega) (by have := eR q; omega) (by have := eR q; omega) (by have := eR q; omega) (by have := eR q; omega) (by have := eR q; omega))
    have hcb := cYr_bd (y := y) (t := t) (F := F) (Y := Y) (E := E) (nb := nb) w1
    obtain ⟨m1, e1, hFF, hv1⟩ := mod_finds (m := mm) hy4 hT.1 w1 w2 w5 hRm.1 hRm.2.2
    have hR1 := hRm.fx hFF.sf
    have ec : f_Mod_costNow m1 = some (i3 (cYr y t F Y E nb Kc Ac Lc N)) := mod_costs (c := fun f => (sG y t F Y E nb Kc Ac Lc f).2) h20 hR1.1.1 (fun f hf => (hv1 f hf).2)
    have l1 : ∀ b j, zL m1 b j = zL mm b j := fun b j => zL_of hFF.1 b j
    have z1 : ∀ b j, b ≠ 216 → b ≠ 217 → b ≠ 218 → zI m1 b j = zI mm b j := hFF.2.1
    rw [if_neg e, tm, e1, zBV_some, ec, zBP_some, it_le ⟨by omega, by omega⟩ ⟨by omega, by omega⟩]
    rw [hu] at hgm
    unfold gG at hgm
    by_cases cc : cYr y t F Y E nb Kc Ac Lc N ≤ l
    · rw [if_pos cc] at hgm
      rw [if_pos cc, zLet_eq, zLet_eq, zLet_eq]
      have z38 : zI (wL m1 201 39 (zL m1 201 39 + (i3 (cYr y t F Y E nb Kc Ac Lc N)).toInt64)) 201 38 = i3 y := by
        show zI m1 201 38 = i3 y
        rw [z1 _ _ (by decide) (by decide) (by decide), h2]
      rw [z38, i3_add1]
      generalize hmB : wI (wL m1 201 39 (zL m1 201 39 + (i3 (cYr y t F Y E nb Kc Ac Lc N)).toInt64)) 201 38 (i3 ((y : Int) + 1)) = mB
      have zB : ∀ b j, (b ≠ 201 ∨ j ≠ 38) → zI mB b j = zI m1 b j := by
        intro b j hb
        rw [← hmB]
        by_cases eb : b = 201
        · subst eb
          rw [zI_nk (by omega)]
          rfl
        · rw [zI_ne eb]
          rfl
      have lB : ∀ b j, zL mB b j = if b = 201 ∧ j = 39 then zL mm 201 39 + (i3 (cYr y t F Y E nb Kc Ac Lc N)).toInt64 else zL mm b j := by
        intro b j
        rw [← hmB]
        show (if b = 201 ∧ j = 39 then zL m1 201 39 + _ else zL m1 b j) = _
        rw [l1, l1]
      have k38 : zI mB 201 38 = i3 ((y : Int) + 1) := by rw [← hmB, zI_eq]
      have hsub : i3 ((y : Int) + 1) - 1 = i3 (y : Int) := by rw [show (1 : Int32) = i3 1 from rfl, i3_sub]; exact congrArg i3 (by omega)
      have hRB : iR mB N Kc Ac Lc R mv F Y E nb := hR1.fc (fun b j q => zB b j (by have := eR q; omega))
      have tB : zI mB 201 1 = i3 t := by rw [zB _ _ (by decide), z1 _ _ (by decide) (by decide) (by decide), tm]
      obtain ⟨mP, eP, hFP, hvP, hpP⟩ := mod_places (m := mB) hy4 hT.1 w1 w2 w5 hRB.1 hRB.2.2 tB hRB.2.1 w4
      have zP : ∀ b j, b ≠ 216 → b ≠ 217 → b ≠ 218 → b ≠ 219 → (b ≠ 201 ∨ j ≠ 38) → zI mP b j = zI mm b j := fun b j q1 q2 q3 q4 q5 => by rw [hFP.2.1 b j q1 q2 q3 q4, zB b j q5, z1 b j q1 q2 q3]
      have hpb : ∀ f, f < N → -1 ≤ sAll N (sLen y) (sB y t F Y E nb Kc Ac Lc) R mv 10 f ∧ sAll N (sLen y) (sB y t F Y E nb Kc Ac Lc) R mv 10 f < sLen y := fun f _ => sAll_bd (by omega) (fun f hf => (sB_bd w1 hf).1) 10 f
      have zPm : ∀ b j, b ≠ 216 → b ≠ 217 → b ≠ 218 → b ≠ 219 → b ≠ 222 → (b ≠ 201 ∨ j ≠ 38) → zI mP b j = zI m b j := fun b j q1 q2 q3 q4 q5 q6 => by rw [zP b j q1 q2 q3 q4 q6, hmm b j q1 q2 q3 q4 q5 q6]
      have hQP : Rq mP C' := by
        obtain ⟨d1, d2, d3⟩ := hQ
        refine ⟨d1, ?_, fun i hi => ⟨?_, ?_⟩⟩
        · rw [zPm _ _ (by decide) (by decide) (by decide) (by decide) (by decide) (by decide)]; exact d2
        · rw [zPm _ _ (by decide) (by decide) (by decide) (by decide) (by decide) (Or.inl (by decide))]; exact (d3 i hi).1
        · rw [zPm _ _ (by decide) (by decide) (by decide) (by decide) (by decide) (Or.inl (by decide))]; exact (d3 i hi).2
      obtain ⟨V, v1, v2⟩ := p5 (sQ y N (sB y t F Y E nb Kc Ac Lc) (sAll N (sLen y) (sB y t F Y E nb Kc Ac Lc) R mv 10))
      have hV : hYr y t F Y E nb Kc Ac Lc N R mv C = V := by
        obtain ⟨u', -, eu⟩ := v1 (fun i => (C.getD i (0, 0)).1) (fun i => (C.getD i (0, 0)).2) C.length C.length false (fun i hi => by rw [Nat.zero_add]; exact ⟨rfl, rfl⟩) (by omega) (Nat.le_refl _)
        unfold hYr
        rw [eu, qgo_end (by omega)]
      obtain ⟨mH, eH, hH⟩ := mod_holds (m := mP) (y := y) (t := t) (b := sB y t F Y E nb Kc Ac Lc) (p := sAll N (sLen y) (sB y t F Y E nb Kc Ac Lc) R mv 10) hy4 hT.1 h20 (by rw [zPm _ _ (by decide) (by decide) (by decide) (by decide) (by decide) (by decide)]; exact hR.1.1) (by rw [zPm _ _ (by decide) (by decide) (by decide) (by decide) (by decide) (by decide)]; exact hT.2.2) (fun f hf => ⟨(hvP f hf).1, by have := sB_bd (y := y) (t := t) (F := F) (Y := Y) (E := E) (nb := nb) w1 hf; omega⟩) (fun f hf => ⟨hpP f hf, hpb f hf⟩) hQP (fun q hq' => ⟨p4 q hq', hq q hq'⟩) (v2 [])
      have eh : f_Mod_holdsFor (i3 (y : Int)) mB = some (b3 (hYr y t F Y E nb Kc Ac Lc N R mv C), mH) := by rw [e_Mod_holdsFor, eP, zBV_some, eH, hV]
      have h38' : zI mH 201 38 = i3 ((y + 1 : Nat) : Int) := by rw [hH.2 _ _ (by decide), hFP.2.1 _ _ (by decide) (by decide) (by decide) (by decide), k38]; rfl
      have lH : ∀ b j, zL mH b j = zL mB b j := fun b j => by rw [zL_of hH.1, zL_of hFP.1]
      have r1 : ∀ b j, b ≠ 216 → b ≠ 217 → b ≠ 218 → b ≠ 219 → b ≠ 222 → (b ≠ 201 ∨ j ≠ 38) → zI mH b j = zI m b j := fun b j q1 q2 q3 q4 q5 q6 => by rw [hH.2 b j q5, zPm b j q1 q2 q3 q4 q5 q6]
      have r3 : ∀ b j, (b ≠ 201 ∨ j ≠ 39) → zL mH b j = zL m b j := fun b j q => by rw [lH, lB, if_neg (by omega), hL b j q]
      have r4 : zL mH 201 39 = zL mm 201 39 + (i3 (cYr y t F Y E nb Kc Ac Lc N)).toInt64 := by rw [lH, lB, if_pos ⟨rfl, rfl⟩]
      rw [k38, hsub, eh, zBI_some]
      cases hh : hYr y t F Y E nb Kc Ac Lc N R mv C with
      | false =>
        right
        rw [hh, if_neg (by decide)] at hgm
        rw [if_pos (show b3 false = 0 by decide), i3_sub]
        refine ⟨_, mH, 400 - (y + 1), by omega, ⟨l - cYr y t F Y E nb Kc Ac Lc N, y + 1, rfl, by omega, by omega, rfl, r1, h38', r3, ?_⟩, rfl⟩
        rw [show 400 - (y + 1) = u by omega, r4]
        exact hgm
      | true =>
        left
        rw [hh, if_pos rfl] at hgm
        subst hgm
        have hs2 : i3 ((y + 1 : Nat) : Int) - 1 = i3 (y : Int) := hsub
        rw [if_neg (show ¬ b3 true = 0 by decide), h38', hs2]
        exact ⟨mH, rfl, r1, h38', r4, r3⟩
    · left
      rw [if_neg cc] at hgm
      subst hgm
      rw [if_neg cc]
      exact ⟨m1, rfl, fun b j q1 q2 q3 q4 q5 q6 => by rw [z1 b j q1 q2 q3, hmm b j q1 q2 q3 q4 q5 q6], by rw [z1 _ _ (by decide) (by decide) (by decide), h2], l1 _ _, fun b j q => by rw [l1, hL b j q]⟩
end GON
section GOO
variable {m : Mm}
theorem b_goOn (hI : Inv m) (p : Int32) : Bo cAS (f_Loo_goOn p m) (f_Mod_goOn p) := by
  obtain ⟨t, T, N, hT, hX, hA, hB, hS⟩ := id hI
  obtain ⟨h19, h25, h20⟩ := hA.n19
  obtain ⟨Kc, Ac, Lc, rk, o, R, mv, F, Y, E, nb, Tx, hW, hC, hR⟩ := id hA
  obtain ⟨l, rfl, hl⟩ := i3_abs (a := p)
  have hm : ∀ m', f_Mod_isIn (i3 l) 1 100000 m' = some (b3 (decide (1 ≤ l ∧ l ≤ 100000))) := fun m' => mod_in (b := 1) (c := 100000) hl ⟨by decide, by decide⟩ ⟨by decide, by decide⟩
  have ecl : f_Loo_goOn (i3 l) m = if l < 1 then some (.inr 0, m) else if l ≤ 100000 then (zBP (f_Sol_isStarted m) fun v4 => if v4 = 0 then some (.inr 1, m) else zBI (f_Sol_look (i3 l) 152 (zI m 16 8) m) fun v7 m6 => some (.inl v7, m6)) else some (.inr 0, m) := by
    unfold f_Loo_goOn
    rw [zLet_eq, show (100000 : Int32) = i3 100000 from rfl, it_le hl ⟨by decide, by decide⟩]
    have : ∀ {α : Type} {x y : α}, (if i3 l < 1 then x else y) = if l < 1 then x else y := fun {α x y} => it_lt (b := 1) hl ⟨by decide, by decide⟩
    rw [this]
  by_cases c1 : 1 ≤ l ∧ l ≤ 100000
  rotate_left
  · refine Bo.thr (e := 0) hI ?_ (by decide) (fun m' hF => ?_)
    · rw [ecl]
      by_cases c2 : l < 1
      · rw [if_pos c2]
      · rw [if_neg c2, if_neg (by omega)]
    · rw [e_Mod_goOn, hm, zBP_some, zLet_eq, decide_eq_false c1, if_pos (show b3 false = 0 by decide)]
      dsimp only
      rw [zLet_eq, w0n (by decide)]
      rfl
  obtain ⟨hpd, b, s1, s2, hQ⟩ := id hS
  have hst : f_Sol_isStarted m = some (b3 b) := by
    unfold f_Sol_isStarted
    rw [s1, if_pos (b3_bo b)]
  rw [if_neg (by omega), if_pos c1.2, hst, zBP_some] at ecl
  cases b with
  | false =>
    refine Bo.thr (e := 1) hI ?_ (by decide) (fun m' hF => ?_)
    · rw [ecl, if_pos (show b3 false = 0 by decide)]
    · have k33 : zI m' 201 33 = b3 false := by rw [hF.1 _ _ (by exact rfl), s2]
      rw [e_Mod_goOn, hm, zBP_some, zLet_eq, decide_eq_true c1, if_neg (show ¬ b3 true = 0 by decide), k33, if_pos (show b3 false = 0 by decide)]
      dsimp only
      rw [zLet_eq, w0n (by decide)]
      rfl
  | true =>
    obtain ⟨y0, C, C', hy0, h170, h38, hCd, hRq, hP, hnC, hnC'⟩ := hQ rfl
    have h40 := hCd.1
    obtain ⟨mF, eF, fF, f170, fL, fO⟩ := c_look (C := C) (l0 := l) hT hW hC hCd (fun i hi => ⟨by
      have := hP.2.2.1 C.length (by omega) i hi
      rw [Nat.zero_add] at this
      exact this, hnC i hi⟩) ⟨by omega, c1.2⟩ hy0 h170 rfl
    have hbd := gG_bd (cs := fun y => cYr y t F Y E nb Kc Ac Lc N) (hl := fun y => hYr y t F Y E nb Kc Ac Lc N R mv C) (400 - y0) l y0 (zL m 170 3) (by omega)
    rw [if_neg (show ¬ b3 true = 0 by decide), hT.2.1, eF, zBI_some] at ecl
    refine ⟨_, mF, ecl, fun m' hE => ?_⟩
    have nF : ∀ b j, ¬ (152 ≤ b ∧ b ≤ 157) → (b ≠ 170 ∨ j ≠ 2) → zI m' b j = zI m b j := fun b j q1 q2 => by rw [hE.zI, fF b j q1 q2]
    have n0 : ∀ b j, ¬ (152 ≤ b ∧ b ≤ 157) → (b ≠ 170 ∨ j ≠ 2) → (b ≠ 201 ∨ j ≠ 0) → zI (wI m' 201 0 0) b j = zI m b j := fun b j q1 q2 q3 => by rw [w0_ne b j q3, nF b j q1 q2]
    have hT0 : iT (wI m' 201 0 0) t := hT.fc (fun b j q => n0 b j (by have := eT q; omega) (by have := eT q; omega) (by have := eT q; omega))
    have hR0 : iR (wI m' 201 0 0) N Kc Ac Lc R mv F Y E nb := hR.fc (fun b j q => n0 b j (by have := eR q; omega) (by have := eR q; omega) (by have := eR q; omega))
    have hRq0 : Rq (wI m' 201 0 0) C' := by
      obtain ⟨d1, d2, d3⟩ := hRq
      refine ⟨d1, ?_, fun i hi => ⟨?_, ?_⟩⟩
      · rw [n0 _ _ (by decide) (by decide) (by decide)]; exact d2
      · rw [n0 _ _ (by decide) (Or.inl (by decide)) (Or.inl (by decide))]; exact (d3 i hi).1
      · rw [n0 _ _ (by decide) (Or.inl (by decide)) (Or.inl (by decide))]; exact (d3 i hi).2
    have l39 : zL (wI m' 201 0 0) 201 39 = zL m 170 3 := by
      show zL m' 201 39 = zL m 170 3
      rw [hE.2 _ _ (by decide), fO _ _ (by decide), hpd]
    obtain ⟨mG, eG, gG1, g38, gL, gO⟩ := r_look (C := C) (l0 := l) (y0 := y0) hT0 hW hR0 hRq0 hP hnC' ⟨by omega, c1.2⟩ hy0 (by rw [n0 _ _ (by decide) (by decide) (by decide)]; exact h38) rfl
    rw [l39] at eG g38 gL
    have nG : ∀ b j, ¬ (152 ≤ b ∧ b ≤ 157) → (b ≠ 170 ∨ j ≠ 2) → b ≠ 216 → b ≠ 217 → b ≠ 218 → b ≠ 219 → b ≠ 222 → (b ≠ 201 ∨ (j ≠ 0 ∧ j ≠ 38)) → zI mG b j = zI m b j := fun b j q1 q2 q3 q4 q5 q6 q7 q8 => by rw [gG1 b j q3 q4 q5 q6 q7 (by omega), n0 b j q1 q2 (by omega)]
    have lG : ∀ b j, b ≠ 229 → (b ≠ 170 ∨ j ≠ 3) → (b ≠ 201 ∨ j ≠ 39) → zL mG b j = zL m b j := fun b j q1 q2 q3 => by
      rw [gO b j q3]
      show zL m' b j = zL m b j
      rw [hE.2 b j q1, fO b j q2]
    have g170 : ∀ j, zI mG 170 j = zI mF 170 j := fun j => by rw [gG1 _ _ (by decide) (by decide) (by decide) (by decide) (by decide) (Or.inl (by decide)), w0_ne _ _ (Or.inl (by decide)), hE.zI]
    have gL170 : zL mG 170 3 = zL mF 170 3 := by
      rw [gO _ _ (by decide)]
      show zL m' 170 3 = _
      rw [hE.2 _ _ (by decide)]
    have k33 : zI m' 201 33 = b3 true := by rw [nF _ _ (by decide) (by decide), s2]
    have sc : ∀ c : Nat → Nat → Bool, (∀ b j, c b j = true → ¬ (152 ≤ b ∧ b ≤ 157) ∧ (b ≠ 170 ∨ j ≠ 2) ∧ b ≠ 216 ∧ b ≠ 217 ∧ b ≠ 218 ∧ b ≠ 219 ∧ b ≠ 222 ∧ (b ≠ 201 ∨ (j ≠ 0 ∧ j ≠ 38))) → SFc c m mG := fun c h b j q => by
      obtain ⟨q1, q2, q3, q4, q5, q6, q7, q8⟩ := h b j q
      exact nG b j q1 q2 q3 q4 q5 q6 q7 q8
    refine ⟨_, mG, ?_, ⟨t, T, N, hT.fc (sc cT (fun b j q => by have := eT q; omega)), hX.fc (sc cX (fun b j q => by have := cX_s b j q; rw [Sc.iff] at this; by_cases e : b = 170 ∨ (b = 201 ∧ j = 38); exfalso; rcases e with rfl | ⟨rfl, rfl⟩; exact nomatch q; exact nomatch q; omega)), ⟨Kc, Ac, Lc, rk, o, R, mv, F, Y, E, nb, Tx, hW, hC.fc h20 (sc cC (fun b j q => by have := eC q; omega)), hR.fc (sc cR (fun b j q => by have := eR q; omega))⟩, hB.fc (sc cB (fun b j q => by have := eB q; omega)), ?_, true, ?_, ?_, fun _ => ⟨_, C, C', hbd, ?_, g38, ?_, ?_, hP, hnC, hnC'⟩⟩, fun j => ?_, ?_, rfl⟩
    · rw [e_Mod_goOn, hm, zBP_some, zLet_eq, decide_eq_true c1, if_neg (show ¬ b3 true = 0 by decide), k33, if_neg (show ¬ b3 true = 0 by decide)]
      dsimp only
      rw [zLet_eq, w00]
      exact eG
    · rw [gL170, fL, gL]
    · rw [g170, fF _ _ (by decide) (by decide), s1]
    · rw [nG _ _ (by decide) (by decide) (by decide) (by decide) (by decide) (by decide) (by decide) (by decide), s2]
    · rw [g170, f170]
    · obtain ⟨d1, d2, d3⟩ := hCd
      refine ⟨d1, ?_, fun i hi => ⟨?_, ?_⟩⟩
      · rw [nG _ _ (by decide) (by decide) (by decide) (by decide) (by decide) (by decide) (by decide) (by decide)]; exact d2
      · rw [nG _ _ (by decide) (Or.inl (by decide)) (by decide) (by decide) (by decide) (by decide) (by decide) (Or.inl (by decide))]; exact (d3 i hi).1
      · rw [nG _ _ (by decide) (Or.inl (by decide)) (by decide) (by decide) (by decide) (by decide) (by decide) (Or.inl (by decide))]; exact (d3 i hi).2
    · obtain ⟨d1, d2, d3⟩ := hRq
      refine ⟨d1, ?_, fun i hi => ⟨?_, ?_⟩⟩
      · rw [nG _ _ (by decide) (by decide) (by decide) (by decide) (by decide) (by decide) (by decide) (by decide)]; exact d2
      · rw [nG _ _ (by decide) (Or.inl (by decide)) (by decide) (by decide) (by decide) (by decide) (by decide) (Or.inl (by decide))]; exact (d3 i hi).1
      · rw [nG _ _ (by decide) (Or.inl (by decide)) (by decide) (by decide) (by decide) (by decide) (by decide) (Or.inl (by decide))]; exact (d3 i hi).2
    · rw [gO _ _ (Or.inl (by decide))]
      rfl
    · rw [gG1 _ _ (by decide) (by decide) (by decide) (by decide) (by decide) (by decide), zI_eq]
end GOO
