/-! THE LAW'S TURNS: the search goes on -/
theorem i64_add {a c : Int} (ha : 0 ≤ a ∧ a < 1000000000) (hc : 0 ≤ c ∧ c < 1000000000) : (i3 a).toInt64 + (i3 c).toInt64 = (i3 (a + c)).toInt64 := by
  apply Int64.toInt_inj.mp
  rw [Int64.toInt_add, Int32.toInt_toInt64, Int32.toInt_toInt64, Int32.toInt_toInt64, i3_ti ⟨by omega, by omega⟩, i3_ti ⟨by omega, by omega⟩, i3_ti ⟨by omega, by omega⟩]
  exact Int.bmod_eq_of_le (by omega) (by omega)
def kc_go (x35 : Int32) (j23 : Int32 → Mm → Option (Int32 × Mm)) (v16 : Int32) : Int32 → Mm → Option (Int32 × Mm) :=
  fun x41 m42 =>
    zBI (n_Loo_goOn x35 m42) fun v45 m44 =>
    if v45 = x41 then
      zBP (f_Loo_spent m44) fun v47 =>
      if zIn 5 6 then
        if (lg_cmp v47 ((zI m44 204 (zIx 5)).toInt64)) = 0 then
          j23 v16 m44
        else
          some (0, m44)
      else none
    else
      some (0, m44)
theorem e_l2 (x35 : Int32) (j23 : Int32 → Mm → Option (Int32 × Mm)) (v16 : Int32) (r37 : Int32 → Mm → Option (Int32 × Mm)) (x36 : Int32) (m38 : Mm) : l_Law_law_2 x35 j23 v16 r37 x36 m38 =
    if zIn 4 6 then
      if (zI m38 204 (zIx 4)) = 400 then
        kc_go x35 j23 v16 (-1) m38
      else
        zLet (zNt m38 (207 + 0)) fun m50 =>
        zLet (zNt m50 (207 + 1)) fun m52 =>
        zLet (zNt m52 (207 + 2)) fun m54 =>
        if zIn 4 6 then
          if zIn 2 6 then
            zBV (f_Law_bents (zI m54 204 (zIx 4)) (zI m54 204 (zIx 2)) 0 1 m54) fun m56 =>
            zLq2 (l_Law_law_1 m56 x36 (kc_go x35 j23 v16) r37) zFu 1 0
          else none
        else none
    else none := by
  unfold l_Law_law_2 kc_go
  rw [zLet_q, if_pos rfl]
/-- the law's cells that its own search leaves -/
def FG (m M : Mm) : Prop := (∀ b j, b < 204 ∨ b = 205 ∨ b = 206 ∨ (b = 204 ∧ j < 4) → zI M b j = zI m b j) ∧ M.2 = m.2
theorem FG.refl {m : Mm} : FG m m := ⟨fun _ _ _ => rfl, rfl⟩
theorem FG.trans {m m' m'' : Mm} (h : FG m m') (h2 : FG m' m'') : FG m m'' := ⟨fun b j hb => (h2.1 b j hb).trans (h.1 b j hb), h2.2.trans h.2⟩
theorem FG.fz {m M : Mm} (h : FG m M) : Fz 5 6 m M := ⟨fun b j a1 a2 a3 => h.1 b j (by
  by_cases e : 207 ≤ b
  · exact absurd (zone_T e) a3
  · by_cases e4 : b = 204 ∧ 4 ≤ j
    · obtain ⟨rfl, e5⟩ := e4
      by_cases e6 : j = 4 ∨ j = 5
      · refine absurd ?_ a2
        rcases e6 with rfl | rfl
        · rfl
        · rfl
      · refine absurd ?_ a1
        unfold zone
        rw [if_neg (by omega), if_neg (by omega), if_neg (by omega), if_neg (by omega), if_neg (by omega), if_neg (by omega)]
    · omega), zL_of h.2 _ _⟩
section TRS
variable {m M : Mm} {N nb nR t y u u' : Nat} {fr : Nat → Nat → Int} {Rv F Y E PR RE BE : Nat → Int} {sp sp' b q0 x : Int} {g h : Nat → Int}
theorem g_end (hT : StT m t) (hA : StA m N fr Rv nb F Y E) (hB : StB m nR PR RE BE) (hX : kX m []) (hG : StG m N u q0 g h) (hM : FG m M) (h4 : zI M 204 4 = i3 u') (h5 : zI M 204 5 = i3 sp') {l : Nat} (hl : 1 ≤ l ∧ l ≤ 200)
    (hr : gG (fun y => cYr y t F Y E nb (lK fr) (lA fr) (lL fr) N) (fun y => hYr y t F Y E nb (lK fr) (lA fr) (lL fr) N (rR Rv) (rM Rv) (lQ q0 g h)) (400 - u) l u (zL m 170 3) = (x, u', (i3 sp').toInt64)) (hu : u' ≤ 400) (hs : 0 ≤ sp' ∧ sp' ≤ b) (j23 : Int32 → Mm → Option (Int32 × Mm)) (v16 : Int32) :
    ∃ m', TI m' N b ∧ kc_go (i3 l) j23 v16 (i3 x) M = j23 v16 m' := by
  have hF := hM.fz
  obtain ⟨a1, a2, a3, a4, a5, a6, a7, a8, a9, a10, a11⟩ := hG
  have hT1 := hT.fz hF ⟨by decide, by decide⟩
  have hA1 := hA.fz hF ⟨by decide, by decide⟩
  have hB1 := hB.fz hF ⟨by decide, by decide⟩
  have hX1 := hX.fz hF ⟨by decide, by decide⟩
  have hcd : Cd M 171 (kK (lQ q0 g h)) (kA (lQ q0 g h)) (lQ q0 g h).length := by
    obtain ⟨d1, d2, d3⟩ := a5
    exact ⟨d1, by rw [hM.1 _ _ (by omega)]; exact d2, fun i hi => ⟨by rw [hM.1 _ _ (by omega)]; exact (d3 i hi).1, by rw [hM.1 _ _ (by omega)]; exact (d3 i hi).2⟩⟩
  obtain ⟨m1, e1, f1, l1, s1, s2⟩ := k_goOn hT1.1 hA.1.1 hA1.2.2 a10 a11 (by rw [hM.1 _ _ (by decide)]; exact a3) a1 (by rw [hM.1 _ _ (by decide)]; exact a4) hcd (l := (l : Int)) ⟨by omega, by omega⟩ (r := (x, u', (i3 sp').toInt64)) (by rw [hF.2]; exact hr)
  have hF2 : Fz 5 0 M (m1.1, M.2) := ⟨fun b j c1 c2 c3 => f1 b j c1 (by
    by_cases e : b = 170 ∧ j = 2
    · exact absurd (by rw [e.1, e.2]; rfl) c2
    · omega), rfl⟩
  have kT2 := hT1.fz hF2 ⟨by decide, by decide⟩
  have hT2 : StT m1 t := kT2
  have kA2 := hA1.fz hF2 ⟨by decide, by decide⟩
  have hA2 : StA m1 N fr Rv nb F Y E := kA2
  have kB2 := hB1.fz hF2 ⟨by decide, by decide⟩
  have hB2 : StB m1 nR PR RE BE := kB2
  have kX2 := hX1.fz hF2 ⟨by decide, by decide⟩
  have hX2 : kX m1 [] := kX2
  have za : ∀ b j, b = 171 ∨ b = 172 ∨ b = 173 → zI m1 b j = zI M b j := fun b j hb => f1 b j (by
    rcases hb with rfl | rfl | rfl <;> exact (by decide : (5 : Nat) ≠ 0)) (by omega)
  have h5' : zI m1 204 5 = i3 sp' := by rw [l1 _ _ (by decide), h5]
  refine ⟨m1, ⟨t, fr, Rv, nb, F, Y, E, nR, PR, RE, BE, sp', hT2, hA2, hB2, hX2, ⟨hs.1, h5', s2, Or.inr ⟨u', q0, g, h, hu, by rw [l1 _ _ (by decide), h4], by rw [f1 170 1 (by decide) (by decide), hM.1 _ _ (by decide)]; exact a3, s1, ⟨hcd.1, by rw [za _ _ (by decide)]; exact hcd.2.1, fun i hi => ⟨by rw [za _ _ (by decide)]; exact (hcd.2.2 i hi).1, by rw [za _ _ (by decide)]; exact (hcd.2.2 i hi).2⟩⟩, by rw [l1 _ _ (by decide), hM.1 _ _ (by decide)]; exact a6, a7, fun j hj => by rw [l1 _ _ (by decide), hM.1 _ _ (Or.inr (Or.inl rfl))]; exact a8 j hj, fun j hj => by rw [l1 _ _ (by decide), hM.1 _ _ (Or.inr (Or.inl rfl))]; exact a9 j hj, a10, a11⟩⟩, hs.2⟩, ?_⟩
  unfold kc_go
  rw [e1, zBI_some, if_pos rfl, k_spent, zBP_some, if_pos z56.1, z56.2, h5', s2, if_pos ((lg_cmp_eq _ _).mpr rfl)]
theorem l1_join {α : Type} {X0 X1 : α} {q0 : Int} (h : 0 ≤ q0 ∧ q0 ≤ 2) (A B : Bool) : (if i3 q0 ≤ 0 then (if i3 q0 = 1 then if b3 A = 0 then X0 else if (0 : Int32) = 0 then X0 else X1 else if b3 A = 0 then if (0 : Int32) = 0 then X0 else X1 else X1) else if b3 B = 0 then (if i3 q0 = 1 then if b3 A = 0 then X0 else if (0 : Int32) = 0 then X0 else X1 else if b3 A = 0 then if (0 : Int32) = 0 then X0 else X1 else X1) else (if i3 q0 = 1 then if b3 A = 0 then X0 else if (1 : Int32) = 0 then X0 else X1 else if b3 A = 0 then if (1 : Int32) = 0 then X0 else X1 else X1)) = if (if q0 = 0 then A else if q0 = 1 then (A && B) else (A || B)) = true then X1 else X0 := by
  obtain rfl | rfl | rfl : q0 = 0 ∨ q0 = 1 ∨ q0 = 2 := by omega
  · cases A <;> cases B <;> rfl
  · cases A <;> cases B <;> rfl
  · cases A <;> cases B <;> rfl
end TRS
