/-! THE LAW HOLDS -/
section TRV
variable {m : Mm} {N : Nat} {b b' : Int}
theorem TR.mono {X : Option (Int32 × Mm)} {j19 : Mm → Option (Int32 × Mm)} {j23 : Int32 → Mm → Option (Int32 × Mm)} (h : TR X j19 j23 N b) (hb : b ≤ b') : TR X j19 j23 N b' := by
  obtain ⟨m', N', h1, h2, h3, h4⟩ := h
  exact ⟨m', N', h1, h2, h3.mono hb, h4⟩
theorem TI.init (hz : ∀ b j, zI m b j = 0) (hl : ∀ b j, zL m b j = 0) : TI (wI m 204 4 (-1)) 0 0 := by
  have no : ∀ {p : Prop} {i : Nat}, i < 0 → p := fun {p i} h => absurd h (Nat.not_lt_zero i)
  have hF : Fz 5 0 m (wI m 204 4 (-1)) := Fz.w (Or.inr (Or.inl rfl))
  have hT : StT m 0 := ⟨⟨by decide, hz _ _⟩, hz _ _⟩
  have hC : CM m 0 (fun _ _ => 0) (fun _ => 0) 0 (fun _ => 0) (fun _ => 0) (fun _ => 0) := ⟨fun _ => 0, fun _ => [], ⟨⟨by decide, fun f hf => no hf⟩, fun f hf => no hf, ⟨fun i hi => no hi, fun f hf => no hf, fun i hi => no hi⟩, fun f hf => no hf, ⟨by decide, fun i hi => no hi⟩, fun i j hi => no hi, fun f hf => no hf⟩, ⟨⟨hz _ _, fun f hf => no hf⟩, fun i hi => no hi, fun f hf => no hf, ⟨hz _ _, fun i hi => no hi⟩, fun f hf => no hf, fun f hf => no hf⟩⟩
  have hA : StA m 0 (fun _ _ => 0) (fun _ => 0) 0 (fun _ => 0) (fun _ => 0) (fun _ => 0) := ⟨⟨by decide, by decide, fun f hf => no hf, fun f hf => no hf, ⟨by decide, fun i hi => no hi⟩, fun i j hi => no hi, fun f hf => no hf⟩, ⟨⟨hz _ _, fun f hf => no hf⟩, ⟨hz _ _, fun f hf => no hf⟩, fun f hf => no hf⟩, hC⟩
  have hB : StB m 0 (fun _ => 0) (fun _ => 0) (fun _ => 0) := ⟨by decide, ⟨⟨by decide, fun k hk => no hk⟩, fun p _ => (show (0 : Int) ≤ 0 ∧ (0 : Int) ≤ 6 by decide), ⟨hz _ _, fun k hk => no hk⟩, fun p _ => hz _ _⟩, hz _ _, fun p _ => hz _ _, fun k hk => no hk⟩
  have hX : kX m [] := by
    refine ⟨⟨by decide, hz _ _, fun i hi => no hi, fun c hc => absurd hc List.not_mem_nil⟩, fun i _ => ?_, ⟨0, hz _ _⟩⟩
    rw [hz]
    decide
  refine ⟨0, _, _, 0, _, _, _, 0, _, _, _, 0, hT.fz hF ⟨by decide, by decide⟩, hA.fz hF ⟨by decide, by decide⟩, hB.fz hF ⟨by decide, by decide⟩, hX.fz hF ⟨by decide, by decide⟩, ⟨Int.le_refl _, ?_, ?_, Or.inl ⟨zI_eq, ?_⟩⟩, Int.le_refl _⟩
  · rw [zI_nk (by decide), hz]
    rfl
  · rw [hF.2, hl]
    rfl
  · rw [zI_ne (by decide), hz]
theorem law_cell (ω : Wd) (hL : oL ω ≤ 260) {k : Nat} (hk : k < 1000) (m : Mm) : ∃ v, f_Law_cell ω (i3 k) m = some v := by
  unfold f_Law_cell
  rw [i3_ofNat, it_le ⟨by omega, by omega⟩ ⟨by omega, by omega⟩]
  by_cases c : (oL ω : Int) ≤ k
  · rw [if_pos c]
    exact ⟨_, rfl⟩
  · obtain ⟨i1, x1⟩ := in_n (k := k) (n := oL ω) (by omega) (by omega)
    rw [if_neg c, if_pos i1]
    exact ⟨_, rfl⟩
theorem kd_disp {α : Type} {X5 X8 X9 X10 X13 X12 X67 XF : α} : ∀ kd : Nat, kd < 14 → (if 5 ≤ i3 (kd : Int) then if i3 (kd : Int) = 5 then X5 else if 8 ≤ i3 (kd : Int) then if i3 (kd : Int) = 8 then X8 else if i3 (kd : Int) = 9 then X9 else if i3 (kd : Int) = 10 then X10 else if 13 ≤ i3 (kd : Int) then X13 else X12 else X67 else XF) = if kd < 5 then XF else if kd = 5 then X5 else if kd < 8 then X67 else if kd = 8 then X8 else if kd = 9 then X9 else if kd = 10 then X10 else if kd = 13 then X13 else X12
  | 0, _ => rfl
  | 1, _ => rfl
  | 2, _ => rfl
  | 3, _ => rfl
  | 4, _ => rfl
  | 5, _ => rfl
  | 6, _ => rfl
  | 7, _ => rfl
  | 8, _ => rfl
  | 9, _ => rfl
  | 10, _ => rfl
  | 11, _ => rfl
  | 12, _ => rfl
  | 13, _ => rfl
  | k + 14, h => absurd h (by omega)
theorem turn (hI : TI m N b) (hbb : b ≤ 1000000) {kd : Nat} (hk : kd < 14) (h0 : 1 ≤ N ∨ kd = 0) {f y : Nat} (hf : f < N ∨ N = 0) (hy : y < 400) (v7 v8 v9 : Int32) (j19 : Mm → Option (Int32 × Mm)) (j23 : Int32 → Mm → Option (Int32 × Mm)) : TR (if 5 ≤ i3 (kd : Int) then if i3 (kd : Int) = 5 then kc_5 v8 (i3 f) (i3 y) m j23 else if 8 ≤ i3 (kd : Int) then if i3 (kd : Int) = 8 then kc_8 v8 (i3 f) (i3 y) m j19 j23 else if i3 (kd : Int) = 9 then kc_9 v8 (i3 y) m j23 else if i3 (kd : Int) = 10 then kc_10 v8 (i3 y) m j23 else if 13 ≤ i3 (kd : Int) then kc_13 v8 (i3 y) m j23 else kc_12 v7 v8 v9 (i3 y) m j23 else kc_67 v7 v8 (i3 f) (i3 y) m j19 j23 else kc_F v7 v8 v9 (i3 f) (i3 y) m j19 j23) j19 j23 N (b + 200) := by
  rw [kd_disp kd hk]
  by_cases c1 : kd < 5
  · rw [if_pos c1]
    exact (turn_F hI hf hy v7 v8 v9 j19 j23).mono (by omega)
  have hN : 1 ≤ N := by omega
  have hf' : f < N := by omega
  rw [if_neg c1]
  by_cases c2 : kd = 5
  · rw [if_pos c2]
    exact (turn_5 hI hN hf' hy v8 j19 j23).mono (by omega)
  rw [if_neg c2]
  by_cases c3 : kd < 8
  · rw [if_pos c3]
    exact (turn_67 hI hN hf' hy v7 v8 j19 j23).mono (by omega)
  rw [if_neg c3]
  by_cases c4 : kd = 8
  · rw [if_pos c4]
    exact (turn_8 hI hN hf' hy v8 j19 j23).mono (by omega)
  rw [if_neg c4]
  by_cases c5 : kd = 9
  · rw [if_pos c5]
    exact (turn_9 hI hN hy v8 j19 j23).mono (by omega)
  rw [if_neg c5]
  by_cases c6 : kd = 10
  · rw [if_pos c6]
    exact (turn_10 hI hN hy v8 j19 j23).mono (by omega)
  rw [if_neg c6]
  by_cases c7 : kd = 13
  · rw [if_pos c7]
    exact turn_13 hI hN hbb hy v8 j19 j23
  · rw [if_neg c7]
    exact (turn_12 hI hN hy v7 v8 v9 j19 j23).mono (by omega)
theorem law_end (ω : Wd) (hL : oL ω ≤ 260) {m1 : Mm} (h : TI m1 0 0) : ∃ mE, zLp1 (l_Law_law_6 ω) 30 0 m1 = some (1, mE) := by
  refine ex_zLp1 (Q := fun X => ∃ mE, X = some (1, mE)) (fun j x MM => ∃ i N : Nat, i ≤ 28 ∧ j = 28 - i ∧ x = i3 i ∧ (1 ≤ N ∨ i = 0) ∧ TI MM N (200 * i)) ?_ 30 28 _ _ ⟨0, 0, by decide, rfl, rfl, Or.inr rfl, h.mono (by decide)⟩ (by decide)
  rintro r j _ MM ⟨i, N, hi, rfl, rfl, hN, hI⟩
  by_cases e : i = 28
  · left
    rw [e, e_turn, if_pos (by decide)]
    exact ⟨_, rfl⟩
  right
  obtain ⟨v7, e7⟩ := law_cell ω hL (k := 3 * i) (by omega) MM
  obtain ⟨v8, e8⟩ := law_cell ω hL (k := 3 * i + 1) (by omega) MM
  obtain ⟨v9, e9⟩ := law_cell ω hL (k := 3 * i + 2) (by omega) MM
  have hN0 : zI MM 204 0 = i3 N := by
    obtain ⟨t, fr, Rv, nb, F, Y, E, nR, PR, RE, BE, sp, hT, hA, -⟩ := hI
    exact hA.2.1.1.1
  have hN10 : N ≤ 10 := by
    obtain ⟨t, fr, Rv, nb, F, Y, E, nR, PR, RE, BE, sp, hT, hA, -⟩ := hI
    exact hA.1.1
  obtain ⟨kd, hk, hk2, K1⟩ : ∃ kd : Nat, kd < 14 ∧ (i < 2 → kd = 0) ∧ ∀ K : Int32 → Option (Int32 × Mm), (zLet K fun j12 => if 2 ≤ i3 (i : Int) then zBP (f_Law_low v7 14 MM) fun v304 => j12 v304 else j12 0) = K (i3 kd) := by
    by_cases c : 2 ≤ i
    · obtain ⟨k, hk, e1⟩ : ∃ v : Nat, v < 14 ∧ f_Law_low v7 14 MM = some (i3 v) := law_low v7 (n := 14) (by decide) MM
      refine ⟨k, hk, fun z => by omega, fun K => ?_⟩
      rw [zLet_q, show (2 : Int32) = i3 2 from rfl, it_le ⟨by decide, by decide⟩ ⟨by omega, by omega⟩, if_pos (by omega), e1, zBP_some]
    · refine ⟨0, by decide, fun _ => rfl, fun K => ?_⟩
      rw [zLet_q, show (2 : Int32) = i3 2 from rfl, it_le ⟨by decide, by decide⟩ ⟨by omega, by omega⟩, if_neg (by omega)]
      rfl
  obtain ⟨f, hf, K2⟩ : ∃ f : Nat, (f < N ∨ N = 0) ∧ ∀ K : Int32 → Option (Int32 × Mm), (zLet K fun j15 => if i3 (N : Int) = 0 then j15 0 else if zIn 0 6 then zBP (f_Law_low (v7 >>> (5 &&& 31)) (i3 N) MM) fun v303 => j15 v303 else none) = K (i3 f) := by
    by_cases c : N = 0
    · refine ⟨0, Or.inr c, fun K => ?_⟩
      rw [zLet_q, it_e0 ⟨by omega, by omega⟩, if_pos (by omega)]
      rfl
    · obtain ⟨f, hf, e1⟩ := law_low (v7 >>> (5 &&& 31)) (n := N) (by omega) MM
      refine ⟨f, Or.inl hf, fun K => ?_⟩
      rw [zLet_q, it_e0 ⟨by omega, by omega⟩, if_neg (by omega), if_pos z06.1, e1, zBP_some]
  obtain ⟨y, hy, e16⟩ : ∃ v : Nat, v < 400 ∧ f_Law_low (v9 >>> (3 &&& 31)) 400 MM = some (i3 v) := law_low _ (n := 400) (by decide) MM
  obtain ⟨m', N', p1, p2, p3, p4⟩ := turn hI (by omega) hk (by omega) hf hy v7 v8 v9 (fun m18 => r (i3 ((i + 1 : Nat) : Int)) m18) (fun x21 m22 => zBI (f_Law_year x21 m22) fun v25 m24 => if v25 = 0 then some (0, m24) else r (i3 ((i + 1 : Nat) : Int)) m24)
  have hne : ¬ (28 : Int32) ≤ i3 (i : Int) := by
    rw [show (28 : Int32) = i3 28 from rfl, i3_le ⟨by decide, by decide⟩ ⟨by omega, by omega⟩]
    omega
  have hX : ∀ X, (if 5 ≤ i3 (kd : Int) then if i3 (kd : Int) = 5 then kc_5 v8 (i3 f) (i3 y) MM (fun x21 m22 => zBI (f_Law_year x21 m22) fun v25 m24 => if v25 = 0 then some (0, m24) else r (i3 ((i + 1 : Nat) : Int)) m24) else if 8 ≤ i3 (kd : Int) then if i3 (kd : Int) = 8 then kc_8 v8 (i3 f) (i3 y) MM (fun m18 => r (i3 ((i + 1 : Nat) : Int)) m18) (fun x21 m22 => zBI (f_Law_year x21 m22) fun v25 m24 => if v25 = 0 then some (0, m24) else r (i3 ((i + 1 : Nat) : Int)) m24) else if i3 (kd : Int) = 9 then kc_9 v8 (i3 y) MM (fun x21 m22 => zBI (f_Law_year x21 m22) fun v25 m24 => if v25 = 0 then some (0, m24) else r (i3 ((i + 1 : Nat) : Int)) m24) else if i3 (kd : Int) = 10 then kc_10 v8 (i3 y) MM (fun x21 m22 => zBI (f_Law_year x21 m22) fun v25 m24 => if v25 = 0 then some (0, m24) else r (i3 ((i + 1 : Nat) : Int)) m24) else if 13 ≤ i3 (kd : Int) then kc_13 v8 (i3 y) MM (fun x21 m22 => zBI (f_Law_year x21 m22) fun v25 m24 => if v25 = 0 then some (0, m24) else r (i3 ((i + 1 : Nat) : Int)) m24) else kc_12 v7 v8 v9 (i3 y) MM (fun x21 m22 => zBI (f_Law_year x21 m22) fun v25 m24 => if v25 = 0 then some (0, m24) else r (i3 ((i + 1 : Nat) : Int)) m24) else kc_67 v7 v8 (i3 f) (i3 y) MM (fun m18 => r (i3 ((i + 1 : Nat) : Int)) m18) (fun x21 m22 => zBI (f_Law_year x21 m22) fun v25 m24 => if v25 = 0 then some (0, m24) else r (i3 ((i + 1 : Nat) : Int)) m24) else kc_F v7 v8 v9 (i3 f) (i3 y) MM (fun m18 => r (i3 ((i + 1 : Nat) : Int)) m18) (fun x21 m22 => zBI (f_Law_year x21 m22) fun v25 m24 => if v25 = 0 then some (0, m24) else r (i3 ((i + 1 : Nat) : Int)) m24)) = X → l_Law_law_6 ω r (i3 i) MM = X := fun X hX => by
    rw [← hX, e_turn, if_neg hne, m3_i, ad1, ad1, ad2, e7, zBP_some, e8, zBP_some, e9, zBP_some, K1, if_pos z06.1, z06.2, hN0, K2, e16, zBP_some]
    rfl
  have hTI : TI m' N' (200 * ((i + 1 : Nat) : Int)) := p3.mono (by omega)
  rcases p4 with e1 | ⟨yy, hyy, e1⟩
  · exact ⟨i3 ((i + 1 : Nat) : Int), m', 28 - (i + 1), by omega, ⟨i + 1, N', by omega, rfl, rfl, Or.inl p2, hTI⟩, hX _ e1⟩
  · obtain ⟨t, fr, Rv, nb, F, Y, E, nR, PR, RE, BE, sp, hT, hA, hB, hXk, hQ, hs⟩ := hTI
    obtain ⟨m2, e2, F2⟩ := law_year hT hA hB hyy
    refine ⟨i3 ((i + 1 : Nat) : Int), m2, 28 - (i + 1), by omega, ⟨i + 1, N', by omega, rfl, rfl, Or.inl p2, ⟨t, fr, Rv, nb, F, Y, E, nR, PR, RE, BE, sp, hT.fz F2 ⟨by decide, by decide⟩, hA.fz F2 ⟨by decide, by decide⟩, hB.fz F2 ⟨by decide, by decide⟩, hXk.fz F2 ⟨by decide, by decide⟩, hQ.fz (Nat.le_refl _) F2 ⟨by decide, by decide⟩, hs⟩⟩, hX _ (e1.trans ?_)⟩
    dsimp only
    rw [e2, zBI_some, if_neg (by decide)]
theorem law_all (ω : Wd) (hL : oL ω ≤ 260) {m : Mm} (hz : ∀ b j, zI m b j = 0) (hl : ∀ b j, zL m b j = 0) : ∃ mE : Mm, f_Law_law ω m = some (1, mE) := by
  obtain ⟨mE, e⟩ := law_end ω hL (TI.init hz hl)
  refine ⟨mE, ?_⟩
  rw [e_Law_law, if_pos z46.1, z46.2, zLet_q, e]
end TRV
