/-! THE CLASS COPIES TEXTS AND CODES -/
section CPY
variable {m : Mm} {T : List Int} {f : Nat}
theorem txt_copy (hf : f < 20) (hT : TX m 17 T) (hch : ∀ i, i < 40 → zCh (zI m 18 i)) : ∃ m', f_Txt_copyFrom (32 + 6 * f + 1) 17 m = some m' ∧ m'.2 = m.2 ∧ (∀ b j, b ≠ 32 + 6 * f + 1 ∨ j ≠ 1 → b ≠ 32 + 6 * f + 2 → zI m' b j = zI m b j) ∧ TX m' (32 + 6 * f + 1) T := by
  obtain ⟨t1, t2, t3, t4⟩ := hT
  have hl : zLn (17 + 1) = 40 ∧ zLn (32 + 6 * f + 1 + 1) = 40 := by
    have q : ∀ f, f < 20 → zLn (32 + 6 * f + 1 + 1) = 40 := by decide +kernel
    exact ⟨by decide +kernel, q f hf⟩
  have h40 : zIx (40 : Int32) = 40 := by decide
  unfold f_Txt_copyFrom
  rw [if_pos (show zCpy m 1 (17 + 1) (32 + 6 * f + 1 + 1) 40 from ⟨by decide, by rw [h40, hl.1]; exact Nat.le_refl _, by rw [h40, hl.2]; exact Nat.le_refl _, fun _ i hi => hch i (by rw [h40] at hi; exact hi)⟩)]
  simp only [zLet]
  refine ⟨_, rfl, rfl, fun b j h1 h2 => ?_, t1, ?_, fun i hi => ?_, t4⟩
  · have e1 : zI (wI (wC m (17 + 1) (32 + 6 * f + 1 + 1) (zIx 40)) (32 + 6 * f + 1) 1 (zI (wC m (17 + 1) (32 + 6 * f + 1 + 1) (zIx 40)) 17 1)) b j = zI (wC m (17 + 1) (32 + 6 * f + 1 + 1) (zIx 40)) b j := if_neg (fun z => by omega)
    rw [e1, zI_wC, if_neg (fun z => by omega)]
  · rw [zI_eq, zI_wC, if_neg (fun z => by omega), t2]
  · rw [zI_ne (by omega), zI_wC, if_pos ⟨rfl, by rw [h40]; omega⟩, t3 i hi]
theorem cod_copy (hf : f < 20) {n : Nat} {C : Cx} (hn : n = C.length) (h40 : n ≤ 40) (h2 : zI m 20 2 = i3 n) (hA : CA (zI m 21) (zI m 22) 0 C) : ∃ m', f_Cod_copyFrom (32 + 6 * f + 3) 20 m = some m' ∧ m'.2 = m.2 ∧ (∀ b j, b < 32 + 6 * f + 3 ∨ 32 + 6 * f + 5 < b → zI m' b j = zI m b j) ∧ zI m' (32 + 6 * f + 3) 3 = zI m 20 3 ∧ Cd m' (32 + 6 * f + 3) (fun i => (C.getD i (0, 0)).1) (fun i => (C.getD i (0, 0)).2) n := by
  have hl : zLn (20 + 1) = 40 ∧ zLn (20 + 2) = 40 ∧ zLn (32 + 6 * f + 3 + 1) = 40 ∧ zLn (32 + 6 * f + 3 + 2) = 40 := by
    have q : ∀ f, f < 20 → zLn (32 + 6 * f + 3 + 1) = 40 ∧ zLn (32 + 6 * f + 3 + 2) = 40 := by decide +kernel
    exact ⟨by decide +kernel, by decide +kernel, (q f hf).1, (q f hf).2⟩
  have hx : zIx (40 : Int32) = 40 := by decide
  unfold f_Cod_copyFrom
  rw [if_pos (show zCpy m 0 (20 + 1) (32 + 6 * f + 3 + 1) 40 from ⟨by decide, by rw [hx, hl.1]; exact Nat.le_refl _, by rw [hx, hl.2.2.1]; exact Nat.le_refl _, fun z => absurd z (by decide)⟩)]
  simp only [zLet]
  rw [if_pos (show zCpy (wC m (20 + 1) (32 + 6 * f + 3 + 1) (zIx 40)) 0 (20 + 2) (32 + 6 * f + 3 + 2) 40 from ⟨by decide, by rw [hx, hl.2.1]; exact Nat.le_refl _, by rw [hx, hl.2.2.2]; exact Nat.le_refl _, fun z => absurd z (by decide)⟩)]
  rw [hx]
  generalize hm2 : wC (wC m (20 + 1) (32 + 6 * f + 3 + 1) 40) (20 + 2) (32 + 6 * f + 3 + 2) 40 = m2
  have k0 : ∀ b j, b ≠ 32 + 6 * f + 4 → b ≠ 32 + 6 * f + 5 → zI m2 b j = zI m b j := fun b j h1 h2 => by rw [← hm2, zI_wC, if_neg (fun z => by omega), zI_wC, if_neg (fun z => by omega)]
  have k1 : ∀ i, i < 40 → zI m2 (32 + 6 * f + 3 + 1) i = zI m 21 i := fun i hi => by rw [← hm2, zI_wC, if_neg (fun z => by omega), zI_wC, if_pos ⟨rfl, hi⟩]
  have k2 : ∀ i, i < 40 → zI m2 (32 + 6 * f + 3 + 2) i = zI m 22 i := fun i hi => by rw [← hm2, zI_wC, if_pos ⟨rfl, hi⟩, zI_wC, if_neg (fun z => by omega)]
  have hm : m2.2 = m.2 := by rw [← hm2]; rfl
  refine ⟨_, rfl, hm, fun b j h => ?_, ?_, h40, ?_, fun i hi => ⟨?_, ?_⟩⟩
  · rw [zI_ne (by omega), zI_ne (by omega), k0 b j (by omega) (by omega)]
  · rw [zI_eq, zI_ne (by omega), k0 _ _ (by omega) (by omega)]
  · rw [zI_nk (by decide), zI_eq, k0 _ _ (by omega) (by omega), h2]
  · rw [zI_ne (by omega), zI_ne (by omega), k1 i (by omega)]
    have := (hA i (by omega)).1
    rw [Nat.zero_add] at this
    exact this
  · rw [zI_ne (by omega), zI_ne (by omega), k2 i (by omega)]
    have := (hA i (by omega)).2
    rw [Nat.zero_add] at this
    exact this
end CPY
