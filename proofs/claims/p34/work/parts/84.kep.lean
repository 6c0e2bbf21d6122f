/-! THE REFERENCE KEEPS A CODE -/
def FxK (f : Nat) (m m' : Mm) : Prop := m'.2 = m.2 ∧ (∀ b j, b ≠ 201 → b ≠ 210 → b ≠ 211 → b ≠ 212 → zI m' b j = zI m b j) ∧ (∀ j, j ≠ 3 → zI m' 201 j = zI m 201 j) ∧ (∀ j, j ≠ f → zI m' 210 j = zI m 210 j) ∧ ∀ j, j < 80 * f ∨ 80 * f + 80 ≤ j → zI m' 211 j = zI m 211 j ∧ zI m' 212 j = zI m 212 j
theorem mod_keeps {m : Mm} {f n : Nat} (hf : f < 20) (hn : n ≤ 40) (h11 : zI m 201 11 = i3 n) : ∃ m', f_Mod_keeps (i3 f) m = some m' ∧ FxK f m m' ∧ zI m' 201 3 = i3 0 ∧ zI m' 210 f = i3 n ∧ ∀ i, i < n → zI m' 211 (80 * f + i) = zI m 206 i ∧ zI m' 212 (80 * f + i) = zI m 207 i := by
  have hinf : zIn (i3 (f : Int)) 20 := (i3_in ⟨by omega, by omega⟩).mpr ⟨by omega, by omega⟩
  have hixf : zIx (i3 (f : Int)) = f := by rw [i3_ix ⟨by omega, by omega⟩, Int.toNat_natCast]
  rw [e_Mod_keeps, if_pos hinf, hixf, h11]
  simp only [zLet]
  refine ex_zLp1 (Q := fun X => ∃ m', X = some m' ∧ FxK f m m' ∧ zI m' 201 3 = i3 0 ∧ zI m' 210 f = i3 n ∧ ∀ i, i < n → zI m' 211 (80 * f + i) = zI m 206 i ∧ zI m' 212 (80 * f + i) = zI m 207 i)
    (fun j x2 mm => ∃ i : Nat, x2 = i3 i ∧ i ≤ n ∧ j = n - i ∧ FxK f m mm ∧ zI mm 210 f = i3 n ∧ ∀ k, k < i → zI mm 211 (80 * f + k) = zI m 206 k ∧ zI mm 212 (80 * f + k) = zI m 207 k) ?_ zFu n _ _ ⟨0, rfl, Nat.zero_le _, rfl, ⟨rfl, fun b j _ h _ _ => zI_ne h, fun j _ => zI_ne (by decide), fun j h => zI_nk h, fun j _ => ⟨zI_ne (by decide), zI_ne (by decide)⟩⟩, zI_eq, fun k hk => absurd hk (Nat.not_lt_zero k)⟩ (by unfold zFu; omega)
  rintro r j x2 mm ⟨i, rfl, hi, rfl, ⟨f1, f2, f3, f4, f5⟩, h210, hval⟩
  unfold l_Mod_keeps_0
  rw [f3 11 (by decide), h11, it_le ⟨by omega, by omega⟩ ⟨by omega, by omega⟩]
  by_cases e : (n : Int) ≤ i
  · left
    rw [if_pos e]
    simp only [zLet]
    refine ⟨_, rfl, ⟨f1, fun b j a1 a2 a3 a4 => ?_, fun j hj => ?_, fun j hj => ?_, fun j hj => ⟨?_, ?_⟩⟩, zI_eq, ?_, fun k hk => ⟨?_, ?_⟩⟩
    · rw [zI_ne a1]; exact f2 b j a1 a2 a3 a4
    · rw [zI_nk hj]; exact f3 j hj
    · rw [zI_ne (by decide)]; exact f4 j hj
    · rw [zI_ne (by decide)]; exact (f5 j hj).1
    · rw [zI_ne (by decide)]; exact (f5 j hj).2
    · rw [zI_ne (by decide)]; exact h210
    · rw [zI_ne (by decide)]; exact (hval k (by omega)).1
    · rw [zI_ne (by decide)]; exact (hval k (by omega)).2
  · right
    have hin : zIn (i3 (i : Int)) 80 := (i3_in ⟨by omega, by omega⟩).mpr ⟨by omega, by omega⟩
    have hix : zIx (i3 (i : Int)) = i := by rw [i3_ix ⟨by omega, by omega⟩, Int.toNat_natCast]
    have e80 : (80 : Int32) * i3 f + i3 i = i3 ((80 * f + i : Nat) : Int) := by rw [show (80 : Int32) = i3 80 from rfl, i3_mul, i3_add]; rfl
    have hin3 : zIn (i3 ((80 * f + i : Nat) : Int)) 1600 := (i3_in ⟨by omega, by omega⟩).mpr ⟨by omega, by omega⟩
    have hix3 : zIx (i3 ((80 * f + i : Nat) : Int)) = 80 * f + i := by rw [i3_ix ⟨by omega, by omega⟩, Int.toNat_natCast]
    have g6 : zI mm 206 i = zI m 206 i := f2 _ _ (by decide) (by decide) (by decide) (by decide)
    have g7 : ∀ v, zI (wI mm 211 (80 * f + i) v) 207 i = zI m 207 i := fun v => by rw [zI_ne (by decide)]; exact f2 _ _ (by decide) (by decide) (by decide) (by decide)
    refine ⟨_, wI (wI mm 211 (80 * f + i) (zI m 206 i)) 212 (80 * f + i) (zI m 207 i), n - (i + 1), by omega, ⟨i + 1, rfl, by omega, rfl, ⟨f1, fun b j a1 a2 a3 a4 => ?_, fun j hj => ?_, fun j hj => ?_, fun j hj => ⟨?_, ?_⟩⟩, ?_, fun k hk => ?_⟩, ?_⟩
    · rw [zI_ne a4, zI_ne a3]; exact f2 b j a1 a2 a3 a4
    · rw [zI_ne (by decide), zI_ne (by decide)]; exact f3 j hj
    · rw [zI_ne (by decide), zI_ne (by decide)]; exact f4 j hj
    · rw [zI_ne (by decide), zI_nk (by omega)]; exact (f5 j hj).1
    · rw [zI_nk (by omega), zI_ne (by decide)]; exact (f5 j hj).2
    · rw [zI_ne (by decide), zI_ne (by decide)]; exact h210
    · by_cases c : k = i
      · subst c
        exact ⟨by rw [zI_ne (by decide), zI_eq], zI_eq⟩
      · obtain ⟨v1, v2⟩ := hval k (by omega)
        exact ⟨by rw [zI_ne (by decide), zI_nk (by omega), v1], by rw [zI_nk (by omega), zI_ne (by decide), v2]⟩
    · rw [if_neg e, if_pos hin, e80, if_pos hin3, hix3, hix, g6]
      simp only [zLet]
      rw [if_pos hin, if_pos hin3, g7, i3_add1]
      rfl
