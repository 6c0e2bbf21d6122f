/-! CLASHES, COSTS, MIDNIGHTS: on both sides -/
def clI (b : Nat → Int) (i : Nat) : Nat → Int
  | 0 => 0
  | k + 1 => clI b i k + if b i ≠ -1 ∧ b i = b (i + 1 + k) then 1 else 0
def clT (b : Nat → Int) (N : Nat) : Nat → Int
  | 0 => 0
  | i + 1 => clT b N i + clI b i (N - (i + 1))
def sSum (c : Nat → Int) : Nat → Int
  | 0 => 1
  | n + 1 => sSum c n + c n
section CLA
variable {m : Mm} {a N t : Nat} {b c : Nat → Int}
theorem boo_clashes (h20 : N ≤ 20) (h25 : zI m 25 3 = i3 N) (hB : ∀ f, f < N → zI m (a + 2) f = i3 (b f) ∧ -1 ≤ b f ∧ b f < 400) : f_Boo_countClashes a m = some (i3 (clT b N N)) := by
  have hsz : f_Alm_size m = some (i3 N) := by
    unfold f_Alm_size
    rw [h25]
  rw [e_Boo_countClashes]
  refine run_zLq2 (fun j x1 x2 => ∃ i : Nat, x1 = i3 (clT b N i) ∧ x2 = i3 i ∧ i ≤ N ∧ j = N - i) ?_ zFu N _ _ ⟨0, rfl, rfl, Nat.zero_le _, rfl⟩ (by unfold zFu; omega)
  rintro r3 j x1 x2 ⟨i, rfl, rfl, hi, rfl⟩
  unfold l_Boo_countClashes_1
  rw [hsz, zBP_some, it_le ⟨by omega, by omega⟩ ⟨by omega, by omega⟩]
  by_cases e : (N : Int) ≤ i
  · left
    rw [if_pos e, show i = N by omega]
  right
  have hlt : i < N := by omega
  have hin : zIn (i3 (i : Int)) 20 := (i3_in ⟨by omega, by omega⟩).mpr ⟨by omega, by omega⟩
  have hix : zIx (i3 (i : Int)) = i := by rw [i3_ix ⟨by omega, by omega⟩, Int.toNat_natCast]
  obtain ⟨b1, b2, b3'⟩ := hB i hlt
  refine ⟨i3 (clT b N (i + 1)), i3 ((i + 1 : Nat) : Int), N - (i + 1), by omega, ⟨i + 1, rfl, rfl, hlt, rfl⟩, ?_⟩
  rw [if_neg e]
  simp only [zLet]
  rw [i3_add1]
  refine run_zLq2 (fun j x7 x8 => ∃ k : Nat, x7 = i3 (clT b N i + clI b i k) ∧ x8 = i3 ((i + 1 + k : Nat) : Int) ∧ k ≤ N - (i + 1) ∧ j = N - (i + 1) - k) ?_ zFu (N - (i + 1)) _ _ ⟨0, by rw [show clI b i 0 = 0 from rfl, Int.add_zero], rfl, Nat.zero_le _, rfl⟩ (by unfold zFu; omega)
  rintro r9 j x7 x8 ⟨k, rfl, rfl, hk, rfl⟩
  unfold l_Boo_countClashes_0
  rw [hsz, zBP_some, it_le ⟨by omega, by omega⟩ ⟨by omega, by omega⟩]
  by_cases e2 : (N : Int) ≤ ((i + 1 + k : Nat) : Int)
  · left
    rw [if_pos e2, show k = N - (i + 1) by omega]
    simp only [zLet]
    rw [i3_add1]
    rfl
  · right
    have hin2 : zIn (i3 ((i + 1 + k : Nat) : Int)) 20 := (i3_in ⟨by omega, by omega⟩).mpr ⟨by omega, by omega⟩
    have hix2 : zIx (i3 ((i + 1 + k : Nat) : Int)) = i + 1 + k := by rw [i3_ix ⟨by omega, by omega⟩, Int.toNat_natCast]
    obtain ⟨d1, d2, d3⟩ := hB (i + 1 + k) (by omega)
    refine ⟨i3 (clT b N i + clI b i (k + 1)), i3 ((i + 1 + (k + 1) : Nat) : Int), N - (i + 1) - (k + 1), by omega, ⟨k + 1, rfl, rfl, by omega, rfl⟩, ?_⟩
    rw [if_neg e2, if_pos hin]
    simp only [zLet, if_pos hin, if_pos hin2, hix, hix2, b1, d1]
    rw [show (-1 : Int32) = i3 (-1) from rfl, it_m1 ⟨by omega, by omega⟩, it_eq ⟨by omega, by omega⟩ ⟨by omega, by omega⟩, i3_add1, i3_add1]
    have es : clI b i (k + 1) = clI b i k + if b i ≠ -1 ∧ b i = b (i + 1 + k) then 1 else 0 := rfl
    rw [es]
    by_cases c1 : b i = -1
    · rw [if_pos c1, if_neg (fun z => z.1 c1), Int.add_zero]
      rfl
    · rw [if_neg c1]
      by_cases c2 : b i = b (i + 1 + k)
      · rw [if_pos c2, if_pos ⟨c1, c2⟩, Int.add_assoc]
        rfl
      · rw [if_neg c2, if_neg (fun z => c2 z.2), Int.add_zero]
        rfl
theorem mod_clashes (h20 : N ≤ 20) (ht : t < 2) (h19 : zI m 201 19 = i3 N) (h1 : zI m 201 1 = i3 t) (hB : ∀ f, f < N → zI m 216 (20 * t + f) = i3 (b f) ∧ -1 ≤ b f ∧ b f < 400) : f_Mod_clashesNow m = some (i3 (clT b N N)) := by
  have e20 : ∀ f : Nat, (20 : Int32) * i3 t + i3 f = i3 ((20 * t + f : Nat) : Int) := fun f => by rw [show (20 : Int32) = i3 20 from rfl, i3_mul, i3_add]; rfl
  rw [e_Mod_clashesNow]
  refine run_zLq2 (fun j x1 x2 => ∃ i : Nat, x1 = i3 (clT b N i) ∧ x2 = i3 i ∧ i ≤ N ∧ j = N - i) ?_ zFu N _ _ ⟨0, rfl, rfl, Nat.zero_le _, rfl⟩ (by unfold zFu; omega)
  rintro r3 j x1 x2 ⟨i, rfl, rfl, hi, rfl⟩
  unfold l_Mod_clashesNow_1
  rw [h19, it_le ⟨by omega, by omega⟩ ⟨by omega, by omega⟩]
  by_cases e : (N : Int) ≤ i
  · left
    rw [if_pos e, show i = N by omega]
  right
  have hlt : i < N := by omega
  have hin : zIn (i3 ((20 * t + i : Nat) : Int)) 40 := (i3_in ⟨by omega, by omega⟩).mpr ⟨by omega, by omega⟩
  have hix : zIx (i3 ((20 * t + i : Nat) : Int)) = 20 * t + i := by rw [i3_ix ⟨by omega, by omega⟩, Int.toNat_natCast]
  obtain ⟨b1, b2, b3'⟩ := hB i hlt
  refine ⟨i3 (clT b N (i + 1)), i3 ((i + 1 : Nat) : Int), N - (i + 1), by omega, ⟨i + 1, rfl, rfl, hlt, rfl⟩, ?_⟩
  rw [if_neg e]
  simp only [zLet]
  rw [i3_add1]
  refine run_zLq2 (fun j x7 x8 => ∃ k : Nat, x7 = i3 (clT b N i + clI b i k) ∧ x8 = i3 ((i + 1 + k : Nat) : Int) ∧ k ≤ N - (i + 1) ∧ j = N - (i + 1) - k) ?_ zFu (N - (i + 1)) _ _ ⟨0, by rw [show clI b i 0 = 0 from rfl, Int.add_zero], rfl, Nat.zero_le _, rfl⟩ (by unfold zFu; omega)
  rintro r9 j x7 x8 ⟨k, rfl, rfl, hk, rfl⟩
  unfold l_Mod_clashesNow_0
  rw [h19, it_le ⟨by omega, by omega⟩ ⟨by omega, by omega⟩]
  by_cases e2 : (N : Int) ≤ ((i + 1 + k : Nat) : Int)
  · left
    rw [if_pos e2, show k = N - (i + 1) by omega]
    simp only [zLet]
    rw [i3_add1]
    rfl
  · right
    have hin2 : zIn (i3 ((20 * t + (i + 1 + k) : Nat) : Int)) 40 := (i3_in ⟨by omega, by omega⟩).mpr ⟨by omega, by omega⟩
    have hix2 : zIx (i3 ((20 * t + (i + 1 + k) : Nat) : Int)) = 20 * t + (i + 1 + k) := by rw [i3_ix ⟨by omega, by omega⟩, Int.toNat_natCast]
    obtain ⟨d1, d2, d3⟩ := hB (i + 1 + k) (by omega)
    refine ⟨i3 (clT b N i + clI b i (k + 1)), i3 ((i + 1 + (k + 1) : Nat) : Int), N - (i + 1) - (k + 1), by omega, ⟨k + 1, rfl, rfl, by omega, rfl⟩, ?_⟩
    rw [if_neg e2, h1, e20, if_pos hin]
    simp only [zLet, hix, b1, e20, if_pos hin2, hix2, d1]
    rw [show (-1 : Int32) = i3 (-1) from rfl, it_m1 ⟨by omega, by omega⟩, it_eq ⟨by omega, by omega⟩ ⟨by omega, by omega⟩, i3_add1, i3_add1]
    have es : clI b i (k + 1) = clI b i k + if b i ≠ -1 ∧ b i = b (i + 1 + k) then 1 else 0 := rfl
    rw [es]
    by_cases c1 : b i = -1
    · rw [if_pos c1, if_neg (fun z => z.1 c1), show (0 : Int32) = i3 0 from rfl, i3_add, Int.add_assoc]
      rfl
    · rw [if_neg c1]
      by_cases c2 : b i = b (i + 1 + k)
      · rw [if_pos c2, if_pos ⟨c1, c2⟩, Int.add_assoc]
        rfl
      · rw [if_neg c2, if_neg (fun z => c2 z.2), show (0 : Int32) = i3 0 from rfl, i3_add, Int.add_assoc]
        rfl
theorem boo_costs (h20 : N ≤ 20) (h25 : zI m 25 3 = i3 N) (hC : ∀ f, f < N → zI m (a + 3) f = i3 (c f)) : f_Boo_costOfAll a m = some (i3 (sSum c N)) := by
  have hsz : f_Alm_size m = some (i3 N) := by
    unfold f_Alm_size
    rw [h25]
  rw [e_Boo_costOfAll]
  refine run_zLq2 (fun j x1 x2 => ∃ i : Nat, x1 = i3 (sSum c i) ∧ x2 = i3 i ∧ i ≤ N ∧ j = N - i) ?_ zFu N _ _ ⟨0, rfl, rfl, Nat.zero_le _, rfl⟩ (by unfold zFu; omega)
  rintro r j x1 x2 ⟨i, rfl, rfl, hi, rfl⟩
  unfold l_Boo_costOfAll_0
  rw [hsz, zBP_some, it_le ⟨by omega, by omega⟩ ⟨by omega, by omega⟩]
  by_cases e : (N : Int) ≤ i
  · left
    rw [if_pos e, show i = N by omega]
  · right
    have hin : zIn (i3 (i : Int)) 20 := (i3_in ⟨by omega, by omega⟩).mpr ⟨by omega, by omega⟩
    have hix : zIx (i3 (i : Int)) = i := by rw [i3_ix ⟨by omega, by omega⟩, Int.toNat_natCast]
    refine ⟨_, _, N - (i + 1), by omega, ⟨i + 1, rfl, rfl, by omega, rfl⟩, ?_⟩
    rw [if_neg e, if_pos hin, hix, hC i (by omega)]
    simp only [zLet]
    rw [i3_add, i3_add1]
    rfl
theorem mod_costs (h20 : N ≤ 20) (h19 : zI m 201 19 = i3 N) (hC : ∀ f, f < N → zI m 218 f = i3 (c f)) : f_Mod_costNow m = some (i3 (sSum c N)) := by
  rw [e_Mod_costNow]
  refine run_zLq2 (fun j x1 x2 => ∃ i : Nat, x1 = i3 (sSum c i) ∧ x2 = i3 i ∧ i ≤ N ∧ j = N - i) ?_ zFu N _ _ ⟨0, rfl, rfl, Nat.zero_le _, rfl⟩ (by unfold zFu; omega)
  rintro r j x1 x2 ⟨i, rfl, rfl, hi, rfl⟩
  unfold l_Mod_costNow_0
  rw [h19, it_le ⟨by omega, by omega⟩ ⟨by omega, by omega⟩]
  by_cases e : (N : Int) ≤ i
  · left
    rw [if_pos e, show i = N by omega]
  · right
    have hin : zIn (i3 (i : Int)) 20 := (i3_in ⟨by omega, by omega⟩).mpr ⟨by omega, by omega⟩
    have hix : zIx (i3 (i : Int)) = i := by rw [i3_ix ⟨by omega, by omega⟩, Int.toNat_natCast]
    refine ⟨_, _, N - (i + 1), by omega, ⟨i + 1, rfl, rfl, by omega, rfl⟩, ?_⟩
    rw [if_neg e, if_pos hin, hix, hC i (by omega)]
    simp only [zLet]
    rw [i3_add, i3_add1]
    rfl
end CLA
