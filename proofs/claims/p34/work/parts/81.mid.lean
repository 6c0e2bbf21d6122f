/-! MIDNIGHTS -/
def midn (x y : Int) : Bool := decide (x ≠ -1 ∧ y ≠ -1 ∧ (x - y = 1 ∨ y - x = 1))
section MID
variable {m : Mm} {a o N : Nat} {b1 b2 : Nat → Int}
theorem mat_abs {x : Int} (hx : -1000000 ≤ x ∧ x ≤ 1000000) : f_Mat_abs (i3 x) m = some (i3 (if x < 0 then -x else x)) := by
  unfold f_Mat_abs
  rw [show (0 : Int32) = i3 0 from rfl, it_le ⟨by decide, by decide⟩ ⟨by omega, by omega⟩]
  by_cases c : x < 0
  · rw [if_neg (by omega), if_pos c, i3_neg]
  · rw [if_pos (by omega), if_neg c]
theorem boo_night {f : Nat} (hf : f < 20) (h1 : zI m (a + 2) f = i3 (b1 f)) (h2 : zI m (o + 2) f = i3 (b2 f)) (hb1 : -1 ≤ b1 f ∧ b1 f < 400) (hb2 : -1 ≤ b2 f ∧ b2 f < 400) : f_Boo_isNextTo a o (i3 f) m = some (b3 (midn (b1 f) (b2 f))) := by
  have e1 : f_Boo_bentDay a (i3 f) m = some (i3 (b1 f)) := by
    rw [boo_bent ⟨by omega, by omega⟩, Int.toNat_natCast, h1]
  have e2 : f_Boo_bentDay o (i3 f) m = some (i3 (b2 f)) := by
    rw [boo_bent ⟨by omega, by omega⟩, Int.toNat_natCast, h2]
  unfold f_Boo_isNextTo midn
  rw [e1, zBP_some, e2, zBP_some, show (-1 : Int32) = i3 (-1) from rfl]
  simp only [zLet]
  rw [it_m1 ⟨by omega, by omega⟩, it_m1 ⟨by omega, by omega⟩, i3_sub, mat_abs ⟨by omega, by omega⟩, zBP_some, show (1 : Int32) = i3 1 from rfl, it_eq ⟨by split <;> omega, by split <;> omega⟩ ⟨by decide, by decide⟩]
  by_cases c1 : b1 f = -1
  · rw [if_pos c1, decide_eq_false (fun z => z.1 c1)]
    rfl
  rw [if_neg c1]
  by_cases c2 : b2 f = -1
  · rw [if_pos c2, decide_eq_false (fun z => z.2.1 c2)]
    rfl
  rw [if_neg c2]
  by_cases c3 : b1 f - b2 f = 1 ∨ b2 f - b1 f = 1
  · rw [if_pos (by split <;> omega), decide_eq_true ⟨c1, c2, c3⟩]
    rfl
  · rw [if_neg (by split <;> omega), decide_eq_false (fun z => c3 z.2.2)]
    rfl
theorem mod_night {f : Nat} (hf : f < 20) (h1 : zI m 216 f = i3 (b1 f)) (h2 : zI m 216 (20 + f) = i3 (b2 f)) (hb1 : -1 ≤ b1 f ∧ b1 f < 400) (hb2 : -1 ≤ b2 f ∧ b2 f < 400) : f_Mod_isNight (i3 f) m = some (b3 (midn (b1 f) (b2 f))) := by
  have hin : zIn (i3 (f : Int)) 40 := (i3_in ⟨by omega, by omega⟩).mpr ⟨by omega, by omega⟩
  have hix : zIx (i3 (f : Int)) = f := by rw [i3_ix ⟨by omega, by omega⟩, Int.toNat_natCast]
  have e20 : (20 : Int32) + i3 f = i3 ((20 + f : Nat) : Int) := by rw [show (20 : Int32) = i3 20 from rfl, i3_add]; rfl
  have hin2 : zIn (i3 ((20 + f : Nat) : Int)) 40 := (i3_in ⟨by omega, by omega⟩).mpr ⟨by omega, by omega⟩
  have hix2 : zIx (i3 ((20 + f : Nat) : Int)) = 20 + f := by rw [i3_ix ⟨by omega, by omega⟩, Int.toNat_natCast]
  unfold f_Mod_isNight midn
  rw [if_pos hin]
  simp only [zLet]
  rw [e20, if_pos hin2, hix, hix2, h1, h2, i3_sub, i3_sub, show (-1 : Int32) = i3 (-1) from rfl, it_m1 ⟨by omega, by omega⟩, it_m1 ⟨by omega, by omega⟩]
  have q1 : (i3 (b1 f - b2 f) = 1) ↔ b1 f - b2 f = 1 := i3_eq (b := 1) ⟨by omega, by omega⟩ ⟨by decide, by decide⟩
  have q2 : (i3 (b2 f - b1 f) = 1) ↔ b2 f - b1 f = 1 := i3_eq (b := 1) ⟨by omega, by omega⟩ ⟨by decide, by decide⟩
  simp only [q1, q2]
  by_cases c1 : b1 f = -1
  · rw [if_pos c1, decide_eq_false (fun z => z.1 c1)]
    rfl
  rw [if_neg c1]
  by_cases c2 : b2 f = -1
  · rw [if_pos c2, decide_eq_false (fun z => z.2.1 c2)]
    rfl
  rw [if_neg c2]
  by_cases c3 : b1 f - b2 f = 1
  · rw [if_pos c3, decide_eq_true ⟨c1, c2, Or.inl c3⟩]
    rfl
  rw [if_neg c3]
  by_cases c4 : b2 f - b1 f = 1
  · rw [if_pos c4, decide_eq_true ⟨c1, c2, Or.inr c4⟩]
    rfl
  · rw [if_neg c4, decide_eq_false (fun z => by omega)]
    rfl
end MID
