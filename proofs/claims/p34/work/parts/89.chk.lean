/-! FEASTS AND YEARS ARE CHECKED -/
theorem mod_isFeast {m : Mm} {N : Nat} (h20 : N ≤ 20) (h19 : zI m 201 19 = i3 N) {f : Int} (hf : -2147483648 ≤ f ∧ f < 2147483648) : f_Mod_isFeast (i3 f) m = some (b3 (decide (0 ≤ f ∧ f < N))) := by
  have e := mod_isIn (b := 0) hf ⟨by decide, by decide⟩ (show -2147483648 ≤ (N : Int) - 1 ∧ (N : Int) - 1 < 2147483648 by omega) m
  have e' : f_Mod_isIn (i3 f) 0 (i3 ((N : Int) - 1)) m = _ := e
  unfold f_Mod_isFeast
  rw [h19, i3_sub1, e', zBP_some, if_pos (b3_bo _)]
  by_cases c : 0 ≤ f ∧ f < N
  · rw [decide_eq_true c, decide_eq_true (by omega : 0 ≤ f ∧ f ≤ (N : Int) - 1)]
  · rw [decide_eq_false c, decide_eq_false (by omega : ¬ (0 ≤ f ∧ f ≤ (N : Int) - 1))]
theorem mod_isYear {m : Mm} {y : Int} (hy : -2147483648 ≤ y ∧ y < 2147483648) : f_Mod_isYear (i3 y) m = some (b3 (decide (0 ≤ y ∧ y < 400))) := by
  have e' : f_Mod_isIn (i3 y) 0 399 m = _ := mod_isIn (b := 0) (c := 399) hy ⟨by decide, by decide⟩ ⟨by decide, by decide⟩ m
  unfold f_Mod_isYear
  rw [e', zBP_some, if_pos (b3_bo _)]
  by_cases c : 0 ≤ y ∧ y < 400
  · rw [decide_eq_true c, decide_eq_true (by omega : 0 ≤ y ∧ y ≤ (399 : Int))]
  · rw [decide_eq_false c, decide_eq_false (by omega : ¬ (0 ≤ y ∧ y ≤ (399 : Int)))]
