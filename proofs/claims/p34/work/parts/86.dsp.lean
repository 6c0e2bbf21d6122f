/-! THE REFERENCE GRANTS A DISPENSATION -/
def wBn (m : Mm) (n : Nat) (f y k : Int) : Mm := wI (wI (wI (wI (wI m 201 0 (i3 0)) 213 n (i3 f)) 214 n (i3 y)) 215 n (i3 k)) 201 25 (i3 ((n + 1 : Nat) : Int))
theorem mod_grant {m : Mm} {F Y K : Nat → Int} {n : Nat} (hv : vB F Y K n) (h : Rbn m F Y K n) {f y k : Int} (hf : 0 ≤ f ∧ f < 20) (hy : 0 ≤ y ∧ y < 400) (b : Bool) (hb : b = true → n < 30) :
    zLq2 (l_Mod_dispense_0 m (i3 f) (i3 y) (i3 k)) zFu (b3 b) 0 = if (b && !near F Y f y n) = true then some (i3 ((n + 1 : Nat) : Int), wBn m n f y k) else some (i3 0, wI m 201 0 (i3 3)) := by
  obtain ⟨h25, hD⟩ := h
  obtain ⟨h30, hB⟩ := hv
  refine run_zLq2 (fun j x1 x2 => ∃ i : Nat, x1 = b3 (b && !near F Y f y i) ∧ x2 = i3 i ∧ i ≤ n ∧ j = n - i) ?_ zFu n _ _ ⟨0, by cases b <;> rfl, rfl, Nat.zero_le _, rfl⟩ (by unfold zFu; omega)
  rintro r j x1 x2 ⟨i, rfl, rfl, hi, rfl⟩
  unfold l_Mod_dispense_0
  rw [h25, it_le ⟨by omega, by omega⟩ ⟨by omega, by omega⟩]
  by_cases e : (n : Int) ≤ i
  · left
    have ei : i = n := by omega
    subst ei
    rw [if_pos e]
    simp only [zLet]
    cases hq : (b && !near F Y f y i) with
    | false =>
      rw [if_pos (show b3 false = 0 by decide), zI_eq, if_neg (show ¬ (3 : Int32) ≤ 0 by decide), if_neg (show ¬ (false = true) by decide)]
      rfl
    | true =>
      have hbt : b = true := by
        cases b with
        | true => rfl
        | false => exact nomatch hq
      have hlt := hb hbt
      have hin : zIn (i3 (i : Int)) 30 := (i3_in ⟨by omega, by omega⟩).mpr ⟨by omega, by omega⟩
      have hix : zIx (i3 (i : Int)) = i := by rw [i3_ix ⟨by omega, by omega⟩, Int.toNat_natCast]
      have g0 : zI (wI m 201 0 0) 201 25 = i3 i := by rw [zI_nk (by decide), h25]
      have g1 : ∀ v, zI (wI (wI m 201 0 0) 213 i v) 201 25 = i3 i := fun v => by rw [zI_ne (by decide), g0]
      have g2 : ∀ v w, zI (wI (wI (wI m 201 0 0) 213 i v) 214 i w) 201 25 = i3 i := fun v w => by rw [zI_ne (by decide), g1]
      have g3 : ∀ v w u, zI (wI (wI (wI (wI m 201 0 0) 213 i v) 214 i w) 215 i u) 201 25 = i3 i := fun v w u => by rw [zI_ne (by decide), g2]
      rw [if_neg (show ¬ b3 true = 0 by decide), if_pos (show true = true from rfl), zI_eq, if_pos (show (0 : Int32) ≤ 0 by decide), g0, if_pos hin, hix, g1, if_pos hin, hix, g2, if_pos hin, hix, g3, zI_eq, i3_add1]
      rfl
  · right
    have hlt : i < n := by omega
    obtain ⟨d1, d2, d3⟩ := hD i hlt
    obtain ⟨b1, b2, b3'⟩ := hB i hlt
    have hin : zIn (i3 (i : Int)) 30 := (i3_in ⟨by omega, by omega⟩).mpr ⟨by omega, by omega⟩
    have hix : zIx (i3 (i : Int)) = i := by rw [i3_ix ⟨by omega, by omega⟩, Int.toNat_natCast]
    refine ⟨_, _, n - (i + 1), by omega, ⟨i + 1, rfl, rfl, hlt, rfl⟩, ?_⟩
    rw [if_neg e, if_pos hin, near_succ]
    simp only [zLet, hix, d1, d2, if_pos hin, i3_add1, i3_sub]
    rw [it_eq ⟨by omega, by omega⟩ ⟨by omega, by omega⟩, show (10 : Int32) = i3 10 from rfl, it_le ⟨by decide, by decide⟩ ⟨by omega, by omega⟩, i3_neg, it_lt ⟨by decide, by decide⟩ ⟨by omega, by omega⟩]
    cases b with
    | false =>
      simp only [Bool.false_and]
      rw [if_pos (show b3 false = 0 by decide)]
      rfl
    | true =>
      cases near F Y f y i with
      | true =>
        simp only [Bool.true_or, Bool.not_true, Bool.and_false]
        rw [if_pos (show b3 false = 0 by decide)]
        rfl
      | false =>
        simp only [Bool.false_or, Bool.not_false, Bool.and_true, Bool.true_and]
        rw [if_neg (show ¬ b3 true = 0 by decide)]
        by_cases c1 : F i = f
        · rw [if_pos c1]
          by_cases c2 : (10 : Int) ≤ Y i - y
          · rw [if_pos c2, decide_eq_false (fun z => by omega)]
            rfl
          · rw [if_neg c2]
            by_cases c3 : (-10 : Int) < Y i - y
            · rw [if_pos c3, decide_eq_true ⟨c1, by omega, by omega⟩]
              rfl
            · rw [if_neg c3, decide_eq_false (fun z => by omega)]
              rfl
        · rw [if_neg c1, decide_eq_false (fun z => c1 z.1)]
          rfl
