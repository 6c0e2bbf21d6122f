/-! WHAT THE LAW DRAWS -/
theorem and_pos (x : Int32) : ∃ a : Int, (0 ≤ a ∧ a < 2147483648) ∧ x &&& 2147483647 = i3 a := by
  have hb := i3_bd (x &&& 2147483647)
  refine ⟨(x &&& 2147483647).toInt, ⟨?_, hb.2⟩, (i3_of _).symm⟩
  have h1 : (x &&& 2147483647).toInt = (x.toBitVec &&& (2147483647 : Int32).toBitVec).toInt := by
    rw [← Int32.toBitVec_and]; rfl
  have h2 : ∀ v : BitVec 32, 0 ≤ v.toInt ↔ v.msb = false := by
    intro v
    rw [BitVec.msb_eq_toInt]
    simp
  have h3 : (2147483647 : Int32).toBitVec.msb = false := by decide
  rw [h1, h2, BitVec.msb_and, h3, Bool.and_false]
theorem law_low (x : Int32) {n : Nat} (hn : 0 < n ∧ n < 1000) (m : Mm) : ∃ r : Nat, r < n ∧ f_Law_low x (i3 n) m = some (i3 r) := by
  obtain ⟨a, ha, e⟩ := and_pos x
  have hm1 := Int.emod_nonneg a (show (n : Int) ≠ 0 by omega)
  have hm2 := Int.emod_lt_of_pos a (show (0 : Int) < n by omega)
  refine ⟨(a % n).toNat, by omega, ?_⟩
  unfold f_Law_low
  have hz : ¬ i3 (n : Int) = 0 := by
    rw [show (0 : Int32) = i3 0 from rfl, i3_eq ⟨by omega, by omega⟩ ⟨by decide, by decide⟩]
    omega
  rw [if_pos hz, e, i3_mod ha ⟨by omega, by omega⟩]
  congr 2
  omega
theorem zl_dd {α : Type} {J : Int32 → α} {c1 c2 c3 c4 c5 : Prop} [Decidable c1] [Decidable c2] [Decidable c3] [Decidable c4] [Decidable c5] {a b d : Int32} : (zLet J fun j5 => if c1 then j5 a else zLet (j5 b) fun j8 => if c2 then j8 else if c3 then j8 else if c4 then j8 else if c5 then j8 else j5 d) = J (if c1 then a else if c2 then b else if c3 then b else if c4 then b else if c5 then b else d) := by
  rw [zLet_q]
  simp only [zLet_q]
  repeat (first | rfl | split)
def dmL (r : Nat) : Nat := if r = 1 then 29 else if r = 3 ∨ r = 5 ∨ r = 8 ∨ r = 10 then 30 else 31
theorem law_drawDate (x : Int32) (m : Mm) : ∃ v : Nat, vDt v ∧ v < 10000 ∧ f_Law_drawDate x m = some (i3 v) := by
  obtain ⟨r, hr, e1⟩ : ∃ r : Nat, r < 12 ∧ f_Law_low (x >>> (6 &&& 31)) 12 m = some (i3 r) := law_low _ (n := 12) (by decide) m
  have ek : ∀ r, r < 12 → (if (1 : Int32) + i3 ((r : Nat) : Int) = 2 then (29 : Int32) else if (1 : Int32) + i3 ((r : Nat) : Int) = 4 then 30 else if (1 : Int32) + i3 ((r : Nat) : Int) = 6 then 30 else if (1 : Int32) + i3 ((r : Nat) : Int) = 9 then 30 else if (1 : Int32) + i3 ((r : Nat) : Int) = 11 then 30 else 31) = i3 ((dmL r : Nat) : Int) := by decide +kernel
  have hd : 0 < dmL r ∧ dmL r < 1000 := by unfold dmL; split <;> (try split) <;> decide
  obtain ⟨q, hq, e2⟩ := law_low x hd m
  refine ⟨100 * (1 + r) + 1 + q, ?_, ?_, ?_⟩
  · have hv : ∀ r, r < 12 → ∀ q, q < dmL r → vDt ((100 * (1 + r) + 1 + q : Nat) : Int) := by
      intro r hr q hq
      have h31 : dmL r ≤ 31 := by unfold dmL; split <;> (try split) <;> decide
      have hs : ∀ r, r < 12 → (dmL r : Int) = (sMs true (r + 1 + 1) : Int) - sMs true (r + 1) := by decide +kernel
      refine ⟨⟨by omega, by omega⟩, by omega, ?_⟩
      have e9 : (((100 * (1 + r) + 1 + q : Nat) : Int) / 100).toNat = r + 1 := by omega
      rw [e9, ← hs r hr]
      omega
    exact hv r hr q hq
  · have h31 : dmL r ≤ 31 := by unfold dmL; split <;> (try split) <;> decide
    omega
  · unfold f_Law_drawDate
    rw [e1, zBP_some, zLet_q, zl_dd, ek r hr, e2, zBP_some, show (1 : Int32) = i3 1 from rfl, show (100 : Int32) = i3 100 from rfl, i3_add, i3_mul, i3_add, i3_add]
    rfl
theorem law_drawStep (x : Int32) (m : Mm) : ∃ s : Int, vS s ∧ f_Law_drawStep x m = some (i3 s) := by
  obtain ⟨r, hr, e1⟩ : ∃ r : Nat, r < 9 ∧ f_Law_low x 9 m = some (i3 r) := law_low _ (n := 9) (by decide) m
  unfold f_Law_drawStep
  rw [e1, zBP_some]
  by_cases c : r = 1
  · subst c
    obtain ⟨q, hq, e2⟩ : ∃ q : Nat, q < 3 ∧ f_Law_low (x >>> (4 &&& 31)) 3 m = some (i3 q) := law_low _ (n := 3) (by decide) m
    rw [if_pos (show i3 ((1 : Nat) : Int) = 1 from rfl), e2, zBP_some]
    by_cases c0 : q = 0
    · subst c0
      obtain ⟨u, hu, e3⟩ : ∃ u : Nat, u < 733 ∧ f_Law_low (x >>> (5 &&& 31)) 733 m = some (i3 u) := law_low _ (n := 733) (by decide) m
      refine ⟨1400 + u - 366, Or.inr (Or.inl ⟨by omega, by omega⟩), ?_⟩
      rw [zLet_q, if_pos (show i3 ((0 : Nat) : Int) = 0 from rfl)]
      dsimp only
      rw [e3, zBP_some, zBP_some, zLet_q, if_pos (show i3 ((0 : Nat) : Int) = 0 from rfl), show (1400 : Int32) = i3 1400 from rfl, show (366 : Int32) = i3 366 from rfl, i3_add]
      dsimp only
      rw [i3_sub]
    · have hz : ¬ i3 (q : Int) = 0 := by
        rw [show (0 : Int32) = i3 0 from rfl, i3_eq ⟨by omega, by omega⟩ ⟨by decide, by decide⟩]
        omega
      obtain ⟨u, hu, e3⟩ : ∃ u : Nat, u < 41 ∧ f_Law_low (x >>> (5 &&& 31)) 41 m = some (i3 u) := law_low _ (n := 41) (by decide) m
      refine ⟨1400 + u - 20, Or.inr (Or.inl ⟨by omega, by omega⟩), ?_⟩
      rw [zLet_q, if_neg hz]
      dsimp only
      rw [e3, zBP_some, zBP_some, zLet_q, if_neg hz, show (1400 : Int32) = i3 1400 from rfl, show (20 : Int32) = i3 20 from rfl, i3_add]
      dsimp only
      rw [i3_sub]
  · have h1 : ¬ i3 (r : Int) = 1 := by
      rw [show (1 : Int32) = i3 1 from rfl, i3_eq ⟨by omega, by omega⟩ ⟨by decide, by decide⟩]
      omega
    rw [if_neg h1, zLet_q, show (6 : Int32) = i3 6 from rfl, it_le ⟨by decide, by decide⟩ ⟨by omega, by omega⟩, show (1000 : Int32) = i3 1000 from rfl, i3_mul]
    by_cases c6 : 6 ≤ r
    · rw [if_pos (by omega)]
      exact ⟨_, by unfold vS; omega, rfl⟩
    · rw [if_neg (by omega), show (if i3 (r : Int) ≤ 0 then some (i3 (1000 * (r : Int))) else zBP (f_Law_low (x >>> (5 &&& 31)) 7 m) fun v6 => some (i3 (1000 * (r : Int)) + v6)) = (if (r : Int) ≤ 0 then some (i3 (1000 * (r : Int))) else zBP (f_Law_low (x >>> (5 &&& 31)) 7 m) fun v6 => some (i3 (1000 * (r : Int)) + v6)) from it_le (b := 0) ⟨by omega, by omega⟩ ⟨by decide, by decide⟩]
      by_cases c0 : r = 0
      · subst c0
        rw [if_pos (by decide)]
        exact ⟨_, Or.inl rfl, rfl⟩
      · obtain ⟨u, hu, e3⟩ : ∃ u : Nat, u < 7 ∧ f_Law_low (x >>> (5 &&& 31)) 7 m = some (i3 u) := law_low _ (n := 7) (by decide) m
        rw [if_neg (by omega), e3, zBP_some, i3_add]
        exact ⟨_, by unfold vS; omega, rfl⟩
