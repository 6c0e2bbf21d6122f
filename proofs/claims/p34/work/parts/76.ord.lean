/-! THE ORDER: bits, and counting -/
theorem i3_sbs {x D : Nat} (hx : x < 2147483648) (hD : D < 2147483648) : ((i3 x &&& (i3 D ^^^ (-1))) = 0) ↔ ∀ g, x.testBit g = true → D.testBit g = true := by
  have hm : (-1 : Int32).toBitVec = BitVec.allOnes 32 := by decide
  have hz : (0 : Int32).toBitVec = 0#32 := rfl
  have key : ((i3 x &&& (i3 D ^^^ (-1))) = 0) ↔ ∀ i, i < 32 → (x.testBit i && !D.testBit i) = false := by
    constructor
    · intro h i hi
      have h2 := congrArg Int32.toBitVec h
      rw [Int32.toBitVec_and, Int32.toBitVec_xor, i3_bv, i3_bv, hm, hz] at h2
      have h3 := congrArg (fun b => b.getLsbD i) h2
      simp only [BitVec.getLsbD_and, BitVec.getLsbD_xor, BitVec.getLsbD_ofNat, BitVec.getLsbD_allOnes, BitVec.getLsbD_zero] at h3
      simpa [hi] using h3
    · intro h
      apply Int32.toBitVec.inj
      rw [Int32.toBitVec_and, Int32.toBitVec_xor, i3_bv, i3_bv, hm, hz]
      apply BitVec.eq_of_getLsbD_eq
      intro i hi
      have := h i hi
      simp only [BitVec.getLsbD_and, BitVec.getLsbD_xor, BitVec.getLsbD_ofNat, BitVec.getLsbD_allOnes, BitVec.getLsbD_zero]
      simpa [hi] using this
  rw [key]
  constructor
  · intro h g hg
    by_cases c : g < 32
    · have := h g c
      rw [hg, Bool.true_and] at this
      cases e : D.testBit g with
      | true => rfl
      | false => rw [e] at this; exact nomatch this
    · have : x.testBit g = false := Nat.testBit_lt_two_pow (Nat.lt_of_lt_of_le hx (by
        have : 2 ^ 31 ≤ 2 ^ g := Nat.pow_le_pow_right (by decide) (by omega)
        exact this))
      rw [this] at hg
      exact nomatch hg
  · intro h i _
    cases e : x.testBit i with
    | false => rfl
    | true => rw [h i e]; rfl
/-- as many as there are places, all different: all of them -/
theorem pigeon : ∀ (n : Nat) (f : Nat → Nat), (∀ i, i < n → f i < n) → (∀ i j, i < n → j < n → f i = f j → i = j) → ∀ y, y < n → ∃ i, i < n ∧ f i = y := by
  intro n
  induction n with
  | zero => intro f _ _ y hy; exact absurd hy (Nat.not_lt_zero y)
  | succ n ih =>
    intro f hf hi y hy
    -- take the place of n out
    have h1 : ∀ i, i < n → (if f i = n then f n else f i) < n := by
      intro i hin
      have hfi := hf i (by omega)
      have hfn := hf n (by omega)
      split
      · next e =>
        have : f n ≠ n := fun e2 => by
          have := hi i n (by omega) (by omega) (by rw [e, e2])
          omega
        omega
      · omega
    have h2 : ∀ i j, i < n → j < n → (if f i = n then f n else f i) = (if f j = n then f n else f j) → i = j := by
      intro i j hin hjn
      split
      · next e =>
        split
        · next e2 => intro _; exact hi i j (by omega) (by omega) (by rw [e, e2])
        · next e2 =>
          intro e3
          have := hi n j (by omega) (by omega) e3
          omega
      · next e =>
        split
        · next e2 =>
          intro e3
          have := hi i n (by omega) (by omega) e3
          omega
        · next e2 => intro e3; exact hi i j (by omega) (by omega) e3
    by_cases hyn : f n = y
    · exact ⟨n, by omega, hyn⟩
    by_cases hy2 : y = n
    · -- someone must have n
      by_cases hex : ∃ i, i < n ∧ f i = n
      · obtain ⟨i, hin, e⟩ := hex
        exact ⟨i, by omega, by rw [e, hy2]⟩
      · exfalso
        have hfn : f n < n := by have := hf n (by omega); omega
        obtain ⟨i, hin, e⟩ := ih (fun i => if f i = n then f n else f i) h1 h2 (f n) hfn
        have hne : f i ≠ n := fun e2 => hex ⟨i, hin, e2⟩
        simp only [if_neg hne] at e
        have := hi i n (by omega) (by omega) e
        omega
    · obtain ⟨i, hin, e⟩ := ih (fun i => if f i = n then f n else f i) h1 h2 y (by omega)
      by_cases c : f i = n
      · rw [if_pos c] at e
        exact absurd e hyn
      · rw [if_neg c] at e
        exact ⟨i, by omega, e⟩
