/-! NAMES THAT ARE THERE -/
def thr (K A : Nat → Int) (N : Nat) : Nat → Bool
  | 0 => true
  | n + 1 => thr K A N n && !(decide (K n = 4 ∨ K n = 15) && decide ((N : Int) ≤ A n))
theorem thr_succ {K A : Nat → Int} {N n : Nat} : thr K A N (n + 1) = (thr K A N n && !(decide (K n = 4 ∨ K n = 15) && decide ((N : Int) ≤ A n))) := rfl
theorem thr_iff {K A : Nat → Int} {N : Nat} : ∀ n, thr K A N n = true ↔ ∀ i, i < n → (K i = 4 ∨ K i = 15) → A i < N := by
  intro n
  induction n with
  | zero => exact ⟨fun _ i hi => absurd hi (Nat.not_lt_zero i), fun _ => rfl⟩
  | succ n ih =>
    rw [thr_succ, Bool.and_eq_true, ih]
    constructor
    · rintro ⟨h1, h2⟩ i hi hk
      by_cases e : i = n
      · subst e
        rw [decide_eq_true hk, Bool.true_and] at h2
        by_cases c : (N : Int) ≤ A i
        · rw [decide_eq_true c] at h2
          exact nomatch h2
        · omega
      · exact h1 i (by omega) hk
    · intro h
      refine ⟨fun i hi => h i (by omega), ?_⟩
      by_cases hk : K n = 4 ∨ K n = 15
      · have := h n (Nat.lt_succ_self n) hk
        rw [decide_eq_false (show ¬ (N : Int) ≤ A n by omega), Bool.and_false]
        rfl
      · rw [decide_eq_false hk, Bool.false_and]
        rfl
theorem mod_areThere {m : Mm} {N n : Nat} {K A : Nat → Int} (hN : N ≤ 20) (hn : n ≤ 80) (h19 : zI m 201 19 = i3 N) (h11 : zI m 201 11 = i3 n) (hC : ∀ i, i < n → zI m 206 i = i3 (K i) ∧ zI m 207 i = i3 (A i)) (hb : ∀ i, i < n → (-1000000 ≤ K i ∧ K i ≤ 1000000) ∧ (-1000000 ≤ A i ∧ A i ≤ 1000000)) : f_Mod_areThere m = some (b3 (thr K A N n)) := by
  rw [e_Mod_areThere]
  refine run_zLq2 (fun j x1 x2 => ∃ i : Nat, x1 = b3 (thr K A N i) ∧ x2 = i3 i ∧ i ≤ n ∧ j = n - i) ?_ zFu n _ _ ⟨0, show (1 : Int32) = b3 true by decide, rfl, Nat.zero_le _, rfl⟩ (by unfold zFu; omega)
  rintro r j x1 x2 ⟨i, rfl, rfl, hi, rfl⟩
  unfold l_Mod_areThere_0
  rw [h11, it_le ⟨by omega, by omega⟩ ⟨by omega, by omega⟩]
  by_cases e : (n : Int) ≤ i
  · left
    rw [if_pos e, show i = n by omega, if_pos (b3_bo _)]
  · right
    have hlt : i < n := by omega
    have hin : zIn (i3 (i : Int)) 80 := (i3_in ⟨by omega, by omega⟩).mpr ⟨by omega, by omega⟩
    have hix : zIx (i3 (i : Int)) = i := by rw [i3_ix ⟨by omega, by omega⟩, Int.toNat_natCast]
    obtain ⟨c1, c2⟩ := hC i hlt
    obtain ⟨b1, b2⟩ := hb i hlt
    refine ⟨_, _, n - (i + 1), by omega, ⟨i + 1, rfl, rfl, hlt, rfl⟩, ?_⟩
    rw [if_neg e, thr_succ]
    simp only [zLet, if_pos hin, hix, c1, c2, h19, i3_add1]
    have e4 : (i3 (K i) = 4) ↔ K i = 4 := i3_eq (b := 4) ⟨by omega, by omega⟩ ⟨by decide, by decide⟩
    have e15 : (i3 (K i) = 15) ↔ K i = 15 := i3_eq (b := 15) ⟨by omega, by omega⟩ ⟨by decide, by decide⟩
    have eN : (i3 (N : Int) ≤ i3 (A i)) ↔ (N : Int) ≤ A i := i3_le ⟨by omega, by omega⟩ ⟨by omega, by omega⟩
    simp only [e4, e15, eN]
    cases thr K A N i with
    | false => rw [if_pos (show b3 false = 0 by decide)]; rfl
    | true =>
      rw [if_neg (show ¬ b3 true = 0 by decide)]
      by_cases k4 : K i = 4
      · rw [if_pos k4, decide_eq_true (Or.inl k4 : K i = 4 ∨ K i = 15)]
        by_cases c : (N : Int) ≤ A i
        · rw [if_pos c, decide_eq_true c]; rfl
        · rw [if_neg c, decide_eq_false c]; rfl
      rw [if_neg k4]
      by_cases k15 : K i = 15
      · rw [if_pos k15, decide_eq_true (Or.inr k15 : K i = 4 ∨ K i = 15)]
        by_cases c : (N : Int) ≤ A i
        · rw [if_pos c, decide_eq_true c]; rfl
        · rw [if_neg c, decide_eq_false c]; rfl
      · rw [if_neg k15, decide_eq_false (by omega : ¬ (K i = 4 ∨ K i = 15))]
        rfl
/-! the class's set -/
theorem i3_shu {nm N : Nat} (hN : N ≤ 20) (hm : nm < 2147483648) : (((i3 nm).toUInt32 >>> ((i3 ((N : Nat) : Int)).toUInt32 &&& Int32.toUInt32 31)).toInt32) = i3 ((nm >>> N : Nat)) := by
  have h1 : ∀ k : Nat, k < 21 → (((i3 ((k : Nat) : Int)).toUInt32 &&& Int32.toUInt32 31).toBitVec % 32).toNat = k := by decide +kernel
  apply Int32.toBitVec.inj
  rw [UInt32.toBitVec_toInt32, UInt32.toBitVec_shiftRight, BitVec.ushiftRight_eq', h1 N (by omega), Int32.toBitVec_toUInt32, i3_bv, i3_bv]
  apply BitVec.eq_of_toNat_eq
  rw [BitVec.toNat_ushiftRight, BitVec.toNat_ofNat, BitVec.toNat_ofNat, Nat.mod_eq_of_lt (by omega : nm < 2 ^ 32)]
  have : nm >>> N ≤ nm := by rw [Nat.shiftRight_eq_div_pow]; exact Nat.div_le_self _ _
  rw [Nat.mod_eq_of_lt (by omega)]
theorem cod_beyond {m : Mm} {a nm N : Nat} (hN : N ≤ 20) (hm : nm < 2147483648) (h : zI m a 3 = i3 nm) : f_Cod_namesBeyond a (i3 N) m = some (b3 (!decide (nm < 2 ^ N))) := by
  unfold f_Cod_namesBeyond
  rw [h, i3_shu hN hm]
  have hs : nm >>> N = nm / 2 ^ N := Nat.shiftRight_eq_div_pow _ _
  have hle : nm / 2 ^ N ≤ nm := Nat.div_le_self _ _
  by_cases c : nm < 2 ^ N
  · have e : nm >>> N = 0 := by rw [hs, Nat.div_eq_of_lt c]
    rw [e, if_pos (show i3 ((0 : Nat) : Int) = 0 from rfl), decide_eq_true c]
    rfl
  · have hp : 0 < 2 ^ N := Nat.two_pow_pos N
    have e : 0 < nm >>> N := by rw [hs]; exact Nat.div_pos (by omega) hp
    rw [if_neg (show ¬ i3 ((nm >>> N : Nat)) = 0 by rw [show (0 : Int32) = i3 0 from rfl, i3_eq ⟨by omega, by omega⟩ ⟨by decide, by decide⟩]; omega), decide_eq_false c]
    rfl
theorem nmC_bit {g : Nat} : ∀ C : Cx, (nmC C).testBit g = true ↔ ∃ i, i < C.length ∧ (cNm (C.getD i (0, 0))).testBit g = true := by
  intro C
  induction C with
  | nil => exact ⟨fun h => by simp [nmC] at h, fun ⟨i, hi, _⟩ => absurd hi (Nat.not_lt_zero i)⟩
  | cons q C ih =>
    show (cNm q ||| nmC C).testBit g = true ↔ _
    rw [Nat.testBit_or, Bool.or_eq_true, ih]
    constructor
    · rintro (h | ⟨i, hi, h⟩)
      · exact ⟨0, by simp, h⟩
      · exact ⟨i + 1, by simpa using hi, h⟩
    · rintro ⟨i, hi, h⟩
      cases i with
      | zero => exact Or.inl h
      | succ i => exact Or.inr ⟨i, by simpa using hi, h⟩
theorem lt_bits {nm N : Nat} : nm < 2 ^ N ↔ ∀ g, N ≤ g → nm.testBit g = false := by
  constructor
  · intro h g hg
    exact Nat.testBit_lt_two_pow (Nat.lt_of_lt_of_le h (Nat.pow_le_pow_right (by decide) hg))
  · intro h
    exact Nat.lt_pow_two_of_testBit nm h
/-- in a rule's code -/
theorem nm_rule {C : Cx} {M N : Nat} (hv : vL M 0 C) (hM : M ≤ 40) : (nmC C < 2 ^ N ↔ ∀ i, i < C.length → ((C.getD i (0, 0)).1 = 4 ∨ (C.getD i (0, 0)).1 = 15) → (C.getD i (0, 0)).2 < N) ∧ nmC C < 2147483648 := by
  have hb : ∀ i, i < C.length → ∀ g, (cNm (C.getD i (0, 0))).testBit g = true ↔ (((C.getD i (0, 0)).1 = 4 ∨ (C.getD i (0, 0)).1 = 15) ∧ (C.getD i (0, 0)).2 = g ∧ g ≤ 19) := by
    intro i hi g
    have hvs := hv i hi
    have hbd := hvs.bd hM
    unfold cNm
    by_cases c : (C.getD i (0, 0)).1 = 4 ∨ (C.getD i (0, 0)).1 = 15
    · have h19 : 0 ≤ (C.getD i (0, 0)).2 ∧ (C.getD i (0, 0)).2 ≤ 19 := by unfold vStep at hvs; omega
      rw [if_pos (by omega), Nat.testBit_two_pow, decide_eq_true_eq]
      omega
    · rw [if_neg (by omega), if_neg (by omega), if_neg (by omega), if_neg (by omega)]
      exact ⟨fun z => by simp at z, fun z => absurd z.1 c⟩
  have key : ∀ N : Nat, nmC C < 2 ^ N ↔ ∀ i, i < C.length → ((C.getD i (0, 0)).1 = 4 ∨ (C.getD i (0, 0)).1 = 15) → (C.getD i (0, 0)).2 < N := by
    intro N
    rw [lt_bits]
    constructor
    · intro h i hi hk
      have hvs := hv i hi
      have h19 : 0 ≤ (C.getD i (0, 0)).2 ∧ (C.getD i (0, 0)).2 ≤ 19 := by unfold vStep at hvs; omega
      by_cases c : (C.getD i (0, 0)).2 < N
      · exact c
      · have h1 := h (C.getD i (0, 0)).2.toNat (by omega)
        have h2 : (nmC C).testBit (C.getD i (0, 0)).2.toNat = true := (nmC_bit C).mpr ⟨i, hi, (hb i hi _).mpr ⟨hk, by omega, by omega⟩⟩
        rw [h1] at h2
        exact nomatch h2
    · intro h g hg
      cases e : (nmC C).testBit g with
      | false => rfl
      | true =>
        obtain ⟨i, hi, h2⟩ := (nmC_bit C).mp e
        obtain ⟨q1, q2, q3⟩ := (hb i hi g).mp h2
        have := h i hi q1
        omega
  refine ⟨key N, ?_⟩
  have : nmC C < 2 ^ 20 := (key 20).mpr fun i hi hk => by
    have hvs := hv i hi
    unfold vStep at hvs
    omega
  omega
