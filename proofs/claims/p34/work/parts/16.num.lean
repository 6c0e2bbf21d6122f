/-! NUMBERS: 32-bit ints as images of integers; the walk of loops -/
def i3 (x : Int) : Int32 := Int32.ofInt x
theorem i3_ti {x : Int} (h : -2147483648 ≤ x ∧ x < 2147483648) : (i3 x).toInt = x := Int32.toInt_ofInt_of_le h.1 h.2
theorem i3_of (x : Int32) : i3 x.toInt = x := Int32.ofInt_toInt x
theorem i3_bd (x : Int32) : -2147483648 ≤ x.toInt ∧ x.toInt < 2147483648 := ⟨Int32.le_toInt x, Int32.toInt_lt x⟩
theorem i3_lit (n : Nat) : (@OfNat.ofNat Int32 n Int32.instOfNat) = i3 (@OfNat.ofNat Int n instOfNat) := (Int32.ofInt_eq_ofNat (n := n)).symm
theorem i3_ofNat (n : Nat) : Int32.ofNat n = i3 n := (Int32.ofInt_eq_ofNat (n := n)).symm
theorem i3_add (a b : Int) : i3 a + i3 b = i3 (a + b) := (Int32.ofInt_add a b).symm
theorem i3_sub (a b : Int) : i3 a - i3 b = i3 (a - b) := (Int32.ofInt_sub a b).symm
theorem i3_mul (a b : Int) : i3 a * i3 b = i3 (a * b) := (Int32.ofInt_mul a b).symm
theorem i3_neg (a : Int) : -i3 a = i3 (-a) := (Int32.ofInt_neg a).symm
theorem i3_lt {a b : Int} (ha : -2147483648 ≤ a ∧ a < 2147483648) (hb : -2147483648 ≤ b ∧ b < 2147483648) : i3 a < i3 b ↔ a < b := by
  rw [Int32.lt_iff_toInt_lt, i3_ti ha, i3_ti hb]
theorem i3_le {a b : Int} (ha : -2147483648 ≤ a ∧ a < 2147483648) (hb : -2147483648 ≤ b ∧ b < 2147483648) : i3 a ≤ i3 b ↔ a ≤ b := by
  rw [Int32.le_iff_toInt_le, i3_ti ha, i3_ti hb]
theorem i3_eq {a b : Int} (ha : -2147483648 ≤ a ∧ a < 2147483648) (hb : -2147483648 ≤ b ∧ b < 2147483648) : i3 a = i3 b ↔ a = b := by
  rw [← Int32.toInt_inj, i3_ti ha, i3_ti hb]
theorem i3_div {a b : Int} (ha : 0 ≤ a ∧ a < 2147483648) (hb : 0 < b ∧ b < 2147483648) : i3 a / i3 b = i3 (a / b) := by
  apply Int32.toInt_inj.mp
  have h1 : 0 ≤ a / b := Int.ediv_nonneg ha.1 (Int.le_of_lt hb.1)
  have h2 : a / b ≤ a := Int.ediv_le_self _ ha.1
  rw [Int32.toInt_div, i3_ti ⟨by omega, ha.2⟩, i3_ti ⟨by omega, hb.2⟩, i3_ti ⟨by omega, by omega⟩, Int.tdiv_eq_ediv_of_nonneg ha.1]
  exact Int.bmod_eq_of_le (by omega) (by omega)
theorem i3_mod {a b : Int} (ha : 0 ≤ a ∧ a < 2147483648) (hb : 0 < b ∧ b < 2147483648) : i3 a % i3 b = i3 (a % b) := by
  apply Int32.toInt_inj.mp
  have h1 : 0 ≤ a % b := Int.emod_nonneg _ (by omega)
  have h2 : a % b < b := Int.emod_lt_of_pos _ hb.1
  rw [Int32.toInt_mod, i3_ti ⟨by omega, ha.2⟩, i3_ti ⟨by omega, hb.2⟩, i3_ti ⟨by omega, by omega⟩, Int.tmod_eq_emod_of_nonneg ha.1]
theorem i3_tdiv {a b : Int} (ha : -2147483648 < a ∧ a < 2147483648) (hb : 0 < b ∧ b < 2147483648) : i3 a / i3 b = i3 (a.tdiv b) := by
  apply Int32.toInt_inj.mp
  have h3 : (a.tdiv b).natAbs ≤ a.natAbs := by
    rw [Int.natAbs_tdiv]
    exact Nat.div_le_self _ _
  rw [Int32.toInt_div, i3_ti ⟨by omega, ha.2⟩, i3_ti ⟨by omega, hb.2⟩, i3_ti ⟨by omega, by omega⟩]
  exact Int.bmod_eq_of_le (by omega) (by omega)
theorem i3_ix {a : Int} (ha : -2147483648 ≤ a ∧ a < 2147483648) : zIx (i3 a) = a.toNat := by
  show (i3 a).toInt.toNat = _
  rw [i3_ti ha]
theorem i3_in {a : Int} {n : Nat} (ha : -2147483648 ≤ a ∧ a < 2147483648) : zIn (i3 a) n ↔ (0 ≤ a ∧ a.toNat < n) := by
  unfold zIn
  rw [i3_lit 0, i3_le ⟨by decide, by decide⟩ ha]
  show (0 ≤ a ∧ zIx (i3 a) < n) ↔ _
  rw [i3_ix ha]
theorem i3_bo {a : Int} (ha : -2147483648 ≤ a ∧ a < 2147483648) : zBo (i3 a) ↔ (a = 0 ∨ a = 1) := by
  unfold zBo
  rw [i3_lit 0, i3_lit 1, i3_eq ha ⟨by decide, by decide⟩, i3_eq ha ⟨by decide, by decide⟩]
theorem i3_ch {a : Int} (ha : -2147483648 ≤ a ∧ a < 2147483648) : zCh (i3 a) ↔ (0 ≤ a ∧ a < 65536) := by
  unfold zCh
  rw [i3_lit 0, i3_lit 65536, i3_le ⟨by decide, by decide⟩ ha, i3_lt ha ⟨by decide, by decide⟩]
theorem i3_abs {a : Int32} : ∃ x : Int, a = i3 x ∧ -2147483648 ≤ x ∧ x < 2147483648 := ⟨a.toInt, (i3_of a).symm, i3_bd a⟩
theorem zIn_ix {i : Int32} {n : Nat} (h : zIn i n) : zIx i < n := h.2
theorem i3_add1 (a : Int) : i3 a + 1 = i3 (a + 1) := i3_add a 1
theorem i3_sub1 (a : Int) : i3 a - 1 = i3 (a - 1) := i3_sub a 1
theorem i3_z : (0 : Int32) = i3 0 := rfl
theorem i3_o : (1 : Int32) = i3 1 := rfl
theorem it_lt {α : Type} {a b : Int} {x y : α} (ha : -2147483648 ≤ a ∧ a < 2147483648) (hb : -2147483648 ≤ b ∧ b < 2147483648) : (if i3 a < i3 b then x else y) = if a < b then x else y := by simp only [i3_lt ha hb]
theorem it_le {α : Type} {a b : Int} {x y : α} (ha : -2147483648 ≤ a ∧ a < 2147483648) (hb : -2147483648 ≤ b ∧ b < 2147483648) : (if i3 a ≤ i3 b then x else y) = if a ≤ b then x else y := by simp only [i3_le ha hb]
theorem it_eq {α : Type} {a b : Int} {x y : α} (ha : -2147483648 ≤ a ∧ a < 2147483648) (hb : -2147483648 ≤ b ∧ b < 2147483648) : (if i3 a = i3 b then x else y) = if a = b then x else y := by simp only [i3_eq ha hb]
/-- not by rfl: the kernel would compare too much -/
theorem ob_s {α β : Type} {v : β} {K : β → Option α} : (some v).bind K = K v := Eq.trans rfl rfl
theorem zBI_some {α : Type} {v : Int32} {M : Mm} {K : Int32 → Mm → Option α} : zBI (some (v, M)) K = K v M := Eq.trans rfl rfl
theorem zBV_some {α : Type} {M : Mm} {K : Mm → Option α} : zBV (some M) K = K M := Eq.trans rfl rfl
theorem zBP_some {α β : Type} {v : β} {K : β → Option α} : zBP (some v) K = K v := Eq.trans rfl rfl
/-- a bit as an Int32 -/
def b3 (b : Bool) : Int32 := if b then 1 else 0
theorem b3_0 (b : Bool) : (b3 b = 0) ↔ b = false := by cases b <;> decide
theorem b3_1 (b : Bool) : (b3 b = 1) ↔ b = true := by cases b <;> decide
theorem b3_i0 (b : Bool) : (b3 b = i3 0) ↔ b = false := by cases b <;> decide
theorem it_b0 {α : Type} {b : Bool} {x y : α} : (if b3 b = i3 0 then x else y) = if b = false then x else y := by simp only [b3_i0]
theorem b3_bo (b : Bool) : zBo (b3 b) := by cases b <;> decide
theorem b3_t : b3 true = 1 := rfl
theorem b3_f : b3 false = 0 := rfl

theorem run_zLq1 {β : Type} {F : (Int32 → Option β) → Int32 → Option β} {v : Option β} (I : Nat → Int32 → Prop)
    (step : ∀ (r : Int32 → Option β) (j : Nat) (x0 : Int32), I j x0 → F r x0 = v ∨ ∃ (x0' : Int32) (j' : Nat), j' < j ∧ I j' x0' ∧ F r x0 = r x0') :
    ∀ (n j : Nat) (x0 : Int32), I j x0 → j < n → zLq1 F n x0 = v := by
  intro n
  induction n with
  | zero => intro j x0 _ h; exact absurd h (Nat.not_lt_zero j)
  | succ n ih =>
    intro j x0 hI hj
    rcases step (zLq1 F n) j x0 hI with h | ⟨x0', j', hj', hI', h⟩
    · exact h
    · show F (zLq1 F n) x0 = v
      rw [h]
      exact ih j' x0' hI' (Nat.lt_of_lt_of_le hj' (Nat.le_of_lt_succ hj))

theorem run_zLq2 {β : Type} {F : (Int32 → Int32 → Option β) → Int32 → Int32 → Option β} {v : Option β} (I : Nat → Int32 → Int32 → Prop)
    (step : ∀ (r : Int32 → Int32 → Option β) (j : Nat) (x0 x1 : Int32), I j x0 x1 → F r x0 x1 = v ∨ ∃ (x0' x1' : Int32) (j' : Nat), j' < j ∧ I j' x0' x1' ∧ F r x0 x1 = r x0' x1') :
    ∀ (n j : Nat) (x0 x1 : Int32), I j x0 x1 → j < n → zLq2 F n x0 x1 = v := by
  intro n
  induction n with
  | zero => intro j x0 x1 _ h; exact absurd h (Nat.not_lt_zero j)
  | succ n ih =>
    intro j x0 x1 hI hj
    rcases step (zLq2 F n) j x0 x1 hI with h | ⟨x0', x1', j', hj', hI', h⟩
    · exact h
    · show F (zLq2 F n) x0 x1 = v
      rw [h]
      exact ih j' x0' x1' hI' (Nat.lt_of_lt_of_le hj' (Nat.le_of_lt_succ hj))

theorem run_zLq3 {β : Type} {F : (Int32 → Int32 → Int32 → Option β) → Int32 → Int32 → Int32 → Option β} {v : Option β} (I : Nat → Int32 → Int32 → Int32 → Prop)
    (step : ∀ (r : Int32 → Int32 → Int32 → Option β) (j : Nat) (x0 x1 x2 : Int32), I j x0 x1 x2 → F r x0 x1 x2 = v ∨ ∃ (x0' x1' x2' : Int32) (j' : Nat), j' < j ∧ I j' x0' x1' x2' ∧ F r x0 x1 x2 = r x0' x1' x2') :
    ∀ (n j : Nat) (x0 x1 x2 : Int32), I j x0 x1 x2 → j < n → zLq3 F n x0 x1 x2 = v := by
  intro n
  induction n with
  | zero => intro j x0 x1 x2 _ h; exact absurd h (Nat.not_lt_zero j)
  | succ n ih =>
    intro j x0 x1 x2 hI hj
    rcases step (zLq3 F n) j x0 x1 x2 hI with h | ⟨x0', x1', x2', j', hj', hI', h⟩
    · exact h
    · show F (zLq3 F n) x0 x1 x2 = v
      rw [h]
      exact ih j' x0' x1' x2' hI' (Nat.lt_of_lt_of_le hj' (Nat.le_of_lt_succ hj))

theorem run_zLq4 {β : Type} {F : (Int32 → Int32 → Int32 → Int32 → Option β) → Int32 → Int32 → Int32 → Int32 → Option β} {v : Option β} (I : Nat → Int32 → Int32 → Int32 → Int32 → Prop)
    (step : ∀ (r : Int32 → Int32 → Int32 → Int32 → Option β) (j : Nat) (x0 x1 x2 x3 : Int32), I j x0 x1 x2 x3 → F r x0 x1 x2 x3 = v ∨ ∃ (x0' x1' x2' x3' : Int32) (j' : Nat), j' < j ∧ I j' x0' x1' x2' x3' ∧ F r x0 x1 x2 x3 = r x0' x1' x2' x3') :
    ∀ (n j : Nat) (x0 x1 x2 x3 : Int32), I j x0 x1 x2 x3 → j < n → zLq4 F n x0 x1 x2 x3 = v := by
  intro n
  induction n with
  | zero => intro j x0 x1 x2 x3 _ h; exact absurd h (Nat.not_lt_zero j)
  | succ n ih =>
    intro j x0 x1 x2 x3 hI hj
    rcases step (zLq4 F n) j x0 x1 x2 x3 hI with h | ⟨x0', x1', x2', x3', j', hj', hI', h⟩
    · exact h
    · show F (zLq4 F n) x0 x1 x2 x3 = v
      rw [h]
      exact ih j' x0' x1' x2' x3' hI' (Nat.lt_of_lt_of_le hj' (Nat.le_of_lt_succ hj))

theorem run_zLq5 {β : Type} {F : (Int32 → Int32 → Int32 → Int32 → Int32 → Option β) → Int32 → Int32 → Int32 → Int32 → Int32 → Option β} {v : Option β} (I : Nat → Int32 → Int32 → Int32 → Int32 → Int32 → Prop)
    (step : ∀ (r : Int32 → Int32 → Int32 → Int32 → Int32 → Option β) (j : Nat) (x0 x1 x2 x3 x4 : Int32), I j x0 x1 x2 x3 x4 → F r x0 x1 x2 x3 x4 = v ∨ ∃ (x0' x1' x2' x3' x4' : Int32) (j' : Nat), j' < j ∧ I j' x0' x1' x2' x3' x4' ∧ F r x0 x1 x2 x3 x4 = r x0' x1' x2' x3' x4') :
    ∀ (n j : Nat) (x0 x1 x2 x3 x4 : Int32), I j x0 x1 x2 x3 x4 → j < n → zLq5 F n x0 x1 x2 x3 x4 = v := by
  intro n
  induction n with
  | zero => intro j x0 x1 x2 x3 x4 _ h; exact absurd h (Nat.not_lt_zero j)
  | succ n ih =>
    intro j x0 x1 x2 x3 x4 hI hj
    rcases step (zLq5 F n) j x0 x1 x2 x3 x4 hI with h | ⟨x0', x1', x2', x3', x4', j', hj', hI', h⟩
    · exact h
    · show F (zLq5 F n) x0 x1 x2 x3 x4 = v
      rw [h]
      exact ih j' x0' x1' x2' x3' x4' hI' (Nat.lt_of_lt_of_le hj' (Nat.le_of_lt_succ hj))

theorem run_zLp0 {β : Type} {F : (Mm → Option β) → Mm → Option β} {v : Option β} (I : Nat → Mm → Prop)
    (step : ∀ (r : Mm → Option β) (j : Nat) (m : Mm), I j m → F r m = v ∨ ∃ (m' : Mm) (j' : Nat), j' < j ∧ I j' m' ∧ F r m = r m') :
    ∀ (n j : Nat) (m : Mm), I j m → j < n → zLp0 F n m = v := by
  intro n
  induction n with
  | zero => intro j m _ h; exact absurd h (Nat.not_lt_zero j)
  | succ n ih =>
    intro j m hI hj
    rcases step (zLp0 F n) j m hI with h | ⟨m', j', hj', hI', h⟩
    · exact h
    · show F (zLp0 F n) m = v
      rw [h]
      exact ih j' m' hI' (Nat.lt_of_lt_of_le hj' (Nat.le_of_lt_succ hj))

theorem run_zLp1 {β : Type} {F : (Int32 → Mm → Option β) → Int32 → Mm → Option β} {v : Option β} (I : Nat → Int32 → Mm → Prop)
    (step : ∀ (r : Int32 → Mm → Option β) (j : Nat) (x0 : Int32) (m : Mm), I j x0 m → F r x0 m = v ∨ ∃ (x0' : Int32) (m' : Mm) (j' : Nat), j' < j ∧ I j' x0' m' ∧ F r x0 m = r x0' m') :
    ∀ (n j : Nat) (x0 : Int32) (m : Mm), I j x0 m → j < n → zLp1 F n x0 m = v := by
  intro n
  induction n with
  | zero => intro j x0 m _ h; exact absurd h (Nat.not_lt_zero j)
  | succ n ih =>
    intro j x0 m hI hj
    rcases step (zLp1 F n) j x0 m hI with h | ⟨x0', m', j', hj', hI', h⟩
    · exact h
    · show F (zLp1 F n) x0 m = v
      rw [h]
      exact ih j' x0' m' hI' (Nat.lt_of_lt_of_le hj' (Nat.le_of_lt_succ hj))

theorem run_zLp2 {β : Type} {F : (Int32 → Int32 → Mm → Option β) → Int32 → Int32 → Mm → Option β} {v : Option β} (I : Nat → Int32 → Int32 → Mm → Prop)
    (step : ∀ (r : Int32 → Int32 → Mm → Option β) (j : Nat) (x0 x1 : Int32) (m : Mm), I j x0 x1 m → F r x0 x1 m = v ∨ ∃ (x0' x1' : Int32) (m' : Mm) (j' : Nat), j' < j ∧ I j' x0' x1' m' ∧ F r x0 x1 m = r x0' x1' m') :
    ∀ (n j : Nat) (x0 x1 : Int32) (m : Mm), I j x0 x1 m → j < n → zLp2 F n x0 x1 m = v := by
  intro n
  induction n with
  | zero => intro j x0 x1 m _ h; exact absurd h (Nat.not_lt_zero j)
  | succ n ih =>
    intro j x0 x1 m hI hj
    rcases step (zLp2 F n) j x0 x1 m hI with h | ⟨x0', x1', m', j', hj', hI', h⟩
    · exact h
    · show F (zLp2 F n) x0 x1 m = v
      rw [h]
      exact ih j' x0' x1' m' hI' (Nat.lt_of_lt_of_le hj' (Nat.le_of_lt_succ hj))

theorem run_zLp3 {β : Type} {F : (Int32 → Int32 → Int32 → Mm → Option β) → Int32 → Int32 → Int32 → Mm → Option β} {v : Option β} (I : Nat → Int32 → Int32 → Int32 → Mm → Prop)
    (step : ∀ (r : Int32 → Int32 → Int32 → Mm → Option β) (j : Nat) (x0 x1 x2 : Int32) (m : Mm), I j x0 x1 x2 m → F r x0 x1 x2 m = v ∨ ∃ (x0' x1' x2' : Int32) (m' : Mm) (j' : Nat), j' < j ∧ I j' x0' x1' x2' m' ∧ F r x0 x1 x2 m = r x0' x1' x2' m') :
    ∀ (n j : Nat) (x0 x1 x2 : Int32) (m : Mm), I j x0 x1 x2 m → j < n → zLp3 F n x0 x1 x2 m = v := by
  intro n
  induction n with
  | zero => intro j x0 x1 x2 m _ h; exact absurd h (Nat.not_lt_zero j)
  | succ n ih =>
    intro j x0 x1 x2 m hI hj
    rcases step (zLp3 F n) j x0 x1 x2 m hI with h | ⟨x0', x1', x2', m', j', hj', hI', h⟩
    · exact h
    · show F (zLp3 F n) x0 x1 x2 m = v
      rw [h]
      exact ih j' x0' x1' x2' m' hI' (Nat.lt_of_lt_of_le hj' (Nat.le_of_lt_succ hj))

theorem run_zLp4 {β : Type} {F : (Int32 → Int32 → Int32 → Int32 → Mm → Option β) → Int32 → Int32 → Int32 → Int32 → Mm → Option β} {v : Option β} (I : Nat → Int32 → Int32 → Int32 → Int32 → Mm → Prop)
    (step : ∀ (r : Int32 → Int32 → Int32 → Int32 → Mm → Option β) (j : Nat) (x0 x1 x2 x3 : Int32) (m : Mm), I j x0 x1 x2 x3 m → F r x0 x1 x2 x3 m = v ∨ ∃ (x0' x1' x2' x3' : Int32) (m' : Mm) (j' : Nat), j' < j ∧ I j' x0' x1' x2' x3' m' ∧ F r x0 x1 x2 x3 m = r x0' x1' x2' x3' m') :
    ∀ (n j : Nat) (x0 x1 x2 x3 : Int32) (m : Mm), I j x0 x1 x2 x3 m → j < n → zLp4 F n x0 x1 x2 x3 m = v := by
  intro n
  induction n with
  | zero => intro j x0 x1 x2 x3 m _ h; exact absurd h (Nat.not_lt_zero j)
  | succ n ih =>
    intro j x0 x1 x2 x3 m hI hj
    rcases step (zLp4 F n) j x0 x1 x2 x3 m hI with h | ⟨x0', x1', x2', x3', m', j', hj', hI', h⟩
    · exact h
    · show F (zLp4 F n) x0 x1 x2 x3 m = v
      rw [h]
      exact ih j' x0' x1' x2' x3' m' hI' (Nat.lt_of_lt_of_le hj' (Nat.le_of_lt_succ hj))

theorem run_zLp5 {β : Type} {F : (Int32 → Int32 → Int32 → Int32 → Int32 → Mm → Option β) → Int32 → Int32 → Int32 → Int32 → Int32 → Mm → Option β} {v : Option β} (I : Nat → Int32 → Int32 → Int32 → Int32 → Int32 → Mm → Prop)
    (step : ∀ (r : Int32 → Int32 → Int32 → Int32 → Int32 → Mm → Option β) (j : Nat) (x0 x1 x2 x3 x4 : Int32) (m : Mm), I j x0 x1 x2 x3 x4 m → F r x0 x1 x2 x3 x4 m = v ∨ ∃ (x0' x1' x2' x3' x4' : Int32) (m' : Mm) (j' : Nat), j' < j ∧ I j' x0' x1' x2' x3' x4' m' ∧ F r x0 x1 x2 x3 x4 m = r x0' x1' x2' x3' x4' m') :
    ∀ (n j : Nat) (x0 x1 x2 x3 x4 : Int32) (m : Mm), I j x0 x1 x2 x3 x4 m → j < n → zLp5 F n x0 x1 x2 x3 x4 m = v := by
  intro n
  induction n with
  | zero => intro j x0 x1 x2 x3 x4 m _ h; exact absurd h (Nat.not_lt_zero j)
  | succ n ih =>
    intro j x0 x1 x2 x3 x4 m hI hj
    rcases step (zLp5 F n) j x0 x1 x2 x3 x4 m hI with h | ⟨x0', x1', x2', x3', x4', m', j', hj', hI', h⟩
    · exact h
    · show F (zLp5 F n) x0 x1 x2 x3 x4 m = v
      rw [h]
      exact ih j' x0' x1' x2' x3' x4' m' hI' (Nat.lt_of_lt_of_le hj' (Nat.le_of_lt_succ hj))
