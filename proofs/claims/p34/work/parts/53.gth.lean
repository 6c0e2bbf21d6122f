/-! DISPENSATIONS, AND THE REFERENCE GOES THROUGH A RULE -/
def sIx (F Y : Nat → Int) (f y : Int) : Nat → Int
  | 0 => -1
  | n + 1 => if F n = f ∧ Y n = y then n else sIx F Y f y n
theorem sIx_succ {F Y : Nat → Int} {f y : Int} {n : Nat} : sIx F Y f y (n + 1) = if F n = f ∧ Y n = y then (n : Int) else sIx F Y f y n := rfl
theorem sIx_bd {F Y : Nat → Int} {f y : Int} : ∀ n, sIx F Y f y n = -1 ∨ ∃ i : Nat, i < n ∧ sIx F Y f y n = i ∧ F i = f ∧ Y i = y := by
  intro n
  induction n with
  | zero => exact Or.inl rfl
  | succ n ih =>
    unfold sIx
    by_cases h : F n = f ∧ Y n = y
    · rw [if_pos h]
      exact Or.inr ⟨n, Nat.lt_succ_self n, rfl, h.1, h.2⟩
    · rw [if_neg h]
      rcases ih with h | ⟨i, h1, h2, h3⟩
      · exact Or.inl h
      · exact Or.inr ⟨i, Nat.lt_succ_of_lt h1, h2, h3⟩
theorem sIx_no {F Y : Nat → Int} {f y : Int} : ∀ n, sIx F Y f y n = -1 → ∀ i, i < n → ¬ (F i = f ∧ Y i = y) := by
  intro n
  induction n with
  | zero => intro _ i hi; exact absurd hi (Nat.not_lt_zero i)
  | succ n ih =>
    intro h i hi
    unfold sIx at h
    by_cases c : F n = f ∧ Y n = y
    · rw [if_pos c] at h
      omega
    · rw [if_neg c] at h
      by_cases e : i = n
      · subst e; exact c
      · exact ih h i (by omega)
def Un (F Y : Nat → Int) (n : Nat) : Prop := ∀ i j, i < n → j < n → F i = F j → Y i = Y j → i = j
theorem sIx_at {F Y : Nat → Int} {f y : Int} {n i : Nat} (hu : Un F Y n) (hi : i < n) (h : F i = f ∧ Y i = y) : sIx F Y f y n = i := by
  rcases sIx_bd (F := F) (Y := Y) (f := f) (y := y) n with e | ⟨j, h1, h2, h3, h4⟩
  · exact absurd h (sIx_no n e i hi)
  · rw [h2, hu i j hi h1 (by rw [h.1, h3]) (by rw [h.2, h4])]
def sBend (y : Nat) (F Y K : Nat → Int) (n : Nat) (f d : Int) : Int := if d = -1 then -1 else if sIx F Y f y n = -1 then d else if K (sIx F Y f y n).toNat = 99 then -1 else sTo y (d + K (sIx F Y f y n).toNat)
def vB (F Y K : Nat → Int) (n : Nat) : Prop := n ≤ 30 ∧ ∀ i, i < n → (0 ≤ F i ∧ F i < 20) ∧ (0 ≤ Y i ∧ Y i < 400) ∧ (-30 ≤ K i ∧ K i ≤ 99)
/-- dispensations as the reference keeps them -/
def Rbn (m : Mm) (F Y K : Nat → Int) (n : Nat) : Prop := zI m 201 25 = i3 n ∧ ∀ i, i < n → zI m 213 i = i3 (F i) ∧ zI m 214 i = i3 (Y i) ∧ zI m 215 i = i3 (K i)
/-- and as the class does -/
def Cbn (m : Mm) (F Y K : Nat → Int) (n : Nat) : Prop := zI m 25 7 = i3 n ∧ ∀ i, i < n → zI m 29 i = i3 (F i) ∧ zI m 30 i = i3 (Y i) ∧ zI m 31 i = i3 (K i)
section BND
variable {m : Mm} {F Y K : Nat → Int} {n : Nat}
theorem mod_bendOf (hv : vB F Y K n) (h : Rbn m F Y K n) {f y : Int} (hf : 0 ≤ f ∧ f < 20) (hy : 0 ≤ y ∧ y < 400) : f_Mod_bendOf (i3 f) (i3 y) m = some (i3 (sIx F Y f y n)) := by
  obtain ⟨h25, hD⟩ := h
  obtain ⟨h30, hB⟩ := hv
  rw [e_Mod_bendOf]
  refine run_zLq2 (fun j x1 x2 => ∃ i : Nat, x1 = i3 (sIx F Y f y i) ∧ x2 = i3 i ∧ i ≤ n ∧ j = n - i) ?_ zFu n _ _ ⟨0, show (-1 : Int32) = i3 (-1) by decide, by decide, Nat.zero_le _, rfl⟩ (by unfold zFu; omega)
  rintro r j x1 x2 ⟨i, rfl, rfl, hi, rfl⟩
  unfold l_Mod_bendOf_0
  rw [h25, it_le ⟨by omega, by omega⟩ ⟨by omega, by omega⟩]
  by_cases e : (n : Int) ≤ i
  · left
    rw [if_pos e, show i = n by omega]
  · right
    have hlt : i < n := by omega
    obtain ⟨d1, d2, d3⟩ := hD i hlt
    obtain ⟨b1, b2, b3⟩ := hB i hlt
    have hin : zIn (i3 (i : Int)) 30 := (i3_in ⟨by omega, by omega⟩).mpr ⟨by omega, by omega⟩
    have hix : zIx (i3 (i : Int)) = i := by rw [i3_ix ⟨by omega, by omega⟩, Int.toNat_natCast]
    refine ⟨_, _, n - (i + 1), by omega, ⟨i + 1, rfl, rfl, hlt, rfl⟩, ?_⟩
    rw [if_neg e, if_pos hin]
    simp only [zLet, hix, d1, d2, if_pos hin, i3_add1]
    rw [it_eq ⟨by omega, by omega⟩ ⟨by omega, by omega⟩, it_eq ⟨by omega, by omega⟩ ⟨by omega, by omega⟩]
    rw [sIx_succ]
    by_cases c1 : F i = f
    · rw [if_pos c1]
      by_cases c2 : Y i = y
      · rw [if_pos c2, if_pos ⟨c1, c2⟩]
        rfl
      · rw [if_neg c2, if_neg (fun z => c2 z.2)]
        rfl
    · rw [if_neg c1, if_neg (fun z => c1 z.1)]
      rfl
theorem alm_dispFor (hv : vB F Y K n) (hu : Un F Y n) (h : Cbn m F Y K n) {f y : Int} (hf : 0 ≤ f ∧ f < 20) (hy : 0 ≤ y ∧ y < 400) : f_Alm_dispensationFor (i3 f) (i3 y) m = some (i3 (sIx F Y f y n)) := by
  obtain ⟨h25, hD⟩ := h
  obtain ⟨h30, hB⟩ := hv
  rw [e_Alm_dispensationFor]
  refine run_zLq1 (fun j x1 => ∃ i : Nat, x1 = i3 i ∧ i ≤ n ∧ j = n - i ∧ ∀ k, k < i → ¬ (F k = f ∧ Y k = y)) ?_ zFu n _ ⟨0, by decide, Nat.zero_le _, rfl, fun k hk => absurd hk (Nat.not_lt_zero k)⟩ (by unfold zFu; omega)
  rintro r j x1 ⟨i, rfl, hi, rfl, hno⟩
  unfold l_Alm_dispensationFor_0
  rw [h25, it_le ⟨by omega, by omega⟩ ⟨by omega, by omega⟩]
  by_cases e : (n : Int) ≤ i
  · left
    rw [if_pos e]
    rcases sIx_bd (F := F) (Y := Y) (f := f) (y := y) n with e2 | ⟨k, h1, h2, h3⟩
    · rw [e2]
      rfl
    · exact absurd h3 (hno k (by omega))
  · have hlt : i < n := by omega
    obtain ⟨d1, d2, d3⟩ := hD i hlt
    obtain ⟨b1, b2, b3⟩ := hB i hlt
    have hin : zIn (i3 (i : Int)) 30 := (i3_in ⟨by omega, by omega⟩).mpr ⟨by omega, by omega⟩
    have hix : zIx (i3 (i : Int)) = i := by rw [i3_ix ⟨by omega, by omega⟩, Int.toNat_natCast]
    rw [if_neg e, if_pos hin]
    simp only [zLet, hix, d1, d2, if_pos hin, i3_add1]
    rw [it_eq ⟨by omega, by omega⟩ ⟨by omega, by omega⟩, it_eq ⟨by omega, by omega⟩ ⟨by omega, by omega⟩]
    by_cases c : F i = f ∧ Y i = y
    · left
      rw [if_pos c.1, if_pos c.2, sIx_at hu hlt c]
    · right
      refine ⟨_, n - (i + 1), by omega, ⟨i + 1, rfl, hlt, rfl, fun k hk => ?_⟩, ?_⟩
      · by_cases e2 : k = i
        · subst e2; exact c
        · exact hno k (by omega)
      · by_cases c1 : F i = f
        · rw [if_pos c1, if_neg (fun z => c ⟨c1, z⟩)]
          rfl
        · rw [if_neg c1]
          rfl
theorem sBend_bd {y : Nat} {f d : Int} (hd : -1 ≤ d ∧ d < sLen y) : -1 ≤ sBend y F Y K n f d ∧ sBend y F Y K n f d < sLen y := by
  have hL := sLen_bd y
  have := sTo_bd y (d + K (sIx F Y f y n).toNat)
  unfold sBend
  split
  · omega
  · split
    · exact hd
    · split
      · omega
      · exact this
theorem alm_bend (hv : vB F Y K n) (hu : Un F Y n) (h : Cbn m F Y K n) {f : Int} {y : Nat} (hf : 0 ≤ f ∧ f < 20) (hy : y < 400) {d : Int} (hd : -1 ≤ d ∧ d < sLen y) : f_Alm_bend (i3 f) (i3 y) (i3 d) m = some (i3 (sBend y F Y K n f d)) := by
  have hL := sLen_bd y
  unfold f_Alm_bend sBend
  rw [alm_dispFor hv hu h hf ⟨by omega, by omega⟩, zBP_some, show (-1 : Int32) = i3 (-1) from rfl, it_m1 ⟨by omega, by omega⟩]
  by_cases c1 : d = -1
  · rw [if_pos c1, if_pos c1, c1]
  rw [if_neg c1, if_neg c1]
  rcases sIx_bd (F := F) (Y := Y) (f := f) (y := y) n with e | ⟨i, h1, h2, -⟩
  · rw [e, if_pos rfl, if_pos rfl]
  · have h30 := hv.1
    obtain ⟨-, -, b3⟩ := hv.2 i h1
    have hin : zIn (i3 (i : Int)) 30 := (i3_in ⟨by omega, by omega⟩).mpr ⟨by omega, by omega⟩
    have hix : zIx (i3 (i : Int)) = i := by rw [i3_ix ⟨by omega, by omega⟩, Int.toNat_natCast]
    rw [h2, it_m1 ⟨by omega, by omega⟩, if_neg (show ¬ (i : Int) = -1 by omega), if_neg (show ¬ (i : Int) = -1 by omega), if_pos hin, hix, (h.2 i h1).2.2, Int.toNat_natCast, show (99 : Int32) = i3 99 from rfl, it_eq ⟨by omega, by omega⟩ ⟨by decide, by decide⟩]
    by_cases c2 : K i = 99
    · rw [if_pos c2, if_pos c2]
    · rw [if_neg c2, if_neg c2, if_pos hin]
      simp only [zLet]
      rw [i3_add, show (0 : Int32) = i3 0 from rfl, it_lt ⟨by omega, by omega⟩ ⟨by decide, by decide⟩, cal_len hy, zBP_some, it_le ⟨by omega, by omega⟩ ⟨by omega, by omega⟩]
      unfold sTo
      by_cases c3 : d + K i < 0
      · rw [if_pos c3, if_neg (by omega)]
      · rw [if_neg c3]
        by_cases c4 : sLen y ≤ d + K i
        · rw [if_pos c4, if_neg (by omega)]
        · rw [if_neg c4, if_pos (by omega)]
end BND
