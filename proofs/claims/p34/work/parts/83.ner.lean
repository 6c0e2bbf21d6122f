/-! DISPENSATIONS NEAR BY -/
def near (F Y : Nat → Int) (f y : Int) : Nat → Bool
  | 0 => false
  | n + 1 => near F Y f y n || decide (F n = f ∧ Y n - y < 10 ∧ y - Y n < 10)
theorem near_succ {F Y : Nat → Int} {f y : Int} {n : Nat} : near F Y f y (n + 1) = (near F Y f y n || decide (F n = f ∧ Y n - y < 10 ∧ y - Y n < 10)) := rfl
theorem near_iff {F Y : Nat → Int} {f y : Int} : ∀ n, near F Y f y n = true ↔ ∃ i, i < n ∧ F i = f ∧ Y i - y < 10 ∧ y - Y i < 10 := by
  intro n
  induction n with
  | zero => exact ⟨fun h => (nomatch h), fun ⟨i, hi, _⟩ => absurd hi (Nat.not_lt_zero i)⟩
  | succ n ih =>
    rw [near_succ, Bool.or_eq_true, ih, decide_eq_true_eq]
    constructor
    · rintro (⟨i, hi, h⟩ | h)
      · exact ⟨i, by omega, h⟩
      · exact ⟨n, Nat.lt_succ_self n, h⟩
    · rintro ⟨i, hi, h⟩
      by_cases e : i = n
      · subst e; exact Or.inr h
      · exact Or.inl ⟨i, by omega, h⟩
section NER
variable {m : Mm} {F Y K : Nat → Int} {n : Nat}
theorem alm_near (hv : vB F Y K n) (h : Cbn m F Y K n) {f y : Int} (hf : 0 ≤ f ∧ f < 20) (hy : 0 ≤ y ∧ y < 400) : f_Alm_hasOneNear (i3 f) (i3 y) m = some (b3 (near F Y f y n)) := by
  obtain ⟨h25, hD⟩ := h
  obtain ⟨h30, hB⟩ := hv
  rw [e_Alm_hasOneNear]
  refine run_zLq1 (fun j x1 => ∃ i : Nat, x1 = i3 i ∧ i ≤ n ∧ j = n - i ∧ near F Y f y i = false) ?_ zFu n _ ⟨0, rfl, Nat.zero_le _, rfl, rfl⟩ (by unfold zFu; omega)
  rintro r j x1 ⟨i, rfl, hi, rfl, hno⟩
  unfold l_Alm_hasOneNear_0
  rw [h25, it_le ⟨by omega, by omega⟩ ⟨by omega, by omega⟩]
  by_cases e : (n : Int) ≤ i
  · left
    have : i = n := by omega
    subst this
    rw [if_pos e, hno]
    rfl
  · have hlt : i < n := by omega
    obtain ⟨d1, d2, d3⟩ := hD i hlt
    obtain ⟨b1, b2, b3'⟩ := hB i hlt
    have hin : zIn (i3 (i : Int)) 30 := (i3_in ⟨by omega, by omega⟩).mpr ⟨by omega, by omega⟩
    have hix : zIx (i3 (i : Int)) = i := by rw [i3_ix ⟨by omega, by omega⟩, Int.toNat_natCast]
    rw [if_neg e, if_pos hin]
    simp only [zLet, hix, d1, d2, if_pos hin, i3_add1, i3_sub]
    rw [mat_abs ⟨by omega, by omega⟩, zBP_some, it_eq ⟨by omega, by omega⟩ ⟨by omega, by omega⟩, show (10 : Int32) = i3 10 from rfl, it_le ⟨by decide, by decide⟩ ⟨by split <;> omega, by split <;> omega⟩]
    by_cases c1 : F i = f
    · rw [if_pos c1]
      by_cases c2 : (10 : Int) ≤ (if Y i - y < 0 then -(Y i - y) else Y i - y)
      · right
        rw [if_pos c2]
        refine ⟨_, n - (i + 1), by omega, ⟨i + 1, rfl, hlt, rfl, ?_⟩, rfl⟩
        rw [near_succ, hno, decide_eq_false (fun z => by split at c2 <;> omega)]
        rfl
      · left
        have : near F Y f y n = true := (near_iff n).mpr ⟨i, hlt, c1, by split at c2 <;> omega, by split at c2 <;> omega⟩
        rw [if_neg c2, this]
        rfl
    · right
      rw [if_neg c1]
      refine ⟨_, n - (i + 1), by omega, ⟨i + 1, rfl, hlt, rfl, ?_⟩, rfl⟩
      rw [near_succ, hno, decide_eq_false (fun z => c1 z.1)]
      rfl
end NER
