/-! THE CLASS DRAFTS AN ORDER: the whole -/
theorem surj_le : ∀ (k N : Nat) (f : Nat → Nat), (∀ y, y < N → ∃ i, i < k ∧ f i = y) → N ≤ k := by
  intro k
  induction k with
  | zero =>
    intro N f h
    cases N with
    | zero => exact Nat.le_refl _
    | succ N =>
      obtain ⟨i, hi, -⟩ := h 0 (Nat.succ_pos N)
      exact absurd hi (Nat.not_lt_zero i)
  | succ k ih =>
    intro N f h
    cases N with
    | zero => exact Nat.zero_le _
    | succ N =>
      obtain ⟨i0, h0, e0⟩ := h N (Nat.lt_succ_self N)
      have : N ≤ k := ih N (fun i => if i = i0 then f k else f i) (fun y hy => by
        obtain ⟨i, hi, e⟩ := h y (by omega)
        have hne : i ≠ i0 := fun z => by subst z; omega
        by_cases c : i = k
        · refine ⟨i0, by omega, ?_⟩
          simp only [if_true]
          rw [← c, e]
        · refine ⟨i, by omega, ?_⟩
          simp only [if_neg hne]
          exact e)
      omega
/-- an order that was drafted -/
def dO (nf : Nat → Nat) (ord : Nat → Nat) (N k : Nat) : Prop := (∀ i, i < k → ord i < N) ∧ (∀ i j, i < k → j < k → ord i = ord j → i = j) ∧ ∀ i, i < k → ∀ g, (nf (ord i)).testBit g = true → ∃ j, j < i ∧ ord j = g
section DRF2
variable {m : Mm} {N p : Nat} {nf : Nat → Nat}
theorem alm_draft (h20 : N ≤ 20) (h25 : zI m 25 3 = i3 N) (hp : p < N) (hn : ∀ f, f < N → nf f < 2147483648 ∧ (f ≠ p → zI m (32 + 6 * f + 3) 3 = i3 (nf f))) :
    ∃ (b : Bool) (m' : Mm), f_Alm_draftOrderWith (i3 p) (i3 (nf p)) m = some (b3 b, m') ∧ Fx1 28 m m' ∧ (b = true → ∃ ord : Nat → Nat, (∀ i, i < N → zI m' 28 i = i3 (ord i)) ∧ dO nf ord N N) ∧ (b = false → ∃ D : Nat, (∀ f, f < N → ¬ Rd1 nf D f) ∧ ∃ f, f < N ∧ D.testBit f = false) := by
  rw [e_Alm_draftOrderWith]
  refine ex_zLp2 (Q := fun X => ∃ (b : Bool) (m' : Mm), X = some (b3 b, m') ∧ Fx1 28 m m' ∧ (b = true → ∃ ord : Nat → Nat, (∀ i, i < N → zI m' 28 i = i3 (ord i)) ∧ dO nf ord N N) ∧ (b = false → ∃ D : Nat, (∀ f, f < N → ¬ Rd1 nf D f) ∧ ∃ f, f < N ∧ D.testBit f = false))
    (fun j x1 x2 mm => ∃ (D k : Nat) (ord : Nat → Nat), x1 = i3 D ∧ x2 = i3 k ∧ k ≤ N ∧ j = N - k ∧ Fx1 28 m mm ∧ D < 2 ^ 20 ∧ (∀ g, D.testBit g = true ↔ ∃ i, i < k ∧ ord i = g) ∧ (∀ i, i < k → zI mm 28 i = i3 (ord i)) ∧ dO nf ord N k) ?_ zFu N _ _ _ ⟨0, 0, fun _ => 0, rfl, rfl, Nat.zero_le _, rfl, Fx1.refl, by decide, fun g => ⟨fun z => by simp at z, fun ⟨i, hi, _⟩ => absurd hi (Nat.not_lt_zero i)⟩, fun i hi => absurd hi (Nat.not_lt_zero i), fun i hi => absurd hi (Nat.not_lt_zero i), fun i j hi => absurd hi (Nat.not_lt_zero i), fun i hi => absurd hi (Nat.not_lt_zero i)⟩ (by unfold zFu; omega)
  rintro r j x1 x2 mm ⟨D, k, ord, rfl, rfl, hk, rfl, hF, hD, hbit, hcell, o1, o2, o3⟩
  unfold l_Alm_draftOrderWith_0
  have h25' : zI mm 25 3 = i3 N := by rw [hF.2 _ _ (by decide), h25]
  rw [h25', it_le ⟨by omega, by omega⟩ ⟨by omega, by omega⟩]
  by_cases e : (N : Int) ≤ k
  · left
    rw [if_pos e]
    have ek : k = N := by omega
    subst ek
    exact ⟨true, mm, rfl, hF, fun _ => ⟨ord, hcell, o1, o2, o3⟩, fun z => nomatch z⟩
  have hlt : k < N := by omega
  have hD31 : D < 2147483648 := Nat.lt_trans hD (by decide)
  obtain ⟨v, ev, hv⟩ := alm_first (m := mm) h20 h25' hp (fun f hf => ⟨(hn f hf).1, fun c => by rw [hF.2 _ _ (by omega)]; exact (hn f hf).2 c⟩) hD31
  rw [if_neg e, ev, zBP_some]
  rcases hv with ⟨rfl, hno⟩ | ⟨f, hf, rfl, hrd⟩
  · left
    rw [if_pos (show i3 (-1) = -1 from rfl)]
    refine ⟨false, mm, rfl, hF, fun z => (nomatch z), fun _ => ⟨D, hno, ?_⟩⟩
    by_cases c : ∃ f, f < N ∧ D.testBit f = false
    · exact c
    · exfalso
      have := surj_le k N ord (fun y hy => (hbit y).mp (by
        cases h : D.testBit y with
        | true => rfl
        | false => exact absurd ⟨y, hy, h⟩ c))
      omega
  · right
    have hin : zIn (i3 (k : Int)) 20 := (i3_in ⟨by omega, by omega⟩).mpr ⟨by omega, by omega⟩
    have hix : zIx (i3 (k : Int)) = k := by rw [i3_ix ⟨by omega, by omega⟩, Int.toNat_natCast]
    have hpow := i3_pow (k := f) (by omega)
    obtain ⟨r1, r2⟩ := hrd
    have hnot : ∀ i, i < k → ord i ≠ f := fun i hi e2 => by
      have : D.testBit f = true := (hbit f).mpr ⟨i, hi, e2⟩
      rw [r1] at this
      exact nomatch this
    refine ⟨i3 ((D ||| 2 ^ f : Nat)), i3 ((k + 1 : Nat) : Int), wI mm 28 k (i3 f), N - (k + 1), by omega, ⟨D ||| 2 ^ f, k + 1, fun i => if i = k then f else ord i, rfl, rfl, by omega, rfl, hF.w, Nat.or_lt_two_pow hD (Nat.pow_lt_pow_right (by decide) (by omega)), fun g => ?_, fun i hi => ?_, fun i hi => ?_, fun i j hi hj => ?_, fun i hi g hg => ?_⟩, ?_⟩
    · rw [Nat.testBit_or, Bool.or_eq_true, hbit, Nat.testBit_two_pow, decide_eq_true_eq]
      constructor
      · rintro (⟨i, hi, e2⟩ | e2)
        · exact ⟨i, by omega, by simp only [if_neg (show ¬ i = k by omega)]; exact e2⟩
        · exact ⟨k, by omega, by simp only [if_true]; exact e2⟩
      · rintro ⟨i, hi, e2⟩
        by_cases c : i = k
        · right
          simp only [if_pos c] at e2
          exact e2
        · left
          simp only [if_neg c] at e2
          exact ⟨i, by omega, e2⟩
    · by_cases c : i = k
      · simp only [if_pos c]
        rw [c, zI_eq]
      · simp only [if_neg c]
        rw [zI_nk c]
        exact hcell i (by omega)
    · by_cases c : i = k
      · simp only [if_pos c]
        exact hf
      · simp only [if_neg c]
        exact o1 i (by omega)
    · by_cases c : i = k
      · by_cases c2 : j = k
        · intro _; omega
        · simp only [if_pos c, if_neg c2]
          intro e2
          exact absurd e2.symm (hnot j (by omega))
      · by_cases c2 : j = k
        · simp only [if_neg c, if_pos c2]
          intro e2
          exact absurd e2 (hnot i (by omega))
        · simp only [if_neg c, if_neg c2]
          exact o2 i j (by omega) (by omega)
    · by_cases c : i = k
      · simp only [if_pos c] at hg
        obtain ⟨j, hj, e2⟩ := (hbit g).mp (r2 g hg)
        exact ⟨j, by omega, by simp only [if_neg (show ¬ j = k by omega)]; exact e2⟩
      · simp only [if_neg c] at hg
        obtain ⟨j, hj, e2⟩ := o3 i (by omega) g hg
        exact ⟨j, hj, by simp only [if_neg (show ¬ j = k by omega)]; exact e2⟩
    · rw [if_neg (show ¬ i3 (f : Int) = -1 by rw [show (-1 : Int32) = i3 (-1) from rfl, i3_eq ⟨by omega, by omega⟩ ⟨by decide, by decide⟩]; omega), if_pos hin, hix]
      simp only [zLet]
      rw [hpow, i3_or, i3_add1]
      rfl
end DRF2
