/-! THE CLASS GRANTS A DISPENSATION -/
def wCn (m : Mm) (n : Nat) (f y k : Int) : Mm := wI (wI (wI (wI m 29 n (i3 f)) 30 n (i3 y)) 31 n (i3 k)) 25 7 (i3 ((n + 1 : Nat) : Int))
section GRT
variable {m : Mm} {F Y K : Nat → Int} {n : Nat}
theorem alm_grant (hv : vB F Y K n) (h : Cbn m F Y K n) {f y k : Int} (hf : 0 ≤ f ∧ f < 20) (hy : 0 ≤ y ∧ y < 400) :
    f_Alm_grant (i3 f) (i3 y) (i3 k) m = if (decide (n < 30) && !near F Y f y n) = true then some (1, wCn m n f y k) else some (0, m) := by
  have h30 := hv.1
  have h25 := h.1
  unfold f_Alm_grant
  rw [h25, show (30 : Int32) = i3 30 from rfl, it_le ⟨by decide, by decide⟩ ⟨by omega, by omega⟩]
  by_cases c : (30 : Int) ≤ n
  · rw [if_pos c, decide_eq_false (show ¬ n < 30 by omega), Bool.false_and, if_neg (by decide)]
  · have hlt : n < 30 := by omega
    have hin : zIn (i3 (n : Int)) 30 := (i3_in ⟨by omega, by omega⟩).mpr ⟨by omega, by omega⟩
    have hix : zIx (i3 (n : Int)) = n := by rw [i3_ix ⟨by omega, by omega⟩, Int.toNat_natCast]
    have g1 : ∀ v, zI (wI m 29 n v) 25 7 = i3 n := fun v => by rw [zI_ne (by decide), h25]
    have g2 : ∀ v w, zI (wI (wI m 29 n v) 30 n w) 25 7 = i3 n := fun v w => by rw [zI_ne (by decide), g1]
    have g3 : ∀ v w u, zI (wI (wI (wI m 29 n v) 30 n w) 31 n u) 25 7 = i3 n := fun v w u => by rw [zI_ne (by decide), g2]
    rw [if_neg c, alm_near hv h hf hy, zBP_some, decide_eq_true hlt, Bool.true_and]
    cases near F Y f y n with
    | true =>
      rw [if_neg (show ¬ b3 true = 0 by decide), if_neg (by decide)]
    | false =>
      rw [if_pos (show b3 false = 0 by decide), if_pos hin, hix]
      simp only [zLet]
      rw [g1, if_pos hin, hix, g2, if_pos hin, hix, g3, i3_add1, if_pos (show (!false) = true from rfl)]
      rfl
/-- what a grant adds, on both sides -/
theorem grant_c {f y k : Int} (h : Cbn m F Y K n) : Cbn (wCn m n f y k) (fun i => if i = n then f else F i) (fun i => if i = n then y else Y i) (fun i => if i = n then k else K i) (n + 1) := by
  refine ⟨zI_eq, fun i hi => ?_⟩
  unfold wCn
  by_cases c : i = n
  · subst c
    simp only [if_true]
    refine ⟨?_, ?_, ?_⟩
    · rw [zI_ne (by decide), zI_ne (by decide), zI_ne (by decide), zI_eq]
    · rw [zI_ne (by decide), zI_ne (by decide), zI_eq]
    · rw [zI_ne (by decide), zI_eq]
  · obtain ⟨d1, d2, d3⟩ := h.2 i (by omega)
    simp only [if_neg c]
    refine ⟨?_, ?_, ?_⟩
    · rw [zI_ne (by decide), zI_ne (by decide), zI_ne (by decide), zI_nk c, d1]
    · rw [zI_ne (by decide), zI_ne (by decide), zI_nk c, zI_ne (by decide), d2]
    · rw [zI_ne (by decide), zI_nk c, zI_ne (by decide), zI_ne (by decide), d3]
theorem grant_r {f y k : Int} (h : Rbn m F Y K n) : Rbn (wBn m n f y k) (fun i => if i = n then f else F i) (fun i => if i = n then y else Y i) (fun i => if i = n then k else K i) (n + 1) := by
  refine ⟨zI_eq, fun i hi => ?_⟩
  unfold wBn
  by_cases c : i = n
  · subst c
    simp only [if_true]
    refine ⟨?_, ?_, ?_⟩
    · rw [zI_ne (by decide), zI_ne (by decide), zI_ne (by decide), zI_eq]
    · rw [zI_ne (by decide), zI_ne (by decide), zI_eq]
    · rw [zI_ne (by decide), zI_eq]
  · obtain ⟨d1, d2, d3⟩ := h.2 i (by omega)
    simp only [if_neg c]
    refine ⟨?_, ?_, ?_⟩
    · rw [zI_ne (by decide), zI_ne (by decide), zI_ne (by decide), zI_nk c, zI_ne (by decide), d1]
    · rw [zI_ne (by decide), zI_ne (by decide), zI_nk c, zI_ne (by decide), zI_ne (by decide), d2]
    · rw [zI_ne (by decide), zI_nk c, zI_ne (by decide), zI_ne (by decide), zI_ne (by decide), d3]
theorem grant_u {f y : Int} (hu : Un F Y n) (hn : near F Y f y n = false) : Un (fun i => if i = n then f else F i) (fun i => if i = n then y else Y i) (n + 1) := by
  have no : ∀ i, i < n → F i = f → Y i = y → False := fun i hi e1 e2 => by
    have : near F Y f y n = true := (near_iff n).mpr ⟨i, hi, e1, by omega, by omega⟩
    rw [hn] at this
    exact nomatch this
  intro i j hi hj
  by_cases c : i = n
  · by_cases c2 : j = n
    · intro _ _; omega
    · simp only [if_pos c, if_neg c2]
      intro e1 e2
      exact (no j (by omega) e1.symm e2.symm).elim
  · by_cases c2 : j = n
    · simp only [if_neg c, if_pos c2]
      intro e1 e2
      exact (no i (by omega) e1 e2).elim
    · simp only [if_neg c, if_neg c2]
      exact hu i j (by omega) (by omega)
end GRT
