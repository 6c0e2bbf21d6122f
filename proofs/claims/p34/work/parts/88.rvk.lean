/-! THE CLASS TAKES A DISPENSATION BACK -/
section RVK
variable {m : Mm} {F Y K : Nat → Int} {n i : Nat}
theorem alm_revoke (hv : vB F Y K n) (h : Cbn m F Y K n) (hi : i < n) : ∃ m', f_Alm_revoke (i3 i) m = some (i3 (K i), m') ∧ m'.2 = m.2 ∧ (∀ b j, b ≠ 29 → b ≠ 30 → b ≠ 31 → b ≠ 25 ∨ j ≠ 7 → zI m' b j = zI m b j) ∧ Cbn m' (fun j => if j = i then F (n - 1) else F j) (fun j => if j = i then Y (n - 1) else Y j) (fun j => if j = i then K (n - 1) else K j) (n - 1) := by
  have h30 := hv.1
  obtain ⟨h25, hD⟩ := h
  have hin : zIn (i3 (i : Int)) 30 := (i3_in ⟨by omega, by omega⟩).mpr ⟨by omega, by omega⟩
  have hix : zIx (i3 (i : Int)) = i := by rw [i3_ix ⟨by omega, by omega⟩, Int.toNat_natCast]
  have e1 : i3 (n : Int) - 1 = i3 ((n - 1 : Nat) : Int) := by
    rw [i3_sub1]
    congr 1
    omega
  have hin1 : zIn (i3 ((n - 1 : Nat) : Int)) 30 := (i3_in ⟨by omega, by omega⟩).mpr ⟨by omega, by omega⟩
  have hix1 : zIx (i3 ((n - 1 : Nat) : Int)) = n - 1 := by rw [i3_ix ⟨by omega, by omega⟩, Int.toNat_natCast]
  obtain ⟨d1, d2, d3⟩ := hD (n - 1) (by omega)
  have di := hD i hi
  unfold f_Alm_revoke
  rw [if_pos hin, hix, di.2.2, h25, e1]
  simp only [zLet]
  generalize hm2 : wI m 25 7 (i3 ((n - 1 : Nat) : Int)) = m2
  have q0 : zI m2 25 7 = i3 ((n - 1 : Nat) : Int) := by rw [← hm2, zI_eq]
  have q1 : ∀ b j, b ≠ 25 ∨ j ≠ 7 → zI m2 b j = zI m b j := fun b j hb => by rw [← hm2]; exact if_neg (fun z => by omega)
  have q2 : m2.2 = m.2 := by rw [← hm2]; rfl
  have a1 : ∀ v, zI (wI m2 29 i v) 25 7 = i3 ((n - 1 : Nat) : Int) := fun v => by rw [zI_ne (by decide), q0]
  have a2 : ∀ v w, zI (wI (wI m2 29 i v) 30 i w) 25 7 = i3 ((n - 1 : Nat) : Int) := fun v w => by rw [zI_ne (by decide), a1]
  rw [q0, if_pos hin1, if_pos hin, hix1, a1, if_pos hin1, if_pos hin, hix1, a2, if_pos hin1, if_pos hin, hix1]
  refine ⟨_, rfl, q2, fun b j c1 c2 c3 c4 => ?_, ?_, fun j hj => ?_⟩
  · rw [zI_ne c3, zI_ne c2, zI_ne c1, q1 b j c4]
  · rw [zI_ne (by decide), zI_ne (by decide), zI_ne (by decide), q0]
  · obtain ⟨p1, p2, p3⟩ := hD j (by omega)
    by_cases c : j = i
    · subst c
      simp only [if_true]
      refine ⟨?_, ?_, ?_⟩
      · rw [zI_ne (by decide), zI_ne (by decide), zI_eq, q1 _ _ (Or.inl (by decide)), d1]
      · rw [zI_ne (by decide), zI_eq, zI_ne (by decide), q1 _ _ (Or.inl (by decide)), d2]
      · rw [zI_eq, zI_ne (by decide), zI_ne (by decide), q1 _ _ (Or.inl (by decide)), d3]
    · simp only [if_neg c]
      refine ⟨?_, ?_, ?_⟩
      · rw [zI_ne (by decide), zI_ne (by decide), zI_nk c, q1 _ _ (Or.inl (by decide)), p1]
      · rw [zI_ne (by decide), zI_nk c, zI_ne (by decide), q1 _ _ (Or.inl (by decide)), p2]
      · rw [zI_nk c, zI_ne (by decide), zI_ne (by decide), q1 _ _ (Or.inl (by decide)), p3]
end RVK
