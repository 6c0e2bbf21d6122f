/-! THE LAW'S TURNS: a year that is searched -/
section TRT
variable {m M : Mm} {N nb nR t y u u' : Nat} {fr : Nat → Nat → Int} {Rv F Y E PR RE BE : Nat → Int} {sp sp' b q0 x : Int} {g h : Nat → Int}
theorem l1_end (hN : N ≤ 10) (hu : u < 400) (h0 : zI M 204 0 = i3 N) (h4 : zI M 204 4 = i3 u) (h5 : zI M 204 5 = i3 sp') (hr : ∀ k, k < N → zI M 202 k = i3 (Rv k) ∧ 0 ≤ Rv k ∧ Rv k ≤ 19) (hb : ∀ k, k < N → zI M (207 + 0) k = i3 (lB u t F Y E nb fr k) ∧ -1 ≤ lB u t F Y E nb fr k ∧ lB u t F Y E nb fr k < sLen u) (hq0 : 0 ≤ q0 ∧ q0 ≤ 2) (c0 : zI M 205 0 = i3 q0) (hg : vQ N g) (cg : ∀ j, j < 4 → zI M 205 (1 + j) = i3 (g j)) (hh : vQ N h) (ch : ∀ j, j < 4 → zI M 205 (5 + j) = i3 (h j)) {left : Nat} (hl : left ≤ 1000) {c : Int} (hc : 0 ≤ c ∧ c ≤ 100000) (J : Int32 → Mm → Option (Int32 × Mm)) (r37 : Int32 → Mm → Option (Int32 × Mm)) :
    ∃ m69, FG M m69 ∧ zI m69 204 4 = i3 ((u + 1 : Nat) : Int) ∧ zI m69 204 5 = i3 (sp' + c) ∧ ∀ r59, l_Law_law_1 M (i3 left) J r37 r59 (i3 c) (i3 N) = if c ≤ left then (if hYr u t F Y E nb (lK fr) (lA fr) (lL fr) N (rR Rv) (rM Rv) (lQ q0 g h) = true then J (i3 u) m69 else r37 (i3 (left - c)) m69) else J (-2) M := by
  have hLn := sLen_bd u
  generalize hM1 : wI M 204 5 (i3 (sp' + c)) = M1
  have z1 : ∀ b j, b ≠ 204 ∨ j ≠ 5 → zI M1 b j = zI M b j := fun b j hb => by
    rw [← hM1]
    by_cases e : b = 204
    · subst e
      rw [zI_nk (by omega)]
    · rw [zI_ne e]
  obtain ⟨m64, e64, p1, p2, p3⟩ := law_place (m := M1) (t4 := 0) (t5 := 2) hu hN (by decide) (by rw [z1 _ _ (by decide)]; exact h0) (fun k hk => by rw [z1 _ _ (Or.inl (by decide))]; exact hr k hk) (b := lB u t F Y E nb fr) (fun k hk => by rw [z1 _ _ (Or.inl (by decide))]; exact hb k hk)
  have z2 : ∀ b j, b ≠ 209 → (b ≠ 204 ∨ j ≠ 5) → zI m64 b j = zI M b j := fun b j h1 h2 => by rw [p2 b j h1, z1 b j h2]
  have hp : ∀ k, k < N → zI m64 (207 + 2) k = i3 (lPl u t N F Y E nb fr Rv k) ∧ -1 ≤ lPl u t N F Y E nb fr Rv k ∧ lPl u t N F Y E nb fr Rv k < sLen u := fun k hk => ⟨p1 k hk, sAll_bd (by omega) (fun f hf => (hb f hf).2.1) 10 k⟩
  have hb2 : ∀ k, k < N → zI m64 (207 + 0) k = i3 (lB u t F Y E nb fr k) ∧ -1 ≤ lB u t F Y E nb fr k ∧ lB u t F Y E nb fr k < 400 := fun k hk => by
    obtain ⟨b1, b2, b3'⟩ := hb k hk
    exact ⟨by rw [z2 _ _ (by decide) (Or.inl (by decide))]; exact b1, b2, by omega⟩
  have h0' : zI m64 204 0 = i3 N := by rw [z2 _ _ (by decide) (Or.inr (by decide)), h0]
  have h4' : zI m64 204 4 = i3 u := by rw [z2 _ _ (by decide) (Or.inr (by decide)), h4]
  have c0' : zI m64 205 0 = i3 q0 := by rw [z2 _ _ (by decide) (Or.inl (by decide)), c0]
  have a1 : f_Law_asked 1 (i3 u) 0 2 m64 = some (b3 (qR u N (lB u t F Y E nb fr) (lPl u t N F Y E nb fr Rv) g)) := law_asked hu hN h0' (a := 1) (Or.inl rfl) hg (fun j hj => by rw [z2 _ _ (by decide) (Or.inl (by decide))]; exact cg j hj) hb2 hp
  have a5 : f_Law_asked 5 (i3 u) 0 2 m64 = some (b3 (qR u N (lB u t F Y E nb fr) (lPl u t N F Y E nb fr Rv) h)) := law_asked hu hN h0' (a := 5) (Or.inr rfl) hh (fun j hj => by rw [z2 _ _ (by decide) (Or.inl (by decide))]; exact ch j hj) hb2 hp
  have hH : hYr u t F Y E nb (lK fr) (lA fr) (lL fr) N (rR Rv) (rM Rv) (lQ q0 g h) = if q0 = 0 then qR u N (lB u t F Y E nb fr) (lPl u t N F Y E nb fr Rv) g else if q0 = 1 then (qR u N (lB u t F Y E nb fr) (lPl u t N F Y E nb fr Rv) g && qR u N (lB u t F Y E nb fr) (lPl u t N F Y E nb fr Rv) h) else (qR u N (lB u t F Y E nb fr) (lPl u t N F Y E nb fr Rv) g || qR u N (lB u t F Y E nb fr) (lPl u t N F Y E nb fr Rv) h) := q_all hg hh hq0
  generalize qR u N (lB u t F Y E nb fr) (lPl u t N F Y E nb fr Rv) g = A at a1 hH
  generalize qR u N (lB u t F Y E nb fr) (lPl u t N F Y E nb fr Rv) h = B at a5 hH
  generalize hM2 : wI m64 204 4 (i3 ((u + 1 : Nat) : Int)) = M2
  have z3 : ∀ b j, b ≠ 209 → (b ≠ 204 ∨ j < 4) → zI M2 b j = zI M b j := fun b j h1 h2 => by
    rw [← hM2]
    by_cases e : b = 204
    · subst e
      rw [zI_nk (by omega), z2 _ _ h1 (by omega)]
    · rw [zI_ne e, z2 _ _ h1 (by omega)]
  have m4 : zI M2 204 4 = i3 ((u + 1 : Nat) : Int) := by rw [← hM2, zI_eq]
  have m41 : i3 ((u + 1 : Nat) : Int) - 1 = i3 (u : Int) := by
    rw [i3_sub1]
    congr 1
    omega
  have m0 : zI M2 205 0 = i3 q0 := by rw [z3 _ _ (by decide) (Or.inl (by decide)), c0]
  refine ⟨M2, ⟨fun b j hb => z3 b j (by omega) (by omega), ?_⟩, m4, ?_, fun r59 => ?_⟩
  · rw [← hM2]
    show m64.2 = M.2
    rw [p3, ← hM1]
    rfl
  · rw [← hM2, zI_nk (by decide), p2 _ _ (by decide), ← hM1, zI_eq]
  · have hjoin := l1_join (X0 := r37 (i3 (left - c)) M2) (X1 := J (i3 u) M2) hq0 A B
    rw [← hH] at hjoin
    unfold l_Law_law_1
    rw [if_pos z06.1, z06.2, h0, if_pos (show i3 (N : Int) ≤ i3 (N : Int) from (i3_le ⟨by omega, by omega⟩ ⟨by omega, by omega⟩).mpr (Int.le_refl _)), it_le ⟨by omega, by omega⟩ ⟨by omega, by omega⟩]
    by_cases cl : c ≤ left
    · rw [if_pos cl, if_pos cl, ← hjoin, i3_sub, zLet_q, if_pos z56.1, if_pos z56.1, z56.2, h5, i3_add, hM1, zLet_q, if_pos z46.1, z46.2, z1 _ _ (by decide), h4, e64, zBV_some, if_pos z46.1, h4', a1, zBP_some, if_pos z09.1, c0', a5, ad1, hM2]
      simp only [zLet_q, zBP_some, if_pos z46.1, if_pos z09.1, m0, m4, m41]
    · rw [if_neg cl, if_neg cl]
end TRT
