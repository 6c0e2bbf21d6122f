/-! THE LAW'S TURNS: a question -/
theorem z09 : zIn (0 : Int32) 9 ∧ zIx (0 : Int32) = 0 := by decide
section TRQ
variable {m M : Mm} {N nb nR t y : Nat} {fr : Nat → Nat → Int} {Rv F Y E PR RE BE : Nat → Int} {sp b q0 : Int} {g h : Nat → Int}
theorem q_text (hN : N ≤ 10) (hX : kX M []) (hq0 : 0 ≤ q0 ∧ q0 ≤ 2) (c0 : zI M 205 0 = i3 q0) (hg : vQ N g) (cg : ∀ j, j < 4 → zI M 205 (1 + j) = i3 (g j)) (hh : vQ N h) (ch : ∀ j, j < 4 → zI M 205 (5 + j) = i3 (h j)) :
    ∃ m', kX m' (qTx q0 g h) ∧ FxX M m' ∧ ∀ K : Mm → Option (Int32 × Mm), (zLet (fun (m92 : Mm) => zBV (f_Law_ask 1 m92) fun m94 => if zIn 0 9 then zLet K fun j97 => if (zI m94 205 (zIx 0)) ≤ 0 then j97 m94 else if zIn 0 9 then zLet (fun (x118 : Int32) => zBI (n_Loo_type x118 m94) fun v121 m120 => zBV (f_Law_ask 5 m120) fun m122 => zBI (n_Loo_type 41 m122) fun v124 m123 => j97 m123) fun j119 => if (zI m94 205 (zIx 0)) = 1 then j119 38 else j119 124 else none else none) fun j93 => if (zI M 205 (zIx 0)) ≤ 0 then j93 M else zBI (n_Loo_type 40 M) fun v126 m125 => j93 m125) = K m' := by
  by_cases c : q0 ≤ 0
  · obtain ⟨m1, e1, X1, F1⟩ := law_ask (a := 1) (Or.inl rfl) hg hN cg hX (by decide)
    have e1' : f_Law_ask 1 M = some m1 := e1
    have c1 : zI m1 205 0 = i3 q0 := by rw [F1.at (by decide), c0]
    have eT : qTx q0 g h = qT g := if_pos (by omega)
    refine ⟨m1, by rw [eT]; exact X1, F1, fun K => ?_⟩
    rw [zLet_q, z09.2, c0, jt_le0 ⟨by omega, by omega⟩, if_pos c]
    dsimp only
    rw [e1', zBV_some, if_pos z09.1, zLet_q, c1, jt_le0 ⟨by omega, by omega⟩, if_pos c]
  · obtain ⟨m1, e1, X1, F1⟩ := k_type (v := 40) hX ⟨by decide, by decide⟩ (by decide)
    have e1' : n_Loo_type 40 M = some (_, m1) := e1
    have l1 := qT_len g
    have l2 := qT_len h
    obtain ⟨m2, e2, X2, F2⟩ := law_ask (a := 1) (Or.inl rfl) hg hN (fun j hj => by rw [F1.at (by decide)]; exact cg j hj) X1 (by decide)
    have e2' : f_Law_ask 1 m1 = some m2 := e2
    have F12 := F1.trans F2
    obtain ⟨m3, e3, X3, F3⟩ := k_type (v := if q0 = 1 then 38 else 124) X2 (by split <;> exact ⟨by decide, by decide⟩) (by simp; omega)
    have F13 := F12.trans F3
    obtain ⟨m4, e4, X4, F4⟩ := law_ask (a := 5) (Or.inr rfl) hh hN (fun j hj => by rw [F13.at (by decide)]; exact ch j hj) X3 (by simp; omega)
    have e4' : f_Law_ask 5 m3 = some m4 := e4
    have F14 := F13.trans F4
    obtain ⟨m5, e5, X5, F5⟩ := k_type (v := 41) X4 ⟨by decide, by decide⟩ (by simp; omega)
    have e5' : n_Loo_type 41 m4 = some (_, m5) := e5
    have c2 : zI m2 205 0 = i3 q0 := by rw [F12.at (by decide), c0]
    have eT : qTx q0 g h = [] ++ [40] ++ qT g ++ [if q0 = 1 then 38 else 124] ++ qT h ++ [41] := if_neg (by omega)
    have ech : (if i3 q0 = 1 then (38 : Int32) else 124) = i3 (if q0 = 1 then 38 else 124) := by
      rw [it_e1 ⟨by omega, by omega⟩]
      split <;> rfl
    refine ⟨m5, by rw [eT]; exact X5, F14.trans F5, fun K => ?_⟩
    rw [zLet_q, z09.2, c0, jt_le0 ⟨by omega, by omega⟩, if_neg c, e1', zBI_some]
    dsimp only
    rw [e2', zBV_some, if_pos z09.1, zLet_q, c2, jt_le0 ⟨by omega, by omega⟩, if_neg c, if_pos z09.1, zl_if, ech, e3, zBI_some, e4', zBV_some, e5', zBI_some]
theorem q_draw (hN : 1 ≤ N ∧ N ≤ 10) {i : Nat} (hi : i < 2) (x128 : Int32) (h0 : zI M 204 0 = i3 N) : ∃ (M' : Mm) (g : Nat → Int), vQ N g ∧ (∀ j, j < 4 → zI M' 205 (1 + 4 * i + j) = i3 (g j)) ∧ (∀ b j, b ≠ 205 ∨ j < 1 + 4 * i → zI M' b j = zI M b j) ∧ M'.2 = M.2 ∧
    ∀ r : Int32 → Mm → Option (Int32 × Mm), (zBP (f_Law_low x128 2 M) fun v130 =>
      if zIn (1 + (4 * i3 (i : Int))) 9 then
        zLet (wI M 205 (zIx (1 + (4 * i3 (i : Int)))) v130) fun m131 =>
        zBP (f_Law_low (x128 >>> (1 &&& 31)) 5 m131) fun v132 =>
        if zIn (2 + (4 * i3 (i : Int))) 9 then
          zLet (wI m131 205 (zIx (2 + (4 * i3 (i : Int)))) (1 + v132)) fun m133 =>
          if zIn 0 6 then
            zBP (f_Law_low (x128 >>> (4 &&& 31)) (zI m133 204 (zIx 0)) m133) fun v134 =>
            if zIn (3 + (4 * i3 (i : Int))) 9 then
              zLet (wI m133 205 (zIx (3 + (4 * i3 (i : Int)))) v134) fun m135 =>
              if zIn (2 + (4 * i3 (i : Int))) 9 then
                zLet (fun (x137 : Int32) =>
                  if zIn (4 + (4 * i3 (i : Int))) 9 then
                    zLet (wI m135 205 (zIx (4 + (4 * i3 (i : Int)))) x137) fun m139 =>
                    zLet (i3 (i : Int) + 1) fun x140 =>
                    r x140 m139
                  else none) fun j138 =>
                if (zI m135 205 (zIx (2 + (4 * i3 (i : Int))))) = 2 then
                  zBP (f_Law_drawDate (x128 >>> (7 &&& 31)) m135) fun v144 =>
                  j138 v144
                else
                  if zIn (2 + (4 * i3 (i : Int))) 9 then
                    if (zI m135 205 (zIx (2 + (4 * i3 (i : Int))))) = 3 then
                      zBP (f_Law_low (x128 >>> (7 &&& 31)) 7 m135) fun v143 =>
                      j138 v143
                    else
                      if zIn 0 6 then
                        zBP (f_Law_low (x128 >>> (7 &&& 31)) (zI m135 204 (zIx 0)) m135) fun v142 =>
                        j138 v142
                      else none
                  else none
              else none
            else none
          else none
        else none
      else none) = r (i3 ((i + 1 : Nat) : Int)) M' := by
  have q1 : (1 : Int32) + 4 * i3 (i : Int) = i3 ((1 + 4 * i : Nat) : Int) := by
    show i3 1 + i3 4 * i3 (i : Int) = _
    rw [i3_mul, i3_add]; rfl
  have q2 : (2 : Int32) + 4 * i3 (i : Int) = i3 ((2 + 4 * i : Nat) : Int) := by
    show i3 2 + i3 4 * i3 (i : Int) = _
    rw [i3_mul, i3_add]; rfl
  have q3 : (3 : Int32) + 4 * i3 (i : Int) = i3 ((3 + 4 * i : Nat) : Int) := by
    show i3 3 + i3 4 * i3 (i : Int) = _
    rw [i3_mul, i3_add]; rfl
  have q4 : (4 : Int32) + 4 * i3 (i : Int) = i3 ((4 + 4 * i : Nat) : Int) := by
    show i3 4 + i3 4 * i3 (i : Int) = _
    rw [i3_mul, i3_add]; rfl
  obtain ⟨i1, x1⟩ := in_n (k := 1 + 4 * i) (n := 9) (by omega) (by decide)
  obtain ⟨i2, x2⟩ := in_n (k := 2 + 4 * i) (n := 9) (by omega) (by decide)
  obtain ⟨i3', x3⟩ := in_n (k := 3 + 4 * i) (n := 9) (by omega) (by decide)
  obtain ⟨i4, x4⟩ := in_n (k := 4 + 4 * i) (n := 9) (by omega) (by decide)
  obtain ⟨a, ha, e1⟩ : ∃ v : Nat, v < 2 ∧ f_Law_low x128 2 M = some (i3 v) := law_low _ (n := 2) (by decide) M
  generalize hM1 : wI M 205 (1 + 4 * i) (i3 (a : Int)) = M1
  obtain ⟨k, hk, e2⟩ : ∃ v : Nat, v < 5 ∧ f_Law_low (x128 >>> (1 &&& 31)) 5 M1 = some (i3 v) := law_low _ (n := 5) (by decide) M1
  have qk : (1 : Int32) + i3 (k : Int) = i3 ((1 + k : Nat) : Int) := by
    show i3 1 + i3 (k : Int) = _
    rw [i3_add]; rfl
  generalize hM2 : wI M1 205 (2 + 4 * i) (i3 ((1 + k : Nat) : Int)) = M2
  obtain ⟨f, hf, e3⟩ := law_low (x128 >>> (4 &&& 31)) (n := N) (by omega) M2
  generalize hM3 : wI M2 205 (3 + 4 * i) (i3 (f : Int)) = M3
  have n2 : zI M2 204 0 = i3 N := by rw [← hM2, zI_ne (by decide), ← hM1, zI_ne (by decide), h0]
  have n3 : zI M3 204 0 = i3 N := by rw [← hM3, zI_ne (by decide), n2]
  have k3 : zI M3 205 (2 + 4 * i) = i3 ((1 + k : Nat) : Int) := by rw [← hM3, zI_nk (by omega), ← hM2, zI_eq]
  have hx : ∃ x : Int, (k + 1 = 2 ∧ vDt x ∨ k + 1 = 3 ∧ 0 ≤ x ∧ x ≤ 6 ∨ k + 1 ≠ 2 ∧ k + 1 ≠ 3 ∧ 0 ≤ x ∧ x < N) ∧ ∀ K : Int32 → Option (Int32 × Mm), (zLet K fun j138 => if i3 ((1 + k : Nat) : Int) = 2 then zBP (f_Law_drawDate (x128 >>> (7 &&& 31)) M3) fun v144 => j138 v144 else if zIn (i3 ((2 + 4 * i : Nat) : Int)) 9 then if i3 ((1 + k : Nat) : Int) = 3 then zBP (f_Law_low (x128 >>> (7 &&& 31)) 7 M3) fun v143 => j138 v143 else if zIn 0 6 then zBP (f_Law_low (x128 >>> (7 &&& 31)) (i3 (N : Int)) M3) fun v142 => j138 v142 else none else none) = K (i3 x) := by
    by_cases k2 : k + 1 = 2
    · obtain ⟨d, hd, -, e4⟩ := law_drawDate (x128 >>> (7 &&& 31)) M3
      refine ⟨d, Or.inl ⟨k2, hd⟩, fun K => ?_⟩
      rw [zLet_q, if_pos (by rw [show 1 + k = 2 by omega]; rfl), e4, zBP_some]
    · by_cases k4 : k + 1 = 3
      · obtain ⟨d, hd, e4⟩ : ∃ v : Nat, v < 7 ∧ f_Law_low (x128 >>> (7 &&& 31)) 7 M3 = some (i3 v) := law_low _ (n := 7) (by decide) M3
        refine ⟨d, Or.inr (Or.inl ⟨k4, by omega, by omega⟩), fun K => ?_⟩
        rw [zLet_q, if_neg (j2n (by omega) (by omega)), if_pos i2, if_pos (by rw [show 1 + k = 3 by omega]; rfl), e4, zBP_some]
      · obtain ⟨d, hd, e4⟩ := law_low (x128 >>> (7 &&& 31)) (n := N) (by omega) M3
        refine ⟨d, Or.inr (Or.inr ⟨k2, k4, by omega, by omega⟩), fun K => ?_⟩
        rw [zLet_q, if_neg (j2n (by omega) (by omega)), if_pos i2, if_neg (j3n (by omega) (by omega)), if_pos z06.1, e4, zBP_some]
  obtain ⟨x, hx1, hx2⟩ := hx
  refine ⟨wI M3 205 (4 + 4 * i) (i3 x), fun j => if j = 0 then a else if j = 1 then k + 1 else if j = 2 then f else x, ⟨?_, ⟨?_, ?_⟩, ⟨?_, ?_⟩, ?_⟩, fun j hj => ?_, fun b j hb => ?_, by rw [← hM3, ← hM2, ← hM1]; rfl, fun r => ?_⟩
  · show (a : Int) = 0 ∨ (a : Int) = 1
    omega
  · show (1 : Int) ≤ (k : Int) + 1
    omega
  · show (k : Int) + 1 ≤ 5
    omega
  · show (0 : Int) ≤ f
    omega
  · show (f : Int) < N
    omega
  · show ((k : Int) + 1 = 2 ∧ vDt x) ∨ ((k : Int) + 1 = 3 ∧ 0 ≤ x ∧ x ≤ 6) ∨ ((k : Int) + 1 ≠ 2 ∧ (k : Int) + 1 ≠ 3 ∧ 0 ≤ x ∧ x < N)
    rcases hx1 with ⟨p1, p2⟩ | p | p
    · exact Or.inl ⟨by omega, p2⟩
    · exact Or.inr (Or.inl (by omega))
    · exact Or.inr (Or.inr (by omega))
  · rcases (show j = 0 ∨ j = 1 ∨ j = 2 ∨ j = 3 by omega) with rfl | rfl | rfl | rfl
    · rw [zI_nk (by omega), ← hM3, zI_nk (by omega), ← hM2, zI_nk (by omega), ← hM1, Nat.add_zero, zI_eq]
      rfl
    · rw [zI_nk (by omega), ← hM3, zI_nk (by omega), ← hM2, show 1 + 4 * i + 1 = 2 + 4 * i by omega, zI_eq]
      show i3 ((1 + k : Nat) : Int) = i3 ((k : Int) + 1)
      congr 1
      omega
    · rw [zI_nk (by omega), ← hM3, show 1 + 4 * i + 2 = 3 + 4 * i by omega, zI_eq]
      rfl
    · rw [show 1 + 4 * i + 3 = 4 + 4 * i by omega, zI_eq]
      rfl
  · by_cases e : b = 205
    · subst e
      rw [zI_nk (by omega), ← hM3, zI_nk (by omega), ← hM2, zI_nk (by omega), ← hM1, zI_nk (by omega)]
    · rw [zI_ne e, ← hM3, zI_ne e, ← hM2, zI_ne e, ← hM1, zI_ne e]
  · rw [q1, q2, q3, q4, x1, x2, x3, x4, z06.2, e1, zBP_some, if_pos i1, hM1, zLet_q, e2, zBP_some, if_pos i2, qk, hM2, zLet_q, if_pos z06.1, n2, e3, zBP_some, if_pos i3', hM3, zLet_q, if_pos i2, k3, n3, hx2, if_pos i4, zLet_q, ad1, zLet_q]
end TRQ
