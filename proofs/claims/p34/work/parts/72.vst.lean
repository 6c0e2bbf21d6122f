/-! WHAT IS READ MAY STAND -/
def vL (M n : Nat) (b : Cx) : Prop := ∀ i, i < b.length → vStep M (n + i) (b.getD i (0, 0)).1 (b.getD i (0, 0)).2
theorem vL.nil {M n : Nat} : vL M n [] := fun i hi => absurd hi (Nat.not_lt_zero i)
theorem vL.app {M n : Nat} {a b : Cx} (h : vL M n a) (h2 : vL M (n + a.length) b) : vL M n (a ++ b) := by
  intro i hi
  by_cases q : i < a.length
  · rw [gD_l q]
    exact h i q
  · rw [gD_r (by omega)]
    have := h2 (i - a.length) (by rw [List.length_append] at hi; omega)
    rw [show n + a.length + (i - a.length) = n + i by omega] at this
    exact this
theorem vL.one {M n : Nat} {kd v : Int} (h : vStep M n kd v) : vL M n [(kd, v)] := by
  intro i hi
  have : i = 0 := by simp at hi; exact hi
  subst this
  exact h
theorem fe_in {v x : Int} {s r : List Int} (h : pTwo 102 v s = .inr (x, r)) : 0 ≤ x ∧ x ≤ 19 := by
  unfold pTwo at h
  rw [show pHigh 102 v = 19 from rfl, show pLow 102 = 0 from rfl] at h
  obtain ⟨t, r1, h1, h2⟩ := pB_inv h
  obtain ⟨u, r2, h3, h4⟩ := pB_inv h2
  obtain ⟨c1, -, -, a1, a2⟩ := pDig_inv h1
  obtain ⟨c2, -, -, a3, a4⟩ := pDig_inv h3
  cases h4
  revert a3 a4
  split <;> split <;> intro a3 a4 <;> omega
theorem da_in {v x : Int} {s r : List Int} (hv : vMo v) (h : pTwo 100 v s = .inr (x, r)) : 1 ≤ x ∧ x ≤ sMost v := by
  have hb := sMost_bd (v := v) hv
  unfold pTwo at h
  rw [show pHigh 100 v = sMost v from rfl, show pLow 100 = 1 from rfl] at h
  obtain ⟨t, r1, h1, h2⟩ := pB_inv h
  obtain ⟨u, r2, h3, h4⟩ := pB_inv h2
  obtain ⟨c1, -, -, a1, a2⟩ := pDig_inv h1
  obtain ⟨c2, -, -, a3, a4⟩ := pDig_inv h3
  cases h4
  revert a3 a4
  split <;> split <;> intro a3 a4 <;> omega
theorem v_date {v : Int} {s r : List Int} (h : pFlds [109, 100] 0 0 s = .inr (v, r)) : vDt v := by
  rw [pFlds_cons ⟨by decide, by decide⟩] at h
  obtain ⟨x, r1, h1, h2⟩ := pB_inv h
  rw [pFlds_cons ⟨by decide, by decide⟩] at h2
  obtain ⟨x2, r2, h3, h4⟩ := pB_inv h2
  have m1 := mo_in h1
  have m2 := da_in m1 h3
  have hb := sMost_bd (v := x) m1
  cases h4
  have e1 : (100 * (100 * 0 + x) + x2) / 100 = x := by omega
  have e2 : (100 * (100 * 0 + x) + x2) % 100 = x2 := by omega
  unfold vDt
  rw [e1, e2]
  exact ⟨m1, m2.1, m2.2⟩
theorem v_wd {v : Int} {s r : List Int} (h : pFlds [119] 0 0 s = .inr (v, r)) : 0 ≤ v ∧ v ≤ 6 := by
  rw [pFlds_w] at h
  obtain ⟨x, r1, h1, h2⟩ := pB_inv h
  obtain ⟨_, _, _, a1, a2⟩ := pDig_inv h1
  cases h2
  omega
theorem v_feast {v : Int} {s r : List Int} (h : pFlds [102] 0 0 s = .inr (v, r)) : 0 ≤ v ∧ v ≤ 19 := by
  rw [pFlds_cons ⟨by decide, by decide⟩] at h
  obtain ⟨x, r1, h1, h2⟩ := pB_inv h
  have := fe_in h1
  cases h2
  omega
theorem v_last {v : Int} {s r : List Int} (h : pFlds [119, 109] 0 0 s = .inr (v, r)) : (0 ≤ v / 100 ∧ v / 100 ≤ 6) ∧ vMo (v % 100) := by
  rw [pFlds_w] at h
  obtain ⟨x, r1, h1, h2⟩ := pB_inv h
  rw [pFlds_cons ⟨by decide, by decide⟩] at h2
  obtain ⟨x2, r2, h3, h4⟩ := pB_inv h2
  obtain ⟨_, _, _, a1, a2⟩ := pDig_inv h1
  have m1 := mo_in h3
  cases h4
  unfold vMo at m1 ⊢
  omega
theorem v_nth {v : Int} {s r : List Int} (h : pFlds [110, 119, 109] 0 0 s = .inr (v, r)) : (1 ≤ v / 1000 ∧ v / 1000 ≤ 5) ∧ v / 100 % 10 ≤ 6 ∧ vMo (v % 100) := by
  rw [pFlds_n] at h
  obtain ⟨x, r1, h1, h2⟩ := pB_inv h
  rw [pFlds_w] at h2
  obtain ⟨x1, r2, h3, h4⟩ := pB_inv h2
  rw [pFlds_cons ⟨by decide, by decide⟩] at h4
  obtain ⟨x2, r3, h5, h6⟩ := pB_inv h4
  obtain ⟨_, _, _, a1, a2⟩ := pDig_inv h1
  obtain ⟨_, _, _, b1, b2⟩ := pDig_inv h3
  have m1 := mo_in h5
  cases h6
  unfold vMo at m1 ⊢
  omega
theorem days_bd : ∀ (u : Nat) (σ σ' : Int) (s r : List Int), pDays u σ s = .inr (σ', r) → σ - 366 * s.length ≤ σ' ∧ σ' ≤ σ + 366 * s.length := by
  intro u
  induction u with
  | zero =>
    intro σ σ' s r h
    cases h
    omega
  | succ u ih =>
    intro σ σ' s r h
    cases s with
    | nil =>
      cases h
      omega
    | cons c r0 =>
      unfold pDays at h
      by_cases c1 : c = 43 ∨ c = 45
      · rw [if_pos c1] at h
        obtain ⟨x, r1, h1, h2⟩ := pB_inv h
        obtain ⟨e, rfl, rfl, a1, a2⟩ := dig_in (by decide) (by decide) h1
        have hl := pMore_len 2 (e - 48) r1
        have hb := pMore_bd 2 (e - 48) r1 (by omega)
        have := ih _ _ _ _ h2
        simp only [List.length_cons]
        revert this
        split <;> intro this <;> omega
      · rw [if_neg c1] at h
        cases h
        simp only [List.length_cons]
        omega
theorem v_log : ∀ (u n M : Nat) (s r : List Int) (a : Cx), pLog true u n s = .inr (a, r) → n + a.length ≤ M → vL M n a := by
  intro u
  induction u with
  | zero => intro n M s r a h; cases h
  | succ u ih =>
    intro n M s r a h hM
    cases s with
    | nil => cases h
    | cons c r0 =>
      unfold pLog at h
      by_cases c33 : c = 33
      · rw [if_pos c33] at h
        obtain ⟨a1, r1, h1, h2⟩ := pB_inv h
        cases h2
        rw [List.length_append] at hM
        refine (ih n M r0 r a1 h1 (by omega)).app (vL.one ?_)
        unfold vStep
        omega
      rw [if_neg c33] at h
      by_cases c40 : c = 40
      · rw [if_pos c40] at h
        obtain ⟨a1, r1, h1, h2⟩ := pB_inv h
        cases r1 with
        | nil => cases h2
        | cons o r2 =>
          simp only at h2
          by_cases co : o = 38 ∨ o = 124
          case neg =>
            rw [if_neg co] at h2
            cases h2
          rw [if_pos co] at h2
          obtain ⟨b, r3, h3, h4⟩ := pB_inv h2
          obtain ⟨_, r4, h5, h6⟩ := pB_inv h4
          cases h6
          simp only [List.length_append, List.length_cons, List.length_nil] at hM
          refine vL.app (vL.app (ih n M r0 _ a1 h1 (by omega)) (vL.one ?_)) ?_
          · unfold vStep
            split <;> omega
          · rw [List.length_append, List.length_cons, List.length_nil, show n + (a1.length + (0 + 1)) = n + a1.length + 1 by omega]
            exact ih (n + a1.length + 1) M r2 _ b h3 (by omega)
      rw [if_neg c40] at h
      by_cases c0 : lgK true c = 0
      · rw [if_pos c0] at h; cases h
      rw [if_neg c0] at h
      obtain ⟨v, rfl, hf⟩ := part_ne h
      refine vL.one ?_
      by_cases c87 : c = 87
      · subst c87
        have := v_wd (show pFlds [119] 0 0 r0 = .inr (v, r) from hf)
        rw [show lgK true 87 = 13 from rfl]
        unfold vStep
        omega
      by_cases c65 : c = 65
      · subst c65
        have := v_feast (show pFlds [102] 0 0 r0 = .inr (v, r) from hf)
        rw [show lgK true 65 = 15 from rfl]
        unfold vStep
        omega
      by_cases c69 : c = 69
      · subst c69
        have := v_date (show pFlds [109, 100] 0 0 r0 = .inr (v, r) from hf)
        rw [show lgK true 69 = 16 from rfl]
        unfold vStep
        exact Or.inr (Or.inr (Or.inr (Or.inr (Or.inr (Or.inr (Or.inr (Or.inr (Or.inr (Or.inr (Or.inl ⟨rfl, this⟩))))))))))
      have c89 : c = 89 := by
        unfold lgK at c0
        rw [if_pos rfl, if_neg c87] at c0
        by_cases e : c = 89
        · exact e
        · rw [if_neg e, if_neg c65, if_neg c69] at c0
          exact absurd rfl c0
      subst c89
      have : pFlds [] 0 0 r0 = .inr (v, r) := hf
      cases this
      rw [show lgK true 89 = 14 from rfl]
      unfold vStep
      omega
theorem v_mv {M n : Nat} {c v : Int} {s r : List Int} (h0 : mvK c ≠ 0) (hf : pFlds (mvF c) 0 0 s = .inr (v, r)) : vStep M n (mvK c) v := by
  by_cases hc : c = 62 ∨ c = 60 ∨ c = 93 ∨ c = 91
  · have hv : 0 ≤ v ∧ v ≤ 6 := by
      unfold mvF at hf
      rw [if_pos hc] at hf
      exact v_wd hf
    rcases hc with rfl | rfl | rfl | rfl
    · rw [show mvK 62 = 6 from rfl]; unfold vStep; omega
    · rw [show mvK 60 = 7 from rfl]; unfold vStep; omega
    · rw [show mvK 93 = 8 from rfl]; unfold vStep; omega
    · rw [show mvK 91 = 9 from rfl]; unfold vStep; omega
  · unfold mvF at hf
    rw [if_neg hc] at hf
    cases hf
    by_cases q5 : c = 79
    · subst q5; rw [show mvK 79 = 10 from rfl]; unfold vStep; omega
    by_cases q6 : c = 81
    · subst q6; rw [show mvK 81 = 11 from rfl]; unfold vStep; omega
    by_cases q7 : c = 88
    · subst q7; rw [show mvK 88 = 12 from rfl]; unfold vStep; omega
    · exfalso
      apply h0
      unfold mvK
      rw [if_neg (by omega), if_neg (by omega), if_neg (by omega), if_neg (by omega), if_neg q5, if_neg q6, if_neg q7]
