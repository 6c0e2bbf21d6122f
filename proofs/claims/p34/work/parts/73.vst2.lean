/-! WHAT IS READ MAY STAND: steps, rules -/
theorem v_br {u n M : Nat} {s r : List Int} {a : Cx} (hs : s.length ≤ 40) (ih : ∀ (n M : Nat) (s r : List Int) (b : Cx), s.length ≤ 40 → pStp u n s = .inr (b, r) → n + b.length ≤ M → vL M n b) (h : brS u n s = .inr (a, r)) (hM : n + a.length ≤ M) : vL M n a := by
  unfold brS at h
  obtain ⟨a1, r1, p1, p2⟩ := pB_inv h
  obtain ⟨_, r2, p3, p4⟩ := pB_inv p2
  have e1 := chr_inv p3
  subst e1
  obtain ⟨b, r3, p5, p6⟩ := pB_inv p4
  obtain ⟨_, r4, p7, p8⟩ := pB_inv p6
  have e2 := chr_inv p7
  subst e2
  have hl1 := log_lt p1
  rw [List.length_cons] at hl1
  have okb := ok_stp u (n + a1.length + 1) r2
  rw [p5] at okb
  unfold okR at okb
  simp only [List.length_cons] at okb
  have noelse : a = a1 ++ [(19, ((n + a1.length + 1 + b.length : Nat) : Int))] ++ b → vL M n a := by
    intro e
    subst e
    simp only [List.length_append, List.length_cons, List.length_nil] at hM
    refine vL.app (vL.app (v_log u n M s _ a1 p1 (by omega)) (vL.one ?_)) ?_
    · unfold vStep
      omega
    · rw [List.length_append, List.length_cons, List.length_nil, show n + (a1.length + (0 + 1)) = n + a1.length + 1 by omega]
      exact ih (n + a1.length + 1) M r2 _ b (by omega) p5 (by omega)
  cases r4 with
  | nil =>
    cases p8
    exact noelse rfl
  | cons o r5 =>
    by_cases co : o = 123
    case neg =>
      have p8 : (if o = 123 then _ else _) = (.inr (a, r) : Rd Cx) := p8
      rw [if_neg co] at p8
      cases p8
      exact noelse rfl
    subst co
    have p8 : (pB (pStp u (n + a1.length + 1 + b.length + 1) r5) fun d r6 => pB (pChr 125 r6) fun _ r7 => (.inr (a1 ++ [(19, ((n + a1.length + 1 + b.length + 1 : Nat) : Int))] ++ b ++ [(18, ((n + a1.length + 1 + b.length + 1 + d.length : Nat) : Int))] ++ d, r7) : Rd Cx)) = .inr (a, r) := p8
    obtain ⟨c, r6, p9, p10⟩ := pB_inv p8
    obtain ⟨_, r7, p11, p12⟩ := pB_inv p10
    cases p12
    simp only [List.length_cons] at okb
    simp only [List.length_append, List.length_cons, List.length_nil] at hM
    refine vL.app (vL.app (vL.app (vL.app (v_log u n M s _ a1 p1 (by omega)) (vL.one ?_)) ?_) (vL.one ?_)) ?_
    · unfold vStep
      omega
    · rw [List.length_append, List.length_cons, List.length_nil, show n + (a1.length + (0 + 1)) = n + a1.length + 1 by omega]
      exact ih (n + a1.length + 1) M r2 _ b (by omega) p5 (by omega)
    · unfold vStep
      simp only [List.length_append, List.length_cons, List.length_nil]
      omega
    · simp only [List.length_append, List.length_cons, List.length_nil]
      rw [show n + (a1.length + (0 + 1) + b.length + (0 + 1)) = n + a1.length + 1 + b.length + 1 by omega]
      exact ih (n + a1.length + 1 + b.length + 1) M r5 _ c (by omega) p9 (by omega)
theorem v_stp : ∀ (u n M : Nat) (s r : List Int) (b : Cx), s.length ≤ 40 → pStp u n s = .inr (b, r) → n + b.length ≤ M → vL M n b := by
  intro u
  induction u with
  | zero =>
    intro n M s r b _ h _
    cases h
    exact vL.nil
  | succ u ih =>
    intro n M s r b hs h hM
    cases s with
    | nil =>
      cases h
      exact vL.nil
    | cons c r0 =>
      rw [pStp_cons] at h
      by_cases c1 : c = 43 ∨ c = 45
      · have hok9 := ok_days1 (u := r0.length + 1) (r := r0) c1
        rw [if_pos c1] at h
        unfold dyS at h
        rw [pB_assoc] at h
        obtain ⟨σ, r1, p1, p2⟩ := pB_inv h
        have p2 : (pB (pStp u (n + (cDays σ).length) r1) fun b r2 => (.inr (cDays σ ++ b, r2) : Rd Cx)) = .inr (b, r) := p2
        obtain ⟨b', r2, p3, p4⟩ := pB_inv p2
        cases p4
        rw [p1] at hok9
        unfold okR at hok9
        simp only [List.length_cons] at hok9 hs
        have hb := days_bd _ _ _ _ _ p1
        simp only [List.length_cons] at hb
        rw [List.length_append] at hM
        refine vL.app ?_ (ih _ M r1 _ b' (by omega) p3 (by omega))
        unfold cDays
        split
        · exact vL.nil
        · refine vL.one ?_
          unfold vStep
          omega
      rw [if_neg c1] at h
      by_cases c63 : c = 63
      · rw [if_pos c63] at h
        obtain ⟨a, r1, p1, p2⟩ := pB_inv h
        obtain ⟨b', r2, p3, p4⟩ := pB_inv p2
        cases p4
        have hok : okR List.length 0 (c :: r0) (brS u n r0) := ok_br (u := u) (n := n) (c := c) (r := r0) (ok_stp u)
        rw [p1] at hok
        unfold okR at hok
        simp only [List.length_cons] at hok hs
        rw [List.length_append] at hM
        exact (v_br (by omega) ih p1 (by omega)).app (ih _ M r1 _ b' (by omega) p3 (by omega))
      rw [if_neg c63] at h
      by_cases c0 : mvK c = 0
      · rw [if_pos c0] at h
        cases h
        exact vL.nil
      rw [if_neg c0] at h
      obtain ⟨a, r1, p1, p2⟩ := pB_inv h
      obtain ⟨b', r2, p3, p4⟩ := pB_inv p2
      cases p4
      obtain ⟨v, rfl, hf⟩ := part_ne p1
      have hok := ok_part (kd := mvK c) (fs := mvF c) r0 (c :: r0) (by simp)
      rw [p1] at hok
      unfold okR at hok
      simp only [List.length_cons, List.length_nil] at hok hs
      rw [List.length_append] at hM
      exact (vL.one (v_mv c0 hf)).app (ih _ M r1 _ b' (by omega) p3 (by omega))
theorem v_sta {M : Nat} {s r : List Int} {a : Cx} (h : pSta s = .inr (a, r)) : vL M 0 a := by
  cases s with
  | nil => cases h
  | cons c s =>
    have h : (if stK c = 0 then .inl (c :: s) else pPart (stK c) (stF c) s) = (.inr (a, r) : Rd Cx) := h
    by_cases h0 : stK c = 0
    · rw [if_pos h0] at h; cases h
    rw [if_neg h0] at h
    obtain ⟨v, rfl, hf⟩ := part_ne h
    refine vL.one ?_
    by_cases c68 : c = 68
    · subst c68
      have := v_date (show pFlds [109, 100] 0 0 s = .inr (v, r) from hf)
      rw [show stK 68 = 1 from rfl]
      exact Or.inl ⟨rfl, this⟩
    by_cases c78 : c = 78
    · subst c78
      have := v_nth (show pFlds [110, 119, 109] 0 0 s = .inr (v, r) from hf)
      rw [show stK 78 = 2 from rfl]
      exact Or.inr (Or.inl ⟨rfl, this⟩)
    by_cases c76 : c = 76
    · subst c76
      have := v_last (show pFlds [119, 109] 0 0 s = .inr (v, r) from hf)
      rw [show stK 76 = 3 from rfl]
      exact Or.inr (Or.inr (Or.inl ⟨rfl, this⟩))
    have c70 : c = 70 := by
      unfold stK at h0
      rw [if_neg c68, if_neg c78, if_neg c76] at h0
      by_cases e : c = 70
      · exact e
      · rw [if_neg e] at h0
        exact absurd rfl h0
    subst c70
    have := v_feast (show pFlds [102] 0 0 s = .inr (v, r) from hf)
    rw [show stK 70 = 4 from rfl]
    exact Or.inr (Or.inr (Or.inr (Or.inl ⟨rfl, this⟩)))
/-- a rule's code may stand, and is no longer than its text -/
theorem v_rule {T : List Int} {C : Cx} (hT : T.length ≤ 40) (h : pRule T = .inr C) : vL C.length 0 C ∧ C.length ≤ T.length := by
  obtain ⟨a, b, r, p1, p2, rfl⟩ := rule_inv h
  obtain ⟨hal, hrl⟩ := sta_ne p1
  have okb := ok_stp 41 a.length r
  rw [p2] at okb
  unfold okR at okb
  simp only [List.length_nil] at okb
  rw [List.length_append]
  refine ⟨(v_sta p1).app ?_, by omega⟩
  rw [Nat.zero_add]
  exact v_stp 41 a.length _ r [] b (by omega) p2 (Nat.le_refl _)
