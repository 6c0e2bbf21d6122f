/-! THE LAW'S TEXTS: what they are read as -/
theorem p_dig {lo hi d : Int} {r : List Int} (h : lo ≤ d ∧ d ≤ hi) : pDig lo hi ((48 + d) :: r) = .inr (d, r) := by
  rw [pDig_cons, show 48 + d - 48 = d by omega, if_pos h]
theorem p_two {f v x : Int} {r : List Int} (hx : 0 ≤ x) (h : pLow f ≤ x ∧ x ≤ pHigh f v) (hh : 10 ≤ pHigh f v ∧ pHigh f v < 100) : pTwo f v ((48 + x / 10) :: (48 + x % 10) :: r) = .inr (x, r) := by
  have hl : pLow f = 0 ∨ pLow f = 1 := by unfold pLow; split <;> omega
  unfold pTwo
  rw [pB_inr (p_dig ⟨by omega, by omega⟩), pB_inr (p_dig ⟨by split <;> omega, by split <;> omega⟩), show x % 10 + 10 * (x / 10) = x by omega]
theorem dgs_1 {x : Int} {r : List Int} (h : 0 ≤ x ∧ x < 10) : dgs 1 x ++ r = (48 + x) :: r := by
  show (48 + x / 1 % 10) :: r = _
  rw [show x / 1 % 10 = x by omega]
theorem dgs_2 {x : Int} {r : List Int} (h : 0 ≤ x ∧ x < 100) : dgs 2 x ++ r = (48 + x / 10) :: (48 + x % 10) :: r := by
  show (48 + x / 10 % 10) :: (48 + x / 1 % 10) :: r = _
  rw [show x / 10 % 10 = x / 10 by omega, show x / 1 % 10 = x % 10 by omega]
theorem dgs_3 {x : Int} {r : List Int} (h : 0 ≤ x ∧ x < 1000) : dgs 3 x ++ r = (48 + x / 100) :: (48 + x % 100 / 10) :: (48 + x % 100 % 10) :: r := by
  show (48 + x / 100 % 10) :: (48 + x / 10 % 10) :: (48 + x / 1 % 10) :: r = _
  rw [show x / 100 % 10 = x / 100 by omega, show x / 10 % 10 = x % 100 / 10 by omega, show x / 1 % 10 = x % 100 % 10 by omega]
theorem dgs_4 {x : Int} {r : List Int} (h : 0 ≤ x ∧ x < 10000) : dgs 4 x ++ r = (48 + x / 100 / 10) :: (48 + x / 100 % 10) :: (48 + x % 100 / 10) :: (48 + x % 100 % 10) :: r := by
  show (48 + x / 1000 % 10) :: (48 + x / 100 % 10) :: (48 + x / 10 % 10) :: (48 + x / 1 % 10) :: r = _
  rw [show x / 1000 % 10 = x / 100 / 10 by omega, show x / 10 % 10 = x % 100 / 10 by omega, show x / 1 % 10 = x % 100 % 10 by omega]
theorem vDt.bz {v : Int} (h : vDt v) : (1 ≤ v / 100 ∧ v / 100 ≤ 12) ∧ 1 ≤ v % 100 ∧ v % 100 ≤ sMost (v / 100) ∧ 0 ≤ v ∧ v < 10000 := by
  obtain ⟨⟨a1, a2⟩, a3, a4⟩ := h
  exact ⟨⟨a1, a2⟩, a3, a4, by omega, by omega⟩
theorem p_mo {v x : Int} {r : List Int} (hx : 1 ≤ x ∧ x ≤ 12) : pTwo 109 v ((48 + x / 10) :: (48 + x % 10) :: r) = .inr (x, r) := p_two (by omega) ⟨by rw [show pLow 109 = 1 from rfl]; omega, by rw [pH2]; omega⟩ ⟨by rw [pH2]; omega, by rw [pH2]; omega⟩
theorem p_da {v x : Int} {r : List Int} (hv : 1 ≤ v ∧ v ≤ 12) (hx : 1 ≤ x ∧ x ≤ sMost v) : pTwo 100 v ((48 + x / 10) :: (48 + x % 10) :: r) = .inr (x, r) := by
  have := sMost_bd hv
  exact p_two (by omega) ⟨by rw [show pLow 100 = 1 from rfl]; omega, by rw [pH3]; omega⟩ ⟨by rw [pH3]; omega, by rw [pH3]; omega⟩
theorem p_fe {v x : Int} {r : List Int} (hx : 0 ≤ x ∧ x ≤ 19) : pTwo 102 v ((48 + x / 10) :: (48 + x % 10) :: r) = .inr (x, r) := p_two (by omega) ⟨by rw [show pLow 102 = 0 from rfl]; omega, by rw [pH1]; omega⟩ ⟨by rw [pH1]; omega, by rw [pH1]; omega⟩
theorem f_end {a v : Int} {r : List Int} : pFlds [] a v r = .inr (a, r) := rfl
theorem f_date {v : Int} {r : List Int} (h : vDt v) : pFlds [109, 100] 0 0 (dgs 4 v ++ r) = .inr (v, r) := by
  obtain ⟨h1, h2, h3, h4⟩ := h.bz
  rw [dgs_4 h4, pFlds_cons ⟨by decide, by decide⟩, pB_inr (p_mo h1), pFlds_cons ⟨by decide, by decide⟩, pB_inr (p_da h1 ⟨h2, h3⟩), f_end, show 100 * (100 * 0 + v / 100) + v % 100 = v by omega]
theorem f_wd {v a : Int} {vv : Int} {r : List Int} (h : 0 ≤ v ∧ v ≤ 6) : pFlds [119] a vv (dgs 1 v ++ r) = .inr (10 * a + v, r) := by
  rw [dgs_1 ⟨by omega, by omega⟩, pFlds_one (Or.inr rfl), if_neg (by decide), pB_inr (p_dig h), f_end]
theorem f_fe {v a : Int} {vv : Int} {r : List Int} (h : 0 ≤ v ∧ v ≤ 19) : pFlds [102] a vv (dgs 2 v ++ r) = .inr (100 * a + v, r) := by
  rw [dgs_2 ⟨by omega, by omega⟩, pFlds_cons ⟨by decide, by decide⟩, pB_inr (p_fe h), f_end]
theorem f_last {v : Int} {r : List Int} (h : 0 ≤ v / 100 ∧ v / 100 ≤ 6) (hm : vMo (v % 100)) : pFlds [119, 109] 0 0 (dgs 3 v ++ r) = .inr (v, r) := by
  rw [dgs_3 ⟨by omega, by omega⟩, pFlds_one (Or.inr rfl), if_neg (by decide), pB_inr (p_dig h), pFlds_cons ⟨by decide, by decide⟩, pB_inr (p_mo hm), f_end, show 100 * (10 * 0 + v / 100) + v % 100 = v by omega]
theorem f_nth {v : Int} {r : List Int} (h : 1 ≤ v / 1000 ∧ v / 1000 ≤ 5) (hw : v / 100 % 10 ≤ 6) (hm : vMo (v % 100)) : pFlds [110, 119, 109] 0 0 (dgs 4 v ++ r) = .inr (v, r) := by
  rw [dgs_4 ⟨by omega, by omega⟩, pFlds_one (Or.inl rfl), if_pos rfl, pB_inr (p_dig ⟨by omega, by omega⟩), pFlds_one (Or.inr rfl), if_neg (by decide), pB_inr (p_dig ⟨by omega, by omega⟩), pFlds_cons ⟨by decide, by decide⟩, pB_inr (p_mo hm), f_end, show 100 * (10 * (10 * 0 + v / 100 / 10) + v / 100 % 10) + v % 100 = v by omega]
theorem p_part {kd v : Int} {fs s r : List Int} (h : pFlds fs 0 0 s = .inr (v, r)) : pPart kd fs s = .inr ([(kd, v)], r) := pB_inr h
theorem p_sta {n : Nat} {s : Int} {r : List Int} (h : vG n s) (hn : n ≤ 10) : pSta ([stC0 (s / 10000)] ++ dgs (kd0 (s / 10000)) (s % 10000) ++ r) = .inr ([(s / 10000, s % 10000)], r) := by
  rw [List.append_assoc]
  show (if stK (stC0 (s / 10000)) = 0 then _ else pPart (stK (stC0 (s / 10000))) (stF (stC0 (s / 10000))) (dgs (kd0 (s / 10000)) (s % 10000) ++ r)) = _
  rcases h with ⟨h, h2⟩ | ⟨h, h2, h3, h4⟩ | ⟨h, h2, h3⟩ | ⟨h, h2⟩
  · rw [h]
    exact p_part (f_date h2)
  · rw [h]
    exact p_part (f_nth h2 h3 h4)
  · rw [h]
    exact p_part (f_last h2 h3)
  · rw [h]
    exact (p_part (f_fe ⟨by omega, by omega⟩)).trans (by rw [show 100 * 0 + s % 10000 = s % 10000 by omega]; rfl)
/-! steps -/
def nxt (r : List Int) : Prop := r = [] ∨ ∃ c t, r = c :: t ∧ 57 < c
theorem more_nxt {k : Nat} {n : Int} {r : List Int} (h : nxt r) : pMore k n r = (n, r) := by
  cases k with
  | zero => rfl
  | succ k =>
    rcases h with rfl | ⟨c, t, rfl, hc⟩
    · rfl
    · show (if 0 ≤ c - 48 ∧ c - 48 ≤ 9 ∧ 10 * n + (c - 48) ≤ 366 then _ else _) = _
      rw [if_neg (by omega)]
theorem more_dig {k : Nat} {n d : Int} {r : List Int} (h : 0 ≤ d ∧ d ≤ 9) (h2 : 10 * n + d ≤ 366) : pMore (k + 1) n ((48 + d) :: r) = pMore k (10 * n + d) r := by
  show (if 0 ≤ 48 + d - 48 ∧ 48 + d - 48 ≤ 9 ∧ 10 * n + (48 + d - 48) ≤ 366 then pMore k (10 * n + (48 + d - 48)) r else _) = _
  rw [if_pos (by omega), show 48 + d - 48 = d by omega]
theorem days_nxt {u : Nat} {σ : Int} {r : List Int} (h : nxt r) : pDays u σ r = .inr (σ, r) := by
  cases u with
  | zero => rfl
  | succ u =>
    rcases h with rfl | ⟨c, t, rfl, hc⟩
    · rfl
    · show (if c = 43 ∨ c = 45 then _ else _) = _
      rw [if_neg (by omega)]
theorem p_days {u : Nat} {m c : Int} {r : List Int} (hm : 0 ≤ m ∧ m ≤ 366) (hc : c = 43 ∨ c = 45) (h : nxt r) : pDays (u + 1) 0 (c :: (dgs (dgk m) m ++ r)) = .inr (if c = 43 then m else -m, r) := by
  have h0 : ∀ s : List Int, pDays (u + 1) 0 (c :: s) = pB (pDig 0 9 s) fun x r1 => pDays u (if c = 43 then 0 + (pMore 2 x r1).1 else 0 - (pMore 2 x r1).1) (pMore 2 x r1).2 := fun s => if_pos hc
  have h1 : ∃ x r1, pDig 0 9 (dgs (dgk m) m ++ r) = .inr (x, r1) ∧ pMore 2 x r1 = (m, r) := by
    unfold dgk
    by_cases c1 : m ≤ 99
    · rw [if_pos c1]
      by_cases c2 : m ≤ 9
      · rw [if_pos c2, dgs_1 ⟨by omega, by omega⟩]
        exact ⟨_, _, p_dig ⟨by omega, by omega⟩, more_nxt h⟩
      · rw [if_neg c2, dgs_2 ⟨by omega, by omega⟩]
        refine ⟨_, _, p_dig ⟨by omega, by omega⟩, ?_⟩
        rw [more_dig ⟨by omega, by omega⟩ (by omega), more_nxt h, show 10 * (m / 10) + m % 10 = m by omega]
    · rw [if_neg c1, dgs_3 ⟨by omega, by omega⟩]
      refine ⟨_, _, p_dig ⟨by omega, by omega⟩, ?_⟩
      rw [more_dig ⟨by omega, by omega⟩ (by omega), more_dig ⟨by omega, by omega⟩ (by omega), more_nxt h, show 10 * (10 * (m / 100) + m % 100 / 10) + m % 100 % 10 = m by omega]
  obtain ⟨x, r1, e1, e2⟩ := h1
  rw [h0, pB_inr e1, e2, days_nxt h, show (0 : Int) + m = m by omega, show (0 : Int) - m = -m by omega]
def Ps (n : Nat) (s : List Int) (a : Cx) (q : List Int) : Prop := ∀ u, s.length < u → pStp u n s = .inr (a, q)
theorem Ps.nil {n : Nat} : Ps n [] [] [] := fun u hu => by
  cases u with
  | zero => exact absurd hu (Nat.not_lt_zero _)
  | succ u => rfl
theorem Ps.stop {n : Nat} {r : List Int} : Ps n (125 :: r) [] (125 :: r) := fun u hu => by
  cases u with
  | zero => exact absurd hu (Nat.not_lt_zero _)
  | succ u =>
    rw [pStp_cons, if_neg (by decide), if_neg (by decide), if_pos (by decide)]
theorem Ps.step {s : Int} {n : Nat} {r q : List Int} {a : Cx} (hs : vS s) (hn : s / 1000 = 1 → nxt r) (h : Ps (n + (cStp s).length) r a q) : Ps n (stT s ++ r) (cStp s ++ a) q := by
  intro u hu
  have hb := hs.bd
  by_cases c0 : s / 1000 = 0
  · have e1 : stT s = [] := if_pos c0
    have e2 : cStp s = [] := if_pos (Or.inl c0)
    rw [e1] at hu ⊢
    rw [e2] at h ⊢
    exact h u hu
  by_cases c1 : s / 1000 = 1
  · have ha : 34 ≤ s % 1000 ∧ s % 1000 ≤ 766 := by unfold vS at hs; omega
    obtain ⟨c, m, hc, hm, hT, hσ⟩ : ∃ c m : Int, (c = 43 ∨ c = 45) ∧ (0 ≤ m ∧ m ≤ 366) ∧ stT s = [c] ++ dgs (dgk m) m ∧ (if c = 43 then m else -m) = s % 1000 - 400 := by
      unfold stT
      rw [if_neg c0, if_pos c1]
      by_cases c4 : 400 ≤ s % 1000
      · exact ⟨43, s % 1000 - 400, Or.inl rfl, ⟨by omega, by omega⟩, if_pos c4, if_pos rfl⟩
      · exact ⟨45, 400 - s % 1000, Or.inr rfl, ⟨by omega, by omega⟩, if_neg c4, by rw [if_neg (by decide)]; omega⟩
    have hcs : cStp s = cDays (s % 1000 - 400) := by
      unfold cStp cDays wK wV
      by_cases e : s = 1400
      · rw [if_pos (Or.inr e), if_pos (by omega)]
      · rw [if_neg (fun z => z.elim c0 e), if_pos c1, if_pos c1, if_neg (show ¬ s % 1000 - 400 = 0 by omega), show 5000 + (s % 1000 - 400) = 4600 + s % 1000 by omega]
    rw [hT, List.append_assoc] at hu ⊢
    obtain ⟨u', rfl⟩ : ∃ u', u = u' + 1 := ⟨u - 1, by omega⟩
    have hl : r.length < u' := by
      rw [List.length_append, List.length_append] at hu
      simp at hu
      omega
    show pStp (u' + 1) n (c :: (dgs (dgk m) m ++ r)) = _
    have hd : dyS c (dgs (dgk m) m ++ r) = .inr (cStp s, r) := by
      unfold dyS
      rw [pB_inr (p_days hm hc (hn c1)), hσ, ← hcs]
    rw [pStp_cons, if_pos hc, pB_inr hd, pB_inr (h u' hl)]
  · have hop : s / 1000 = 2 ∨ s / 1000 = 3 ∨ s / 1000 = 4 ∨ s / 1000 = 5 ∨ s / 1000 = 6 ∨ s / 1000 = 7 ∨ s / 1000 = 8 := by omega
    have eT : stT s = [stC (s / 1000)] ++ (if 6 ≤ s / 1000 then [] else dgs 1 (s % 1000)) := by
      unfold stT
      rw [if_neg c0, if_neg c1]
    have eS : cStp s = [(wK s, wV s)] := if_neg (fun z => z.elim c0 (fun e => c1 (by omega)))
    have eK : mvK (stC (s / 1000)) = wK s ∧ ¬ (stC (s / 1000) = 43 ∨ stC (s / 1000) = 45) ∧ ¬ stC (s / 1000) = 63 ∧ ¬ mvK (stC (s / 1000)) = 0 := by
      unfold wK
      rw [if_neg c1]
      rcases hop with c | c | c | c | c | c | c <;> rw [c] <;> decide
    have eV : wV s = s % 1000 := if_neg c1
    rw [eS] at h ⊢
    rw [eT, List.append_assoc] at hu ⊢
    obtain ⟨u', rfl⟩ : ∃ u', u = u' + 1 := ⟨u - 1, by omega⟩
    have hl : r.length < u' := by
      rw [List.length_append, List.length_append] at hu
      simp at hu
      omega
    show pStp (u' + 1) n (stC (s / 1000) :: ((if 6 ≤ s / 1000 then [] else dgs 1 (s % 1000)) ++ r)) = _
    have hp : pPart (mvK (stC (s / 1000))) (mvF (stC (s / 1000))) ((if 6 ≤ s / 1000 then [] else dgs 1 (s % 1000)) ++ r) = .inr ([(wK s, wV s)], r) := by
      rw [eK.1, eV]
      unfold vS at hs
      by_cases c6 : 6 ≤ s / 1000
      · have eF : mvF (stC (s / 1000)) = [] := by
          rcases (show s / 1000 = 6 ∨ s / 1000 = 7 ∨ s / 1000 = 8 by omega) with c | c | c <;> rw [c] <;> decide
        rw [if_pos c6, eF, show s % 1000 = 0 by omega]
        exact p_part f_end
      · have eF : mvF (stC (s / 1000)) = [119] := by
          rcases (show s / 1000 = 2 ∨ s / 1000 = 3 ∨ s / 1000 = 4 ∨ s / 1000 = 5 by omega) with c | c | c | c <;> rw [c] <;> decide
        rw [if_neg c6, eF]
        exact (p_part (f_wd ⟨by omega, by omega⟩)).trans (by rw [show 10 * 0 + s % 1000 = s % 1000 by omega])
    rw [pStp_cons, if_neg eK.2.1, if_neg eK.2.2.1, if_neg eK.2.2.2, pB_inr hp, pB_inr (h u' hl)]
theorem nxt_st {s : Int} {r : List Int} (hs : vS s) (h1 : s / 1000 ≠ 1) (hr : nxt r) : nxt (stT s ++ r) := by
  have hb := hs.bd
  unfold stT
  by_cases c0 : s / 1000 = 0
  · rw [if_pos c0]
    exact hr
  · rw [if_neg c0, if_neg h1, List.append_assoc]
    refine Or.inr ⟨_, _, rfl, ?_⟩
    rcases (show s / 1000 = 2 ∨ s / 1000 = 3 ∨ s / 1000 = 4 ∨ s / 1000 = 5 ∨ s / 1000 = 6 ∨ s / 1000 = 7 ∨ s / 1000 = 8 by omega) with c | c | c | c | c | c | c <;> rw [c] <;> decide
theorem hd_st {s : Int} {r : List Int} (hs : vS s) (hr : r.headD 0 ≠ 123) : (stT s ++ r).headD 0 ≠ 123 := by
  have hb := hs.bd
  unfold stT
  by_cases c0 : s / 1000 = 0
  · rw [if_pos c0]
    exact hr
  · rw [if_neg c0]
    by_cases c1 : s / 1000 = 1
    · rw [if_pos c1]
      by_cases c4 : 400 ≤ s % 1000
      · rw [if_pos c4]
        show (43 : Int) ≠ 123
        decide
      · rw [if_neg c4]
        show (45 : Int) ≠ 123
        decide
    · rw [if_neg c1]
      show stC (s / 1000) ≠ 123
      rcases (show s / 1000 = 2 ∨ s / 1000 = 3 ∨ s / 1000 = 4 ∨ s / 1000 = 5 ∨ s / 1000 = 6 ∨ s / 1000 = 7 ∨ s / 1000 = 8 by omega) with c | c | c | c | c | c | c <;> rw [c] <;> decide
/-- the condition itself -/
def vC (n : Nat) (c : Int) : Prop := -170000 < c ∧ c < 170000 ∧ (c.natAbs / 10000 = 13 ∧ c.natAbs % 10000 ≤ 6 ∨ c.natAbs / 10000 = 14 ∧ c.natAbs % 10000 = 0 ∨ c.natAbs / 10000 = 15 ∧ c.natAbs % 10000 < n ∨ c.natAbs / 10000 = 16 ∧ vDt (c.natAbs % 10000 : Nat))
theorem p_atom {n k u : Nat} {a : Nat} {r : List Int} (hn : n ≤ 10) (h : a / 10000 = 13 ∧ a % 10000 ≤ 6 ∨ a / 10000 = 14 ∧ a % 10000 = 0 ∨ a / 10000 = 15 ∧ a % 10000 < n ∨ a / 10000 = 16 ∧ vDt (a % 10000 : Nat)) :
    pLog true (u + 1) k (whC ((a : Int) / 10000) :: ((if (a : Int) / 10000 = 14 then [] else dgs (cnD ((a : Int) / 10000)) ((a : Int) % 10000)) ++ r)) = .inr ([(((a / 10000 : Nat) : Int), ((a % 10000 : Nat) : Int))], r) := by
  have e1 : (a : Int) / 10000 = ((a / 10000 : Nat) : Int) := by omega
  have e2 : (a : Int) % 10000 = ((a % 10000 : Nat) : Int) := by omega
  rw [e1, e2]
  have hlt : a % 10000 < 10000 := Nat.mod_lt _ (by decide)
  generalize a % 10000 = x at h hlt ⊢
  have pl : ∀ (c : Int) (s : List Int), c ≠ 33 → c ≠ 40 → lgK true c ≠ 0 → pLog true (u + 1) k (c :: s) = pPart (lgK true c) (lgF true c) s := fun c s h1 h2 h3 => by
    show (if c = 33 then _ else if c = 40 then _ else if lgK true c = 0 then _ else _) = _
    rw [if_neg h1, if_neg h2, if_neg h3]
  rcases h with ⟨h, h2⟩ | ⟨h, h2⟩ | ⟨h, h2⟩ | ⟨h, h2⟩
  · rw [h, if_neg (by decide)]
    refine (pl 87 _ (by decide) (by decide) (by decide)).trans ((p_part (f_wd ⟨by omega, by omega⟩)).trans ?_)
    rw [show 10 * 0 + (x : Int) = x by omega]
    rfl
  · rw [h, if_pos (by decide), h2]
    exact (pl 89 _ (by decide) (by decide) (by decide)).trans (p_part f_end)
  · rw [h, if_neg (by decide)]
    refine (pl 65 _ (by decide) (by decide) (by decide)).trans ((p_part (f_fe ⟨by omega, by omega⟩)).trans ?_)
    rw [show 100 * 0 + (x : Int) = x by omega]
    rfl
  · rw [h, if_neg (by decide)]
    exact (pl 69 _ (by decide) (by decide) (by decide)).trans (p_part (f_date h2))
theorem p_atm {n k u : Nat} {c : Int} {r : List Int} (hn : n ≤ 10) (h : vC n c) (hu : 2 ≤ u) : pLog true u k ((if c < 0 then [33] else []) ++ (whC ((c.natAbs : Int) / 10000) :: ((if (c.natAbs : Int) / 10000 = 14 then [] else dgs (cnD ((c.natAbs : Int) / 10000)) ((c.natAbs : Int) % 10000)) ++ r))) = .inr (cAtm c, r) := by
  obtain ⟨u', rfl⟩ : ∃ u', u = u' + 2 := ⟨u - 2, by omega⟩
  unfold cAtm
  by_cases c0 : c < 0
  · rw [if_pos c0, if_pos c0]
    show (if (33 : Int) = 33 then pB (pLog true (u' + 1) k _) fun a r1 => .inr (a ++ [(17, 0)], r1) else _) = _
    rw [if_pos rfl]
    exact (pB_inr (p_atom hn h.2.2)).trans rfl
  · rw [if_neg c0, if_neg c0]
    exact p_atom hn h.2.2
theorem p_chr {x : Int} {r : List Int} : pChr x (x :: r) = .inr ((), r) := by rw [pChr_cons, if_pos rfl]
theorem cnT_c {c : Int} {R : List Int} (h : c ≠ 0) : cnT c ++ R = 63 :: ((if c < 0 then [33] else []) ++ (whC ((c.natAbs : Int) / 10000) :: ((if (c.natAbs : Int) / 10000 = 14 then [] else dgs (cnD ((c.natAbs : Int) / 10000)) ((c.natAbs : Int) % 10000)) ++ (123 :: R)))) := by
  unfold cnT
  rw [if_neg h]
  simp only [List.append_assoc, List.cons_append, List.nil_append]
theorem Ps.br {n k : Nat} {f : Nat → Int} {r q : List Int} {a : Cx} (hn : n ≤ 10) (hc : vC n (f 1)) (h0 : f 1 ≠ 0) (h2 : vS (f 2)) (h3 : f 3 = -1 ∨ vS (f 3)) (hr : r.headD 0 ≠ 123) (h : Ps (k + (cBr k f).length) r a q) : Ps k (cnT (f 1) ++ (stT (f 2) ++ (125 :: (elT f ++ r)))) (cBr k f ++ a) q := by
  intro u hu
  rw [cnT_c h0] at hu ⊢
  obtain ⟨u', rfl⟩ : ∃ u', u = u' + 1 := ⟨u - 1, by omega⟩
  have hlen : (stT (f 2) ++ (125 :: (elT f ++ r))).length + 2 < u' ∧ (elT f).length + r.length + 2 < u' := by
    simp only [List.length_cons, List.length_append] at hu ⊢
    omega
  have hbr : brS u' k ((if f 1 < 0 then [33] else []) ++ (whC (((f 1).natAbs : Int) / 10000) :: ((if ((f 1).natAbs : Int) / 10000 = 14 then [] else dgs (cnD (((f 1).natAbs : Int) / 10000)) (((f 1).natAbs : Int) % 10000)) ++ (123 :: (stT (f 2) ++ (125 :: (elT f ++ r))))))) = .inr (cBr k f, r) := by
    unfold brS
    have hs2 : Ps (k + (cAtm (f 1)).length + 1) (stT (f 2) ++ (125 :: (elT f ++ r))) (cStp (f 2) ++ []) (125 :: (elT f ++ r)) := Ps.step h2 (fun _ => Or.inr ⟨125, _, rfl, by decide⟩) Ps.stop
    rw [List.append_nil] at hs2
    rw [pB_inr (p_atm hn hc (by omega)), pB_inr p_chr, pB_inr (hs2 u' (by omega)), pB_inr p_chr]
    unfold elT cBr
    by_cases c3 : f 3 < 0
    · rw [if_pos (Or.inr c3), if_pos c3, List.nil_append]
      cases r with
      | nil => rfl
      | cons o t =>
        have ho : ¬ o = 123 := hr
        simp only [if_neg ho]
    · have hv3 : vS (f 3) := h3.resolve_left (by omega)
      have hs3 : Ps (k + (cAtm (f 1)).length + 1 + (cStp (f 2)).length + 1) (stT (f 3) ++ (125 :: r)) (cStp (f 3) ++ []) (125 :: r) := Ps.step hv3 (fun _ => Or.inr ⟨125, _, rfl, by decide⟩) Ps.stop
      rw [List.append_nil] at hs3
      have he : elT f = [123] ++ stT (f 3) ++ [125] := if_neg (fun z => z.elim h0 c3)
      have e9 : (if f 1 = 0 ∨ f 3 < 0 then [] else [123] ++ stT (f 3) ++ [125]) ++ r = 123 :: (stT (f 3) ++ (125 :: r)) := by
        rw [if_neg (fun z => z.elim h0 c3)]
        simp only [List.append_assoc, List.cons_append, List.nil_append]
      rw [e9, if_neg c3]
      have hl3 : (stT (f 3) ++ (125 :: r)).length < u' := by
        have := hlen.2
        rw [he] at this
        simp only [List.length_cons, List.length_append, List.length_nil] at this ⊢
        omega
      simp only [if_true]
      rw [pB_inr (hs3 u' hl3), pB_inr p_chr]
  rw [pStp_cons, if_neg (by decide), if_pos rfl, pB_inr hbr, pB_inr (h u' (by omega))]
/-- which rules the law writes: no two steps of days follow one another -/
def okM (f : Nat → Int) : Prop := f 5 / 1000 ≠ 1 ∧ (f 1 = 0 → f 4 / 1000 ≠ 1)
theorem rl_parse {n : Nat} {f : Nat → Int} (hn : n ≤ 10) (hv : vR n f) (hm : okM f) (hl : (rlT f).length ≤ 40) : pRule (rlT f) = .inr (lC f) := by
  obtain ⟨v0, v1, v2, v3, v4, v5⟩ := hv
  have ep : rlT f = [stC0 (f 0 / 10000)] ++ dgs (kd0 (f 0 / 10000)) (f 0 % 10000) ++ (cnT (f 1) ++ (stT (f 2) ++ ((if f 1 = 0 then [] else [125]) ++ (elT f ++ (stT (f 4) ++ (stT (f 5) ++ [])))))) := by
    unfold rlT
    simp only [List.append_assoc, List.append_nil]
  have hl2 : (cnT (f 1) ++ (stT (f 2) ++ ((if f 1 = 0 then [] else [125]) ++ (elT f ++ (stT (f 4) ++ (stT (f 5) ++ [])))))).length < 41 := by
    rw [ep, List.length_append] at hl
    omega
  have h5 : ∀ k, Ps k (stT (f 5) ++ []) (cStp (f 5) ++ []) [] := fun k => Ps.step v5 (fun e => absurd e hm.1) Ps.nil
  have n5 : nxt (stT (f 5) ++ []) := nxt_st v5 hm.1 (Or.inl rfl)
  have h4 : ∀ k, Ps k (stT (f 4) ++ (stT (f 5) ++ [])) (cStp (f 4) ++ (cStp (f 5) ++ [])) [] := fun k => Ps.step v4 (fun _ => n5) (h5 _)
  have hP : Ps 1 (cnT (f 1) ++ (stT (f 2) ++ ((if f 1 = 0 then [] else [125]) ++ (elT f ++ (stT (f 4) ++ (stT (f 5) ++ [])))))) ((if f 1 = 0 then cStp (f 2) else cBr 1 f) ++ (cStp (f 4) ++ (cStp (f 5) ++ []))) [] := by
    by_cases c : f 1 = 0
    · have e1 : cnT (f 1) = [] := if_pos c
      have e2 : elT f = [] := if_pos (Or.inl c)
      rw [if_pos c, if_pos c, e1, e2, List.nil_append, List.nil_append, List.nil_append]
      exact Ps.step v2 (fun _ => nxt_st v4 (hm.2 c) n5) (h4 _)
    · rw [if_neg c, if_neg c]
      exact Ps.br hn (v1.resolve_left c) c v2 v3 (hd_st v4 (hd_st v5 (by decide))) (h4 _)
  have hS := p_sta (r := cnT (f 1) ++ (stT (f 2) ++ ((if f 1 = 0 then [] else [125]) ++ (elT f ++ (stT (f 4) ++ (stT (f 5) ++ [])))))) v0 hn
  rw [← ep] at hS
  unfold pRule
  have e9 : pStp 41 ([(f 0 / 10000, f 0 % 10000)] : Cx).length (cnT (f 1) ++ (stT (f 2) ++ ((if f 1 = 0 then [] else [125]) ++ (elT f ++ (stT (f 4) ++ (stT (f 5) ++ [])))))) = .inr ((if f 1 = 0 then cStp (f 2) else cBr 1 f) ++ (cStp (f 4) ++ (cStp (f 5) ++ [])), []) := hP 41 hl2
  rw [pB_inr hS, pB_inr e9, List.append_nil]
  rfl
/-! what a question is read as -/
def qV (g : Nat → Int) : Int := if g 1 = 1 then 0 else if g 1 = 2 then 10000 * g 2 + g 3 else if g 1 = 3 then 10 * g 2 + g 3 else if g 1 = 4 then g 2 else 100 * g 2 + g 3
def qA (g : Nat → Int) : Cx := [(20 + g 1, qV g)] ++ (if g 0 = 1 then [(17, 0)] else [])
def lQ (q0 : Int) (g h : Nat → Int) : Cx := if q0 = 0 then qA g else qA g ++ [(if q0 = 1 then 19 else 20, (((qA g).length + 1 + (qA h).length : Nat) : Int))] ++ qA h
def qTx (q0 : Int) (g h : Nat → Int) : List Int := if q0 = 0 then qT g else [40] ++ qT g ++ [if q0 = 1 then 38 else 124] ++ qT h ++ [41]
theorem f_D {x v : Int} {r : List Int} (hx : 0 ≤ x ∧ x ≤ 19) (h : vDt v) : pFlds [102, 109, 100] 0 0 (dgs 2 x ++ (dgs 4 v ++ r)) = .inr (10000 * x + v, r) := by
  obtain ⟨h1, h2, h3, h4⟩ := h.bz
  rw [dgs_2 ⟨by omega, by omega⟩, dgs_4 h4, pFlds_cons ⟨by decide, by decide⟩, pB_inr (p_fe hx), pFlds_cons ⟨by decide, by decide⟩, pB_inr (p_mo h1), pFlds_cons ⟨by decide, by decide⟩, pB_inr (p_da h1 ⟨h2, h3⟩), f_end, show 100 * (100 * (100 * 0 + x) + v / 100) + v % 100 = 10000 * x + v by omega]
theorem f_W {x v : Int} {r : List Int} (hx : 0 ≤ x ∧ x ≤ 19) (h : 0 ≤ v ∧ v ≤ 6) : pFlds [102, 119] 0 0 (dgs 2 x ++ (dgs 1 v ++ r)) = .inr (10 * x + v, r) := by
  rw [dgs_2 ⟨by omega, by omega⟩, pFlds_cons ⟨by decide, by decide⟩, pB_inr (p_fe hx), f_wd h, show 10 * (100 * 0 + x) + v = 10 * x + v by omega]
theorem f_B {x v : Int} {r : List Int} (hx : 0 ≤ x ∧ x ≤ 19) (h : 0 ≤ v ∧ v ≤ 19) : pFlds [102, 102] 0 0 (dgs 2 x ++ (dgs 2 v ++ r)) = .inr (100 * x + v, r) := by
  rw [dgs_2 ⟨by omega, by omega⟩, pFlds_cons ⟨by decide, by decide⟩, pB_inr (p_fe hx), f_fe h, show 100 * (100 * 0 + x) + v = 100 * x + v by omega]
theorem q_atom {n u k : Nat} {g : Nat → Int} {r : List Int} (hn : n ≤ 10) (hv : vQ n g) : pLog false (u + 1) k (qC (g 1) :: ((if g 1 ≤ 1 then [] else dgs 2 (g 2)) ++ ((if g 1 = 2 then dgs 4 (g 3) else if g 1 = 3 then dgs 1 (g 3) else if g 1 = 5 then dgs 2 (g 3) else []) ++ r))) = .inr ([(20 + g 1, qV g)], r) := by
  obtain ⟨v0, v1, v2, v3⟩ := hv
  have pl : ∀ (c : Int) (s : List Int), c ≠ 33 → c ≠ 40 → lgK false c ≠ 0 → pLog false (u + 1) k (c :: s) = pPart (lgK false c) (lgF false c) s := fun c s h1 h2 h3 => by
    show (if c = 33 then _ else if c = 40 then _ else if lgK false c = 0 then _ else _) = _
    rw [if_neg h1, if_neg h2, if_neg h3]
  unfold qV
  rcases (show g 1 = 1 ∨ g 1 = 2 ∨ g 1 = 3 ∨ g 1 = 4 ∨ g 1 = 5 by omega) with c | c | c | c | c
  · rw [c, if_pos (by decide), if_neg (by decide), if_neg (by decide), if_neg (by decide), if_pos rfl]
    exact (pl 67 _ (by decide) (by decide) (by decide)).trans (p_part f_end)
  · rw [c, if_neg (by decide), if_pos rfl, if_neg (by decide), if_pos rfl]
    exact (pl 68 _ (by decide) (by decide) (by decide)).trans (p_part (f_D ⟨by omega, by omega⟩ (by
      rcases v3 with h | h | h
      · exact h.2
      · omega
      · omega)))
  · rw [c, if_neg (by decide), if_neg (by decide), if_pos rfl, if_neg (by decide), if_neg (by decide), if_pos rfl]
    exact (pl 87 _ (by decide) (by decide) (by decide)).trans (p_part (f_W ⟨by omega, by omega⟩ ⟨by omega, by omega⟩))
  · rw [c, if_neg (by decide), if_neg (by decide), if_neg (by decide), if_neg (by decide), if_neg (by decide), if_neg (by decide), if_neg (by decide), if_pos rfl]
    refine (pl 78 _ (by decide) (by decide) (by decide)).trans ((p_part (f_fe ⟨by omega, by omega⟩)).trans ?_)
    rw [show 100 * 0 + g 2 = g 2 by omega]
    rfl
  · rw [c, if_neg (by decide), if_neg (by decide), if_neg (by decide), if_pos rfl, if_neg (by decide), if_neg (by decide), if_neg (by decide), if_neg (by decide)]
    exact (pl 66 _ (by decide) (by decide) (by decide)).trans (p_part (f_B ⟨by omega, by omega⟩ ⟨by omega, by omega⟩))
theorem q_part {n u k : Nat} {g : Nat → Int} {r : List Int} (hn : n ≤ 10) (hv : vQ n g) (hu : 2 ≤ u) : pLog false u k (qT g ++ r) = .inr (qA g, r) := by
  obtain ⟨u', rfl⟩ : ∃ u', u = u' + 2 := ⟨u - 2, by omega⟩
  unfold qT qA
  simp only [List.append_assoc]
  by_cases c : g 0 = 1
  · rw [if_pos c, if_pos c]
    show (if (33 : Int) = 33 then pB (pLog false (u' + 1) k _) fun a r1 => .inr (a ++ [(17, 0)], r1) else _) = _
    rw [if_pos rfl]
    exact pB_inr (q_atom hn hv)
  · rw [if_neg c, if_neg c]
    exact q_atom hn hv
theorem q_parse {n : Nat} {q0 : Int} {g h : Nat → Int} (hn : n ≤ 10) (hg : vQ n g) (hh : q0 ≠ 0 → vQ n h) (h0 : 0 ≤ q0 ∧ q0 ≤ 2) : pAsk (qTx q0 g h) = .inr (lQ q0 g h) := by
  unfold pAsk qTx lQ
  by_cases c : q0 = 0
  · have e := q_part (u := 41) (k := 0) (r := []) hn hg (by decide)
    rw [List.append_nil] at e
    rw [if_pos c, if_pos c, e]
  · rw [if_neg c, if_neg c]
    have e1 : pLog false 41 0 ([40] ++ qT g ++ [if q0 = 1 then 38 else 124] ++ qT h ++ [41]) = .inr (qA g ++ [(if q0 = 1 then 19 else 20, (((qA g).length + 1 + (qA h).length : Nat) : Int))] ++ qA h, []) := by
      have es : [40] ++ qT g ++ [if q0 = 1 then (38 : Int) else 124] ++ qT h ++ [41] = 40 :: (qT g ++ ((if q0 = 1 then (38 : Int) else 124) :: (qT h ++ [41]))) := by
        simp only [List.append_assoc, List.cons_append, List.nil_append]
      rw [es]
      show (if (40 : Int) = 33 then _ else if (40 : Int) = 40 then pB (pLog false 40 0 _) _ else _) = _
      rw [if_neg (by decide), if_pos rfl, pB_inr (q_part hn hg (by decide))]
      have ho : (if q0 = 1 then (38 : Int) else 124) = 38 ∨ (if q0 = 1 then (38 : Int) else 124) = 124 := by split <;> simp
      simp only [if_pos ho]
      rw [pB_inr (q_part hn (hh c) (by decide)), pB_inr p_chr]
      by_cases c1 : q0 = 1
      · rw [if_pos c1, if_pos c1, if_pos rfl, Nat.zero_add]
      · rw [if_neg c1, if_neg c1, if_neg (by decide), Nat.zero_add]
    rw [e1]
