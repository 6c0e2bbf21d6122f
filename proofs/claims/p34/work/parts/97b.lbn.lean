/-! THE LAW'S ALMANAC: bent days and costs -/
/-- what a step of the law's costs -/
def lPr (s : Int) : Int := if s / 1000 = 0 ∨ s = 1400 then 0 else sCost (wK s)
theorem lPr_bd {s : Int} : 0 ≤ lPr s ∧ lPr s ≤ 6 := by
  unfold lPr
  have := sCost_bd (wK s)
  split <;> omega
theorem law_price {s : Int} (hs : vS s) (m : Mm) : f_Law_price (i3 s) m = some (i3 (lPr s)) := by
  have hb := hs.bd
  unfold f_Law_price lPr
  have q1 : (i3 s : Int32) / 1000 = i3 (s / 1000) := by rw [show (1000 : Int32) = i3 1000 from rfl, i3_div ⟨by omega, by omega⟩ ⟨by decide, by decide⟩]
  rw [zLet_q, zLet_q, zLet_q, q1, show (0 : Int32) = i3 0 from rfl, it_eq ⟨by omega, by omega⟩ ⟨by decide, by decide⟩, show (1400 : Int32) = i3 1400 from rfl, it_eq ⟨by omega, by omega⟩ ⟨by decide, by decide⟩, show (1 : Int32) = i3 1 from rfl, it_eq ⟨by omega, by omega⟩ ⟨by decide, by decide⟩, show (8 : Int32) = i3 8 from rfl, it_eq ⟨by omega, by omega⟩ ⟨by decide, by decide⟩, show (6 : Int32) = i3 6 from rfl, it_le ⟨by decide, by decide⟩ ⟨by omega, by omega⟩]
  by_cases c0 : s / 1000 = 0
  · rw [if_pos c0, if_pos (Or.inl c0)]
  by_cases c1 : s = 1400
  · rw [if_neg c0, if_pos c1, if_pos (Or.inr c1)]
  have hR : (if s / 1000 = 0 ∨ s = 1400 then (0 : Int) else sCost (wK s)) = sCost (wK s) := if_neg (fun h => h.elim c0 c1)
  rw [hR, if_neg c0, if_neg c1]
  unfold vS at hs
  by_cases c2 : s / 1000 = 1
  · rw [if_pos c2, show wK s = 5 from if_pos c2]
    rfl
  · rw [if_neg c2, show wK s = s / 1000 + 4 from if_neg c2]
    rcases (show s / 1000 = 2 ∨ s / 1000 = 3 ∨ s / 1000 = 4 ∨ s / 1000 = 5 ∨ s / 1000 = 6 ∨ s / 1000 = 7 ∨ s / 1000 = 8 by omega) with c | c | c | c | c | c | c <;> rw [c] <;> rfl
/-- a start that may stand with n feasts; the day that it tells -/
def vG (n : Nat) (s : Int) : Prop := (s / 10000 = 1 ∧ vDt (s % 10000)) ∨ (s / 10000 = 2 ∧ (1 ≤ s % 10000 / 1000 ∧ s % 10000 / 1000 ≤ 5) ∧ s % 10000 / 100 % 10 ≤ 6 ∧ vMo (s % 10000 % 100)) ∨ (s / 10000 = 3 ∧ (0 ≤ s % 10000 / 100 ∧ s % 10000 / 100 ≤ 6) ∧ vMo (s % 10000 % 100)) ∨ (s / 10000 = 4 ∧ s % 10000 < n)
def lSt (y : Nat) (B : Nat → Int) (s : Int) : Int := if s / 10000 = 4 then B (s % 10000).toNat else sStart y (s / 10000) (s % 10000)
theorem vG.bd {n : Nat} {s : Int} (h : vG n s) : 10000 ≤ s ∧ s < 50000 := by
  unfold vG at h
  omega
theorem sMl_B {y : Nat} {k : Nat} : sMl (sLeap y) k = (sMs (sLeap y) (k + 1) : Int) - sMs (sLeap y) k := rfl
theorem sMs_n : ∀ b : Bool, ∀ k, k < 13 → 1 ≤ k → sMs b k + 28 ≤ sMs b (k + 1) ∧ sMs b (k + 1) ≤ sMs b k + 31 ∧ sMs b (k + 1) ≤ sLenB b ∧ sMs b (k + 1) - sMs b k ≤ sMs true (k + 1) - sMs true k := by decide +kernel
theorem sStart_1 {y v : Nat} (h1 : 1 ≤ v / 100 ∧ v / 100 ≤ 12) (h2 : 1 ≤ v % 100) : sStart y 1 v = sDate y v := by
  unfold sStart
  rw [if_pos rfl, sDate_B]
  have hb := sDyB_bd (sLeap y) v (by omega) h1 h2
  exact sTo_in ⟨hb.1, by unfold sLen; omega⟩
/-- the k-th day of month mo in year y -/
theorem law_dayk {y mo k : Nat} (hy : y < 400) (hm : 1 ≤ mo ∧ mo ≤ 12) (hk : 1 ≤ k) (hk2 : (k : Int) ≤ sMl (sLeap y) mo) (m : Mm) : f_Law_day (i3 y) (i3 ((mo : Int) * 100 + k)) m = some (i3 ((sMs (sLeap y) mo : Int) + k - 1)) := by
  have hn := sMs_n (sLeap y) mo (by omega) hm.1
  unfold sMl at hk2
  have e : ((mo : Int) * 100 + k) = ((100 * mo + k : Nat) : Int) := by omega
  have d1 : (100 * mo + k) / 100 = mo := by omega
  have d2 : (100 * mo + k) % 100 = k := by omega
  rw [e, law_day hy (by rw [d1]; exact hm) (by rw [d1, d2]; omega), sDate_B]
  unfold sDyB
  have d3 : ((100 * mo + k : Nat) : Int) % 100 = k := by omega
  rw [d1, d3, if_pos (by omega)]
theorem wd_iff {y : Nat} {d w : Int} (hw : 0 ≤ w ∧ w ≤ 6) : ((sFirst y : Int) + d + 6) % 7 = w ↔ (w - sWd y d) % 7 = 0 := by
  unfold sWd
  omega
/-- what was found after c weekdays -/
def bgF (kd M f0 q c : Int) : Int := if kd = 3 then (if c = 0 then -1 else M + f0 + 7 * (c - 1)) else if q ≤ c then M + f0 + 7 * (q - 1) else -1
theorem bg_end {kd M f0 q : Int} {S : Int} (hkd : kd = 2 ∨ kd = 3) (hf0 : 0 ≤ f0 ∧ f0 < 7) (hS : 28 ≤ S ∧ S ≤ 31) : (kd = 3 → bgF kd M f0 q ((S - f0 + 6) / 7) = M + f0 + 7 * ((S - 1 - f0) / 7)) ∧ (kd = 2 → bgF kd M f0 q ((S - f0 + 6) / 7) = if M + f0 + 7 * (q - 1) < M + S then M + f0 + 7 * (q - 1) else -1) := by
  unfold bgF
  refine ⟨fun h => ?_, fun h => ?_⟩
  · rw [if_pos h, if_neg (by omega)]
    omega
  · rw [if_neg (by omega)]
    by_cases c : q ≤ (S - f0 + 6) / 7
    · rw [if_pos c, if_pos (by omega)]
    · rw [if_neg c, if_neg (by omega)]
theorem bg_c1 {f0 c : Int} {k : Nat} (hc : c = (k - 1 - f0 + 6) / 7) (hf0 : 0 ≤ f0 ∧ f0 < 7) (hk : 1 ≤ k) : (((k : Int) - 1 - f0) % 7 = 0 → (((k + 1 : Nat) : Int) - 1 - f0 + 6) / 7 = c + 1 ∧ (k : Int) - 1 = f0 + 7 * c) ∧ (¬ ((k : Int) - 1 - f0) % 7 = 0 → (((k + 1 : Nat) : Int) - 1 - f0 + 6) / 7 = c) ∧ 0 ≤ c ∧ c ≤ k := by
  refine ⟨fun h => ⟨by omega, by omega⟩, fun h => by omega, by omega, by omega⟩
theorem bg_loop {y mo : Nat} (hy : y < 400) (hmo : 1 ≤ mo ∧ mo ≤ 12) {a kd w q M f0 S : Int} (hS : sMl (sLeap y) mo = S) (hS2 : 28 ≤ S ∧ S ≤ 31) (hM : (sMs (sLeap y) mo : Int) = M) (hMb : 0 ≤ M ∧ M ≤ 400) (hf0 : 0 ≤ f0 ∧ f0 < 7) (hw : 0 ≤ w ∧ w ≤ 6) (hq : 0 ≤ q ∧ q ≤ 9) (hq2 : kd = 2 → 1 ≤ q) (hkd : kd = 2 ∨ kd = 3) (q5 : (i3 a : Int32) % 100 = i3 mo) (q6 : (i3 a : Int32) / 100 % 10 = i3 w) (q7 : (i3 a : Int32) / 1000 = i3 q)
    (hhit : ∀ k : Nat, 1 ≤ k → (((sFirst y : Int) + (M + k - 1) + 6) % 7 = w ↔ ((k : Int) - 1 - f0) % 7 = 0)) (m : Mm) :
    zLq3 (l_Law_begin_0 (i3 y) (i3 a) m (i3 kd)) zFu 0 (-1) 1 = some (i3 (bgF kd M f0 q ((S - f0 + 6) / 7))) := by
  have hF := sFirst_bd hy
  refine run_zLq3 (fun j x5 x6 x7 => ∃ (k : Nat) (c : Int), 1 ≤ k ∧ (k : Int) ≤ S + 1 ∧ j = 40 - k ∧ x7 = i3 k ∧ c = (k - 1 - f0 + 6) / 7 ∧ x5 = i3 c ∧ x6 = i3 (bgF kd M f0 q c)) ?_ zFu 39 _ _ _ ⟨1, 0, by omega, by omega, rfl, rfl, by omega, rfl, by
    unfold bgF
    rcases hkd with h | h
    · have := hq2 h
      rw [if_neg (by omega), if_neg (by omega)]; rfl
    · rw [if_pos h, if_pos rfl]; rfl⟩ (by unfold zFu; omega)
  rintro r j _ _ _ ⟨k, c, hk1, hk2, rfl, rfl, hc, rfl, rfl⟩
  obtain ⟨g1, g2, g3⟩ := bg_c1 hc hf0 hk1
  unfold l_Law_begin_0
  rw [q5, law_month hy hmo.1 (by omega), zBP_some, hS, it_lt ⟨by omega, by omega⟩ ⟨by omega, by omega⟩]
  by_cases ce : S < k
  · left
    rw [if_pos ce, hc, show (k : Int) - 1 = S by omega]
  · right
    have ek : (i3 (mo : Int) * 100 + i3 (k : Int)) = i3 ((mo : Int) * 100 + k) := by rw [show (100 : Int32) = i3 100 from rfl, i3_mul, i3_add]
    rw [if_neg ce, ek, law_dayk hy hmo hk1 (by rw [hS]; omega), zBP_some, law_great (by omega), zBP_some, hM, q6, q7, i3_add, show (6 : Int32) = i3 6 from rfl, i3_add, show (7 : Int32) = i3 7 from rfl, i3_mod ⟨by omega, by omega⟩ ⟨by decide, by decide⟩]
    simp only [zLet_q, i3_add1]
    rw [it_eq ⟨by omega, by omega⟩ ⟨by omega, by omega⟩]
    have hh := hhit k hk1
    by_cases ch : ((sFirst y : Int) + (M + k - 1) + 6) % 7 = w
    · obtain ⟨e1, e2⟩ := g1 (hh.mp ch)
      rw [if_pos ch, show (3 : Int32) = i3 3 from rfl, it_eq ⟨by omega, by omega⟩ ⟨by decide, by decide⟩, it_eq ⟨by omega, by omega⟩ ⟨by omega, by omega⟩]
      refine ⟨_, i3 (bgF kd M f0 q (c + 1)), i3 ((k + 1 : Nat) : Int), 40 - (k + 1), by omega, ⟨k + 1, c + 1, by omega, by omega, rfl, rfl, e1.symm, rfl, rfl⟩, ?_⟩
      have hMk : M + k - 1 = M + f0 + 7 * c := by omega
      unfold bgF
      by_cases h3 : kd = 3
      · rw [if_pos h3, if_pos h3, if_neg (by omega), hMk, show c + 1 - 1 = c by omega]
        rfl
      · rw [if_neg h3, if_neg h3, if_neg h3]
        by_cases c6 : c + 1 = q
        · rw [if_pos c6, if_pos (by omega), hMk, show q - 1 = c by omega]
          rfl
        · rw [if_neg c6]
          by_cases c7 : q ≤ c
          · rw [if_pos c7, if_pos (by omega)]
            rfl
          · rw [if_neg c7, if_neg (by omega)]
            rfl
    · have e1 := g2 (fun h => ch (hh.mpr h))
      rw [if_neg ch]
      exact ⟨_, _, i3 ((k + 1 : Nat) : Int), 40 - (k + 1), by omega, ⟨k + 1, c, by omega, by omega, rfl, rfl, e1.symm, rfl, rfl⟩, rfl⟩
theorem law_begin1 {y n : Nat} (hy : y < 400) {B : Nat → Int} {s : Int} (hv : vG n s) (hn : n ≤ 10) {t3 : Nat} {m : Mm} (hB : ∀ j, j < n → zI m (207 + t3) j = i3 (B j)) : f_Law_begin (i3 y) (i3 s) t3 m = some (i3 (lSt y B s)) := by
  have hb := hv.bd
  have hF := sFirst_bd hy
  rw [e_Law_begin]
  have q1 : (i3 s : Int32) / 10000 = i3 (s / 10000) := by rw [show (10000 : Int32) = i3 10000 from rfl, i3_div ⟨by omega, by omega⟩ ⟨by decide, by decide⟩]
  have q2 : (i3 s : Int32) % 10000 = i3 (s % 10000) := by rw [show (10000 : Int32) = i3 10000 from rfl, i3_mod ⟨by omega, by omega⟩ ⟨by decide, by decide⟩]
  rw [zLet_q, zLet_q, q1, q2, show (1 : Int32) = i3 1 from rfl, it_eq ⟨by omega, by omega⟩ ⟨by decide, by decide⟩, show (4 : Int32) = i3 4 from rfl, it_eq ⟨by omega, by omega⟩ ⟨by decide, by decide⟩]
  generalize ha : s % 10000 = a at hv ⊢
  have ha2 : 0 ≤ a ∧ a < 10000 := by omega
  unfold lSt
  rw [ha]
  unfold vG at hv
  rw [ha] at hv
  by_cases c1 : s / 10000 = 1
  · have hd : vDt a := by
      rcases hv with h | h | h | h
      · exact h.2
      all_goals (exfalso; omega)
    obtain ⟨⟨d1, d2⟩, d3, d4⟩ := hd
    obtain ⟨v, rfl⟩ : ∃ v : Nat, a = v := ⟨a.toNat, by omega⟩
    have e1 : ((v : Int) / 100).toNat = v / 100 := by omega
    rw [e1] at d4
    have hm := sMs_n true (v / 100) (by omega) (by omega)
    rw [if_pos c1, if_neg (by omega), c1, law_day hy ⟨by omega, by omega⟩ ⟨by omega, by omega⟩, zBP_some, sStart_1 ⟨by omega, by omega⟩ (by omega)]
  rw [if_neg c1]
  by_cases c4 : s / 10000 = 4
  · have hj : a < n := by
      rcases hv with h | h | h | h
      · exact absurd h.1 c1
      · exfalso; omega
      · exfalso; omega
      · exact h.2
    rw [if_pos c4, if_pos c4, if_pos ((i3_in ⟨by omega, by omega⟩).mpr ⟨by omega, by omega⟩), i3_ix ⟨by omega, by omega⟩, hB _ (by omega)]
  rw [if_neg c4, if_neg c4]
  have q5 : (i3 a : Int32) % 100 = i3 (a % 100) := by rw [show (100 : Int32) = i3 100 from rfl, i3_mod ⟨by omega, by omega⟩ ⟨by decide, by decide⟩]
  have q6 : (i3 a : Int32) / 100 % 10 = i3 (a / 100 % 10) := by rw [show (100 : Int32) = i3 100 from rfl, i3_div ⟨by omega, by omega⟩ ⟨by decide, by decide⟩, show (10 : Int32) = i3 10 from rfl, i3_mod ⟨by omega, by omega⟩ ⟨by decide, by decide⟩]
  have q7 : (i3 a : Int32) / 1000 = i3 (a / 1000) := by rw [show (1000 : Int32) = i3 1000 from rfl, i3_div ⟨by omega, by omega⟩ ⟨by decide, by decide⟩]
  have hmo : 1 ≤ a % 100 ∧ a % 100 ≤ 12 := by
    rcases hv with h | h | h | h
    · exact absurd h.1 c1
    · exact h.2.2.2
    · exact h.2.2
    · exact absurd h.1 c4
  obtain ⟨mo, emo⟩ : ∃ mo : Nat, a % 100 = mo := ⟨(a % 100).toNat, by omega⟩
  have hL := sMs_n (sLeap y) mo (by omega) (by omega)
  have hL2 := sLen_bd y
  have hLb : sLen y = sLenB (sLeap y) := rfl
  generalize hw : a / 100 % 10 = w
  have hwb : 0 ≤ w ∧ w ≤ 6 := by
    rcases hv with h | h | h | h
    · exact absurd h.1 c1
    · omega
    · omega
    · exact absurd h.1 c4
  generalize hM : (sMs (sLeap y) mo : Int) = M at hL
  have hMl : sMl (sLeap y) mo = (sMs (sLeap y) (mo + 1) : Int) - M := by rw [← hM]; rfl
  -- the weekdays of the month that were met: the r-th one is at first + 7 r
  have h0 := sWd_bd y M
  have hsd : ∀ x : Int, sWd y x = ((sFirst y : Int) + 6 + x) % 7 := fun x => rfl
  generalize hf : (w - sWd y M) % 7 = f0
  have hf0 : 0 ≤ f0 ∧ f0 < 7 := by clear hv hL hB; omega
  have hhit : ∀ k : Nat, 1 ≤ k → (((sFirst y : Int) + (M + k - 1) + 6) % 7 = w ↔ ((k : Int) - 1 - f0) % 7 = 0) := fun k _ => by
    rw [hsd] at hf
    clear hv hL hB hMl hL2 hLb
    omega
  have hSb : 28 ≤ sMl (sLeap y) mo ∧ sMl (sLeap y) mo ≤ 31 := by rw [hMl]; clear hv; omega
  have hMb : 0 ≤ M ∧ M ≤ 400 := by rw [← hM]; clear hv; omega
  have hmo2 : 1 ≤ mo ∧ mo ≤ 12 := by clear hv; omega
  rw [emo] at q5
  rw [hw] at q6
  have key : ∀ kd : Int, (kd = 2 ∨ kd = 3) → s / 10000 = kd → (kd = 2 → 1 ≤ a / 1000) → zLq3 (l_Law_begin_0 (i3 y) (i3 a) m (i3 (s / 10000))) zFu 0 (-1) 1 = some (i3 (bgF kd M f0 (a / 1000) ((sMl (sLeap y) mo - f0 + 6) / 7))) := fun kd hkd he h2 => by
    rw [he]
    exact bg_loop hy hmo2 rfl hSb hM hMb hf0 hwb ⟨by clear hv; omega, by clear hv; omega⟩ h2 hkd q5 q6 q7 hhit m
  rcases hv with h | h | h | h
  · exact absurd h.1 c1
  · refine (key 2 (Or.inl rfl) h.1 (fun _ => h.2.1.1)).trans ?_
    rw [(bg_end (q := a / 1000) (M := M) (Or.inl rfl) hf0 hSb).2 rfl, h.1]
    congr 2
    have e3 : sStart y 2 a = sTo y (sNth y (a / 1000) (a / 100 % 10) (a % 100)) := by
      unfold sStart
      rw [if_neg (by decide), if_pos rfl]
    have e4 : sNth y (a / 1000) w (mo : Int) = if (sMs (sLeap y) mo : Int) + (w - sWd y (sMs (sLeap y) mo)) % 7 + 7 * (a / 1000 - 1) < (sMs (sLeap y) (mo + 1) : Int) then (sMs (sLeap y) mo : Int) + (w - sWd y (sMs (sLeap y) mo)) % 7 + 7 * (a / 1000 - 1) else -1 := by
      unfold sNth
      rw [Int.toNat_natCast]
    rw [e3, hw, emo, e4, hM, hf, hMl]
    have e9 : M + ((sMs (sLeap y) (mo + 1) : Int) - M) = sMs (sLeap y) (mo + 1) := by omega
    rw [e9]
    have h15 := h.2.1
    have hlt : (sMs (sLeap y) (mo + 1) : Int) ≤ sLen y := by have := hL.2.2.1; omega
    by_cases c8 : M + f0 + 7 * (a / 1000 - 1) < (sMs (sLeap y) (mo + 1) : Int)
    · rw [if_pos c8]
      exact (sTo_in ⟨by omega, by omega⟩).symm
    · rw [if_neg c8]
      exact (sTo_in ⟨by omega, by omega⟩).symm
  · refine (key 3 (Or.inr rfl) h.1 (fun h => absurd h (by decide))).trans ?_
    rw [(bg_end (q := a / 1000) (M := M) (Or.inr rfl) hf0 hSb).1 rfl, h.1]
    congr 2
    unfold sStart sLst
    have hw2 : a / 100 = w := by
      have := h.2.1
      clear h
      omega
    rw [if_neg (by decide), if_neg (by decide), hw2, emo, Int.toNat_natCast, hMl]
    have hlt : (sMs (sLeap y) (mo + 1) : Int) ≤ sLen y := by have := hL.2.2.1; omega
    have hSb' := hSb
    rw [hMl] at hSb'
    rw [hsd] at hf
    simp only [hsd]
    clear key hhit h h0 hL
    rw [sTo_in ⟨by omega, by omega⟩]
    omega
  · exact absurd h.1 c4
