/-! STEPS: what a step does, on both sides -/
def sStart (y : Nat) (kd v : Int) : Int := if kd = 1 then sTo y (sDate y v) else if kd = 2 then sTo y (sNth y (v / 1000) (v / 100 % 10) (v % 100)) else sTo y (sLst y (v / 100) (v % 100))
def sCond (y : Nat) (B : Nat → Int) (kd v d : Int) : Bool :=
  if kd = 13 then decide (d ≠ -1 ∧ (v - sWd y d) % 7 = 0)
  else if kd = 14 then sLeap y
  else if kd = 15 then decide (d ≠ -1 ∧ d = B v.toNat)
  else decide (d ≠ -1 ∧ d < (sMs (sLeap y) (v / 100).toNat : Int) + v % 100 - 1)
def sCost (kd : Int) : Int := if kd = 2 ∨ kd = 3 then 3 else if kd = 10 ∨ kd = 11 then 6 else if kd = 4 ∨ (6 ≤ kd ∧ kd ≤ 9) ∨ kd = 15 then 2 else 1
/-- a step that may stand at place i of n -/
def vStep (n i : Nat) (kd v : Int) : Prop :=
  (kd = 1 ∧ vDt v) ∨ (kd = 2 ∧ (1 ≤ v / 1000 ∧ v / 1000 ≤ 5) ∧ v / 100 % 10 ≤ 6 ∧ vMo (v % 100)) ∨ (kd = 3 ∧ (0 ≤ v / 100 ∧ v / 100 ≤ 6) ∧ vMo (v % 100)) ∨ (kd = 4 ∧ 0 ≤ v ∧ v ≤ 19) ∨ (kd = 5 ∧ -10000 ≤ v ∧ v ≤ 20000) ∨ ((6 ≤ kd ∧ kd ≤ 9) ∧ 0 ≤ v ∧ v ≤ 6) ∨ ((10 ≤ kd ∧ kd ≤ 12) ∧ v = 0) ∨ (kd = 13 ∧ 0 ≤ v ∧ v ≤ 6) ∨ (kd = 14 ∧ v = 0) ∨ (kd = 15 ∧ 0 ≤ v ∧ v ≤ 19) ∨ (kd = 16 ∧ vDt v) ∨ (kd = 17 ∧ v = 0) ∨ ((18 ≤ kd ∧ kd ≤ 20) ∧ (i : Int) < v ∧ v ≤ n)
theorem vDt.bd {v : Int} (h : vDt v) : 101 ≤ v ∧ v ≤ 1299 := by
  obtain ⟨⟨a, b⟩, c, -⟩ := h
  omega
theorem vStep.bd {n i : Nat} {kd v : Int} (h : vStep n i kd v) (hn : n ≤ 40) : (1 ≤ kd ∧ kd ≤ 20) ∧ -10000 ≤ v ∧ v ≤ 100000 := by
  rcases h with ⟨h, k⟩ | ⟨h, k, k2, k3, k4⟩ | ⟨h, k, k2, k3⟩ | h | h | h | h | h | h | h | ⟨h, k⟩ | h | h
  · have := k.bd; omega
  · omega
  · omega
  · omega
  · omega
  · omega
  · omega
  · omega
  · omega
  · omega
  · have := k.bd; omega
  · omega
  · omega
/-! the reference -/
theorem mod_isIn {a b c : Int} (ha : -2147483648 ≤ a ∧ a < 2147483648) (hb : -2147483648 ≤ b ∧ b < 2147483648) (hc : -2147483648 ≤ c ∧ c < 2147483648) (m : Mm) : f_Mod_isIn (i3 a) (i3 b) (i3 c) m = some (b3 (decide (b ≤ a ∧ a ≤ c))) := by
  unfold f_Mod_isIn
  simp only [zLet]
  rw [it_lt ha hb, it_lt hc ha]
  by_cases h1 : a < b
  · rw [if_pos h1, decide_eq_false (by omega)]; rfl
  · by_cases h2 : c < a
    · rw [if_neg h1, if_pos h2, decide_eq_false (by omega)]; rfl
    · rw [if_neg h1, if_neg h2, decide_eq_true (by omega)]; rfl
theorem mod_within {y : Nat} (hy : y < 400) {d : Int} (hd : -5000000 ≤ d ∧ d ≤ 5000000) (m : Mm) : f_Mod_within (i3 y) (i3 d) m = some (i3 (sTo y d)) := by
  have hL := sLen_bd y
  unfold f_Mod_within
  simp only [zBP, mod_len hy, ob_s, i3_lit, i3_sub, i3_neg]
  rw [mod_isIn ⟨by omega, by omega⟩ ⟨by decide, by decide⟩ ⟨by omega, by omega⟩]
  simp only [ob_s, b3_i0]
  unfold sTo
  by_cases h : 0 ≤ d ∧ d < sLen y
  · rw [if_pos h, decide_eq_true (by omega), if_neg (by decide)]
  · rw [if_neg h, decide_eq_false (by omega), if_pos rfl]
theorem sMs_nx {b : Bool} {k : Int} (h : vMo k) : (sMs b (k.toNat + 1) : Int) ≤ sLenB b ∧ (sMs b k.toNat : Int) + 28 ≤ sMs b (k.toNat + 1) ∧ (sMs b (k.toNat + 1) : Int) ≤ sMs b k.toNat + 31 := by
  obtain ⟨h1, h2⟩ := h
  have a1 := sMs_step b k.toNat (by omega) (by omega)
  have a2 := sMs_mono b (k.toNat + 1) (by omega) 13 (by omega) (by omega) (by omega)
  rw [sMs_13] at a2
  omega
theorem sTo_in {y : Nat} {d : Int} (h : -1 ≤ d ∧ d < sLen y) : sTo y d = d := by
  unfold sTo
  split <;> omega
theorem mod_mlen' {b : Bool} {k : Int} (h : vMo k) (m : Mm) : f_Mod_lengthOfMonth (i3 k) (b3 b) m = some (i3 ((sMs b (k.toNat + 1) : Int) - sMs b k.toNat)) := by
  have hx := sMs_nx (b := b) h
  obtain ⟨h1, h2⟩ := h
  have e : k = ((k.toNat : Nat) : Int) := by omega
  have := mod_mlen b (k := k.toNat) (by omega) (by omega) m
  rw [← e] at this
  rw [this]
  congr 2
  omega
theorem mod_ms' {y : Nat} (hy : y < 400) {k : Int} (h : vMo k) (m : Mm) : f_Mod_beginOfMonth (i3 y) (i3 k) m = some (i3 (sMs (sLeap y) k.toNat)) := by
  obtain ⟨h1, h2⟩ := h
  have e : k = ((k.toNat : Nat) : Int) := by omega
  have := mod_ms hy (k := k.toNat) (by omega) (by omega) m
  rw [← e] at this
  exact this
theorem mod_wd {y : Nat} (hy : y < 400) {d : Int} (hd : -1 ≤ d ∧ d < 500) (m : Mm) : f_Mod_weekday (i3 ((sFirst y : Int) + d)) m = some (i3 (sWd y d)) := by
  have hF := sFirst_bd hy
  unfold f_Mod_weekday sWd
  simp (disch := omega) only [i3_lit, i3_add, i3_mod]
  congr 3
  omega
theorem mod_start1 {y : Nat} (hy : y < 400) {v : Int} (hd : vDt v) (m : Mm) : f_Mod_starts (i3 1) (i3 v) (i3 y) m = some (i3 (sStart y 1 v)) := by
  have hF := sFirst_bd hy
  have hL : ((sLenB (sLeap y) : Nat) : Int) = sLen y := rfl
  unfold f_Mod_starts sStart
  obtain ⟨hm, h3, h4⟩ := hd
  have hx := sMs_nx (b := sLeap y) hm
  have hx2 := sMs_nx (b := true) hm
  have hb := sMs_bd' (b := sLeap y) (k := v / 100) (by have := hm.2; omega)
  have hm' := hm
  obtain ⟨v1, v2⟩ := hm'
  simp (disch := omega) only [zLet, zBP, i3_lit, i3_neg, i3_div, i3_mod, if_true, mod_ms' hy hm, mod_leap hy, mod_mlen' hm, ob_s, i3_lt, i3_add, i3_sub]
  have e : (sMs (sLeap y) ((v / 100).toNat + 1) : Int) - sMs (sLeap y) (v / 100).toNat < v % 100 ↔ ¬ ((sMs (sLeap y) (v / 100).toNat : Int) + v % 100 - 1 < sMs (sLeap y) ((v / 100).toNat + 1)) := by omega
  unfold sDate
  by_cases q : (sMs (sLeap y) (v / 100).toNat : Int) + v % 100 - 1 < sMs (sLeap y) ((v / 100).toNat + 1)
  · rw [if_neg (fun z => e.mp z q)]
    simp only [if_pos q]
    rw [sTo_in (by omega)]
  · rw [if_pos (e.mpr q)]
    simp only [if_neg q]
    rw [sTo_in (by omega)]
theorem mod_start2 {y : Nat} (hy : y < 400) {v : Int} (hn : 1 ≤ v / 1000 ∧ v / 1000 ≤ 5) (hw : v / 100 % 10 ≤ 6) (hm : vMo (v % 100)) (m : Mm) : f_Mod_starts (i3 2) (i3 v) (i3 y) m = some (i3 (sStart y 2 v)) := by
  have hF := sFirst_bd hy
  have hL : ((sLenB (sLeap y) : Nat) : Int) = sLen y := rfl
  unfold f_Mod_starts sStart
  have hx := sMs_nx (b := sLeap y) hm
  have hm' := hm
  obtain ⟨v1, v2⟩ := hm'
  have hb := sMs_bd' (b := sLeap y) (k := v % 100) (by omega)
  have hw0 := sWd_bd y (sMs (sLeap y) (v % 100).toNat)
  simp (disch := omega) only [zLet, zBP, i3_lit, i3_neg, i3_div, i3_mod, i3_eq, Int.reduceEq, reduceIte, mod_ms' hy hm, mod_leap hy, mod_mlen' hm, ob_s, i3_add, i3_sub, i3_mul, mod_begin hy, mod_wd hy, i3_le]
  unfold sNth
  simp only []
  by_cases q : (sMs (sLeap y) (v % 100).toNat : Int) + (v / 100 % 10 - sWd y (sMs (sLeap y) (v % 100).toNat)) % 7 + 7 * (v / 1000 - 1) < sMs (sLeap y) ((v % 100).toNat + 1)
  · rw [if_neg (by omega), if_pos q, sTo_in (by omega)]
    congr 2
    omega
  · rw [if_pos (by omega), if_neg q, sTo_in (by omega)]
theorem mod_start3 {y : Nat} (hy : y < 400) {v : Int} (hw : 0 ≤ v / 100 ∧ v / 100 ≤ 6) (hm : vMo (v % 100)) (m : Mm) : f_Mod_starts (i3 3) (i3 v) (i3 y) m = some (i3 (sStart y 3 v)) := by
  have hF := sFirst_bd hy
  have hL : ((sLenB (sLeap y) : Nat) : Int) = sLen y := rfl
  unfold f_Mod_starts sStart
  have hx := sMs_nx (b := sLeap y) hm
  have hm' := hm
  obtain ⟨v1, v2⟩ := hm'
  have hb := sMs_bd' (b := sLeap y) (k := v % 100) (by omega)
  have hw0 := sWd_bd y ((sMs (sLeap y) ((v % 100).toNat + 1) : Int) - 1)
  simp (disch := omega) only [zLet, zBP, i3_lit, i3_neg, i3_div, i3_mod, i3_eq, Int.reduceEq, reduceIte, mod_ms' hy hm, mod_leap hy, mod_mlen' hm, ob_s, i3_add, i3_sub, i3_mul, mod_begin hy]
  have e4 : (sMs (sLeap y) (v % 100).toNat : Int) + ((sMs (sLeap y) ((v % 100).toNat + 1) : Int) - sMs (sLeap y) (v % 100).toNat) - 1 = (sMs (sLeap y) ((v % 100).toNat + 1) : Int) - 1 := by omega
  rw [e4, mod_wd hy ⟨by omega, by omega⟩]
  unfold sLst
  simp (disch := omega) only [ob_s, i3_sub, i3_add, i3_mod]
  rw [sTo_in (by omega)]
  congr 2
  omega
theorem mod_starts {y : Nat} (hy : y < 400) {n i : Nat} {kd v : Int} (hv : vStep n i kd v) (hk : kd ≤ 3) (m : Mm) : f_Mod_starts (i3 kd) (i3 v) (i3 y) m = some (i3 (sStart y kd v)) := by
  unfold vStep at hv
  rcases hv with h | h | h | h | h | h | h | h | h | h | h | h | h
  · rw [h.1]; exact mod_start1 hy h.2 m
  · rw [h.1]; exact mod_start2 hy h.2.1 h.2.2.1 h.2.2.2 m
  · rw [h.1]; exact mod_start3 hy h.2.1 h.2.2 m
  all_goals (exfalso; omega)
theorem mod_toW {y : Nat} (hy : y < 400) {kd v d : Int} (hk : 6 ≤ kd ∧ kd ≤ 9) (hv : 0 ≤ v ∧ v ≤ 6) (hd : 0 ≤ d ∧ d < 400) (m : Mm) :
    ∃ x : Int, f_Mod_toWeekday (i3 kd) (i3 v) (i3 y) (i3 d) m = some (i3 x) ∧ (-10 ≤ x ∧ x ≤ 500) ∧ ∀ t, sMove y t kd v d = sTo y x := by
  have hF := sFirst_bd hy
  have hw0 := sWd_bd y d
  have hw1 : sWd y (d + 1) = (sWd y d + 1) % 7 := by unfold sWd; omega
  have hw2 : sWd y (d - 1) = (sWd y d + 6) % 7 := by unfold sWd; omega
  unfold f_Mod_toWeekday
  simp (disch := omega) only [zLet, zBP, mod_begin hy, ob_s, i3_lit, i3_add, i3_sub, mod_wd hy, i3_mod, i3_eq]
  have hN : ¬ d = -1 := by omega
  have hk' : kd = 6 ∨ kd = 7 ∨ kd = 8 ∨ kd = 9 := by omega
  rcases hk' with rfl | rfl | rfl | rfl
  · refine ⟨d + (1 + (v - sWd y (d + 1)) % 7), ?_, by omega, fun t => ?_⟩
    · rw [if_pos rfl]
      split
      · congr 2; omega
      · congr 2; omega
    · simp only [sMove, sLater, if_neg hN]; rfl
  · refine ⟨d + (-1 - (sWd y (d - 1) - v) % 7), ?_, by omega, fun t => ?_⟩
    · rw [if_neg (by decide), if_pos rfl]
      split
      · congr 2; omega
      · congr 2; omega
    · simp only [sMove, sLater, if_neg hN]; rfl
  · refine ⟨d + (v - sWd y d) % 7, ?_, by omega, fun t => ?_⟩
    · rw [if_neg (by decide), if_neg (by decide), if_pos rfl]
      congr 2; omega
    · simp only [sMove, sLater, if_neg hN]; rfl
  · refine ⟨d + -((sWd y d - v) % 7), ?_, by omega, fun t => ?_⟩
    · rw [if_neg (by decide), if_neg (by decide), if_neg (by decide)]
      congr 2; omega
    · simp only [sMove, sLater, if_neg hN]; rfl
theorem mod_toM {y t : Nat} (hy : y < 400) (ht : t < 2) {kd d : Int} (hk : kd = 10 ∨ kd = 11) (hd : 0 ≤ d ∧ d < 400) (m : Mm) :
    f_Mod_toMoon (i3 kd) (i3 y) (i3 d) (i3 t) m = some (i3 (sMon (sFirst y + d) (if kd = 10 then 14 else 0) t - sFirst y)) := by
  have hF := sFirst_bd hy
  have hg : 0 ≤ (sFirst y : Int) + d ∧ (sFirst y : Int) + d < 200000 := by omega
  have hb := sLast_bd (t := t) hg
  have hc := sMoon_bd (k := sLast (sFirst y + d) t) (t := t) ⟨by omega, by omega⟩
  have hc2 := sMoon_bd (k := sLast (sFirst y + d) t + 1) (t := t) ⟨by omega, by omega⟩
  have hle := sMoon_le (t := t) hg
  have hA : sAge ((sFirst y : Int) + d) t = (sFirst y : Int) + d - sMoon (sLast (sFirst y + d) t) t := rfl
  unfold f_Mod_toMoon
  simp (disch := omega) only [zLet, zBP, mod_begin hy, ob_s, i3_add, mod_last hg ht, mod_age hg ht, i3_lit, i3_eq, i3_lt]
  rcases hk with rfl | rfl
  · simp only [Int.reduceEq, reduceIte]
    by_cases q : (sFirst y : Int) + d ≤ sMoon (sLast (sFirst y + d) t) t + 14
    · have q2 : ¬ 14 < sAge ((sFirst y : Int) + d) t := by unfold sAge; omega
      simp only [if_neg q2, sMon, if_pos q]
      rw [mod_moon ⟨by omega, by omega⟩ ht]
      simp only [ob_s, i3_add, i3_sub]
    · have q2 : 14 < sAge ((sFirst y : Int) + d) t := by unfold sAge; omega
      simp only [if_pos q2, sMon, if_neg q]
      rw [mod_moon ⟨by omega, by omega⟩ ht]
      simp only [ob_s, i3_add, i3_sub]
  · simp only [Int.reduceEq, reduceIte]
    by_cases q : (sFirst y : Int) + d ≤ sMoon (sLast (sFirst y + d) t) t
    · have q2 : sAge ((sFirst y : Int) + d) t = 0 := by unfold sAge; omega
      have q3 : (sFirst y : Int) + d ≤ sMoon (sLast (sFirst y + d) t) t + 0 := by omega
      simp only [if_pos q2, sMon, if_pos q3, i3_sub]
      exact congrArg (fun z => some (i3 z)) (by omega)
    · have q2 : ¬ sAge ((sFirst y : Int) + d) t = 0 := by unfold sAge; omega
      have q3 : ¬ (sFirst y : Int) + d ≤ sMoon (sLast (sFirst y + d) t) t + 0 := by omega
      simp only [if_neg q2, sMon, if_neg q3]
      rw [mod_moon ⟨by omega, by omega⟩ ht]
      simp only [ob_s, i3_sub]
      exact congrArg (fun z => some (i3 z)) (by omega)
theorem mod_moved {y t : Nat} (hy : y < 400) (ht : t < 2) {n i : Nat} {kd v d : Int} (hv : vStep n i kd v) (hk : 5 ≤ kd ∧ kd ≤ 12) (hd : -1 ≤ d ∧ d < 400) (m : Mm) : f_Mod_moved (i3 kd) (i3 v) (i3 y) (i3 d) (i3 t) m = some (i3 (sMove y t kd v d)) := by
  have hF := sFirst_bd hy
  unfold f_Mod_moved
  simp (disch := omega) only [zLet, i3_lit, i3_neg, i3_eq, i3_le]
  by_cases h1 : d = -1
  · rw [if_pos h1]
    congr 2
    subst h1
    unfold sMove sLater
    simp only [if_true]
    repeat (first | rfl | split)
  · rw [if_neg h1]
    by_cases h12 : kd = 12
    · rw [if_pos h12]; subst h12; rfl
    · rw [if_neg h12]
      by_cases h5 : kd = 5
      · subst h5
        have hv5 : -10000 ≤ v ∧ v ≤ 20000 := by unfold vStep at hv; omega
        rw [if_pos rfl, i3_add, i3_sub, mod_within hy ⟨by omega, by omega⟩]
        simp only [zBP, ob_s, sMove, if_true, sLater, if_neg h1]
        congr 3
        omega
      · rw [if_neg h5]
        by_cases h10 : 10 ≤ kd
        · have hk' : kd = 10 ∨ kd = 11 := by omega
          have hbm := sMon_bd (g := (sFirst y : Int) + d) (a := if kd = 10 then 14 else 0) (t := t) ⟨by omega, by omega⟩ (by split <;> omega)
          rw [if_pos h10, mod_toM hy ht hk' ⟨by omega, by omega⟩]
          simp only [zBP, ob_s]
          rw [mod_within hy ⟨by omega, by omega⟩]
          simp only [ob_s]
          congr 2
          rcases hk' with rfl | rfl
          · simp only [sMove, if_neg h1]; rfl
          · simp only [sMove, if_neg h1]; rfl
        · have hv7 : 0 ≤ v ∧ v ≤ 6 := by unfold vStep at hv; omega
          obtain ⟨x, hx, hb, hs⟩ := mod_toW hy (kd := kd) (v := v) (d := d) ⟨by omega, by omega⟩ hv7 ⟨by omega, by omega⟩ m
          rw [if_neg h10, hx]
          simp only [zBP, ob_s]
          rw [mod_within hy ⟨by omega, by omega⟩, hs t]
          rfl
theorem mod_isSo {y t : Nat} (hy : y < 400) (ht : t < 2) {n i : Nat} {kd v d : Int} {B : Nat → Int} (hv : vStep n i kd v) (hk : 13 ≤ kd ∧ kd ≤ 16) (hd : -1 ≤ d ∧ d < sLen y) (m : Mm) (hB : kd = 15 → zI m 216 (20 * t + v.toNat) = i3 (B v.toNat) ∧ -1 ≤ B v.toNat ∧ B v.toNat < 400) : f_Mod_isSo (i3 kd) (i3 v) (i3 y) (i3 d) (i3 t) m = some (b3 (sCond y B kd v d)) := by
  have hF := sFirst_bd hy
  have hL := sLen_bd y
  unfold f_Mod_isSo sCond
  simp (disch := omega) only [i3_lit, i3_neg, i3_eq, i3_mul, i3_add]
  by_cases h14 : kd = 14
  · subst h14
    rw [if_pos rfl, mod_leap hy]
    simp only [zBP, ob_s, if_pos (b3_bo _)]
    rfl
  · rw [if_neg h14, if_neg h14]
    by_cases h1 : d = -1
    · rw [if_pos h1]
      have e : ∀ p : Prop, ∀ (_ : Decidable p), decide (d ≠ -1 ∧ p) = false := fun p _ => decide_eq_false fun q => q.1 h1
      simp only [e]
      repeat (first | rfl | split)
    · rw [if_neg h1]
      by_cases h13 : kd = 13
      · have hv7 : 0 ≤ v ∧ v ≤ 6 := by unfold vStep at hv; omega
        have hw0 := sWd_bd y d
        rw [if_pos h13, if_pos h13, mod_begin hy]
        simp (disch := omega) only [zBP, ob_s, i3_add, mod_wd hy, i3_eq]
        by_cases q : (v - sWd y d) % 7 = 0
        · rw [if_pos (by omega), decide_eq_true ⟨h1, q⟩]; rfl
        · rw [if_neg (by omega), decide_eq_false (fun z => q z.2)]; rfl
      · rw [if_neg h13, if_neg h13]
        by_cases h15 : kd = 15
        · have hv19 : 0 ≤ v ∧ v ≤ 19 := by unfold vStep at hv; omega
          obtain ⟨b1, b2, b4⟩ := hB h15
          rw [if_pos h15, if_pos h15, if_pos ((i3_in ⟨by omega, by omega⟩).mpr ⟨by omega, by omega⟩), i3_ix ⟨by omega, by omega⟩]
          have e : (20 * (t : Int) + v).toNat = 20 * t + v.toNat := by omega
          rw [e, b1, it_eq ⟨by omega, by omega⟩ ⟨by omega, by omega⟩]
          by_cases q : B v.toNat = d
          · rw [if_pos q, decide_eq_true ⟨h1, q.symm⟩]; rfl
          · rw [if_neg q, decide_eq_false (fun z => q z.2.symm)]; rfl
        · have hdt : vDt v := by
            unfold vStep at hv
            rcases hv with ⟨h, k⟩ | ⟨h, k⟩ | ⟨h, k⟩ | h | h | h | h | h | h | h | ⟨h, k⟩ | h | h
            all_goals first | exact k | (exfalso; omega)
          have hvb := hdt.bd
          have hdn : d = ((d.toNat : Nat) : Int) := by omega
          have hsd := sDt_bd (b := sLeap y) (d := d.toNat) (show d.toNat < sLen y by omega)
          obtain ⟨⟨v1, v2⟩, v3, v4⟩ := hdt
          have hst := sMs_step true (v / 100).toNat (by omega) (by omega)
          have hlt := sDt_lt (b := sLeap y) (d := d.toNat) (k := (v / 100).toNat) (dd := (v % 100).toNat) (show d.toNat < sLen y by omega) (by omega) (by omega) (by omega) (by omega)
          have e9 : ((100 * (v / 100).toNat + (v % 100).toNat : Nat) : Int) = v := by omega
          have hmd := mod_date hy (d := d.toNat) (by omega) m
          rw [← hdn] at hmd
          rw [if_neg h15, if_neg h15, hmd]
          simp (disch := omega) only [zBP, ob_s, i3_le]
          by_cases q : d < (sMs (sLeap y) (v / 100).toNat : Int) + v % 100 - 1
          · rw [if_neg (by omega), decide_eq_true ⟨h1, q⟩]; rfl
          · rw [if_pos (by omega), decide_eq_false (fun z => q z.2)]; rfl
theorem mod_cost {kd : Int} (hk : 1 ≤ kd ∧ kd ≤ 20) (m : Mm) : f_Mod_costOf (i3 kd) m = some (i3 (sCost kd)) := by
  have q : ∀ k, k < 21 → 1 ≤ k → f_Mod_costOf (i3 ((k : Nat) : Int)) mZ = some (i3 (sCost k)) := by decide +kernel
  have e : kd = ((kd.toNat : Nat) : Int) := by omega
  have := q kd.toNat (by omega) (by omega)
  rw [← e] at this
  exact this
theorem cal_cost {kd : Int} (hk : 1 ≤ kd ∧ kd ≤ 20) : zCst (i3 kd) = i3 (sCost kd) := by
  have q : ∀ k, k < 21 → 1 ≤ k → zCst (i3 ((k : Nat) : Int)) = i3 (sCost k) := by decide +kernel
  have e : kd = ((kd.toNat : Nat) : Int) := by omega
  have := q kd.toNat (by omega) (by omega)
  rw [← e] at this
  exact this
theorem sCost_bd (kd : Int) : 1 ≤ sCost kd ∧ sCost kd ≤ 6 := by
  unfold sCost
  split
  · omega
  · split
    · omega
    · split <;> omega
