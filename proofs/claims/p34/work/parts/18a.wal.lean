/-! WALK: a day of a year, or none; what it is moved to, and asked -/
theorem zI_ne {m : Mm} {a k b j : Nat} {v : Int32} (h : b ≠ a) : zI (wI m a k v) b j = zI m b j := if_neg fun q => h q.1
theorem zI_nk {m : Mm} {a k j : Nat} {v : Int32} (h : j ≠ k) : zI (wI m a k v) a j = zI m a j := if_neg fun q => h q.2
theorem zI_eq {m : Mm} {a k : Nat} {v : Int32} : zI (wI m a k v) a k = v := if_pos ⟨rfl, rfl⟩
theorem wI_ext {m m' : Mm} (h1 : ∀ b j, zI m b j = zI m' b j) (h2 : m.2 = m'.2) : m = m' := by
  obtain ⟨f, r⟩ := m
  obtain ⟨f', r'⟩ := m'
  cases h2
  have : f = f' := funext fun b => funext fun j => h1 b j
  rw [this]
theorem wI_self {m : Mm} {a k : Nat} : wI m a k (zI m a k) = m := wI_ext (fun b j => by
  rw [zI_wI]
  split
  · next h => rw [h.1, h.2]
  · rfl) rfl
theorem wI_same {m : Mm} {a k : Nat} {v : Int32} (h : zI m a k = v) : wI m a k v = m := by rw [← h]; exact wI_self
theorem wI_wI {m : Mm} {a k : Nat} {v w : Int32} : wI (wI m a k v) a k w = wI m a k w := wI_ext (fun b j => by
  rw [zI_wI, zI_wI, zI_wI]
  split <;> rfl) rfl
theorem zR_w {m : Mm} {a k b j : Nat} {v : Int32} : zR (wI m a k v) b j = zR m b j := rfl
theorem zL_w {m : Mm} {a k b j : Nat} {v : Int32} : zL (wI m a k v) b j = zL m b j := rfl
def sWd (y : Nat) (d : Int) : Int := ((sFirst y : Int) + 6 + d) % 7
def sTo (y : Nat) (d : Int) : Int := if 0 ≤ d ∧ d < sLen y then d else -1
/-- the walk at a is in year y, with table t -/
def Wk (m : Mm) (a y t : Nat) : Prop := (y < 400 ∧ t < 2) ∧ zI m a 0 = i3 t ∧ zI m a 1 = i3 (sLen y) ∧ zI m a 2 = b3 (sLeap y) ∧ zI m a 3 = i3 (sFirst y) ∧ zI m a 4 = i3 (((sFirst y : Int) + 6) % 7)
def wWk (m : Mm) (a y t : Nat) : Mm := wI (wI (wI (wI (wI (wI m a 0 (i3 t)) a 1 (i3 (sLen y))) a 2 (b3 (sLeap y))) a 3 (i3 (sFirst y))) a 4 (i3 (((sFirst y : Int) + 6) % 7))) a 5 (i3 (-1))
theorem Wk.w5 {m : Mm} {a y t : Nat} (h : Wk m a y t) (d : Int32) : Wk (wI m a 5 d) a y t := by
  obtain ⟨h0, h1, h2, h3, h4, h5⟩ := h
  refine ⟨h0, ?_, ?_, ?_, ?_, ?_⟩ <;> rw [zI_nk (by decide)] <;> assumption
theorem Wk.ne {m : Mm} {a y t b k : Nat} {v : Int32} (h : Wk m a y t) (hb : a ≠ b) : Wk (wI m b k v) a y t := by
  obtain ⟨h0, h1, h2, h3, h4, h5⟩ := h
  refine ⟨h0, ?_, ?_, ?_, ?_, ?_⟩ <;> rw [zI_ne hb] <;> assumption
theorem wal_enter {m : Mm} {a y t : Nat} (hy : y < 400) (ht : t < 2) : f_Wal_enter a (i3 y) (i3 t) m = some (wWk m a y t) ∧ Wk (wWk m a y t) a y t ∧ zI (wWk m a y t) a 5 = i3 (-1) := by
  have hF := sFirst_bd hy
  refine ⟨?_, ⟨⟨hy, ht⟩, ?_, ?_, ?_, ?_, ?_⟩, zI_eq⟩
  · unfold f_Wal_enter
    simp only [zLet, zBP, cal_len hy, ob_s, cal_leap hy, if_pos (b3_bo _), cal_first hy]
    unfold f_Cal_weekdayOf
    simp only [zBP, zI_eq, i3_lit, i3_add, mat_fmod (show -2147483647 ≤ (sFirst y : Int) + 6 ∧ _ by omega) (show 0 < (7 : Int) ∧ _ by decide), ob_s, i3_neg]
    rfl
  · unfold wWk; simp (disch := omega) only [zI_nk, zI_eq]
  · unfold wWk; simp (disch := omega) only [zI_nk, zI_eq]
  · unfold wWk; simp (disch := omega) only [zI_nk, zI_eq]
  · unfold wWk; simp (disch := omega) only [zI_nk, zI_eq]
  · unfold wWk; simp (disch := omega) only [zI_nk, zI_eq]
theorem sWd_bd (y : Nat) (d : Int) : 0 ≤ sWd y d ∧ sWd y d < 7 := by unfold sWd; omega
theorem wal_until {m : Mm} {a y t : Nat} (h : Wk m a y t) {d w : Int} (hd : -5000000 ≤ d ∧ d ≤ 5000000) (hw : 0 ≤ w ∧ w ≤ 6) : f_Wal_daysUntil a (i3 d) (i3 w) m = some (i3 ((w - sWd y d) % 7)) := by
  unfold f_Wal_daysUntil
  simp only [zBP, h.2.2.2.2.2, i3_lit, i3_sub, mat_fmod (show -2147483647 ≤ w - ((sFirst y : Int) + 6) % 7 - d ∧ _ by omega) (show 0 < (7 : Int) ∧ _ by decide), ob_s]
  congr 2
  unfold sWd
  omega
theorem wal_since {m : Mm} {a y t : Nat} (h : Wk m a y t) {d w : Int} (hd : -5000000 ≤ d ∧ d ≤ 5000000) (hw : 0 ≤ w ∧ w ≤ 6) : f_Wal_daysSince a (i3 d) (i3 w) m = some (i3 ((sWd y d - w) % 7)) := by
  unfold f_Wal_daysSince
  simp only [zBP, h.2.2.2.2.2, i3_lit, i3_sub, i3_add, mat_fmod (show -2147483647 ≤ ((sFirst y : Int) + 6) % 7 + d - w ∧ _ by omega) (show 0 < (7 : Int) ∧ _ by decide), ob_s]
  congr 2
  unfold sWd
  omega
theorem wal_toDay {m : Mm} {a y t : Nat} (h : Wk m a y t) {d : Int} (hd : -5000000 ≤ d ∧ d ≤ 5000000) : f_Wal_toDay a (i3 d) m = some (wI m a 5 (i3 (sTo y d))) := by
  have hL := sLen_bd y
  unfold f_Wal_toDay
  simp only [zLet, h.2.2.1, i3_lit, i3_neg]
  rw [it_lt ⟨by omega, by omega⟩ ⟨by decide, by decide⟩, it_le ⟨by omega, by omega⟩ ⟨by omega, by omega⟩]
  unfold sTo
  by_cases h1 : d < 0
  · rw [if_pos h1, if_neg (by omega)]
  · by_cases h2 : (sLen y : Int) ≤ d
    · rw [if_neg h1, if_pos h2, if_neg (by omega)]
    · rw [if_neg h1, if_neg h2, if_pos (by omega)]
theorem sTo_bd (y : Nat) (d : Int) : -1 ≤ sTo y d ∧ sTo y d < sLen y := by
  have hL := sLen_bd y
  unfold sTo
  split <;> omega
def sLater (y : Nat) (d n : Int) : Int := if d = -1 then -1 else sTo y (d + n)
theorem sLater_bd (y : Nat) (d n : Int) : -1 ≤ sLater y d n ∧ sLater y d n < sLen y := by
  have hL := sLen_bd y
  unfold sLater
  split
  · omega
  · exact sTo_bd _ _
theorem i3_m1 {d : Int} (hd : -2147483648 ≤ d ∧ d < 2147483648) : (i3 d = i3 (-1)) ↔ d = -1 := i3_eq hd ⟨by decide, by decide⟩
theorem it_m1 {α : Type} {d : Int} {x y : α} (hd : -2147483648 ≤ d ∧ d < 2147483648) : (if i3 d = i3 (-1) then x else y) = if d = -1 then x else y := by simp only [i3_m1 hd]
theorem wal_toLater {m : Mm} {a y t : Nat} (h : Wk m a y t) {d n : Int} (h5 : zI m a 5 = i3 d) (hd : -1 ≤ d ∧ d < 400) (hn : -100000 ≤ n ∧ n ≤ 100000) : f_Wal_toLater a (i3 n) m = some (wI m a 5 (i3 (sLater y d n))) := by
  unfold f_Wal_toLater
  simp only [zBV, h5, i3_lit, i3_neg, i3_add]
  rw [it_m1 ⟨by omega, by omega⟩, wal_toDay h ⟨by omega, by omega⟩]
  unfold sLater
  by_cases h1 : d = -1
  · rw [if_pos h1, if_pos h1, wI_same (by rw [h5, h1])]
  · rw [if_neg h1, if_neg h1]
    rfl
def sDate (y : Nat) (v : Int) : Int :=
  let s := (sMs (sLeap y) (v / 100).toNat : Int) + v % 100 - 1
  if s < sMs (sLeap y) ((v / 100).toNat + 1) then s else -1
/-- a month, and a date, as numbers -/
def vMo (k : Int) : Prop := 1 ≤ k ∧ k ≤ 12
def vDt (v : Int) : Prop := vMo (v / 100) ∧ 1 ≤ v % 100 ∧ v % 100 ≤ (sMs true ((v / 100).toNat + 1) : Int) - sMs true (v / 100).toNat
theorem vMo.nat {k : Int} (h : vMo k) : ∃ n : Nat, k = n ∧ 1 ≤ n ∧ n ≤ 12 := ⟨k.toNat, by have := h.1; omega, by have := h.1; omega, by have := h.1; have := h.2; omega⟩
theorem cal_ms' {y : Nat} {k : Int} (h1 : 1 ≤ k) (h2 : k ≤ 13) (m : Mm) : f_Cal_monthStart (b3 (sLeap y)) (i3 k) m = some (i3 (sMs (sLeap y) k.toNat)) := by
  have e : k = ((k.toNat : Nat) : Int) := by omega
  have := cal_ms (sLeap y) (k := k.toNat) (by omega) (by omega) m
  rw [← e] at this
  exact this
theorem sMs_bd' {b : Bool} {k : Int} (h : k ≤ 13) : (sMs b k.toNat : Int) ≤ 366 := by
  have := sMs_bd b k.toNat (by omega)
  omega
theorem wal_toDate {m : Mm} {a y t : Nat} (h : Wk m a y t) {v : Int} (hv : vDt v) : f_Wal_toDate a (i3 v) m = some (wI m a 5 (i3 (sTo y (sDate y v)))) := by
  obtain ⟨⟨v1, v2⟩, v3, v4⟩ := hv
  have hb1 := sMs_bd' (b := sLeap y) (k := v / 100) (by omega)
  have hb2 := sMs_bd' (b := sLeap y) (k := v / 100 + 1) (by omega)
  unfold f_Wal_toDate f_Cal_dayOf
  have e1 : (v / 100 + 1).toNat = (v / 100).toNat + 1 := by omega
  simp (disch := omega) only [zBP, zBV, zLet, h.2.2.2.1, i3_lit, i3_div, i3_mod, i3_add, i3_sub, i3_neg, cal_ms', ob_s, i3_le]
  rw [e1] at hb2 ⊢
  have e2 : ((sMs (sLeap y) ((v / 100).toNat + 1) : Int) ≤ (sMs (sLeap y) (v / 100).toNat : Int) + v % 100 - 1) ↔ ¬ ((sMs (sLeap y) (v / 100).toNat : Int) + v % 100 - 1 < sMs (sLeap y) ((v / 100).toNat + 1)) := by omega
  unfold sDate
  by_cases q : (sMs (sLeap y) (v / 100).toNat : Int) + v % 100 - 1 < sMs (sLeap y) ((v / 100).toNat + 1)
  · rw [if_neg (fun z => e2.mp z q)]
    simp only [ob_s, if_pos q]
    rw [wal_toDay h ⟨by omega, by omega⟩]
    rfl
  · rw [if_pos (e2.mpr q)]
    simp only [ob_s, if_neg q]
    rw [wal_toDay h ⟨by decide, by decide⟩]
    rfl
def sNth (y : Nat) (n w k : Int) : Int :=
  let s := (sMs (sLeap y) k.toNat : Int)
  let x := s + (w - sWd y s) % 7 + 7 * (n - 1)
  if x < sMs (sLeap y) (k.toNat + 1) then x else -1
theorem wal_toNth {m : Mm} {a y t : Nat} (h : Wk m a y t) {n w k : Int} (hn : 1 ≤ n ∧ n ≤ 5) (hw : 0 ≤ w ∧ w ≤ 6) (hk : vMo k) : f_Wal_toNthWeekday a (i3 n) (i3 w) (i3 k) m = some (wI m a 5 (i3 (sTo y (sNth y n w k)))) := by
  obtain ⟨v1, v2⟩ := hk
  have hb1 := sMs_bd' (b := sLeap y) (k := k) (by omega)
  have hb2 := sMs_bd' (b := sLeap y) (k := k + 1) (by omega)
  have e1 : (k + 1).toNat = k.toNat + 1 := by omega
  unfold f_Wal_toNthWeekday
  simp (disch := omega) only [zBP, zBV, zLet, h.2.2.2.1, i3_lit, i3_mul, i3_add, i3_sub, i3_neg, cal_ms', ob_s]
  rw [wal_until h ⟨by omega, by omega⟩ hw]
  rw [e1] at hb2 ⊢
  simp (disch := omega) only [ob_s, i3_add, i3_le]
  unfold sNth
  simp only []
  by_cases q : (sMs (sLeap y) k.toNat : Int) + (w - sWd y (sMs (sLeap y) k.toNat)) % 7 + 7 * (n - 1) < sMs (sLeap y) (k.toNat + 1)
  · rw [if_neg (by omega), if_pos q, wal_toDay h ⟨by omega, by omega⟩]
    rfl
  · rw [if_pos (by omega), if_neg q, wal_toDay h ⟨by decide, by decide⟩]
    rfl
def sLst (y : Nat) (w k : Int) : Int :=
  let l := (sMs (sLeap y) (k.toNat + 1) : Int) - 1
  l - (sWd y l - w) % 7
theorem wal_toLast {m : Mm} {a y t : Nat} (h : Wk m a y t) {w k : Int} (hw : 0 ≤ w ∧ w ≤ 6) (hk : vMo k) : f_Wal_toLastWeekday a (i3 w) (i3 k) m = some (wI m a 5 (i3 (sTo y (sLst y w k)))) := by
  obtain ⟨v1, v2⟩ := hk
  have hb2 := sMs_bd' (b := sLeap y) (k := k + 1) (by omega)
  have e1 : (k + 1).toNat = k.toNat + 1 := by omega
  unfold f_Wal_toLastWeekday
  simp (disch := omega) only [zBP, zBV, zLet, h.2.2.2.1, i3_lit, i3_add, i3_sub, cal_ms', ob_s]
  rw [e1] at hb2 ⊢
  rw [wal_since h ⟨by omega, by omega⟩ hw]
  simp only [ob_s, i3_sub]
  rw [wal_toDay h ⟨by omega, by omega⟩]
  rfl
def sMove (y t : Nat) (kd v d : Int) : Int :=
  if kd = 5 then sLater y d (v - 5000)
  else if kd = 6 then sLater y d (1 + (v - sWd y (d + 1)) % 7)
  else if kd = 7 then sLater y d (-1 - (sWd y (d - 1) - v) % 7)
  else if kd = 8 then sLater y d ((v - sWd y d) % 7)
  else if kd = 9 then sLater y d (-((sWd y d - v) % 7))
  else if kd = 10 then (if d = -1 then -1 else sTo y (sMon (sFirst y + d) 14 t - sFirst y))
  else if kd = 11 then (if d = -1 then -1 else sTo y (sMon (sFirst y + d) 0 t - sFirst y))
  else -1
theorem sMove_bd (y t : Nat) (kd v d : Int) : -1 ≤ sMove y t kd v d ∧ sMove y t kd v d < sLen y := by
  have hL := sLen_bd y
  unfold sMove
  repeat (first | exact sLater_bd _ _ _ | exact sTo_bd _ _ | (split) | omega)
section MV
variable {m : Mm} {a y t : Nat} {d : Int}
theorem wal_behind {w : Int} (h : Wk m a y t) (h5 : zI m a 5 = i3 d) (hd : -1 ≤ d ∧ d < 400) (hw : 0 ≤ w ∧ w ≤ 6) : f_Wal_toWeekdayBehind a (i3 w) m = some (wI m a 5 (i3 (sMove y t 6 w d))) := by
  unfold f_Wal_toWeekdayBehind
  simp only [zBP, zBV, h5, i3_lit, i3_add]
  rw [wal_until h ⟨by omega, by omega⟩ hw]
  simp only [ob_s, i3_add]
  rw [wal_toLater h h5 hd ⟨by omega, by omega⟩]
  rfl
theorem wal_ahead {w : Int} (h : Wk m a y t) (h5 : zI m a 5 = i3 d) (hd : -1 ≤ d ∧ d < 400) (hw : 0 ≤ w ∧ w ≤ 6) : f_Wal_toWeekdayAhead a (i3 w) m = some (wI m a 5 (i3 (sMove y t 7 w d))) := by
  unfold f_Wal_toWeekdayAhead
  simp only [zBP, zBV, h5, i3_lit, i3_sub, i3_neg]
  rw [wal_since h ⟨by omega, by omega⟩ hw]
  simp only [ob_s, i3_sub]
  rw [wal_toLater h h5 hd ⟨by omega, by omega⟩]
  rfl
theorem wal_notahead {w : Int} (h : Wk m a y t) (h5 : zI m a 5 = i3 d) (hd : -1 ≤ d ∧ d < 400) (hw : 0 ≤ w ∧ w ≤ 6) : f_Wal_toWeekdayNotAhead a (i3 w) m = some (wI m a 5 (i3 (sMove y t 8 w d))) := by
  unfold f_Wal_toWeekdayNotAhead
  simp only [zBP, zBV, h5]
  rw [wal_until h ⟨by omega, by omega⟩ hw]
  simp only [ob_s]
  rw [wal_toLater h h5 hd ⟨by omega, by omega⟩]
  rfl
theorem wal_notbehind {w : Int} (h : Wk m a y t) (h5 : zI m a 5 = i3 d) (hd : -1 ≤ d ∧ d < 400) (hw : 0 ≤ w ∧ w ≤ 6) : f_Wal_toWeekdayNotBehind a (i3 w) m = some (wI m a 5 (i3 (sMove y t 9 w d))) := by
  unfold f_Wal_toWeekdayNotBehind
  simp only [zBP, zBV, h5]
  rw [wal_since h ⟨by omega, by omega⟩ hw]
  simp only [ob_s, i3_neg]
  rw [wal_toLater h h5 hd ⟨by omega, by omega⟩]
  rfl
theorem wal_moon {g : Int} (h : Wk m a y t) (h5 : zI m a 5 = i3 d) (hd : -1 ≤ d ∧ d < 400) (hg : 0 ≤ g ∧ g ≤ 30) : f_Wal_toMoonOfAge a (i3 g) m = some (wI m a 5 (i3 (if d = -1 then -1 else sTo y (sMon (sFirst y + d) g t - sFirst y)))) := by
  have hF := sFirst_bd h.1.1
  unfold f_Wal_toMoonOfAge
  simp only [zBP, zBV, zLet, h5, i3_lit, i3_neg, h.2.1, h.2.2.2.2.1, i3_add]
  rw [it_m1 ⟨by omega, by omega⟩]
  by_cases h1 : d = -1
  · rw [if_pos h1, if_pos h1, wI_same (by rw [h5, h1])]
  · have hl := sLast_bd (g := (sFirst y : Int) + d) (t := t) ⟨by omega, by omega⟩
    have hc := sMoon_bd (k := sLast ((sFirst y : Int) + d) t) (t := t) ⟨by omega, by omega⟩
    have hc' := sMoon_bd (k := sLast ((sFirst y : Int) + d) t + 1) (t := t) ⟨by omega, by omega⟩
    rw [if_neg h1, if_neg h1, cal_last ⟨by omega, by omega⟩ h.1.2]
    simp only [ob_s, cal_new (k := sLast ((sFirst y : Int) + d) t) ⟨by omega, by omega⟩ h.1.2, i3_add, i3_sub]
    rw [it_lt ⟨by omega, by omega⟩ ⟨by omega, by omega⟩]
    unfold sMon
    by_cases e : sMoon (sLast ((sFirst y : Int) + d) t) t + g - sFirst y < d
    · rw [if_pos e, if_neg (by omega), cal_new ⟨by omega, by omega⟩ h.1.2]
      simp only [ob_s, i3_add, i3_sub]
      rw [wal_toDay h ⟨by omega, by omega⟩]
      rfl
    · rw [if_neg e, if_pos (by omega), wal_toDay h ⟨by omega, by omega⟩]
      rfl
theorem wal_none : f_Wal_toNone a m = some (wI m a 5 (i3 (-1))) := by
  unfold f_Wal_toNone zLet
  simp only [i3_lit, i3_neg]
theorem wal_onW {w : Int} (h : Wk m a y t) (h5 : zI m a 5 = i3 d) (hd : -1 ≤ d ∧ d < 400) (hw : 0 ≤ w ∧ w ≤ 6) : f_Wal_isOnWeekday a (i3 w) m = some (b3 (decide (d ≠ -1 ∧ (w - sWd y d) % 7 = 0))) := by
  unfold f_Wal_isOnWeekday
  simp only [zBP, zLet, h5, i3_lit, i3_neg]
  rw [it_m1 ⟨by omega, by omega⟩]
  by_cases h1 : d = -1
  · rw [if_pos h1]; simp [h1, b3, i3_lit]
  · rw [if_neg h1, wal_until h ⟨by omega, by omega⟩ hw]
    simp only [ob_s]
    rw [it_eq ⟨by omega, by omega⟩ ⟨by decide, by decide⟩]
    by_cases h2 : (w - sWd y d) % 7 = 0
    · rw [if_pos h2, decide_eq_true ⟨h1, h2⟩]; rfl
    · rw [if_neg h2, decide_eq_false (fun q => h2 q.2)]; rfl
theorem wal_leap (h : Wk m a y t) : f_Wal_isInLeapYear a m = some (b3 (sLeap y)) := by
  unfold f_Wal_isInLeapYear
  rw [h.2.2.2.1, if_pos (b3_bo _)]
theorem wal_onD {v : Int} (h5 : zI m a 5 = i3 d) (hd : -1 ≤ d ∧ d < 400) (hv : -1 ≤ v ∧ v < 400) : f_Wal_isOnDay a (i3 v) m = some (b3 (decide (d ≠ -1 ∧ d = v))) := by
  unfold f_Wal_isOnDay
  simp only [zLet, h5, i3_lit, i3_neg]
  rw [it_m1 ⟨by omega, by omega⟩, it_eq ⟨by omega, by omega⟩ ⟨by omega, by omega⟩]
  by_cases h1 : d = -1
  · rw [if_pos h1]; simp [h1, b3, i3_lit]
  · by_cases h2 : d = v
    · rw [if_neg h1, if_pos h2, decide_eq_true ⟨h1, h2⟩]; rfl
    · rw [if_neg h1, if_neg h2, decide_eq_false (fun q => h2 q.2)]; rfl
theorem wal_before {v : Int} (h : Wk m a y t) (h5 : zI m a 5 = i3 d) (hd : -1 ≤ d ∧ d < 400) (hv : vDt v) : f_Wal_isBeforeDate a (i3 v) m = some (b3 (decide (d ≠ -1 ∧ d < (sMs (sLeap y) (v / 100).toNat : Int) + v % 100 - 1))) := by
  obtain ⟨⟨v1, v2⟩, v3, v4⟩ := hv
  have hb1 := sMs_bd' (b := sLeap y) (k := v / 100) (by omega)
  unfold f_Wal_isBeforeDate
  simp (disch := omega) only [zBP, zLet, h5, i3_lit, i3_neg, h.2.2.2.1, i3_div, i3_mod, cal_ms', ob_s, i3_add, i3_sub, i3_le]
  rw [it_m1 ⟨by omega, by omega⟩]
  by_cases h1 : d = -1
  · rw [if_pos h1]; simp [h1, b3, i3_lit]
  · by_cases h2 : d < (sMs (sLeap y) (v / 100).toNat : Int) + v % 100 - 1
    · rw [if_neg h1, if_neg (by omega), decide_eq_true ⟨h1, h2⟩]; rfl
    · rw [if_neg h1, if_pos (by omega), decide_eq_false (fun q => h2 q.2)]; rfl
end MV
