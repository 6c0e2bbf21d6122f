/-! THE LAW'S CALENDAR -/
theorem zLet_q {α β : Type} {e : α} {f : α → β} : zLet e f = f e := Eq.trans rfl rfl
theorem law_leap {y : Nat} (h : y < 400) (m : Mm) : f_Law_leap (i3 y) m = some (b3 (sLeap y)) := by
  have q : ∀ y, y < 400 → f_Law_leap (i3 ((y : Nat) : Int)) mZ = some (b3 (sLeap y)) := by decide +kernel
  exact (show f_Law_leap (i3 y) m = f_Law_leap (i3 y) mZ from rfl).trans (q y h)
theorem law_lrep (b : Bool) (m : Mm) : f_Law_leap (rep b) m = some (b3 b) := by
  have q : ∀ b : Bool, f_Law_leap (rep b) mZ = some (b3 b) := by decide +kernel
  exact (show f_Law_leap (rep b) m = f_Law_leap (rep b) mZ from rfl).trans (q b)
theorem law_days {y : Nat} (h : y < 400) (m : Mm) : f_Law_days (i3 y) m = some (i3 (sLen y)) := by
  have q : ∀ y, y < 400 → f_Law_days (i3 ((y : Nat) : Int)) mZ = some (i3 (sLen y)) := by decide +kernel
  exact (show f_Law_days (i3 y) m = f_Law_days (i3 y) mZ from rfl).trans (q y h)
theorem law_mrep {y : Nat} (h : y < 400) (x : Int32) (m : Mm) : f_Law_month (i3 y) x m = f_Law_month (rep (sLeap y)) x m := by
  unfold f_Law_month
  rw [law_leap h, law_lrep]
/-- how long a month is -/
def sMl (b : Bool) (k : Nat) : Int := (sMs b (k + 1) : Int) - sMs b k
theorem law_month {y k : Nat} (h : y < 400) (h1 : 1 ≤ k) (h2 : k < 13) (m : Mm) : f_Law_month (i3 y) (i3 k) m = some (i3 (sMl (sLeap y) k)) := by
  have q : ∀ b : Bool, ∀ k, k < 13 → 1 ≤ k → f_Law_month (rep b) (i3 ((k : Nat) : Int)) mZ = some (i3 (sMl b k)) := by decide +kernel
  rw [law_mrep h]
  exact (show f_Law_month (rep (sLeap y)) (i3 k) m = f_Law_month (rep (sLeap y)) (i3 k) mZ from rfl).trans (q _ k h2 h1)
def sDyB (b : Bool) (v : Nat) : Int := if (sMs b (v / 100) : Int) + v % 100 - 1 < sMs b (v / 100 + 1) then (sMs b (v / 100) : Int) + v % 100 - 1 else -1
theorem sDate_B {y v : Nat} : sDate y v = sDyB (sLeap y) v := by
  unfold sDate sDyB
  have e : ((v : Int) / 100).toNat = v / 100 := by omega
  rw [e]
theorem law_day {y v : Nat} (h : y < 400) (h1 : 1 ≤ v / 100 ∧ v / 100 ≤ 12) (h2 : 1 ≤ v % 100 ∧ v % 100 ≤ sMs true (v / 100 + 1) - sMs true (v / 100)) (m : Mm) : f_Law_day (i3 y) (i3 v) m = some (i3 (sDate y v)) := by
  have q : ∀ b : Bool, ∀ v, v < 1300 → (1 ≤ v / 100 ∧ v / 100 ≤ 12) → (1 ≤ v % 100 ∧ v % 100 ≤ sMs true (v / 100 + 1) - sMs true (v / 100)) → f_Law_day (rep b) (i3 ((v : Nat) : Int)) mZ = some (i3 (sDyB b v)) := by decide +kernel
  have e : f_Law_day (i3 y) (i3 v) mZ = f_Law_day (rep (sLeap y)) (i3 v) mZ := by
    unfold f_Law_day
    simp only [law_mrep h]
  rw [sDate_B]
  exact (show f_Law_day (i3 y) (i3 v) m = f_Law_day (i3 y) (i3 v) mZ from rfl).trans (e.trans (q _ v (by omega) h1 h2))
theorem sDyB_bd : ∀ b : Bool, ∀ v, v < 1300 → (1 ≤ v / 100 ∧ v / 100 ≤ 12) → 1 ≤ v % 100 → -1 ≤ sDyB b v ∧ sDyB b v < sLenB b := by decide +kernel
theorem law_date {y : Nat} (h : y < 400) {d : Nat} (hd : d < sLen y) (m : Mm) : f_Law_date (i3 y) (i3 d) m = some (i3 (sDt (sLeap y) d)) := by
  have q : ∀ b : Bool, ∀ d, d < 366 → d < sLenB b → f_Law_date (rep b) (i3 ((d : Nat) : Int)) mZ = some (i3 (sDt b d)) := by decide +kernel
  have e : f_Law_date (i3 y) (i3 d) mZ = f_Law_date (rep (sLeap y)) (i3 d) mZ := by
    unfold f_Law_date
    simp only [law_mrep h]
  exact (show f_Law_date (i3 y) (i3 d) m = f_Law_date (i3 y) (i3 d) mZ from rfl).trans (e.trans (q _ d (Nat.lt_of_lt_of_le hd (sLen_bd y).2) hd))
theorem sFirst_s : ∀ k, k < 400 → sFirst (k + 1) = sFirst k + sLen k := by decide +kernel
theorem law_great {y : Nat} (h : y ≤ 400) (m : Mm) : f_Law_great (i3 y) m = some (i3 (sFirst y)) := by
  rw [e_Law_great]
  refine run_zLq2 (fun j x0 x1 => ∃ k : Nat, k ≤ y ∧ j = y - k ∧ x0 = i3 (sFirst k) ∧ x1 = i3 k) ?_ zFu y 0 0 ⟨0, Nat.zero_le _, rfl, by decide, by decide⟩ (by unfold zFu; omega)
  rintro r j _ _ ⟨k, hk, rfl, rfl, rfl⟩
  unfold l_Law_great_0
  rw [it_le ⟨by omega, by omega⟩ ⟨by omega, by omega⟩]
  by_cases c : y ≤ k
  · left
    rw [if_pos (by omega), show k = y by omega]
  · right
    refine ⟨i3 ((sFirst (k + 1) : Nat) : Int), i3 ((k + 1 : Nat) : Int), y - (k + 1), by omega, ⟨k + 1, by omega, rfl, rfl, rfl⟩, ?_⟩
    rw [if_neg (by omega), law_days (by omega), zBP_some, zLet_q, zLet_q, i3_add, i3_add1, sFirst_s k (by omega)]
    rfl
theorem law_in {y : Nat} (hy : y < 400) {d : Int} (hd : -5000000 ≤ d ∧ d ≤ 5000000) (m : Mm) : f_Law_in (i3 y) (i3 d) m = some (i3 (sTo y d)) := by
  have hL := sLen_bd y
  unfold f_Law_in sTo
  rw [zLet_q, law_days hy, zBP_some, show (0 : Int32) = i3 0 from rfl, it_lt ⟨by omega, by omega⟩ ⟨by decide, by decide⟩, it_lt ⟨by omega, by omega⟩ ⟨by omega, by omega⟩]
  by_cases c : d < 0
  · rw [if_pos c, if_neg (by omega)]
    rfl
  · by_cases c2 : d < sLen y
    · rw [if_neg c, if_pos c2, if_pos (by omega)]
    · rw [if_neg c, if_neg c2, if_neg (by omega)]
      rfl
/-! moons -/
def isN (g : Int) (t : Nat) : Bool := if t = 0 then decide (945 * (((g + 940) * 32 + 944) / 945) / 32 = g + 940) else decide (6940 * (((g + 6934) * 235 + 6939) / 6940) / 235 = g + 6934)
theorem isN_yes {k : Int} {t : Nat} : isN (sMoon k t) t = true := by
  unfold isN sMoon
  by_cases c : t = 0
  · rw [if_pos c, if_pos c]
    refine decide_eq_true ?_
    have e : 945 * k / 32 + 5 + 940 = 945 * (k + 32) / 32 := by omega
    rw [e]
    have e2 : (945 * (k + 32) / 32 * 32 + 944) / 945 = k + 32 := by omega
    rw [e2]
  · rw [if_neg c, if_neg c]
    refine decide_eq_true ?_
    have e : 6940 * k / 235 + 6 + 6934 = 6940 * (k + 235) / 235 := by omega
    rw [e]
    have e2 : (6940 * (k + 235) / 235 * 235 + 6939) / 6940 = k + 235 := by omega
    rw [e2]
theorem isN_no {k g : Int} {t : Nat} (h1 : sMoon k t < g) (h2 : g < sMoon (k + 1) t) : isN g t = false := by
  unfold isN
  unfold sMoon at h1 h2
  by_cases c : t = 0
  · rw [if_pos c] at h1 h2 ⊢
    refine decide_eq_false fun e => ?_
    generalize ((g + 940) * 32 + 944) / 945 = q at e
    by_cases h : q ≤ k + 32
    · omega
    · omega
  · rw [if_neg c] at h1 h2 ⊢
    refine decide_eq_false fun e => ?_
    generalize ((g + 6934) * 235 + 6939) / 6940 = q at e
    by_cases h : q ≤ k + 235
    · omega
    · omega
theorem isN_tx {a b o g : Int} (ha : 0 < a ∧ a < 7000) (hb : 0 < b ∧ b < 240) (hg : 0 ≤ g - o + a ∧ g - o + a < 160000) : (if ¬ i3 a = 0 then zLet ((((i3 g - i3 o + i3 a) * i3 b) + i3 a - 1) / i3 a) fun x11 => if ¬ i3 b = 0 then if ((i3 a * x11) / i3 b) = (i3 g - i3 o + i3 a) then some (1 : Int32) else some 0 else none else none) = some (b3 (decide (a * (((g - o + a) * b + a - 1) / a) / b = g - o + a))) := by
  have hz : ∀ x : Int, 0 < x → x < 7000 → ¬ i3 x = 0 := fun x h1 h2 h => by
    rw [show (0 : Int32) = i3 0 from rfl, i3_eq ⟨by omega, by omega⟩ ⟨by decide, by decide⟩] at h
    omega
  rw [if_pos (hz a ha.1 ha.2), zLet_q, if_pos (hz b hb.1 (by omega)), i3_sub, i3_add]
  have hm : 0 ≤ (g - o + a) * b ∧ (g - o + a) * b ≤ 160000 * 240 := ⟨Int.mul_nonneg hg.1 (by omega), Int.le_trans (Int.mul_le_mul_of_nonneg_right (by omega) (by omega)) (Int.mul_le_mul_of_nonneg_left (by omega) (by omega))⟩
  rw [i3_mul, i3_add, show (1 : Int32) = i3 1 from rfl, i3_sub, i3_div ⟨by omega, by omega⟩ ⟨by omega, by omega⟩]
  generalize hq : ((g - o + a) * b + a - 1) / a = q
  have hq0 : 0 ≤ q := by rw [← hq]; exact Int.ediv_nonneg (by omega) (by omega)
  have hqa : a * q ≤ (g - o + a) * b + a - 1 := by rw [← hq]; exact Int.mul_ediv_self_le (by omega)
  have hqn : 0 ≤ a * q := Int.mul_nonneg (by omega) hq0
  have hd : a * q / b ≤ a * q := Int.ediv_le_self _ hqn
  have hd0 : 0 ≤ a * q / b := Int.ediv_nonneg hqn (by omega)
  rw [i3_mul, i3_div ⟨by omega, by omega⟩ ⟨by omega, by omega⟩, it_eq ⟨by omega, by omega⟩ ⟨by omega, by omega⟩]
  by_cases c : a * q / b = g - o + a
  · rw [if_pos c, decide_eq_true c]
    rfl
  · rw [if_neg c, decide_eq_false c]
    rfl
theorem law_isNew {g : Int} {t : Nat} (hg : -40 ≤ g ∧ g < 150000) (ht : t < 2) (m : Mm) : f_Law_isNew (i3 g) (i3 t) m = some (b3 (isN g t)) := by
  unfold f_Law_isNew isN
  by_cases c : t = 0
  · subst c
    have e0 : i3 ((0 : Nat) : Int) = 0 := rfl
    rw [if_pos rfl]
    simp only [zLet_q, if_pos e0]
    have h := isN_tx (a := 945) (b := 32) (o := 5) (g := g) ⟨by decide, by decide⟩ ⟨by decide, by decide⟩ ⟨by omega, by omega⟩
    rw [zLet_q] at h
    refine h.trans ?_
    rw [show g - 5 + 945 = g + 940 by omega, show (g + 940) * 32 + 945 - 1 = (g + 940) * 32 + 944 by omega]
  · have e0 : ¬ i3 (t : Int) = 0 := by
      rw [show (0 : Int32) = i3 0 from rfl, i3_eq ⟨by omega, by omega⟩ ⟨by decide, by decide⟩]
      omega
    rw [if_neg c]
    simp only [zLet_q, if_neg e0]
    have h := isN_tx (a := 6940) (b := 235) (o := 6) (g := g) ⟨by decide, by decide⟩ ⟨by decide, by decide⟩ ⟨by omega, by omega⟩
    rw [zLet_q] at h
    refine h.trans ?_
    rw [show g - 6 + 6940 = g + 6934 by omega, show (g + 6934) * 235 + 6940 - 1 = (g + 6934) * 235 + 6939 by omega]
theorem sMoon_st (k : Int) (t : Nat) : sMoon k t + 29 ≤ sMoon (k + 1) t ∧ sMoon (k + 1) t ≤ sMoon k t + 30 := by
  unfold sMoon
  split <;> omega
theorem sMoon_mono {j k : Int} {t : Nat} (h : j ≤ k) : sMoon j t ≤ sMoon k t := by
  unfold sMoon
  split <;> omega
/-- the age of a day whose moon is known -/
theorem age_at {k g : Int} {t : Nat} (h : 0 ≤ g ∧ g < 200000) (h1 : sMoon k t ≤ g) (h2 : g < sMoon (k + 1) t) : sLast g t = k := by
  have h3 := sMoon_le (t := t) h
  by_cases c : sLast g t < k
  · have := sMoon_mono (t := t) (show sLast g t + 1 ≤ k by omega)
    omega
  · by_cases c2 : k < sLast g t
    · have := sMoon_mono (t := t) (show k + 1 ≤ sLast g t by omega)
      omega
    · omega
theorem sAge_bd {g : Int} {t : Nat} (h : 0 ≤ g ∧ g < 200000) : 0 ≤ sAge g t ∧ sAge g t < 30 := by
  have h3 := sMoon_le (t := t) h
  have h4 := sMoon_st (sLast g t) t
  unfold sAge
  omega
theorem law_age {g : Int} {t : Nat} (hg : 0 ≤ g ∧ g < 150000) (ht : t < 2) (m : Mm) : f_Law_age (i3 g) (i3 t) m = some (i3 (sAge g t)) := by
  have hb := sAge_bd (g := g) (t := t) ⟨by omega, by omega⟩
  have h3 := sMoon_le (g := g) (t := t) ⟨by omega, by omega⟩
  rw [e_Law_age]
  refine run_zLq1 (fun j x0 => ∃ n : Nat, (n : Int) ≤ sAge g t ∧ j = (sAge g t - n).toNat ∧ x0 = i3 n) ?_ zFu (sAge g t).toNat 0 ⟨0, by omega, by omega, rfl⟩ (by unfold zFu; omega)
  rintro r j _ ⟨n, hn, rfl, rfl⟩
  have hA : sAge g t = g - sMoon (sLast g t) t := rfl
  unfold l_Law_age_0
  rw [i3_sub, law_isNew ⟨by omega, by omega⟩ ht, zBP_some]
  by_cases c : (n : Int) = sAge g t
  · left
    rw [c, show g - sAge g t = sMoon (sLast g t) t by unfold sAge; omega, isN_yes, if_neg (by decide)]
  · right
    refine ⟨i3 ((n + 1 : Nat) : Int), (sAge g t - ((n + 1 : Nat) : Int)).toNat, by omega, ⟨n + 1, by omega, rfl, rfl⟩, ?_⟩
    rw [isN_no (k := sLast g t) (by omega) (by omega), if_pos (by decide), zLet_q, i3_add1]
    rfl
/-! walking from day to day -/
theorem wd_loop {y : Nat} (hy : y < 400) {b g w op : Int} (hb : b = 1 ∨ b = -1) (n : Nat) (hn : n ≤ 6) (hg : -1 ≤ g ∧ g < 150000) (hw : 0 ≤ w ∧ w ≤ 6) (hop : 2 ≤ op ∧ op ≤ 5) (h : (g + b * n + 13) % 7 = w) (hlt : ∀ i : Nat, i < n → (g + b * i + 13) % 7 ≠ w) (T : Int32) (m : Mm) :
    zLq1 (l_Law_walk_0 (i3 y) m (i3 b) (i3 op) T (i3 w)) zFu (i3 g) = some (i3 (sTo y (g + b * n - sFirst y))) := by
  have hF := sFirst_bd hy
  refine run_zLq1 (fun j x0 => ∃ i : Nat, i ≤ n ∧ j = n - i ∧ x0 = i3 (g + b * i)) ?_ zFu n _ ⟨0, Nat.zero_le _, rfl, by rw [show g + b * ((0 : Nat) : Int) = g by simp]⟩ (by unfold zFu; omega)
  rintro r j _ ⟨i, hi, rfl, rfl⟩
  have hbi : -6 ≤ b * i ∧ b * i ≤ 6 := by rcases hb with rfl | rfl <;> omega
  unfold l_Law_walk_0
  rw [zLet_q, zLet_q, show (6 : Int32) = i3 6 from rfl, it_le ⟨by decide, by decide⟩ ⟨by omega, by omega⟩, if_neg (by omega), show (13 : Int32) = i3 13 from rfl, show (7 : Int32) = i3 7 from rfl, i3_add, i3_mod ⟨by omega, by omega⟩ ⟨by decide, by decide⟩, it_eq ⟨by omega, by omega⟩ ⟨by omega, by omega⟩]
  by_cases c : i = n
  · left
    rw [c, if_pos h, law_great (by omega), zBP_some, i3_sub, law_in hy (by subst c; omega), zBP_some]
  · right
    refine ⟨i3 (g + b * ((i + 1 : Nat) : Int)), n - (i + 1), by omega, ⟨i + 1, by omega, rfl, rfl⟩, ?_⟩
    rw [if_neg (hlt i (by omega)), zLet_q, i3_add]
    congr 2
    rw [show (((i + 1 : Nat) : Int)) = (i : Int) + 1 by omega, Int.mul_add, Int.mul_one]
    omega
theorem mo_loop {y t : Nat} (hy : y < 400) (ht : t < 2) {g a op : Int} (hop : (op = 6 ∧ a = 14) ∨ (op = 7 ∧ a = 0)) (hg : 0 ≤ g ∧ g < 147000) (w : Int32) (m : Mm) :
    zLq1 (l_Law_walk_0 (i3 y) m 1 (i3 op) (i3 t) w) zFu (i3 g) = some (i3 (sTo y (sMon g a t - sFirst y))) := by
  have hF := sFirst_bd hy
  have h3 := sMoon_le (g := g) (t := t) ⟨by omega, by omega⟩
  have s1 := sMoon_st (sLast g t) t
  have s2 := sMoon_st (sLast g t + 1) t
  have hM : ∃ n : Nat, n ≤ 60 ∧ sMon g a t = g + n ∧ sAge (g + n) t = a ∧ ∀ i : Nat, i < n → sAge (g + i) t ≠ a := by
    by_cases c : g ≤ sMoon (sLast g t) t + a
    · refine ⟨(sMoon (sLast g t) t + a - g).toNat, by omega, by unfold sMon; rw [if_pos c]; omega, ?_, fun i hi => ?_⟩
      · have e := age_at (k := sLast g t) (g := g + ((sMoon (sLast g t) t + a - g).toNat : Int)) (t := t) ⟨by omega, by omega⟩ (by omega) (by omega)
        unfold sAge
        rw [e]
        omega
      · have e := age_at (k := sLast g t) (g := g + (i : Int)) (t := t) ⟨by omega, by omega⟩ (by omega) (by omega)
        unfold sAge
        rw [e]
        omega
    · refine ⟨(sMoon (sLast g t + 1) t + a - g).toNat, by omega, by unfold sMon; rw [if_neg c]; omega, ?_, fun i hi => ?_⟩
      · have e := age_at (k := sLast g t + 1) (g := g + ((sMoon (sLast g t + 1) t + a - g).toNat : Int)) (t := t) ⟨by omega, by omega⟩ (by omega) (by omega)
        unfold sAge
        rw [e]
        omega
      · by_cases c2 : g + (i : Int) < sMoon (sLast g t + 1) t
        · have e := age_at (k := sLast g t) (g := g + (i : Int)) (t := t) ⟨by omega, by omega⟩ (by omega) (by omega)
          unfold sAge
          rw [e]
          omega
        · have e := age_at (k := sLast g t + 1) (g := g + (i : Int)) (t := t) ⟨by omega, by omega⟩ (by omega) (by omega)
          unfold sAge
          rw [e]
          omega
  obtain ⟨n, hn, e1, e2, e3⟩ := hM
  rw [e1]
  refine run_zLq1 (fun j x0 => ∃ i : Nat, i ≤ n ∧ j = n - i ∧ x0 = i3 (g + i)) ?_ zFu n _ ⟨0, Nat.zero_le _, rfl, by rw [show g + ((0 : Nat) : Int) = g by simp]⟩ (by unfold zFu; omega)
  rintro r j _ ⟨i, hi, rfl, rfl⟩
  have hb := sAge_bd (g := g + i) (t := t) ⟨by omega, by omega⟩
  unfold l_Law_walk_0
  rw [zLet_q, zLet_q, show (6 : Int32) = i3 6 from rfl, it_le ⟨by decide, by decide⟩ ⟨by omega, by omega⟩, if_pos (by omega), law_age ⟨by omega, by omega⟩ ht, zBP_some, zLet_q]
  dsimp only
  rw [it_eq ⟨by omega, by omega⟩ ⟨by decide, by decide⟩, show (14 : Int32) = i3 14 from rfl, show (0 : Int32) = i3 0 from rfl, it_eq ⟨by omega, by omega⟩ ⟨by decide, by decide⟩, it_eq ⟨by omega, by omega⟩ ⟨by decide, by decide⟩]
  have ea : ∀ {α : Type} {x z : α}, (if op = 6 then (if sAge (g + i) t = 14 then x else z) else (if sAge (g + i) t = 0 then x else z)) = if sAge (g + i) t = a then x else z := by
    intro α x z
    rcases hop with ⟨rfl, rfl⟩ | ⟨rfl, rfl⟩
    · rw [if_pos rfl]
    · rw [if_neg (by decide)]
  rw [ea]
  by_cases c : i = n
  · left
    subst c
    rw [if_pos e2, law_great (by omega), zBP_some, i3_sub, law_in hy (by omega), zBP_some]
  · right
    refine ⟨i3 (g + ((i + 1 : Nat) : Int)), n - (i + 1), by omega, ⟨i + 1, by omega, rfl, rfl⟩, ?_⟩
    rw [if_neg (e3 i (by omega)), zLet_q, i3_add1]
    congr 2
    omega
/-- a step as the law keeps it, in the class's kinds -/
def wK (s : Int) : Int := if s / 1000 = 1 then 5 else s / 1000 + 4
def wV (s : Int) : Int := if s / 1000 = 1 then 4600 + s % 1000 else s % 1000
def vS (s : Int) : Prop := s = 0 ∨ (1034 ≤ s ∧ s ≤ 1766) ∨ ((2 ≤ s / 1000 ∧ s / 1000 ≤ 5) ∧ s % 1000 ≤ 6) ∨ s = 6000 ∨ s = 7000 ∨ s = 8000
def sStp (y t : Nat) (s d : Int) : Int := if d = -1 then -1 else if s / 1000 = 0 then d else sMove y t (wK s) (wV s) d
theorem vS.bd {s : Int} (h : vS s) : 0 ≤ s ∧ s ≤ 8000 := by
  unfold vS at h
  omega
theorem sStp_bd (y t : Nat) {s d : Int} (hd : -1 ≤ d ∧ d < sLen y) : -1 ≤ sStp y t s d ∧ sStp y t s d < sLen y := by
  unfold sStp
  split
  · omega
  · split
    · exact hd
    · exact sMove_bd _ _ _ _ _
theorem law_walk {y t : Nat} (hy : y < 400) (ht : t < 2) {s d : Int} (hs : vS s) (hd : -1 ≤ d ∧ d < sLen y) (m : Mm) : f_Law_walk (i3 y) (i3 t) (i3 d) (i3 s) m = some (i3 (sStp y t s d)) := by
  have hL := sLen_bd y
  have hF := sFirst_bd hy
  have hb := hs.bd
  rw [e_Law_walk]
  have q1 : (i3 s : Int32) / 1000 = i3 (s / 1000) := by rw [show (1000 : Int32) = i3 1000 from rfl, i3_div ⟨by omega, by omega⟩ ⟨by decide, by decide⟩]
  have q2 : (i3 s : Int32) % 1000 = i3 (s % 1000) := by rw [show (1000 : Int32) = i3 1000 from rfl, i3_mod ⟨by omega, by omega⟩ ⟨by decide, by decide⟩]
  have en : ∀ (k : Int), 0 ≤ k ∧ k ≤ 8 → (i3 (s / 1000) = i3 k ↔ s / 1000 = k) := fun k hk => i3_eq ⟨by omega, by omega⟩ ⟨by omega, by omega⟩
  rw [zLet_q, zLet_q, q1, q2, show (0 : Int32) = i3 0 from rfl, it_lt ⟨by omega, by omega⟩ ⟨by decide, by decide⟩]
  unfold sStp
  by_cases c0 : d = -1
  · rw [if_pos (by omega), if_pos c0]
    rfl
  rw [if_neg (by omega), if_neg c0, show (8 : Int32) = i3 8 from rfl, show (1 : Int32) = i3 1 from rfl, show (2 : Int32) = i3 2 from rfl, show (3 : Int32) = i3 3 from rfl, show (5 : Int32) = i3 5 from rfl]
  simp only [en 8 (by decide), en 0 (by decide), en 1 (by decide), en 2 (by decide), en 3 (by decide), en 5 (by decide)]
  by_cases c8 : s / 1000 = 8
  · rw [if_pos c8, if_neg (by omega)]
    unfold sMove wK
    rw [c8]
    rfl
  rw [if_neg c8]
  by_cases c1 : s / 1000 = 0
  · rw [if_pos c1, if_pos c1]
  rw [if_neg c1, if_neg c1]
  by_cases c2 : s / 1000 = 1
  · rw [if_pos c2, show (400 : Int32) = i3 400 from rfl, i3_add, i3_sub, law_in hy ⟨by omega, by omega⟩, zBP_some]
    unfold sMove wK wV sLater
    rw [if_pos c2, if_pos c2, if_pos rfl, if_neg c0, show d + (4600 + s % 1000 - 5000) = d + s % 1000 - 400 by omega]
  rw [if_neg c2, law_great (by omega), zBP_some, zLet_q, zLet_q, zLet_q, i3_add, i3_neg]
  simp only [zLet_q]
  have eV : wV s = s % 1000 := if_neg c2
  have eK : wK s = s / 1000 + 4 := if_neg c2
  rw [eV, eK]
  unfold vS at hs
  have hc : s / 1000 = 2 ∨ s / 1000 = 3 ∨ s / 1000 = 4 ∨ s / 1000 = 5 ∨ s / 1000 = 6 ∨ s / 1000 = 7 := by omega
  have hw : s / 1000 ≤ 5 → 0 ≤ s % 1000 ∧ s % 1000 ≤ 6 := fun h => by omega
  have hsd : ∀ x : Int, sWd y x = ((sFirst y : Int) + 6 + x) % 7 := fun x => rfl
  have ne : ∀ a b : Int, a ≠ b → ¬ a = b := fun _ _ h => h
  rcases hc with c | c | c | c | c | c
  · have hw := hw (by omega)
    rw [c, if_neg (by decide), if_neg (by decide), if_pos rfl, i3_add]
    have h := wd_loop (y := y) hy (b := 1) (g := (sFirst y : Int) + d + 1) (w := s % 1000) (op := 2) (Or.inl rfl) ((s % 1000 - sWd y (d + 1)) % 7).toNat (by omega) ⟨by omega, by omega⟩ hw ⟨by decide, by decide⟩ (by rw [hsd]; omega) (fun i hi => by rw [hsd] at hi; omega) (i3 t) m
    refine h.trans ?_
    unfold sMove sLater
    rw [if_neg (by decide), if_pos (by decide), if_neg c0]
    congr 3
    omega
  · have hw := hw (by omega)
    rw [c, if_pos rfl, if_neg (by decide), if_pos rfl, i3_add]
    have h := wd_loop (y := y) hy (b := -1) (g := (sFirst y : Int) + d + -1) (w := s % 1000) (op := 3) (Or.inr rfl) ((sWd y (d - 1) - s % 1000) % 7).toNat (by omega) ⟨by omega, by omega⟩ hw ⟨by decide, by decide⟩ (by rw [hsd]; omega) (fun i hi => by rw [hsd] at hi; omega) (i3 t) m
    refine h.trans ?_
    unfold sMove sLater
    rw [if_neg (by decide), if_neg (by decide), if_pos (by decide), if_neg c0]
    congr 3
    omega
  · have hw := hw (by omega)
    rw [c, if_neg (by decide), if_neg (by decide), if_neg (by decide), if_neg (by decide)]
    have h := wd_loop (y := y) hy (b := 1) (g := (sFirst y : Int) + d) (w := s % 1000) (op := 4) (Or.inl rfl) ((s % 1000 - sWd y d) % 7).toNat (by omega) ⟨by omega, by omega⟩ hw ⟨by decide, by decide⟩ (by rw [hsd]; omega) (fun i hi => by rw [hsd] at hi; omega) (i3 t) m
    refine h.trans ?_
    unfold sMove sLater
    rw [if_neg (by decide), if_neg (by decide), if_neg (by decide), if_pos (by decide), if_neg c0]
    congr 3
    omega
  · have hw := hw (by omega)
    rw [c, if_neg (by decide), if_pos rfl, if_neg (by decide), if_neg (by decide)]
    have h := wd_loop (y := y) hy (b := -1) (g := (sFirst y : Int) + d) (w := s % 1000) (op := 5) (Or.inr rfl) ((sWd y d - s % 1000) % 7).toNat (by omega) ⟨by omega, by omega⟩ hw ⟨by decide, by decide⟩ (by rw [hsd]; omega) (fun i hi => by rw [hsd] at hi; omega) (i3 t) m
    refine h.trans ?_
    unfold sMove sLater
    rw [if_neg (by decide), if_neg (by decide), if_neg (by decide), if_neg (by decide), if_pos (by decide), if_neg c0]
    congr 3
    omega
  · rw [c, if_neg (by decide), if_neg (by decide), if_neg (by decide), if_neg (by decide)]
    have h := mo_loop (y := y) hy ht (g := (sFirst y : Int) + d) (a := 14) (op := 6) (Or.inl ⟨rfl, rfl⟩) ⟨by omega, by omega⟩ (i3 (s % 1000)) m
    refine h.trans ?_
    unfold sMove
    rw [if_neg (by decide), if_neg (by decide), if_neg (by decide), if_neg (by decide), if_neg (by decide), if_pos (by decide), if_neg c0]
  · rw [c, if_neg (by decide), if_neg (by decide), if_neg (by decide), if_neg (by decide)]
    have h := mo_loop (y := y) hy ht (g := (sFirst y : Int) + d) (a := 0) (op := 7) (Or.inr ⟨rfl, rfl⟩) ⟨by omega, by omega⟩ (i3 (s % 1000)) m
    refine h.trans ?_
    unfold sMove
    rw [if_neg (by decide), if_neg (by decide), if_neg (by decide), if_neg (by decide), if_neg (by decide), if_neg (by decide), if_pos (by decide), if_neg c0]
