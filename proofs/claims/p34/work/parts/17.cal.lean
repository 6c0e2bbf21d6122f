/-! THE CALENDAR as numbers; both sides' methods answer by it -/
def mZ : Mm := (fun _ _ => 0, fun _ _ => 0, fun _ _ => 0, 0)
def sLeap (y : Nat) : Bool := decide (y % 4 = 0) && (decide (y % 100 ≠ 0) || decide (y % 400 = 0))
def sLenB (b : Bool) : Nat := if b then 366 else 365
def sLen (y : Nat) : Nat := sLenB (sLeap y)
def sFirst (y : Nat) : Nat := 365 * y + (y + 3) / 4 - (y + 99) / 100 + (y + 399) / 400
def sMsL : List Nat := [0, 31, 59, 90, 120, 151, 181, 212, 243, 273, 304, 334, 365]
def sMs (b : Bool) (k : Nat) : Nat := sMsL.getD (k - 1) 0 + (if b && decide (2 < k) then 1 else 0)
def sMo (b : Bool) (d : Nat) : Nat := ((List.range 12).filter fun k => decide (sMs b (k + 1) ≤ d)).length
def sDt (b : Bool) (d : Nat) : Nat := 100 * sMo b d + (d - sMs b (sMo b d)) + 1
def rep (b : Bool) : Int32 := if b then 0 else 1
theorem sLen_bd (y : Nat) : 365 ≤ sLen y ∧ sLen y ≤ 366 := by unfold sLen sLenB; split <;> omega
theorem sFirst_bd {y : Nat} (h : y < 400) : sFirst y ≤ 146000 := by unfold sFirst; omega
theorem i3_litN (n : Nat) : (i3 n) = Int32.ofNat n := Int32.ofInt_eq_ofNat
theorem cal_leap {y : Nat} (h : y < 400) (m : Mm) : f_Cal_isLeap (i3 y) m = some (b3 (sLeap y)) := by
  have q : ∀ y, y < 400 → f_Cal_isLeap (i3 ((y : Nat) : Int)) mZ = some (b3 (sLeap y)) := by decide +kernel
  exact (show f_Cal_isLeap (i3 y) m = f_Cal_isLeap (i3 y) mZ from rfl).trans (q y h)
theorem mod_leap {y : Nat} (h : y < 400) (m : Mm) : f_Mod_isLeap (i3 y) m = some (b3 (sLeap y)) := by
  have q : ∀ y, y < 400 → f_Mod_isLeap (i3 ((y : Nat) : Int)) mZ = some (b3 (sLeap y)) := by decide +kernel
  exact (show f_Mod_isLeap (i3 y) m = f_Mod_isLeap (i3 y) mZ from rfl).trans (q y h)
theorem cal_rep (b : Bool) : f_Cal_isLeap (rep b) mZ = some (b3 b) := by cases b <;> decide +kernel
theorem mod_rep (b : Bool) : f_Mod_isLeap (rep b) mZ = some (b3 b) := by cases b <;> decide +kernel
theorem cal_len {y : Nat} (h : y < 400) (m : Mm) : f_Cal_lengthOf (i3 y) m = some (i3 (sLen y)) := by
  have q : ∀ y, y < 400 → f_Cal_lengthOf (i3 ((y : Nat) : Int)) mZ = some (i3 (sLen y)) := by decide +kernel
  exact (show f_Cal_lengthOf (i3 y) m = f_Cal_lengthOf (i3 y) mZ from rfl).trans (q y h)
theorem mod_len {y : Nat} (h : y < 400) (m : Mm) : f_Mod_lengthOf (i3 y) m = some (i3 (sLen y)) := by
  have q : ∀ y, y < 400 → f_Mod_lengthOf (i3 ((y : Nat) : Int)) mZ = some (i3 (sLen y)) := by decide +kernel
  exact (show f_Mod_lengthOf (i3 y) m = f_Mod_lengthOf (i3 y) mZ from rfl).trans (q y h)
theorem cal_first {y : Nat} (h : y < 400) (m : Mm) : f_Cal_firstDayOf (i3 y) m = some (i3 (sFirst y)) := by
  have q : ∀ y, y < 400 → f_Cal_firstDayOf (i3 ((y : Nat) : Int)) mZ = some (i3 (sFirst y)) := by decide +kernel
  exact (show f_Cal_firstDayOf (i3 y) m = f_Cal_firstDayOf (i3 y) mZ from rfl).trans (q y h)
theorem mod_begin {y : Nat} (h : y < 400) (m : Mm) : f_Mod_beginOf (i3 y) m = some (i3 (sFirst y)) := by
  have q : ∀ y, y < 400 → f_Mod_beginOf (i3 ((y : Nat) : Int)) mZ = some (i3 (sFirst y)) := by decide +kernel
  exact (show f_Mod_beginOf (i3 y) m = f_Mod_beginOf (i3 y) mZ from rfl).trans (q y h)
theorem cal_ms (b : Bool) {k : Nat} (h1 : 1 ≤ k) (h2 : k < 14) (m : Mm) : f_Cal_monthStart (b3 b) (i3 k) m = some (i3 (sMs b k)) := by
  have q : ∀ b : Bool, ∀ k, k < 14 → 1 ≤ k → f_Cal_monthStart (b3 b) (i3 ((k : Nat) : Int)) mZ = some (i3 (sMs b k)) := by decide +kernel
  exact (show f_Cal_monthStart (b3 b) (i3 k) m = f_Cal_monthStart (b3 b) (i3 k) mZ from rfl).trans (q b k h2 h1)
theorem mod_mlen (b : Bool) {k : Nat} (h1 : 1 ≤ k) (h2 : k < 13) (m : Mm) : f_Mod_lengthOfMonth (i3 k) (b3 b) m = some (i3 (sMs b (k + 1) - sMs b k : Nat)) := by
  have q : ∀ b : Bool, ∀ k, k < 13 → 1 ≤ k → f_Mod_lengthOfMonth (i3 ((k : Nat) : Int)) (b3 b) mZ = some (i3 ((sMs b (k + 1) - sMs b k : Nat) : Int)) := by decide +kernel
  exact (show f_Mod_lengthOfMonth (i3 k) (b3 b) m = f_Mod_lengthOfMonth (i3 k) (b3 b) mZ from rfl).trans (q b k h2 h1)
theorem mod_ms {y : Nat} (h : y < 400) {k : Nat} (h1 : 1 ≤ k) (h2 : k < 14) (m : Mm) : f_Mod_beginOfMonth (i3 y) (i3 k) m = some (i3 (sMs (sLeap y) k)) := by
  have q : ∀ b : Bool, ∀ k, k < 14 → 1 ≤ k → f_Mod_beginOfMonth (rep b) (i3 ((k : Nat) : Int)) mZ = some (i3 (sMs b k)) := by decide +kernel
  have e : f_Mod_beginOfMonth (i3 y) (i3 k) mZ = f_Mod_beginOfMonth (rep (sLeap y)) (i3 k) mZ := by
    unfold f_Mod_beginOfMonth
    simp only [mod_leap h, mod_rep]
  exact (show f_Mod_beginOfMonth (i3 y) (i3 k) m = f_Mod_beginOfMonth (i3 y) (i3 k) mZ from rfl).trans (e.trans (q _ k h2 h1))
theorem cal_date {y : Nat} (h : y < 400) {d : Nat} (hd : d < 366) (m : Mm) : f_Cal_dateOf (i3 y) (i3 d) m = some (if d < sLen y then i3 (sDt (sLeap y) d) else i3 (-1)) := by
  have q : ∀ b : Bool, ∀ d, d < 366 → f_Cal_dateOf (rep b) (i3 ((d : Nat) : Int)) mZ = some (if d < sLenB b then i3 (sDt b d) else i3 (-1)) := by decide +kernel
  have e : f_Cal_dateOf (i3 y) (i3 d) mZ = f_Cal_dateOf (rep (sLeap y)) (i3 d) mZ := by
    unfold f_Cal_dateOf
    simp only [cal_leap h, cal_rep]
  exact (show f_Cal_dateOf (i3 y) (i3 d) m = f_Cal_dateOf (i3 y) (i3 d) mZ from rfl).trans (e.trans (q _ d hd))
theorem mod_date {y : Nat} (h : y < 400) {d : Nat} (hd : d < sLen y) (m : Mm) : f_Mod_dateOf (i3 y) (i3 d) m = some (i3 (sDt (sLeap y) d)) := by
  have q : ∀ b : Bool, ∀ d, d < 366 → d < sLenB b → f_Mod_dateOf (rep b) (i3 ((d : Nat) : Int)) mZ = some (i3 (sDt b d)) := by decide +kernel
  have e : f_Mod_dateOf (i3 y) (i3 d) mZ = f_Mod_dateOf (rep (sLeap y)) (i3 d) mZ := by
    unfold f_Mod_dateOf
    simp only [mod_leap h, mod_rep]
  exact (show f_Mod_dateOf (i3 y) (i3 d) m = f_Mod_dateOf (i3 y) (i3 d) mZ from rfl).trans (e.trans (q _ d (Nat.lt_of_lt_of_le hd (sLen_bd y).2) hd))
theorem sMo_ok : ∀ b : Bool, ∀ d, d < 366 → d < sLenB b → 1 ≤ sMo b d ∧ sMo b d ≤ 12 ∧ sMs b (sMo b d) ≤ d ∧ d < sMs b (sMo b d + 1) := by decide +kernel
theorem sMs_mono : ∀ b : Bool, ∀ i, i < 14 → ∀ j, j < 14 → 1 ≤ i → i ≤ j → sMs b i ≤ sMs b j := by decide +kernel
theorem sMs_bd : ∀ b : Bool, ∀ i, i < 14 → sMs b i ≤ 366 := by decide +kernel
theorem sMs_13 (b : Bool) : sMs b 13 = sLenB b := by cases b <;> decide
theorem sMs_step : ∀ b : Bool, ∀ i, i < 13 → 1 ≤ i → sMs b i + 28 ≤ sMs b (i + 1) ∧ sMs b (i + 1) ≤ sMs b i + 31 ∧ sMs b (i + 1) ≤ sMs b i + (sMs true (i + 1) - sMs true i) := by decide +kernel
theorem sMs_tr : ∀ b : Bool, ∀ i, i < 13 → 1 ≤ i → sMs true (i + 1) - sMs true i ≤ sMs b (i + 1) - sMs b i + 1 := by decide +kernel
theorem sDt_bd {b : Bool} {d : Nat} (h : d < sLenB b) : sDt b d ≤ 1400 := by
  have h6 : d < 366 := Nat.lt_of_lt_of_le h (by unfold sLenB; split <;> omega)
  have := sMo_ok b d h6 h
  unfold sDt
  have := sMs_step b (sMo b d) (by omega) (by omega)
  omega
/-- ahead of a date, by month and day -/
theorem sDt_lt {b : Bool} {d k dd : Nat} (h : d < sLenB b) (h1 : 1 ≤ k) (h2 : k ≤ 12) (h3 : 1 ≤ dd) (h4 : dd ≤ sMs true (k + 1) - sMs true k) : sDt b d < 100 * k + dd ↔ d + 1 < sMs b k + dd := by
  have h6 : d < 366 := Nat.lt_of_lt_of_le h (by unfold sLenB; split <;> omega)
  obtain ⟨a1, a2, a3, a4⟩ := sMo_ok b d h6 h
  have s1 := sMs_step b (sMo b d) (by omega) a1
  have s2 := sMs_step b k (by omega) h1
  have s3 := sMs_step true k (by omega) h1
  unfold sDt
  by_cases e1 : sMo b d < k
  · have := sMs_mono b (sMo b d + 1) (by omega) k (by omega) (by omega) (by omega)
    omega
  · by_cases e2 : sMo b d = k
    · rw [e2] at a3 a4 ⊢
      omega
    · have := sMs_mono b (k + 1) (by omega) (sMo b d) (by omega) (by omega) (by omega)
      have s4 := sMs_tr b k (by omega) h1
      omega
/-! moons -/
theorem xor_sgn {x y : Int32} (hy : 0 ≤ y.toInt) : (0 ≤ x ^^^ y) ↔ 0 ≤ x.toInt := by
  rw [Int32.le_iff_toInt_le, show (0 : Int32).toInt = 0 from by decide]
  have h1 : (x ^^^ y).toInt = (x.toBitVec ^^^ y.toBitVec).toInt := by
    rw [← Int32.toBitVec_xor]; rfl
  have h2 : ∀ v : BitVec 32, 0 ≤ v.toInt ↔ v.msb = false := by
    intro v
    rw [BitVec.msb_eq_toInt]
    simp
  have h3 : y.toBitVec.msb = false := (h2 _).mp hy
  rw [h1, h2, BitVec.msb_xor, h3, Bool.xor_false]
  exact (h2 x.toBitVec).symm
theorem i3_tmod {a b : Int} (ha : -2147483648 < a ∧ a < 2147483648) (hb : 0 < b ∧ b < 2147483648) : i3 a % i3 b = i3 (a.tmod b) := by
  apply Int32.toInt_inj.mp
  have h2 := Int.tmod_lt_of_pos a hb.1
  have h3 := Int.lt_tmod_of_pos a hb.1
  rw [Int32.toInt_mod, i3_ti ⟨by omega, ha.2⟩, i3_ti ⟨by omega, hb.2⟩, i3_ti ⟨by omega, by omega⟩]
theorem mat_fdiv {a b : Int} (ha : -2147483647 ≤ a ∧ a < 2147483648) (hb : 0 < b ∧ b < 2147483648) (m : Mm) : f_Mat_floorDiv (i3 a) (i3 b) m = some (i3 (a / b)) := by
  unfold f_Mat_floorDiv
  simp only [zLet]
  have hz : ¬ i3 b = 0 := by rw [i3_z, i3_eq ⟨by omega, hb.2⟩ ⟨by decide, by decide⟩]; omega
  rw [if_pos hz]
  have hx : (0 ≤ i3 a ^^^ i3 b) ↔ 0 ≤ a := by
    rw [xor_sgn (by rw [i3_ti ⟨by omega, hb.2⟩]; omega), i3_ti ⟨by omega, ha.2⟩]
  have hn : (a.tdiv b).natAbs ≤ a.natAbs := by rw [Int.natAbs_tdiv]; exact Nat.div_le_self _ _
  rw [i3_tdiv ⟨by omega, ha.2⟩ hb]
  by_cases h0 : 0 ≤ a
  · rw [if_pos (hx.mpr h0), Int.tdiv_eq_ediv_of_nonneg h0]
  · rw [if_neg (fun h => h0 (hx.mp h)), i3_mul]
    have hd := Int.tdiv_eq_ediv (a := a) (b := b)
    have hs : b.sign = 1 := Int.sign_eq_one_of_pos hb.1
    by_cases hdv : b ∣ a
    · rw [if_pos (Or.inr hdv)] at hd
      have e : a.tdiv b * b = a := Int.tdiv_mul_cancel hdv
      rw [e, if_pos rfl, hd, Int.add_zero]
    · rw [if_neg (fun h => h.elim h0 hdv), hs] at hd
      have hne : ¬ i3 (a.tdiv b * b) = i3 a := by
        intro h
        have h4 := Int.mul_tdiv_add_tmod a b
        have h5 := Int.tmod_lt_of_pos a hb.1
        have h6 := Int.lt_tmod_of_pos a hb.1
        have h7 : b * a.tdiv b = a.tdiv b * b := Int.mul_comm _ _
        have h8 : a.tmod b ≠ 0 := fun h9 => hdv (Int.dvd_of_tmod_eq_zero h9)
        have h9 : 0 ≤ (-a).tmod b := Int.tmod_nonneg b (by omega)
        rw [Int.neg_tmod] at h9
        rw [i3_eq ⟨by omega, by omega⟩ ⟨by omega, ha.2⟩] at h
        omega
      rw [if_neg hne, i3_o, i3_sub, hd]
      congr 2
      omega
theorem mat_fmod {a b : Int} (ha : -2147483647 ≤ a ∧ a < 2147483648) (hb : 0 < b ∧ b < 1073741824) (m : Mm) : f_Mat_floorMod (i3 a) (i3 b) m = some (i3 (a % b)) := by
  unfold f_Mat_floorMod
  simp only [zLet]
  have hz : ¬ i3 b = 0 := by rw [i3_z, i3_eq ⟨by omega, by omega⟩ ⟨by decide, by decide⟩]; omega
  rw [if_pos hz]
  have hx : (0 ≤ i3 a ^^^ i3 b) ↔ 0 ≤ a := by
    rw [xor_sgn (by rw [i3_ti ⟨by omega, by omega⟩]; omega), i3_ti ⟨by omega, ha.2⟩]
  have h5 := Int.tmod_lt_of_pos a hb.1
  have h6 := Int.lt_tmod_of_pos a hb.1
  rw [i3_tmod ⟨by omega, ha.2⟩ ⟨hb.1, by omega⟩]
  by_cases h0 : 0 ≤ a
  · rw [if_pos (hx.mpr h0), Int.tmod_eq_emod_of_nonneg h0]
  · rw [if_neg (fun h => h0 (hx.mp h)), i3_z, i3_add]
    have hd := Int.tmod_eq_emod (a := a) (b := b)
    have hn : ((b.natAbs : Nat) : Int) = b := by omega
    by_cases hdv : b ∣ a
    · rw [if_pos (Or.inr hdv)] at hd
      have e : a.tmod b = 0 := Int.tmod_eq_zero_of_dvd hdv
      rw [e, if_pos rfl]
      congr 2
      omega
    · rw [if_neg (fun h => h.elim h0 hdv), hn] at hd
      have h8 : a.tmod b ≠ 0 := fun h9 => hdv (Int.dvd_of_tmod_eq_zero h9)
      have hne : ¬ i3 (a.tmod b) = i3 0 := by
        rw [i3_eq ⟨by omega, by omega⟩ ⟨by decide, by decide⟩]
        exact h8
      rw [if_neg hne]
      congr 2
      omega
theorem mod_floor {a b : Int} (ha : -2147470000 ≤ a ∧ a < 2147483648) (hb : b = 32 ∨ b = 235 ∨ b = 945 ∨ b = 6940) (m : Mm) : f_Mod_floor (i3 a) (i3 b) m = some (i3 (a / b)) := by
  have hb2 : 0 < b ∧ b < 7000 := by rcases hb with rfl | rfl | rfl | rfl <;> decide
  unfold f_Mod_floor
  have hz : ¬ i3 b = 0 := by rw [i3_z, i3_eq ⟨by omega, by omega⟩ ⟨by decide, by decide⟩]; omega
  rw [if_pos hz, if_pos hz, i3_z, i3_o, it_lt ⟨by omega, ha.2⟩ ⟨by decide, by decide⟩]
  by_cases h0 : a < 0
  · rw [if_pos h0, i3_sub, i3_sub, i3_div ⟨by omega, by omega⟩ ⟨hb2.1, by omega⟩, i3_neg]
    congr 2
    rcases hb with rfl | rfl | rfl | rfl <;> omega
  · rw [if_neg h0, i3_div ⟨by omega, ha.2⟩ ⟨hb2.1, by omega⟩]
def sMoon (k : Int) (t : Nat) : Int := if t = 0 then 945 * k / 32 + 5 else 6940 * k / 235 + 6
def sLast (g : Int) (t : Nat) : Int := if t = 0 then (32 * (g - 4) - 1) / 945 else (235 * (g - 5) - 1) / 6940
theorem sLast_bd {g : Int} {t : Nat} (h : 0 ≤ g ∧ g < 200000) : -2 ≤ sLast g t ∧ sLast g t ≤ 7000 := by
  unfold sLast
  split <;> omega
theorem sMoon_bd {k : Int} {t : Nat} (h : -3 ≤ k ∧ k ≤ 7001) : -200 ≤ sMoon k t ∧ sMoon k t ≤ 300000 := by
  unfold sMoon
  split <;> omega
theorem sMoon_le {g : Int} {t : Nat} (h : 0 ≤ g ∧ g < 200000) : sMoon (sLast g t) t ≤ g ∧ g < sMoon (sLast g t + 1) t := by
  unfold sMoon sLast
  split <;> omega
theorem tb_0 {t : Nat} (ht : t < 2) : (i3 (t : Int) = i3 0) ↔ t = 0 := by
  rw [i3_eq ⟨by omega, by omega⟩ ⟨by decide, by decide⟩]; omega
theorem cal_last {g : Int} {t : Nat} (h : 0 ≤ g ∧ g < 200000) (ht : t < 2) (m : Mm) : f_Cal_lastMoon (i3 g) (i3 t) m = some (i3 (sLast g t)) := by
  unfold f_Cal_lastMoon zBP sLast
  simp only [i3_lit, i3_sub, i3_add, i3_mul, tb_0 ht]
  by_cases e : t = 0
  · rw [if_pos e, if_pos e, mat_fdiv ⟨by omega, by omega⟩ ⟨by decide, by decide⟩]
    simp only [ob_s]
    congr 2
    omega
  · rw [if_neg e, if_neg e, mat_fdiv ⟨by omega, by omega⟩ ⟨by decide, by decide⟩]
    simp only [ob_s]
    congr 2
    omega
theorem cal_new {k : Int} {t : Nat} (h : -3 ≤ k ∧ k ≤ 7001) (ht : t < 2) (m : Mm) : f_Cal_newMoon (i3 k) (i3 t) m = some (i3 (sMoon k t)) := by
  unfold f_Cal_newMoon zBP sMoon
  simp only [i3_lit, i3_sub, i3_mul, tb_0 ht]
  by_cases e : t = 0
  · rw [if_pos e, if_pos e, mat_fdiv ⟨by omega, by omega⟩ ⟨by decide, by decide⟩]
    simp only [ob_s, i3_add]
  · rw [if_neg e, if_neg e, mat_fdiv ⟨by omega, by omega⟩ ⟨by decide, by decide⟩]
    simp only [ob_s, i3_add]
theorem mod_last {g : Int} {t : Nat} (h : 0 ≤ g ∧ g < 200000) (ht : t < 2) (m : Mm) : f_Mod_lastMoon (i3 g) (i3 t) m = some (i3 (sLast g t)) := by
  unfold f_Mod_lastMoon zBP sLast
  simp only [i3_lit, i3_sub, i3_add, i3_mul, tb_0 ht]
  by_cases e : t = 0
  · rw [if_pos e, if_pos e, mod_floor ⟨by omega, by omega⟩ (by decide)]
    rfl
  · rw [if_neg e, if_neg e, mod_floor ⟨by omega, by omega⟩ (by decide)]
    rfl
theorem mod_moon {k : Int} {t : Nat} (h : -3 ≤ k ∧ k ≤ 7001) (ht : t < 2) (m : Mm) : f_Mod_moonOf (i3 k) (i3 t) m = some (i3 (sMoon k t)) := by
  unfold f_Mod_moonOf zBP sMoon
  simp only [i3_lit, i3_sub, i3_mul, tb_0 ht]
  by_cases e : t = 0
  · rw [if_pos e, if_pos e, mod_floor ⟨by omega, by omega⟩ (by decide)]
    simp only [ob_s, i3_add]
  · rw [if_neg e, if_neg e, mod_floor ⟨by omega, by omega⟩ (by decide)]
    simp only [ob_s, i3_add]
def sAge (g : Int) (t : Nat) : Int := g - sMoon (sLast g t) t
theorem cal_age {g : Int} {t : Nat} (h : 0 ≤ g ∧ g < 200000) (ht : t < 2) (m : Mm) : f_Cal_ageOf (i3 g) (i3 t) m = some (i3 (sAge g t)) := by
  have hb := sLast_bd (t := t) h
  unfold f_Cal_ageOf zBP
  simp only [cal_last h ht, ob_s, cal_new ⟨show -3 ≤ sLast g t by omega, by omega⟩ ht, i3_sub]
  rfl
theorem mod_age {g : Int} {t : Nat} (h : 0 ≤ g ∧ g < 200000) (ht : t < 2) (m : Mm) : f_Mod_ageOf (i3 g) (i3 t) m = some (i3 (sAge g t)) := by
  have hb := sLast_bd (t := t) h
  unfold f_Mod_ageOf zBP
  simp only [mod_last h ht, ob_s, mod_moon ⟨show -3 ≤ sLast g t by omega, by omega⟩ ht, i3_sub]
  rfl
/-- the first day that is not ahead, with that age -/
def sMon (g : Int) (a : Int) (t : Nat) : Int := if g ≤ sMoon (sLast g t) t + a then sMoon (sLast g t) t + a else sMoon (sLast g t + 1) t + a
theorem sMon_bd {g a : Int} {t : Nat} (h : 0 ≤ g ∧ g < 200000) (ha : 0 ≤ a ∧ a ≤ 30) : -200 ≤ sMon g a t ∧ sMon g a t ≤ 301000 := by
  have hb := sLast_bd (t := t) h
  have hc := sMoon_bd (k := sLast g t) (t := t) ⟨by omega, by omega⟩
  have hd := sMoon_bd (k := sLast g t + 1) (t := t) ⟨by omega, by omega⟩
  unfold sMon
  split <;> omega
