/-! QUESTIONS: what each claim says of a year -/
def sQ (y N : Nat) (b p : Nat → Int) (k x : Int) : Bool := if k = 21 then decide (clT b N N = 0) else if k = 22 then decide (p (x / 10000).toNat ≠ -1 ∧ (sDt (sLeap y) (p (x / 10000).toNat).toNat : Int) = x % 10000) else if k = 23 then decide (p (x / 10).toNat ≠ -1 ∧ sWd y (p (x / 10).toNat) = x % 10) else if k = 24 then decide (p x.toNat = -1) else decide (p (x / 100).toNat ≠ -1 ∧ p (x / 100).toNat < p (x % 100).toNat)
/-- the feasts that a claim names are there -/
def qNm (N : Nat) (k x : Int) : Prop := (k = 22 → x / 10000 < N) ∧ (k = 23 → x / 10 < N) ∧ (k = 24 → x < N) ∧ (k = 25 → x / 100 < N ∧ x % 100 < N)
section CLM
variable {m mm : Mm} {a y t N : Nat} {b p : Nat → Int}
theorem boo_placedDay {f : Nat} (hf : f < 20) (hP : zI m (a + 4) f = i3 (p f)) : f_Boo_placedDay a (i3 f) m = some (i3 (p f)) := by
  have hin : zIn (i3 (f : Int)) 20 := (i3_in ⟨by omega, by omega⟩).mpr ⟨by omega, by omega⟩
  have hix : zIx (i3 (f : Int)) = f := by rw [i3_ix ⟨by omega, by omega⟩, Int.toNat_natCast]
  unfold f_Boo_placedDay
  simp only [zLet]
  rw [it_lt0 ⟨by omega, by omega⟩, if_neg (by omega), show (20 : Int32) = i3 20 from rfl, it_le ⟨by decide, by decide⟩ ⟨by omega, by omega⟩, if_neg (by omega), if_pos hin, hix, hP]
theorem clI_bd {i : Nat} : ∀ k : Nat, 0 ≤ clI b i k ∧ clI b i k ≤ k := by
  intro k
  induction k with
  | zero => exact ⟨Int.le_refl 0, Int.le_refl 0⟩
  | succ k ih =>
    unfold clI
    split <;> omega
theorem clT_bd : ∀ n : Nat, 0 ≤ clT b N n ∧ clT b N n ≤ ((n * N : Nat) : Int) := by
  intro n
  induction n with
  | zero => exact ⟨Int.le_refl 0, by rw [Nat.zero_mul]; exact Int.le_refl 0⟩
  | succ n ih =>
    have h := clI_bd (b := b) (i := n) (N - (n + 1))
    unfold clT
    rw [Nat.succ_mul]
    omega
theorem clT_nn (h20 : N ≤ 20) : 0 ≤ clT b N N ∧ clT b N N ≤ 400 := by
  have h := clT_bd (b := b) (N := N) N
  have : N * N ≤ 20 * 20 := Nat.mul_le_mul h20 h20
  omega
theorem boo_claim (hy : y < 400) (h20 : N ≤ 20) (h25 : zI m 25 3 = i3 N) (h6 : zI m a 6 = i3 y) (hWk : 0 < N → Wk m (a + 1) y t)
    (hB : ∀ f, f < N → zI m (a + 2) f = i3 (b f) ∧ -1 ≤ b f ∧ b f < 400) (hP : ∀ f, f < N → zI m (a + 4) f = i3 (p f) ∧ -1 ≤ p f ∧ p f < sLen y) {k x : Int} (hk : qCl k x) (hn : qNm N k x) :
    ∃ m', f_Boo_claimHolds a (i3 k) (i3 x) m = some (b3 (sQ y N b p k x), m') ∧ (m' = m ∨ ∃ v, m' = wI m (a + 1) 5 v) := by
  have hL := sLen_bd y
  have pd : ∀ v : Int, 0 ≤ v → v < N → f_Boo_placedDay a (i3 v) m = some (i3 (p v.toNat)) ∧ -1 ≤ p v.toNat ∧ p v.toNat < sLen y := by
    intro v h0 h1
    obtain ⟨q1, q2⟩ := hP v.toNat (by omega)
    have := boo_placedDay (show v.toNat < 20 by omega) q1
    rw [show ((v.toNat : Nat) : Int) = v by omega] at this
    exact ⟨this, q2⟩
  have bt1 : ∀ c : Prop, ∀ _ : Decidable c, c → b3 (decide c) = 1 := fun c _ h => by rw [decide_eq_true h]; rfl
  have bf1 : ∀ c : Prop, ∀ _ : Decidable c, ¬ c → b3 (decide c) = 0 := fun c _ h => by rw [decide_eq_false h]; rfl
  unfold f_Boo_claimHolds
  rw [show (21 : Int32) = i3 21 from rfl, it_eq ⟨by unfold qCl at hk; omega, by unfold qCl at hk; omega⟩ ⟨by decide, by decide⟩, show (22 : Int32) = i3 22 from rfl, it_eq ⟨by unfold qCl at hk; omega, by unfold qCl at hk; omega⟩ ⟨by decide, by decide⟩, show (23 : Int32) = i3 23 from rfl, it_eq ⟨by unfold qCl at hk; omega, by unfold qCl at hk; omega⟩ ⟨by decide, by decide⟩, show (24 : Int32) = i3 24 from rfl, it_eq ⟨by unfold qCl at hk; omega, by unfold qCl at hk; omega⟩ ⟨by decide, by decide⟩]
  unfold sQ
  obtain ⟨n22, n23, n24, n25⟩ := hn
  rcases hk with ⟨rfl, rfl⟩ | ⟨rfl, h0, h1⟩ | ⟨rfl, h0, h1, h2⟩ | ⟨rfl, h0, h1⟩ | ⟨rfl, h0, h1, h2⟩
  · rw [if_pos rfl, if_pos rfl, boo_clashes h20 h25 hB, zBP_some]
    have hc := clT_nn (b := b) h20
    rw [show (0 : Int32) = i3 0 from rfl, it_eq ⟨by omega, by omega⟩ ⟨by decide, by decide⟩]
    by_cases c : clT b N N = 0
    · rw [if_pos c, bt1 _ _ c]
      exact ⟨m, rfl, Or.inl rfl⟩
    · rw [if_neg c, bf1 _ _ c]
      exact ⟨m, rfl, Or.inl rfl⟩
  · obtain ⟨e1, e2, e3⟩ := pd (x / 10000) (by omega) (n22 rfl)
    rw [if_neg (by decide), if_pos rfl, if_neg (by decide), if_pos rfl, show (10000 : Int32) = i3 10000 from rfl, i3_div ⟨h0, by omega⟩ ⟨by decide, by decide⟩, e1, zBP_some]
    generalize p (x / 10000).toNat = d at e1 e2 e3
    simp only [zLet]
    rw [it_n1 ⟨by omega, by omega⟩]
    by_cases c : d = -1
    · rw [if_pos c, bf1 _ _ (fun z => z.1 c)]
      exact ⟨m, rfl, Or.inl rfl⟩
    · have hd : ((d.toNat : Nat) : Int) = d := by omega
      have hcd := cal_date hy (d := d.toNat) (by omega) m
      rw [if_pos (by omega), hd] at hcd
      have hsd := sDt_bd (b := sLeap y) (d := d.toNat) (by show d.toNat < sLen y; omega)
      rw [if_neg c, h6, hcd, zBP_some, i3_mod ⟨h0, by omega⟩ ⟨by decide, by decide⟩, it_eq ⟨by omega, by omega⟩ ⟨by omega, by omega⟩]
      by_cases c2 : (sDt (sLeap y) d.toNat : Int) = x % 10000
      · rw [if_pos c2, bt1 _ _ ⟨c, c2⟩]
        exact ⟨m, rfl, Or.inl rfl⟩
      · rw [if_neg c2, bf1 _ _ (fun z => c2 z.2)]
        exact ⟨m, rfl, Or.inl rfl⟩
  · obtain ⟨e1, e2, e3⟩ := pd (x / 10) (by omega) (n23 rfl)
    have hWk := hWk (by have := n23 rfl; omega)
    rw [if_neg (by decide), if_neg (by decide), if_pos rfl, if_neg (by decide), if_neg (by decide), if_pos rfl, show (10 : Int32) = i3 10 from rfl, i3_div ⟨h0, by omega⟩ ⟨by decide, by decide⟩, e1, zBP_some, i3_mod ⟨h0, by omega⟩ ⟨by decide, by decide⟩]
    generalize p (x / 10).toNat = d at e1 e2 e3
    have est : sTo y d = d := by unfold sTo; split <;> omega
    rw [wal_toDay hWk ⟨by omega, by omega⟩, zBV_some, est, wal_onW (hWk.w5 _) zI_eq ⟨by omega, by omega⟩ ⟨by omega, by omega⟩, zBP_some, if_pos (b3_bo _)]
    refine ⟨wI m (a + 1) 5 (i3 d), ?_, Or.inr ⟨i3 d, rfl⟩⟩
    have hw := sWd_bd y d
    have : (d ≠ -1 ∧ (x % 10 - sWd y d) % 7 = 0) ↔ (d ≠ -1 ∧ sWd y d = x % 10) := by omega
    simp only [this]
  · obtain ⟨e1, e2, e3⟩ := pd x (by omega) (n24 rfl)
    rw [if_neg (by decide), if_neg (by decide), if_neg (by decide), if_pos rfl, if_neg (by decide), if_neg (by decide), if_neg (by decide), if_pos rfl, e1, zBP_some]
    generalize p x.toNat = d at e1 e2 e3
    rw [it_n1 ⟨by omega, by omega⟩]
    by_cases c : d = -1
    · rw [if_pos c, bt1 _ _ c]
      exact ⟨m, rfl, Or.inl rfl⟩
    · rw [if_neg c, bf1 _ _ c]
      exact ⟨m, rfl, Or.inl rfl⟩
  · obtain ⟨e1, e2, e3⟩ := pd (x / 100) (by omega) (n25 rfl).1
    obtain ⟨g1, g2, g3⟩ := pd (x % 100) (by omega) (n25 rfl).2
    rw [if_neg (by decide), if_neg (by decide), if_neg (by decide), if_neg (by decide), if_neg (by decide), if_neg (by decide), if_neg (by decide), if_neg (by decide), show (100 : Int32) = i3 100 from rfl, i3_div ⟨h0, by omega⟩ ⟨by decide, by decide⟩, e1, zBP_some, i3_mod ⟨h0, by omega⟩ ⟨by decide, by decide⟩, g1]
    generalize p (x / 100).toNat = d at e1 e2 e3
    generalize p (x % 100).toNat = d2 at g1 g2 g3
    simp only [zLet]
    rw [it_n1 ⟨by omega, by omega⟩, zBP_some, it_le ⟨by omega, by omega⟩ ⟨by omega, by omega⟩]
    by_cases c : d = -1
    · rw [if_pos c, bf1 _ _ (fun z => z.1 c)]
      exact ⟨m, rfl, Or.inl rfl⟩
    · rw [if_neg c]
      by_cases c2 : d2 ≤ d
      · rw [if_pos c2, bf1 _ _ (fun z => by omega)]
        exact ⟨m, rfl, Or.inl rfl⟩
      · rw [if_neg c2, bt1 _ _ ⟨c, by omega⟩]
        exact ⟨m, rfl, Or.inl rfl⟩
theorem mod_answer (hy : y < 400) (ht : t < 2) (h20 : N ≤ 20) (h19 : zI m 201 19 = i3 N) (h1 : zI m 201 1 = i3 t)
    (hB : ∀ f, f < N → zI m 216 (20 * t + f) = i3 (b f) ∧ -1 ≤ b f ∧ b f < 400) (hP : ∀ f, f < N → zI m 219 f = i3 (p f) ∧ -1 ≤ p f ∧ p f < sLen y) {k x : Int} (hk : qCl (k + 20) x) (hn : qNm N (k + 20) x) :
    f_Mod_isAnswered (i3 k) (i3 x) (i3 y) m = some (b3 (sQ y N b p (k + 20) x)) := by
  have hL := sLen_bd y
  have bt1 : ∀ c : Prop, ∀ _ : Decidable c, c → b3 (decide c) = 1 := fun c _ h => by rw [decide_eq_true h]; rfl
  have bf1 : ∀ c : Prop, ∀ _ : Decidable c, ¬ c → b3 (decide c) = 0 := fun c _ h => by rw [decide_eq_false h]; rfl
  have pin : ∀ v : Int, 0 ≤ v → v < N → zIn (i3 v) 20 := fun v q1 q2 => (i3_in ⟨by omega, by omega⟩).mpr ⟨by omega, by omega⟩
  have pix : ∀ v : Int, 0 ≤ v → v < N → zI m 219 (zIx (i3 v)) = i3 (p v.toNat) := fun v q1 q2 => by rw [i3_ix ⟨by omega, by omega⟩, (hP _ (by omega)).1]
  have hkb : 1 ≤ k ∧ k ≤ 5 := by unfold qCl at hk; omega
  have e1 : (i3 k = 1) ↔ k = 1 := i3_eq (b := 1) ⟨by omega, by omega⟩ ⟨by decide, by decide⟩
  have e2 : (i3 k = 2) ↔ k = 2 := i3_eq (b := 2) ⟨by omega, by omega⟩ ⟨by decide, by decide⟩
  have e3 : (i3 k = 3) ↔ k = 3 := i3_eq (b := 3) ⟨by omega, by omega⟩ ⟨by decide, by decide⟩
  have e4 : (i3 k = 4) ↔ k = 4 := i3_eq (b := 4) ⟨by omega, by omega⟩ ⟨by decide, by decide⟩
  unfold f_Mod_isAnswered
  simp only [zLet, e1, e2, e3, e4]
  clear e1 e2 e3 e4
  unfold sQ
  obtain ⟨n22, n23, n24, n25⟩ := hn
  rcases hk with ⟨hk, rfl⟩ | ⟨hk, h0, h1⟩ | ⟨hk, h0, h1, h2⟩ | ⟨hk, h0, h1⟩ | ⟨hk, h0, h1, h2⟩
  · obtain rfl : k = 1 := by omega
    simp only [Int.reduceEq, Int.reduceAdd, reduceIte]
    rw [mod_clashes h20 ht h19 h1 hB, zBP_some]
    have hc := clT_nn (b := b) h20
    rw [it_e0 ⟨by omega, by omega⟩]
    by_cases c : clT b N N = 0
    · rw [if_pos c, bt1 _ _ c]
    · rw [if_neg c, bf1 _ _ c]
  · obtain rfl : k = 2 := by omega
    have hn := n22 rfl
    obtain ⟨e1, e2, e3⟩ := hP (x / 10000).toNat (by omega)
    simp only [Int.reduceEq, Int.reduceAdd, reduceIte]
    rw [show (10000 : Int32) = i3 10000 from rfl, i3_div ⟨h0, by omega⟩ ⟨by decide, by decide⟩]
    rw [if_pos (pin _ (by omega) hn), pix _ (by omega) hn]
    generalize p (x / 10000).toNat = d at e1 e2 e3
    rw [it_n1 ⟨by omega, by omega⟩]
    by_cases c : d = -1
    · rw [if_pos c, bf1 _ _ (fun z => z.1 c)]
    · have hd : ((d.toNat : Nat) : Int) = d := by omega
      have hcd := mod_date hy (d := d.toNat) (by omega) m
      rw [hd] at hcd
      have hsd := sDt_bd (b := sLeap y) (d := d.toNat) (by show d.toNat < sLen y; omega)
      rw [if_neg c, hcd, zBP_some, i3_mod ⟨h0, by omega⟩ ⟨by decide, by decide⟩, it_eq ⟨by omega, by omega⟩ ⟨by omega, by omega⟩]
      by_cases c2 : (sDt (sLeap y) d.toNat : Int) = x % 10000
      · rw [if_pos c2, bt1 _ _ ⟨c, c2⟩]
      · rw [if_neg c2, bf1 _ _ (fun z => c2 z.2)]
  · obtain rfl : k = 3 := by omega
    have hn := n23 rfl
    obtain ⟨e1, e2, e3⟩ := hP (x / 10).toNat (by omega)
    simp only [Int.reduceEq, Int.reduceAdd, reduceIte]
    rw [show (10 : Int32) = i3 10 from rfl, i3_div ⟨h0, by omega⟩ ⟨by decide, by decide⟩]
    rw [if_pos (pin _ (by omega) hn), pix _ (by omega) hn]
    generalize p (x / 10).toNat = d at e1 e2 e3
    rw [it_n1 ⟨by omega, by omega⟩]
    by_cases c : d = -1
    · rw [if_pos c, bf1 _ _ (fun z => z.1 c)]
    · have hw := sWd_bd y d
      rw [if_neg c, mod_begin hy, zBP_some, i3_add, mod_wd hy ⟨by omega, by omega⟩, zBP_some, i3_mod ⟨h0, by omega⟩ ⟨by decide, by decide⟩, it_eq ⟨by omega, by omega⟩ ⟨by omega, by omega⟩]
      by_cases c2 : sWd y d = x % 10
      · rw [if_pos c2, bt1 _ _ ⟨c, c2⟩]
      · rw [if_neg c2, bf1 _ _ (fun z => c2 z.2)]
  · obtain rfl : k = 4 := by omega
    have hn := n24 rfl
    obtain ⟨e1, e2, e3⟩ := hP x.toNat (by omega)
    simp only [Int.reduceEq, Int.reduceAdd, reduceIte]
    rw [if_pos (pin _ (by omega) hn), pix _ (by omega) hn]
    generalize p x.toNat = d at e1 e2 e3
    rw [it_n1 ⟨by omega, by omega⟩]
    by_cases c : d = -1
    · rw [if_pos c, bt1 _ _ c]
    · rw [if_neg c, bf1 _ _ c]
  · obtain rfl : k = 5 := by omega
    obtain ⟨hn1, hn2⟩ := n25 rfl
    obtain ⟨e1, e2, e3⟩ := hP (x / 100).toNat (by omega)
    obtain ⟨g1, g2, g3⟩ := hP (x % 100).toNat (by omega)
    simp only [Int.reduceEq, Int.reduceAdd, reduceIte]
    rw [show (100 : Int32) = i3 100 from rfl, i3_div ⟨h0, by omega⟩ ⟨by decide, by decide⟩, i3_mod ⟨h0, by omega⟩ ⟨by decide, by decide⟩]
    rw [if_pos (pin _ (by omega) hn1), pix _ (by omega) hn1, if_pos (pin _ (by omega) hn2), pix _ (by omega) hn2]
    generalize p (x / 100).toNat = d at e1 e2 e3
    generalize p (x % 100).toNat = d2 at g1 g2 g3
    rw [it_n1 ⟨by omega, by omega⟩, it_n1 ⟨by omega, by omega⟩, it_le ⟨by omega, by omega⟩ ⟨by omega, by omega⟩]
    by_cases c : d = -1
    · rw [if_pos c, bf1 _ _ (fun z => z.1 c)]
    · rw [if_neg c]
      by_cases c3 : d2 = -1
      · rw [if_pos c3, bf1 _ _ (fun z => by omega)]
      · rw [if_neg c3]
        by_cases c2 : d2 ≤ d
        · rw [if_pos c2, bf1 _ _ (fun z => by omega), if_pos (pin _ (by omega) hn2)]
        · rw [if_neg c2, bt1 _ _ ⟨c, by omega⟩, if_pos (pin _ (by omega) hn2)]
end CLM
