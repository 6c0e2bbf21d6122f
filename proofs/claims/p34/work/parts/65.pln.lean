/-! THE CLASS READS A RULE PLAINLY: signs and numbers -/
def lM (m : Mm) (p d : Int32) : Mm := wI (wI m 164 5 p) 165 5 d
section LMS
variable {m : Mm} {p d x : Int32}
theorem lM_p : zI (lM m p d) 164 5 = p := by unfold lM; rw [zI_ne (by decide), zI_eq]
theorem lM_d : zI (lM m p d) 165 5 = d := zI_eq
theorem lM_o {b j : Nat} (h : b ≠ 164 ∧ b ≠ 165 ∨ j ≠ 5) : zI (lM m p d) b j = zI m b j := by
  unfold lM
  by_cases h1 : b = 165
  · subst h1
    rw [zI_nk (by omega), zI_ne (by decide)]
  · rw [zI_ne h1]
    by_cases h2 : b = 164
    · subst h2
      rw [zI_nk (by omega)]
    · rw [zI_ne h2]
theorem lM_R {b j : Nat} : zR (lM m p d) b j = zR m b j := rfl
theorem lM_wd : wI (lM m p d) 165 5 x = lM m p x := wI_wI
theorem lM_wp : wI (lM m p d) 164 5 x = lM m x d := by
  refine wI_ext (fun b j => ?_) rfl
  by_cases h : b = 164 ∧ j = 5
  · obtain ⟨rfl, rfl⟩ := h
    rw [zI_eq, lM_p]
  · have e : zI (wI (lM m p d) 164 5 x) b j = zI (lM m p d) b j := if_neg h
    rw [e]
    by_cases h2 : b = 165 ∧ j = 5
    · obtain ⟨rfl, rfl⟩ := h2
      rw [lM_d, lM_d]
    · rw [lM_o (by omega), lM_o (by omega)]
end LMS
/-- the plain book stands on the text T -/
def LT (m : Mm) (q : Nat) (T : List Int) (y t : Nat) : Prop := zR m 164 4 = q ∧ zT q = 8 ∧ q + 1 < 164 ∧ TX m q T ∧ Wk m 165 y t
def pNum : Nat → Int → List Int → Int × List Int
  | 0, a, s => (a, s)
  | _ + 1, a, [] => (a, [])
  | k + 1, a, c :: r => if 48 ≤ c ∧ c ≤ 57 then pNum k (10 * a + (c - 48)) r else (a, c :: r)
theorem pNum_cons {k : Nat} {a c : Int} {r : List Int} : pNum (k + 1) a (c :: r) = if 48 ≤ c ∧ c ≤ 57 then pNum k (10 * a + (c - 48)) r else (a, c :: r) := rfl
theorem num_more : ∀ (k : Nat) (a : Int) (s : List Int), ¬ (48 ≤ (pMore k a s).2.headD 0 ∧ (pMore k a s).2.headD 0 ≤ 57) → pNum k a s = pMore k a s := by
  intro k
  induction k with
  | zero => intro a s _; rfl
  | succ k ih =>
    intro a s h
    cases s with
    | nil => rfl
    | cons c r =>
      unfold pMore at h ⊢
      rw [pNum_cons]
      by_cases e : 0 ≤ c - 48 ∧ c - 48 ≤ 9 ∧ 10 * a + (c - 48) ≤ 366
      · rw [if_pos e] at h ⊢
        rw [if_pos (by omega)]
        exact ih _ r h
      · rw [if_neg e] at h ⊢
        exact if_neg (show ¬ (48 ≤ c ∧ c ≤ 57) from h)
section PLN
variable {m : Mm} {q y t : Nat} {T : List Int}
theorem LT.lt (h : LT m q T y t) {p d : Int32} : LT (lM m p d) q T y t := by
  obtain ⟨h1, h2, h3, h4, h5⟩ := h
  refine ⟨h1, h2, h3, ⟨h4.1, ?_, fun i hi => ?_, h4.2.2.2⟩, ?_⟩
  · rw [lM_o (by omega)]; exact h4.2.1
  · rw [lM_o (by omega)]; exact h4.2.2.1 i hi
  · unfold lM
    exact (h5.ne (by decide)).w5 _
theorem pln_at (h : LT m q T y t) {s : List Int} (hs : Sf T s) {d : Int32} : (∀ (α : Type) (K : Nat → Option α), zGR 8 (zR (lM m (i3 (pl T s)) d) 164 4) K = K q) ∧ f_Txt_at q (zI (lM m (i3 (pl T s)) d) 164 5) (lM m (i3 (pl T s)) d) = some (i3 (s.headD 0)) := by
  obtain ⟨pre, hp⟩ := hs
  refine ⟨fun α K => ?_, ?_⟩
  · rw [lM_R, h.1]
    exact if_pos h.2.1
  · rw [lM_p]
    exact txt_at h.lt.2.2.2.1 hp
theorem pln_c (h : LT m q T y t) {c : Int} {r : List Int} (hs : Sf T (c :: r)) : 33 ≤ c ∧ c ≤ 126 := h.2.2.2.1.2.2.2 c (hs.mem (by simp))
theorem pln_h (h : LT m q T y t) {s : List Int} (hs : Sf T s) : 0 ≤ s.headD 0 ∧ s.headD 0 ≤ 126 := by
  cases s with
  | nil => exact ⟨by decide, by decide⟩
  | cons c r =>
    have := pln_c h hs
    show 0 ≤ c ∧ c ≤ 126
    omega
theorem pln_sign (h : LT m q T y t) {c : Int} {r : List Int} (hs : Sf T (c :: r)) {d : Int32} : f_Pla_nextSign (lM m (i3 (pl T (c :: r))) d) = some (i3 c, lM m (i3 (pl T r)) d) := by
  obtain ⟨g, e⟩ := pln_at h hs (d := d)
  have hc := pln_c h hs
  unfold f_Pla_nextSign
  rw [g, e, zBP_some]
  simp only [zLet]
  rw [lM_p, i3_add1, lM_wp, hs.tl.2, List.headD_cons, if_pos ((i3_ch ⟨by omega, by omega⟩).mpr ⟨by omega, by omega⟩)]
theorem pln_num (h : LT m q T y t) {s : List Int} (hs : Sf T s) {d : Int32} {k : Nat} (hk : k ≤ 4) : f_Pla_nextNumber (i3 k) (lM m (i3 (pl T s)) d) = some (i3 (pNum k 0 s).1, lM m (i3 (pl T (pNum k 0 s).2)) d) ∧ Sf T (pNum k 0 s).2 := by
  have sf : ∀ (k : Nat) (a : Int) (s : List Int), Sf T s → Sf T (pNum k a s).2 := by
    intro k
    induction k with
    | zero => intro a s hs; exact hs
    | succ k ih =>
      intro a s hs
      cases s with
      | nil => exact hs
      | cons c r =>
        rw [pNum_cons]
        split
        · exact ih _ r hs.tl.1
        · exact hs
  refine ⟨?_, sf k 0 s hs⟩
  rw [e_Pla_nextNumber]
  refine run_zLp2 (fun j x1 x2 mm => ∃ (a : Int) (i : Nat) (s' : List Int), x1 = i3 a ∧ x2 = i3 i ∧ i ≤ k ∧ j = k - i ∧ mm = lM m (i3 (pl T s')) d ∧ Sf T s' ∧ pNum (k - i) a s' = pNum k 0 s ∧ 0 ≤ a ∧ (i = 0 → a = 0) ∧ (i = 1 → a ≤ 9) ∧ (i = 2 → a ≤ 99) ∧ (i = 3 → a ≤ 999) ∧ (i = 4 → a ≤ 9999)) ?_ zFu k _ _ _ ⟨0, 0, s, rfl, rfl, Nat.zero_le _, rfl, rfl, hs, rfl, by omega, by omega, by omega, by omega, by omega, by omega⟩ (by unfold zFu; omega)
  rintro r j x1 x2 mm ⟨a, i, s', rfl, rfl, hi, rfl, rfl, hs', hp, ha0, a0, a1, a2, a3, a4⟩
  unfold l_Pla_nextNumber_0
  rw [it_le ⟨by omega, by omega⟩ ⟨by omega, by omega⟩]
  by_cases e : (k : Int) ≤ i
  · left
    rw [if_pos e]
    rw [show k - i = 0 by omega] at hp
    rw [← hp]
    rfl
  · rw [show k - i = k - (i + 1) + 1 by omega] at hp
    obtain ⟨g, e2⟩ := pln_at h hs' (d := d)
    have hh := pln_h h hs'
    rw [if_neg e, g, e2, zBP_some, show (48 : Int32) = i3 48 from rfl, show (57 : Int32) = i3 57 from rfl, it_lt ⟨by omega, by omega⟩ ⟨by decide, by decide⟩, it_le ⟨by omega, by omega⟩ ⟨by decide, by decide⟩]
    cases s' with
    | nil =>
      left
      rw [if_pos (by decide), ← hp]
      rfl
    | cons c r' =>
      rw [pNum_cons] at hp
      rw [List.headD_cons]
      by_cases c1 : c < 48
      · left
        rw [if_neg (by omega)] at hp
        rw [if_pos c1, ← hp]
      rw [if_neg c1]
      by_cases c2 : c ≤ 57
      · right
        rw [if_pos (by omega)] at hp
        rw [if_pos c2]
        have htl := hs'.tl
        refine ⟨_, _, _, k - (i + 1), by omega, ⟨10 * a + (c - 48), i + 1, r', rfl, rfl, by omega, rfl, rfl, htl.1, hp, by omega, by omega, by omega, by omega, by omega, by omega⟩, ?_⟩
        simp only [zLet]
        rw [show (10 : Int32) = i3 10 from rfl, i3_mul, i3_add, i3_sub, lM_p, i3_add1, i3_add1, lM_wp, htl.2, show 10 * a + c - 48 = 10 * a + (c - 48) by omega]
        rfl
      · left
        rw [if_neg (by omega)] at hp
        rw [if_neg c2, ← hp]
end PLN
/-! fields, as numbers -/
theorem dig_in {lo hi x : Int} {s r : List Int} (h0 : 0 ≤ lo) (h9 : hi ≤ 9) (h : pDig lo hi s = .inr (x, r)) : ∃ c, s = c :: r ∧ x = c - 48 ∧ 48 ≤ c ∧ c ≤ 57 := by
  cases s with
  | nil => cases h
  | cons c s =>
    rw [pDig_cons] at h
    by_cases e : lo ≤ c - 48 ∧ c - 48 ≤ hi
    · rw [if_pos e] at h
      cases h
      exact ⟨c, rfl, rfl, by omega, by omega⟩
    · rw [if_neg e] at h
      cases h
theorem two_in {f v x : Int} {s r : List Int} (hf : f = 102 ∨ f = 109 ∨ (f = 100 ∧ vMo v)) (h : pTwo f v s = .inr (x, r)) : ∃ c1 c2, s = c1 :: c2 :: r ∧ x = 10 * (c1 - 48) + (c2 - 48) ∧ (48 ≤ c1 ∧ c1 ≤ 57) ∧ (48 ≤ c2 ∧ c2 ≤ 57) := by
  have hp : 0 ≤ pHigh f v ∧ pHigh f v ≤ 31 ∧ (pLow f = 0 ∨ pLow f = 1) := by
    rcases hf with rfl | rfl | ⟨rfl, hv⟩
    · exact ⟨by rw [show pHigh 102 v = 19 from rfl]; decide, by rw [show pHigh 102 v = 19 from rfl]; decide, Or.inl rfl⟩
    · exact ⟨by rw [show pHigh 109 v = 12 from rfl]; decide, by rw [show pHigh 109 v = 12 from rfl]; decide, Or.inr rfl⟩
    · have := sMost_bd (v := v) hv
      rw [show pHigh 100 v = sMost v from rfl]
      exact ⟨by omega, by omega, Or.inr rfl⟩
  unfold pTwo at h
  obtain ⟨t, r1, h1, h2⟩ := pB_inv h
  obtain ⟨u, r2, h3, h4⟩ := pB_inv h2
  obtain ⟨c1, rfl, rfl, a1, a2⟩ := dig_in (by decide) (by omega) h1
  obtain ⟨c2, rfl, rfl, a3, a4⟩ := dig_in (by split <;> omega) (by split <;> omega) h3
  cases h4
  exact ⟨c1, c2, rfl, by omega, ⟨a1, a2⟩, ⟨a3, a4⟩⟩
theorem num1 {c : Int} {r : List Int} (h : 48 ≤ c ∧ c ≤ 57) : pNum 1 0 (c :: r) = (c - 48, r) := by
  rw [pNum_cons, if_pos h, show 10 * 0 + (c - 48) = c - 48 by omega]
  rfl
theorem num2 {c1 c2 : Int} {r : List Int} (h1 : 48 ≤ c1 ∧ c1 ≤ 57) (h2 : 48 ≤ c2 ∧ c2 ≤ 57) : pNum 2 0 (c1 :: c2 :: r) = (10 * (c1 - 48) + (c2 - 48), r) := by
  rw [pNum_cons, if_pos h1, pNum_cons, if_pos h2, show 10 * 0 + (c1 - 48) = c1 - 48 by omega]
  rfl
theorem num4 {c1 c2 c3 c4 : Int} {r : List Int} (h1 : 48 ≤ c1 ∧ c1 ≤ 57) (h2 : 48 ≤ c2 ∧ c2 ≤ 57) (h3 : 48 ≤ c3 ∧ c3 ≤ 57) (h4 : 48 ≤ c4 ∧ c4 ≤ 57) : pNum 4 0 (c1 :: c2 :: c3 :: c4 :: r) = (100 * (10 * (c1 - 48) + (c2 - 48)) + (10 * (c3 - 48) + (c4 - 48)), r) := by
  rw [pNum_cons, if_pos h1, pNum_cons, if_pos h2, pNum_cons, if_pos h3, pNum_cons, if_pos h4, show 10 * (10 * (10 * (10 * 0 + (c1 - 48)) + (c2 - 48)) + (c3 - 48)) + (c4 - 48) = 100 * (10 * (c1 - 48) + (c2 - 48)) + (10 * (c3 - 48) + (c4 - 48)) by omega]
  rfl
