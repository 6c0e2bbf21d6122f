section PAR4
variable {m : Mm} {T s : List Int} {FK FA : Nat → Int32} {n : Int32}
theorem par_more (h : PT m T) {nm : Int32} : ∀ (k i fuel : Nat) (x : Int) (v : Int32) (s : List Int), i + k = 2 → k < fuel → (0 ≤ x ∧ x ≤ 366) → Sf T s →
    Sf T (pMore k x s).2 ∧ (0 ≤ (pMore k x s).1 ∧ (pMore k x s).1 ≤ 366) ∧ zLp2 l_Par_takesDayCount_0 fuel (i3 x) (i3 i) (pM m (i3 (pl T s)) v FK FA n nm) = some (i3 1, pM m (i3 (pl T (pMore k x s).2)) (i3 (pMore k x s).1) FK FA n nm) := by
  intro k
  induction k with
  | zero =>
    intro i fuel x v s hi hf hx hs
    obtain ⟨u, rfl⟩ : ∃ u, fuel = u + 1 := ⟨fuel - 1, by omega⟩
    refine ⟨hs, hx, ?_⟩
    show l_Par_takesDayCount_0 _ (i3 x) (i3 i) _ = _
    unfold l_Par_takesDayCount_0
    simp only [zLet, i3_lit]
    rw [it_le ⟨by decide, by decide⟩ ⟨by omega, by omega⟩, if_pos (by omega), pM_wv]
    rfl
  | succ k ih =>
    intro i fuel x v s hi hf hx hs
    obtain ⟨u, rfl⟩ : ∃ u, fuel = u + 1 := ⟨fuel - 1, by omega⟩
    have hmin : f_Mat_min (i3 (366 - 10 * x)) (i3 9) (pM m (i3 (pl T s)) v FK FA n nm) = some (i3 (if 9 < 366 - 10 * x then 9 else 366 - 10 * x)) := by
      unfold f_Mat_min
      rw [it_lt ⟨by decide, by decide⟩ ⟨by omega, by omega⟩]
      split <;> rfl
    have hd := par_dig (FK := FK) (FA := FA) (n := n) (nm := nm) (v := v) h hs (lo := 0) (hi := if 9 < 366 - 10 * x then 9 else 366 - 10 * x) (by omega) (by split <;> omega)
    have e : zLp2 l_Par_takesDayCount_0 (u + 1) (i3 x) (i3 i) (pM m (i3 (pl T s)) v FK FA n nm) = zBI (f_Par_takesDigit (i3 0) (i3 (if 9 < 366 - 10 * x then 9 else 366 - 10 * x)) (pM m (i3 (pl T s)) v FK FA n nm)) fun v15 m14 => if v15 = i3 0 then some (i3 1, wI m14 19 3 (i3 x)) else zLp2 l_Par_takesDayCount_0 u (i3 10 * i3 x + zI m14 19 3) (i3 ((i + 1 : Nat) : Int)) m14 := by
      show l_Par_takesDayCount_0 _ (i3 x) (i3 i) _ = _
      unfold l_Par_takesDayCount_0
      simp only [zLet, i3_lit, i3_mul, i3_sub, hmin, zBP_some, i3_add]
      rw [it_le ⟨by decide, by decide⟩ ⟨by omega, by omega⟩, if_neg (by omega)]
      rfl
    rw [e]
    have stop : ∀ z : Rd Int, z = pDig 0 (if 9 < 366 - 10 * x then 9 else 366 - 10 * x) s → ∀ q, z = .inl q → pMore (k + 1) x s = (x, s) := by
      intro z hz q hq
      cases s with
      | nil => rfl
      | cons c r =>
        unfold pMore
        rw [if_neg]
        intro hc
        rw [hq] at hz
        rw [pDig_cons] at hz
        rw [if_pos (by split <;> omega)] at hz
        cases hz
    cases e5 : pDig 0 (if 9 < 366 - 10 * x then 9 else 366 - 10 * x) s with
    | inl q =>
      rw [e5] at hd
      obtain ⟨rfl, hd⟩ := hd
      rw [stop _ e5.symm _ rfl, hd, zBI_some, if_pos rfl, pM_wv]
      exact ⟨hs, hx, rfl⟩
    | inr z =>
      obtain ⟨y, r⟩ := z
      have hy := pDig_bd e5
      rw [e5] at hd
      obtain ⟨hr, hd⟩ := hd
      have e6 : pMore (k + 1) x s = pMore k (10 * x + y) r := by
        obtain ⟨c, rfl, e7, e8, e9⟩ := pDig_inv e5
        subst e7
        show (if _ then _ else _) = _
        rw [if_pos (by split at e9 <;> omega)]
      rw [hd, zBI_some, if_neg (by decide), pM_v, i3_mul, i3_add, e6]
      exact ih (i + 1) u (10 * x + y) _ r (by omega) (by omega) (by split at hy <;> omega) hr
theorem par_count (h : PT m T) (hs : Sf T s) {v nm : Int32} : match pDig 0 9 s with
    | .inl _ => f_Par_takesDayCount (pM m (i3 (pl T s)) v FK FA n nm) = some (i3 0, pM m (i3 (pl T s)) v FK FA n nm)
    | .inr (x, r) => (Sf T (pMore 2 x r).2 ∧ 0 ≤ (pMore 2 x r).1 ∧ (pMore 2 x r).1 ≤ 366) ∧ f_Par_takesDayCount (pM m (i3 (pl T s)) v FK FA n nm) = some (i3 1, pM m (i3 (pl T (pMore 2 x r).2)) (i3 (pMore 2 x r).1) FK FA n nm) := by
  have hd := par_dig (FK := FK) (FA := FA) (n := n) (nm := nm) (v := v) h hs (lo := 0) (hi := 9) (by omega) (by omega)
  have e : ∀ M : Mm, f_Par_takesDayCount M = zBI (f_Par_takesDigit (i3 0) (i3 9) M) fun v2 m1 => if v2 = i3 0 then some (i3 0, m1) else zLp2 l_Par_takesDayCount_0 zFu (zI m1 19 3) (i3 ((0 : Nat) : Int)) m1 := fun M => by
    rw [e_Par_takesDayCount]
    simp only [zLet, i3_lit]
    rfl
  rw [e]
  cases e5 : pDig 0 9 s with
  | inl q =>
    rw [e5] at hd
    obtain ⟨rfl, hd⟩ := hd
    show _ = _
    rw [hd, zBI_some, if_pos rfl]
  | inr z =>
    obtain ⟨x, r⟩ := z
    have hx := pDig_bd e5
    rw [e5] at hd
    obtain ⟨hr, hd⟩ := hd
    have q := par_more (FK := FK) (FA := FA) (n := n) (nm := nm) h 2 0 zFu x (i3 x) r rfl (by unfold zFu; omega) (by omega) hr
    show _ ∧ _ = _
    rw [hd, zBI_some, if_neg (by decide), pM_v]
    exact ⟨⟨q.1, q.2.1⟩, q.2.2⟩
def cFin (σ : Int) (M : Mm) : Option (Int32 × Mm) := if σ = 0 then some (i3 1, M) else zBI (f_Cod_add 20 (i3 5) (i3 (5000 + σ)) M) fun v11 m10 => if v11 = i3 0 then some (i3 0, m10) else some (i3 1, m10)
def PY (m : Mm) (T : List Int) (FK FA : Nat → Int32) (n nm : Int32) (res : Option (Int32 × Mm)) : Rd Int → Prop
  | .inl q => ∃ v', res = some (i3 0, pM m (i3 (pl T q)) v' FK FA n nm)
  | .inr (σ', r) => Sf T r ∧ (-15000 ≤ σ' ∧ σ' ≤ 15000) ∧ ∃ v' : Int, res = cFin σ' (pM m (i3 (pl T r)) (i3 v') FK FA n nm)
theorem par_dbody (h : PT m T) (hs : Sf T s) {v nm : Int32} {i : Nat} {σ : Int} (hi : (i : Int) ≤ 40) (hσ : -20000 ≤ σ ∧ σ ≤ 20000) (r : Int32 → Int32 → Mm → Option (Int32 × Mm)) :
    l_Par_takesDays_0 r (i3 σ) (i3 i) (pM m (i3 (pl T s)) v FK FA n nm) = if (40 : Int) ≤ i then cFin σ (pM m (i3 (pl T s)) v FK FA n nm) else if s.headD 0 = 43 ∨ s.headD 0 = 45 then zBI (f_Par_takesDayCount (pM m (i3 (pl T s + 1)) v FK FA n nm)) fun v19 m18 => if v19 = i3 0 then some (i3 0, m18) else r (if s.headD 0 = 43 then i3 σ + zI m18 19 3 else i3 σ + -zI m18 19 3) (i3 ((i + 1 : Nat) : Int)) m18 else cFin σ (pM m (i3 (pl T s)) v FK FA n nm) := by
  have hb := pl_bd hs h.2.1
  have hh := hd_bd h hs
  unfold l_Par_takesDays_0 cFin
  simp only [zLet, zGR, pM_R, h.1, show zT 17 = 8 from by decide +kernel, if_true, pM_p, par_at h hs, zBP_some, i3_lit, i3_add, pM_wp]
  simp (disch := omega) only [i3_le, i3_eq]
  by_cases c0 : (40 : Int) ≤ i
  · simp only [if_pos c0]
  · by_cases c1 : s.headD 0 = 43
    · simp only [if_neg c0, if_pos c1, if_pos (Or.inl c1 : s.headD 0 = 43 ∨ s.headD 0 = 45)]
      rfl
    · by_cases c2 : s.headD 0 = 45
      · simp only [if_neg c0, if_neg c1, if_pos c2, if_pos (Or.inr c2 : s.headD 0 = 43 ∨ s.headD 0 = 45)]
        rfl
      · simp only [if_neg c0, if_neg c1, if_neg c2, if_neg (show ¬ (s.headD 0 = 43 ∨ s.headD 0 = 45) by omega)]
theorem par_dloop (h : PT m T) {nm : Int32} : ∀ (u i fuel : Nat) (σ v : Int) (s : List Int), s.length < u → s.length < fuel → (i : Int) ≤ pl T s → (-366 * (i : Int) ≤ σ ∧ σ ≤ 366 * i) → Sf T s →
    PY m T FK FA n nm (zLp2 l_Par_takesDays_0 fuel (i3 σ) (i3 i) (pM m (i3 (pl T s)) (i3 v) FK FA n nm)) (pDays u σ s) := by
  intro u
  induction u with
  | zero => intro i fuel σ v s h1; exact absurd h1 (Nat.not_lt_zero _)
  | succ u ih =>
    intro i fuel σ v s h1 h2 h3 h4 hs
    obtain ⟨f, rfl⟩ : ∃ f, fuel = f + 1 := ⟨fuel - 1, by omega⟩
    have hb := pl_bd hs h.2.1
    have e := par_dbody (FK := FK) (FA := FA) (n := n) (nm := nm) (v := i3 v) h hs (i := i) (σ := σ) (by omega) (by omega) (zLp2 l_Par_takesDays_0 f)
    show PY m T FK FA n nm (l_Par_takesDays_0 (zLp2 l_Par_takesDays_0 f) (i3 σ) (i3 i) _) _
    rw [e]
    cases s with
    | nil =>
      refine ⟨hs, by omega, v, ?_⟩
      by_cases c0 : (40 : Int) ≤ i
      · rw [if_pos c0]
      · rw [if_neg c0, if_neg (by decide)]
    | cons c r =>
      have hl := hs.le
      have hpl : pl T (c :: r) < 40 := by
        have := h.2.1
        unfold pl
        simp
        omega
      have htl := hs.tl
      rw [if_neg (show ¬ (40 : Int) ≤ i by omega)]
      show PY m T FK FA n nm (if c = 43 ∨ c = 45 then _ else _) (if c = 43 ∨ c = 45 then _ else _)
      by_cases c1 : c = 43 ∨ c = 45
      · rw [if_pos c1, if_pos c1]
        have q := par_count (FK := FK) (FA := FA) (n := n) (v := i3 v) (nm := nm) h htl.1
        rw [← htl.2] at q
        cases e5 : pDig 0 9 r with
        | inl q' =>
          rw [e5] at q
          have hq : q' = r := by
            have hd := par_dig (FK := FK) (FA := FA) (n := n) (nm := nm) (v := i3 v) h htl.1 (lo := 0) (hi := 9) (by omega) (by omega)
            rw [e5] at hd
            exact hd.1
          subst hq
          refine ⟨i3 v, ?_⟩
          rw [q, zBI_some, if_pos rfl, htl.2]
        | inr z =>
          obtain ⟨x, r1⟩ := z
          rw [e5] at q
          obtain ⟨⟨q1, q2, q3⟩, q4⟩ := q
          have hlen : (pMore 2 x r1).2.length < r.length := by
            have a1 := pMore_len 2 x r1
            obtain ⟨c', e8, -⟩ := pDig_inv e5
            rw [e8]
            simp
            omega
          have hpl2 : pl T (c :: r) + 1 ≤ pl T (pMore 2 x r1).2 := by
            rw [htl.2]
            unfold pl
            omega
          rw [q4]
          have hi2 : ((i + 1 : Nat) : Int) = (i : Int) + 1 := by omega
          have hll : (c :: r).length = r.length + 1 := rfl
          have key := ih (i + 1) f (if c = 43 then σ + (pMore 2 x r1).1 else σ - (pMore 2 x r1).1) (pMore 2 x r1).1 (pMore 2 x r1).2 (by omega) (by omega) (by omega) (by split <;> omega) q1
          have e7 : (if c = 43 then i3 σ + i3 (pMore 2 x r1).1 else i3 σ + -i3 (pMore 2 x r1).1) = i3 (if c = 43 then σ + (pMore 2 x r1).1 else σ - (pMore 2 x r1).1) := by
            by_cases c4 : c = 43
            · rw [if_pos c4, if_pos c4, i3_add]
            · rw [if_neg c4, if_neg c4, i3_neg, i3_add]; rfl
          rw [pB_inr rfl, zBI_some, if_neg (by decide), pM_v, show List.headD (c :: r) 0 = c from rfl, e7]
          exact key
      · rw [if_neg c1, if_neg c1]
        exact ⟨hs, by omega, v, rfl⟩
/-- a run of code at a place -/
def CA (FK FA : Nat → Int32) (n : Nat) (c : Cx) : Prop := ∀ i, i < c.length → FK (n + i) = i3 (c.getD i (0, 0)).1 ∧ FA (n + i) = i3 (c.getD i (0, 0)).2
theorem CA.nil {FK FA : Nat → Int32} {n : Nat} : CA FK FA n [] := fun i h => absurd h (Nat.not_lt_zero i)
theorem CA.app {FK FA FK' FA' : Nat → Int32} {n : Nat} {a b : Cx} (h : CA FK FA n a) (he : ∀ i, i < n + a.length → FK' i = FK i ∧ FA' i = FA i) (h2 : CA FK' FA' (n + a.length) b) : CA FK' FA' n (a ++ b) := by
  intro i hi
  by_cases q : i < a.length
  · rw [gD_l q, (he _ (by omega)).1, (he _ (by omega)).2]
    exact h i q
  · rw [gD_r (by omega)]
    have := h2 (i - a.length) (by rw [List.length_append] at hi; omega)
    rw [show n + a.length + (i - a.length) = n + i by omega] at this
    exact this
theorem CA.one {FK FA : Nat → Int32} {n : Nat} {x y : Int} : CA (up FK n (i3 x)) (up FA n (i3 y)) n [(x, y)] := by
  intro i hi
  have : i = 0 := by simp at hi; omega
  subst this
  exact ⟨up_eq _ _ _, up_eq _ _ _⟩
theorem CA.same {FK FA FK' FA' : Nat → Int32} {n : Nat} {a : Cx} (h : CA FK FA n a) (he : ∀ i, i < n + a.length → FK' i = FK i ∧ FA' i = FA i) : CA FK' FA' n a := fun i hi => by
  rw [(he _ (by omega)).1, (he _ (by omega)).2]
  exact h i hi
/-- a jump finds its place -/
theorem CA.set {FK FA : Nat → Int32} {n : Nat} {a b : Cx} {k y x : Int} (h : CA FK FA n (a ++ [(k, y)] ++ b)) : CA FK (up FA (n + a.length) (i3 x)) n (a ++ [(k, x)] ++ b) := by
  intro i hi
  have hi' : i < (a ++ [(k, y)] ++ b).length := by simpa using hi
  obtain ⟨h1, h2⟩ := h i hi'
  by_cases q : i < a.length
  · have e : ∀ z : Int × Int, (a ++ [z] ++ b).getD i (0, 0) = a.getD i (0, 0) := fun z => by
      rw [List.append_assoc, gD_l q]
    rw [e] at h1 h2 ⊢
    exact ⟨h1, by rw [up_ne _ _ (by omega)]; exact h2⟩
  · by_cases q2 : i = a.length
    · subst q2
      have e : ∀ z : Int × Int, (a ++ [z] ++ b).getD a.length (0, 0) = z := fun z => by
        rw [List.append_assoc, gD_r (Nat.le_refl _)]
        simp
      rw [e] at h1 h2 ⊢
      exact ⟨h1, up_eq _ _ _⟩
    · have e : ∀ z : Int × Int, (a ++ [z] ++ b).getD i (0, 0) = b.getD (i - (a.length + 1)) (0, 0) := fun z => by
        rw [gD_r (by simp; omega)]
        simp
      rw [e] at h1 h2 ⊢
      exact ⟨h1, by rw [up_ne _ _ (by omega)]; exact h2⟩
theorem cod_land {m : Mm} {p v : Int32} {FK FA : Nat → Int32} {n j : Nat} {nm : Int32} (hj : j < n) (hn : n ≤ 40) : f_Cod_landHere 20 (i3 j) (pM m p v FK FA (i3 n) nm) = some (i3 1, pM m p v FK (up FA j (i3 n)) (i3 n) nm) := by
  unfold f_Cod_landHere
  simp only [pM_n, i3_lit, zLet, Nat.reduceAdd, pM_wA]
  rw [it_lt ⟨by omega, by omega⟩ ⟨by decide, by decide⟩, if_neg (by omega), it_lt ⟨by omega, by omega⟩ ⟨by omega, by omega⟩, if_pos (by omega), if_pos ((i3_in ⟨by omega, by omega⟩).mpr ⟨by omega, by omega⟩), i3_ix ⟨by omega, by omega⟩, Int.toNat_natCast]
theorem PX_inl {m : Mm} {T : List Int} {n N : Nat} {FK FA : Nat → Int32} {q : List Int} {v' : Int32} {FK' FA' : Nat → Int32} {n' nm' : Int32} : PX m T n N FK FA (some (i3 0, pM m (i3 (pl T q)) v' FK' FA' n' nm')) (.inl q) := ⟨v', FK', FA', n', nm', rfl⟩
end PAR4
