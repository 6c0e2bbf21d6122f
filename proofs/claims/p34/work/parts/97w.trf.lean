/-! THE LAW'S TURNS: a new feast -/
theorem i3n {r k : Nat} (h : r ≠ k) (hr : r < 1000000) (hk : k < 1000000) : ¬ i3 (r : Int) = i3 (k : Int) := by
  rw [i3_eq ⟨by omega, by omega⟩ ⟨by omega, by omega⟩]
  omega
theorem j0n {r : Nat} (h : r ≠ 0) (hr : r < 1000000) : ¬ i3 (r : Int) = 0 := i3n (k := 0) h hr (by decide)
theorem j1n {r : Nat} (h : r ≠ 1) (hr : r < 1000000) : ¬ i3 (r : Int) = 1 := i3n (k := 1) h hr (by decide)
theorem j2n {r : Nat} (h : r ≠ 2) (hr : r < 1000000) : ¬ i3 (r : Int) = 2 := i3n (k := 2) h hr (by decide)
theorem j3n {r : Nat} (h : r ≠ 3) (hr : r < 1000000) : ¬ i3 (r : Int) = 3 := i3n (k := 3) h hr (by decide)
theorem jt_le0 {α : Type} {a : Int} {x y : α} (ha : -2147483648 ≤ a ∧ a < 2147483648) : (if i3 a ≤ 0 then x else y) = if a ≤ 0 then x else y := it_le (b := 0) ha ⟨by decide, by decide⟩
/-- the rule that is drawn, while it is drawn -/
def RW (m M : Mm) (N k : Nat) (g : Nat → Int) : Prop := (∀ b j, b ≠ 201 ∨ j < 6 * N → zI M b j = zI m b j) ∧ M.2 = m.2 ∧ ∀ j, j < k → zI M 201 (6 * N + j) = i3 (g j)
theorem RW.w {m M : Mm} {N k k' i : Nat} {g : Nat → Int} (h : RW m M N k g) (hk : ∀ j, j < k' → j < k ∨ j = i) (v : Int) : RW m (wI M 201 (6 * N + i) (i3 v)) N k' (upI g i v) := by
  refine ⟨fun b j hb => ?_, h.2.1, fun j hj => ?_⟩
  · by_cases e : b = 201
    · subst e
      rw [zI_nk (by omega)]
      exact h.1 _ _ hb
    · rw [zI_ne e]
      exact h.1 _ _ hb
  · unfold upI
    by_cases e : j = i
    · rw [if_pos e, e, zI_eq]
    · rw [if_neg e, zI_nk (by omega)]
      exact h.2.2 j ((hk j hj).resolve_right e)
theorem RW.fz {m M : Mm} {N k : Nat} {g : Nat → Int} (h : RW m M N k g) : Fz 3 0 m M := ⟨fun b j _ a2 _ => h.1 b j (by
  by_cases e : b = 201
  · exact absurd (by rw [e]; exact zone_A (by omega)) a2
  · exact Or.inl e), zL_of h.2.1 _ _⟩
section TRF
variable {m M : Mm} {N f k : Nat} {g : Nat → Int}
theorem dr_0 (hN : N < 10) (hf : f < N ∨ N = 0) (v7 v8 : Int32) (m : Mm) : ∃ s : Int, vG N s ∧ ∀ K : Int32 → Option (Int32 × Mm), (zLet (fun (x225 : Int32) => zBP (f_Law_low (v7 >>> (7 &&& 31)) x225 m) fun v227 => zLet K fun j230 => if v227 = 0 then zBP (f_Law_drawDate v8 m) fun v302 => j230 (10000 + v302) else if v227 = 1 then zBP (f_Law_low v8 5 m) fun v299 => zBP (f_Law_low (v8 >>> (3 &&& 31)) 7 m) fun v300 => zBP (f_Law_low (v8 >>> (6 &&& 31)) 12 m) fun v301 => j230 ((((20000 + (1000 * (1 + v299))) + (100 * v300)) + 1) + v301) else if v227 = 2 then zBP (f_Law_low (v8 >>> (3 &&& 31)) 7 m) fun v297 => zBP (f_Law_low (v8 >>> (6 &&& 31)) 12 m) fun v298 => j230 (((30000 + (100 * v297)) + 1) + v298) else j230 (40000 + i3 f)) fun j226 => if i3 (N : Int) ≤ 0 then j226 3 else j226 5) = K (i3 s) := by
  have core : ∀ n : Nat, (n = 3 ∨ (n = 5 ∧ 0 < N)) → ∃ s : Int, vG N s ∧ ∀ K : Int32 → Option (Int32 × Mm), (zBP (f_Law_low (v7 >>> (7 &&& 31)) (i3 n) m) fun v227 => zLet K fun j230 => if v227 = 0 then zBP (f_Law_drawDate v8 m) fun v302 => j230 (10000 + v302) else if v227 = 1 then zBP (f_Law_low v8 5 m) fun v299 => zBP (f_Law_low (v8 >>> (3 &&& 31)) 7 m) fun v300 => zBP (f_Law_low (v8 >>> (6 &&& 31)) 12 m) fun v301 => j230 ((((20000 + (1000 * (1 + v299))) + (100 * v300)) + 1) + v301) else if v227 = 2 then zBP (f_Law_low (v8 >>> (3 &&& 31)) 7 m) fun v297 => zBP (f_Law_low (v8 >>> (6 &&& 31)) 12 m) fun v298 => j230 (((30000 + (100 * v297)) + 1) + v298) else j230 (40000 + i3 f)) = K (i3 s) := by
    intro n hn
    obtain ⟨r, hr, e1⟩ := law_low (v7 >>> (7 &&& 31)) (n := n) (by omega) m
    obtain ⟨b, hb, e5⟩ : ∃ v : Nat, v < 7 ∧ f_Law_low (v8 >>> (3 &&& 31)) 7 m = some (i3 v) := law_low _ (n := 7) (by decide) m
    obtain ⟨c, hc, e6⟩ : ∃ v : Nat, v < 12 ∧ f_Law_low (v8 >>> (6 &&& 31)) 12 m = some (i3 v) := law_low _ (n := 12) (by decide) m
    by_cases c0 : r = 0
    · subst c0
      obtain ⟨d, hd, hd2, e2⟩ := law_drawDate v8 m
      refine ⟨10000 + d, Or.inl ⟨by omega, by rw [show (10000 + (d : Int)) % 10000 = d by omega]; exact hd⟩, fun K => ?_⟩
      rw [e1, zBP_some, zLet_q, if_pos (show i3 ((0 : Nat) : Int) = 0 from rfl), e2, zBP_some, show (10000 : Int32) = i3 10000 from rfl, i3_add]
    · by_cases c1 : r = 1
      · subst c1
        obtain ⟨a, ha, e4⟩ : ∃ v : Nat, v < 5 ∧ f_Law_low v8 5 m = some (i3 v) := law_low _ (n := 5) (by decide) m
        have q : (((20000 : Int32) + (1000 * (1 + i3 (a : Int)))) + (100 * i3 (b : Int))) + 1 + i3 (c : Int) = i3 (20000 + 1000 * (1 + a) + 100 * b + 1 + c) := by
          show (((i3 20000) + (i3 1000 * (i3 1 + i3 (a : Int)))) + (i3 100 * i3 (b : Int))) + i3 1 + i3 (c : Int) = _
          rw [i3_add, i3_mul, i3_add, i3_mul, i3_add, i3_add, i3_add]
        refine ⟨20000 + 1000 * (1 + a) + 100 * b + 1 + c, Or.inr (Or.inl ⟨by omega, by omega, by omega, by unfold vMo; omega⟩), fun K => ?_⟩
        rw [e1, zBP_some, zLet_q, if_neg (show ¬ i3 ((1 : Nat) : Int) = 0 by decide), if_pos (show i3 ((1 : Nat) : Int) = 1 from rfl), e4, zBP_some, e5, zBP_some, e6, zBP_some, q]
      · by_cases c2 : r = 2
        · subst c2
          have q : ((30000 : Int32) + (100 * i3 (b : Int))) + 1 + i3 (c : Int) = i3 (30000 + 100 * b + 1 + c) := by
            show ((i3 30000) + (i3 100 * i3 (b : Int))) + i3 1 + i3 (c : Int) = _
            rw [i3_mul, i3_add, i3_add, i3_add]
          refine ⟨30000 + 100 * b + 1 + c, Or.inr (Or.inr (Or.inl ⟨by omega, by omega, by unfold vMo; omega⟩)), fun K => ?_⟩
          rw [e1, zBP_some, zLet_q, if_neg (show ¬ i3 ((2 : Nat) : Int) = 0 by decide), if_neg (show ¬ i3 ((2 : Nat) : Int) = 1 by decide), if_pos (show i3 ((2 : Nat) : Int) = 2 from rfl), e5, zBP_some, e6, zBP_some, q]
        · refine ⟨40000 + f, Or.inr (Or.inr (Or.inr ⟨by omega, by omega⟩)), fun K => ?_⟩
          rw [e1, zBP_some, zLet_q, if_neg (j0n c0 (by omega)), if_neg (j1n c1 (by omega)), if_neg (j2n c2 (by omega)), show (40000 : Int32) = i3 40000 from rfl, i3_add]
  by_cases hz : N = 0
  · obtain ⟨s, hs, e⟩ := core 3 (Or.inl rfl)
    refine ⟨s, hs, fun K => ?_⟩
    rw [zLet_q, if_pos (by subst hz; decide)]
    exact e K
  · obtain ⟨s, hs, e⟩ := core 5 (Or.inr ⟨rfl, by omega⟩)
    refine ⟨s, hs, fun K => ?_⟩
    rw [zLet_q, jt_le0 ⟨by omega, by omega⟩, if_neg (by omega)]
    exact e K
/-- the condition that is drawn -/
def vCc (N : Nat) (c : Nat) : Prop := c = 0 ∨ (c < 170000 ∧ (c / 10000 = 13 ∧ c % 10000 ≤ 6 ∨ c / 10000 = 14 ∧ c % 10000 = 0 ∨ c / 10000 = 15 ∧ c % 10000 < N ∨ c / 10000 = 16 ∧ vDt (c % 10000 : Nat)))
theorem dr_1 (hN : N < 10) (hf : f < N ∨ N = 0) (v7 v8 : Int32) (m : Mm) (h0 : zI m 204 0 = i3 N) : ∃ c : Nat, vCc N c ∧ ∀ K : Int32 → Option (Int32 × Mm), (zBP (f_Law_low (v7 >>> (10 &&& 31)) 7 m) fun v232 => zLet K fun j235 => if v232 = 0 then zBP (f_Law_low (v8 >>> (9 &&& 31)) 7 m) fun v294 => j235 (130000 + v294) else if v232 = 1 then j235 140000 else zLet (if v232 = 3 then zBP (f_Law_drawDate (v8 >>> (9 &&& 31)) m) fun v292 => j235 (160000 + v292) else j235 0) fun j290 => if v232 = 2 then if zIn 0 6 then if (zI m 204 0) ≤ 0 then j290 else j235 (150000 + i3 f) else none else j290) = K (i3 c) := by
  obtain ⟨r, hr, e1⟩ : ∃ v : Nat, v < 7 ∧ f_Law_low (v7 >>> (10 &&& 31)) 7 m = some (i3 v) := law_low _ (n := 7) (by decide) m
  by_cases c0 : r = 0
  · subst c0
    obtain ⟨b, hb, e5⟩ : ∃ v : Nat, v < 7 ∧ f_Law_low (v8 >>> (9 &&& 31)) 7 m = some (i3 v) := law_low _ (n := 7) (by decide) m
    refine ⟨130000 + b, Or.inr ⟨by omega, by omega⟩, fun K => ?_⟩
    rw [e1, zBP_some, zLet_q, if_pos (show i3 ((0 : Nat) : Int) = 0 from rfl), e5, zBP_some, show (130000 : Int32) = i3 130000 from rfl, i3_add]
    rfl
  · by_cases c1 : r = 1
    · subst c1
      refine ⟨140000, Or.inr ⟨by omega, by omega⟩, fun K => ?_⟩
      rw [e1, zBP_some, zLet_q, if_neg (show ¬ i3 ((1 : Nat) : Int) = 0 by decide), if_pos (show i3 ((1 : Nat) : Int) = 1 from rfl)]
      rfl
    · by_cases c2 : r = 2 ∧ N ≠ 0
      · obtain ⟨rfl, c2⟩ := c2
        refine ⟨150000 + f, Or.inr ⟨by omega, by omega⟩, fun K => ?_⟩
        rw [e1, zBP_some, zLet_q, if_neg (show ¬ i3 ((2 : Nat) : Int) = 0 by decide), if_neg (show ¬ i3 ((2 : Nat) : Int) = 1 by decide), zLet_q, if_pos (show i3 ((2 : Nat) : Int) = 2 from rfl), if_pos z06.1, h0, jt_le0 ⟨by omega, by omega⟩, if_neg (by omega), show (150000 : Int32) = i3 150000 from rfl, i3_add]
        rfl
      · have hbr : ∀ (K : Int32 → Option (Int32 × Mm)) (X : Option (Int32 × Mm)), (if i3 (r : Int) = 2 then if zIn 0 6 then if (zI m 204 0) ≤ 0 then X else K (150000 + i3 f) else none else X) = X := fun K X => by
          by_cases e2 : r = 2
          · rw [if_pos (by rw [e2]; rfl), if_pos z06.1, h0, jt_le0 ⟨by omega, by omega⟩, if_pos (by omega)]
          · rw [if_neg (j2n e2 (by omega))]
        by_cases c3 : r = 3
        · obtain ⟨d, hd, hd2, e2⟩ := law_drawDate (v8 >>> (9 &&& 31)) m
          refine ⟨160000 + d, Or.inr ⟨by omega, Or.inr (Or.inr (Or.inr ⟨by omega, by rw [show (160000 + d) % 10000 = d by omega]; exact hd⟩))⟩, fun K => ?_⟩
          rw [e1, zBP_some, zLet_q, if_neg (j0n c0 (by omega)), if_neg (j1n c1 (by omega)), zLet_q, hbr, if_pos (by rw [c3]; rfl), e2, zBP_some, show (160000 : Int32) = i3 160000 from rfl, i3_add]
          rfl
        · refine ⟨0, Or.inl rfl, fun K => ?_⟩
          rw [e1, zBP_some, zLet_q, if_neg (j0n c0 (by omega)), if_neg (j1n c1 (by omega)), zLet_q, hbr, if_neg (j3n c3 (by omega))]
          rfl
theorem vCc.c {N c : Nat} {x : Int} (h : vCc N c) (hx : x = c ∨ x = -(c : Int)) : x = 0 ∨ (-170000 < x ∧ x < 170000 ∧ (x.natAbs / 10000 = 13 ∧ x.natAbs % 10000 ≤ 6 ∨ x.natAbs / 10000 = 14 ∧ x.natAbs % 10000 = 0 ∨ x.natAbs / 10000 = 15 ∧ x.natAbs % 10000 < N ∨ x.natAbs / 10000 = 16 ∧ vDt (x.natAbs % 10000 : Nat))) := by
  have e : x.natAbs = c := by omega
  rw [e]
  rcases h with h | ⟨h1, h2⟩
  · exact Or.inl (by omega)
  · exact Or.inr ⟨by omega, by omega, h2⟩
/-- the sign -/
theorem dr_s (hN : N < 10) (v7 : Int32) {c : Nat} (hc : c < 1000000) (h : RW m M N 2 g) (h1 : g 1 = c) : ∃ (M' : Mm) (c' : Int), (c' = c ∨ c' = -(c : Int)) ∧ RW m M' N 2 (upI g 1 c') ∧ ∀ K : Mm → Option (Int32 × Mm), (zBP (f_Law_low (v7 >>> (13 &&& 31)) 2 M) fun v237 => zLet K fun j240 => if v237 = 0 then if zIn (i3 ((6 * N + 1 : Nat) : Int)) 60 then if zIn (i3 ((6 * N + 1 : Nat) : Int)) 60 then zLet (wI M 201 (6 * N + 1) (-(zI M 201 (6 * N + 1)))) fun m287 => j240 m287 else none else none else j240 M) = K M' := by
  obtain ⟨r, hr, e1⟩ : ∃ v : Nat, v < 2 ∧ f_Law_low (v7 >>> (13 &&& 31)) 2 M = some (i3 v) := law_low _ (n := 2) (by decide) M
  obtain ⟨i1, x1⟩ := in_n (k := 6 * N + 1) (n := 60) (by omega) (by decide)
  by_cases c0 : i3 (r : Int) = 0
  · refine ⟨wI M 201 (6 * N + 1) (i3 (-(c : Int))), -(c : Int), Or.inr rfl, h.w (fun j hj => by omega) _, fun K => ?_⟩
    rw [e1, zBP_some, zLet_q, if_pos c0, if_pos i1, if_pos i1, h.2.2 1 (by decide), h1, i3_neg, zLet_q]
  · refine ⟨M, c, Or.inl rfl, ?_, fun K => ?_⟩
    · have e : upI g 1 (c : Int) = g := funext fun j => by
        unfold upI
        by_cases e : j = 1
        · rw [if_pos e, e, h1]
        · rw [if_neg e]
      rw [e]
      exact h
    · rw [e1, zBP_some, zLet_q, if_neg c0]
/-- the else -/
theorem dr_3 (v7 v9 : Int32) (M : Mm) : ∃ s : Int, (s = -1 ∨ vS s) ∧ ∀ K : Int32 → Option (Int32 × Mm), (zBP (f_Law_low (v7 >>> (14 &&& 31)) 2 M) fun v243 => zLet K fun j246 => if v243 = 0 then j246 (-1) else zBP (f_Law_drawStep (v9 >>> (9 &&& 31)) M) fun v286 => j246 v286) = K (i3 s) := by
  obtain ⟨r, hr, e1⟩ : ∃ v : Nat, v < 2 ∧ f_Law_low (v7 >>> (14 &&& 31)) 2 M = some (i3 v) := law_low _ (n := 2) (by decide) M
  by_cases c0 : i3 (r : Int) = 0
  · refine ⟨-1, Or.inl rfl, fun K => ?_⟩
    rw [e1, zBP_some, zLet_q, if_pos c0]
    rfl
  · obtain ⟨s, hs, e2⟩ := law_drawStep (v9 >>> (9 &&& 31)) M
    refine ⟨s, Or.inr hs, fun K => ?_⟩
    rw [e1, zBP_some, zLet_q, if_neg c0, e2, zBP_some]
theorem dr_4 (v7 v8 : Int32) (M : Mm) : ∃ s : Int, vS s ∧ ∀ K : Int32 → Option (Int32 × Mm), (zBP (f_Law_low (v7 >>> (15 &&& 31)) 2 M) fun v248 => zLet K fun j251 => if v248 = 0 then j251 0 else zBP (f_Law_drawStep (v8 >>> (12 &&& 31)) M) fun v285 => j251 v285) = K (i3 s) := by
  obtain ⟨r, hr, e1⟩ : ∃ v : Nat, v < 2 ∧ f_Law_low (v7 >>> (15 &&& 31)) 2 M = some (i3 v) := law_low _ (n := 2) (by decide) M
  by_cases c0 : i3 (r : Int) = 0
  · refine ⟨0, Or.inl rfl, fun K => ?_⟩
    rw [e1, zBP_some, zLet_q, if_pos c0]
    rfl
  · obtain ⟨s, hs, e2⟩ := law_drawStep (v8 >>> (12 &&& 31)) M
    refine ⟨s, hs, fun K => ?_⟩
    rw [e1, zBP_some, zLet_q, if_neg c0, e2, zBP_some]
theorem dr_5 (v7 v8 : Int32) (M : Mm) : ∃ s : Int, vS s ∧ ∀ K : Int32 → Option (Int32 × Mm), (zBP (f_Law_low (v7 >>> (16 &&& 31)) 3 M) fun v253 => zLet K fun j256 => if v253 = 0 then zBP (f_Law_drawStep (v8 >>> (17 &&& 31)) M) fun v284 => j256 v284 else j256 0) = K (i3 s) := by
  obtain ⟨r, hr, e1⟩ : ∃ v : Nat, v < 3 ∧ f_Law_low (v7 >>> (16 &&& 31)) 3 M = some (i3 v) := law_low _ (n := 3) (by decide) M
  by_cases c0 : i3 (r : Int) = 0
  · obtain ⟨s, hs, e2⟩ := law_drawStep (v8 >>> (17 &&& 31)) M
    refine ⟨s, hs, fun K => ?_⟩
    rw [e1, zBP_some, zLet_q, if_pos c0, e2, zBP_some]
  · refine ⟨0, Or.inl rfl, fun K => ?_⟩
    rw [e1, zBP_some, zLet_q, if_neg c0]
    rfl
/-- no moved day without a condition before it -/
theorem dr_m4 (hN : N < 10) (h : RW m M N 6 g) (h1 : -170000 < g 1 ∧ g 1 < 170000) (h4 : vS (g 4)) : ∃ (M' : Mm) (s : Int), vS s ∧ (g 1 = 0 → s / 1000 ≠ 1) ∧ RW m M' N 6 (upI g 4 s) ∧ ∀ K : Mm → Option (Int32 × Mm), (if zIn (i3 ((6 * N + 4 : Nat) : Int)) 60 then zLet K fun j260 => if ((zI M 201 (6 * N + 4)) / 1000) = 1 then if zIn (i3 ((6 * N + 1 : Nat) : Int)) 60 then if (zI M 201 (6 * N + 1)) = 0 then if zIn (i3 ((6 * N + 4 : Nat) : Int)) 60 then zLet (wI M 201 (6 * N + 4) 4003) fun m283 => j260 m283 else none else j260 M else none else j260 M else none) = K M' := by
  obtain ⟨i1, x1⟩ := in_n (k := 6 * N + 1) (n := 60) (by omega) (by decide)
  obtain ⟨i4, x4⟩ := in_n (k := 6 * N + 4) (n := 60) (by omega) (by decide)
  have b4 : 0 ≤ g 4 ∧ g 4 < 10000 := by unfold vS at h4; omega
  have hid : RW m M N 6 (upI g 4 (g 4)) := by
    have e : upI g 4 (g 4) = g := funext fun j => by
      unfold upI
      by_cases e : j = 4
      · rw [if_pos e, e]
      · rw [if_neg e]
    rw [e]
    exact h
  have d4 : i3 (g 4) / 1000 = i3 (g 4 / 1000) := by rw [show (1000 : Int32) = i3 1000 from rfl, i3_div ⟨by omega, by omega⟩ ⟨by decide, by decide⟩]
  by_cases c : g 4 / 1000 = 1
  · by_cases c1 : g 1 = 0
    · refine ⟨wI M 201 (6 * N + 4) (i3 4003), 4003, by unfold vS; omega, fun _ => by decide, h.w (fun j hj => Or.inl hj) _, fun K => ?_⟩
      rw [if_pos i4, zLet_q, h.2.2 4 (by decide), h.2.2 1 (by decide), d4, if_pos (by rw [c]; rfl), if_pos i1, if_pos (by rw [c1]; rfl), if_pos i4]
      rfl
    · refine ⟨M, g 4, h4, fun z => absurd z c1, hid, fun K => ?_⟩
      rw [if_pos i4, zLet_q, h.2.2 4 (by decide), h.2.2 1 (by decide), d4, if_pos (by rw [c]; rfl), if_pos i1, it_e0 ⟨by omega, by omega⟩, if_neg c1]
  · refine ⟨M, g 4, h4, fun _ => c, hid, fun K => ?_⟩
    rw [if_pos i4, zLet_q, h.2.2 4 (by decide), d4, it_e1 ⟨by omega, by omega⟩, if_neg c]
theorem dr_m5 (hN : N < 10) (h : RW m M N 6 g) (h5 : vS (g 5)) : ∃ (M' : Mm) (s : Int), vS s ∧ s / 1000 ≠ 1 ∧ RW m M' N 6 (upI g 5 s) ∧ ∀ K : Mm → Option (Int32 × Mm), (if zIn (i3 ((6 * N + 5 : Nat) : Int)) 60 then zLet K fun j263 => if ((zI M 201 (6 * N + 5)) / 1000) = 1 then if zIn (i3 ((6 * N + 5 : Nat) : Int)) 60 then zLet (wI M 201 (6 * N + 5) 6000) fun m281 => j263 m281 else none else j263 M else none) = K M' := by
  obtain ⟨i5, x5⟩ := in_n (k := 6 * N + 5) (n := 60) (by omega) (by decide)
  have b5 : 0 ≤ g 5 ∧ g 5 < 10000 := by unfold vS at h5; omega
  have d5 : i3 (g 5) / 1000 = i3 (g 5 / 1000) := by rw [show (1000 : Int32) = i3 1000 from rfl, i3_div ⟨by omega, by omega⟩ ⟨by decide, by decide⟩]
  by_cases c : g 5 / 1000 = 1
  · refine ⟨wI M 201 (6 * N + 5) (i3 6000), 6000, by unfold vS; omega, by decide, h.w (fun j hj => Or.inl hj) _, fun K => ?_⟩
    rw [if_pos i5, zLet_q, h.2.2 5 (by decide), d5, if_pos (by rw [c]; rfl), if_pos i5]
    rfl
  · refine ⟨M, g 5, h5, c, ?_, fun K => ?_⟩
    · have e : upI g 5 (g 5) = g := funext fun j => by
        unfold upI
        by_cases e : j = 5
        · rw [if_pos e, e]
        · rw [if_neg e]
      rw [e]
      exact h
    · rw [if_pos i5, zLet_q, h.2.2 5 (by decide), d5, it_e1 ⟨by omega, by omega⟩, if_neg c]
end TRF
