/-! THE LAW'S ALMANAC IS THE CLASS'S, AND SO ARE ITS QUESTIONS -/
section LQE
variable {m : Mm} {N nb nR t y : Nat} {fr : Nat → Nat → Int} {Rv F Y E PR RE BE : Nat → Int}
/-- bent days of the law's rules -/
def lB (y t : Nat) (F Y E : Nat → Int) (nb : Nat) (fr : Nat → Nat → Int) : Nat → Int := sB y t F Y E nb (lK fr) (lA fr) (lL fr)
def lCs (y t : Nat) (F Y E : Nat → Int) (nb : Nat) (fr : Nat → Nat → Int) : Nat → Int := fun k => (sG y t F Y E nb (lK fr) (lA fr) (lL fr) k).2
theorem br_B (hA : LA N fr Rv nb F Y E) (h : CM m N fr Rv nb F Y E) (y t : Nat) {k : Nat} (hk : k < N) : lB y t F Y E nb fr k = sBend y F Y E nb k (lDy y t (lB y t F Y E nb fr) (fr k)) ∧ lCs y t F Y E nb fr k = lCo y t (lB y t F Y E nb fr) (fr k) ∧ -1 ≤ lB y t F Y E nb fr k ∧ lB y t F Y E nb fr k < sLen y := by
  obtain ⟨o, Tx, ⟨w1, w2, -⟩, -⟩ := h
  have hv := hA.2.2.1 k hk
  have hr : sG y t F Y E nb (lK fr) (lA fr) (lL fr) k = (lDy y t (lB y t F Y E nb fr) (fr k), lCo y t (lB y t F Y E nb fr) (fr k)) := lC_run (y := y) (t := t) (B := lB y t F Y E nb fr) hv (fun j hj => sB_bd w1 (by omega))
  refine ⟨?_, ?_, sB_bd w1 hk⟩
  · have e := sB_fix (y := y) (t := t) (F := F) (Y := Y) (E := E) (nb := nb) w1 w2 hk
    rw [hr] at e
    exact e
  · unfold lCs
    rw [hr]
theorem lCs_bd (h : CM m N fr Rv nb F Y E) (y t : Nat) {k : Nat} (hk : k < N) : 0 ≤ lCs y t F Y E nb fr k ∧ lCs y t F Y E nb fr k ≤ 240 := by
  obtain ⟨o, Tx, ⟨w1, -⟩, -⟩ := h
  have h40 := (w1.2 k hk).1
  have := xgo_cost (y := y) (t := t) (B := sB y t F Y E nb (lK fr) (lA fr) (lL fr)) (K := lK fr k) (A := lA fr k) (n := lL fr k) (lL fr k) 0 (-1) false 0
  unfold lCs sG
  omega
/-- the law reckons a year's bent days and costs -/
theorem law_B (hA : LA N fr Rv nb F Y E) (hM : LM m N fr Rv nb F Y E) {M : Mm} (h : CM M N fr Rv nb F Y E) (hy : y < 400) (ht : t < 2) {t6 t7 : Nat} (h67 : t6 ≠ t7) :
    ∃ m', f_Law_bents (i3 y) (i3 t) t6 t7 m = some m' ∧ (∀ k, k < N → zI m' (207 + t6) k = i3 (lB y t F Y E nb fr k) ∧ zI m' (207 + t7) k = i3 (lCs y t F Y E nb fr k)) ∧ (∀ b j, b ≠ 207 + t6 → b ≠ 207 + t7 → zI m' b j = zI m b j) ∧ m'.2 = m.2 := by
  obtain ⟨m', e1, h1, h2, h3⟩ := law_bents (B := lB y t F Y E nb fr) hy ht hA.1 hA.2.1 h67 hM.1 hA.2.2.1 hM.2.1 hA.2.2.2.2.1 hA.2.2.2.2.2.1 (fun k hk => (br_B hA h y t hk).1)
  exact ⟨m', e1, fun k hk => ⟨(h1 k hk).1, by rw [(h1 k hk).2.1, (br_B hA h y t hk).2.1]⟩, h2, h3⟩
/-! what is asked of a year -/
def qR (y N : Nat) (b p : Nat → Int) (g : Nat → Int) : Bool := (sQ y N b p (20 + g 1) (qV g)) != decide (g 0 = 1)
theorem nx17 {a : Int} {pc : Nat} {f : Bool} : xN 17 a pc f = pc + 1 := by
  unfold xN
  rw [if_neg (by simp)]
theorem q_one {o : Int → Int → Bool} {C pre post : Cx} {k a : Int} {pc u : Nat} {f : Bool} (hC : C = pre ++ (k, a) :: post) (hp : pre.length = pc) : qgo o (kK C) (kA C) C.length (u + 1) pc f = qgo o (kK C) (kA C) C.length u (xN k a pc (qF o k a f)) (qF o k a f) := by
  have hl : pc < C.length := by rw [hC, List.length_append, List.length_cons]; omega
  have hg : C.getD pc (0, 0) = (k, a) := by
    rw [hC, gD_r (by omega), hp, Nat.sub_self]
    rfl
  have e1 : kK C pc = k := by unfold kK; rw [hg]
  have e2 : kA C pc = a := by unfold kA; rw [hg]
  rw [qgo_go hl, e1, e2]
theorem q_qA {n u pc : Nat} {b p : Nat → Int} {g : Nat → Int} {C pre post : Cx} {f : Bool} (hv : vQ n g) (hC : C = pre ++ (qA g ++ post)) (hp : pre.length = pc) : ∃ u', u + (qA g).length = u' ∧ qgo (sQ y N b p) (kK C) (kA C) C.length u' pc f = qgo (sQ y N b p) (kK C) (kA C) C.length u (pc + (qA g).length) (qR y N b p g) := by
  have hk : 21 ≤ 20 + g 1 ∧ 20 + g 1 ≤ 25 := by have := hv.2.1; omega
  have hF : ∀ f, qF (sQ y N b p) (20 + g 1) (qV g) f = sQ y N b p (20 + g 1) (qV g) := fun f => by
    unfold qF
    rw [if_neg (by omega), if_neg (by omega)]
  have hX : ∀ f, xN (20 + g 1) (qV g) pc f = pc + 1 := fun f => by
    unfold xN
    rw [if_neg (by omega)]
  unfold qA at hC ⊢
  unfold qR
  by_cases c : g 0 = 1
  · rw [if_pos c] at hC ⊢
    refine ⟨u + 2, rfl, ?_⟩
    rw [q_one (k := 20 + g 1) (a := qV g) (post := (17, 0) :: post) (by rw [hC]; rfl) hp, hF, hX, q_one (pre := pre ++ [(20 + g 1, qV g)]) (k := 17) (a := 0) (post := post) (by rw [hC]; simp) (by simp [hp]), nx17, decide_eq_true c]
    have e17 : ∀ x, qF (sQ y N b p) 17 0 x = !x := fun x => by
      unfold qF
      rw [if_pos rfl]
    rw [e17]
    cases sQ y N b p (20 + g 1) (qV g) <;> rfl
  · rw [if_neg c] at hC ⊢
    refine ⟨u + 1, rfl, ?_⟩
    rw [q_one (k := 20 + g 1) (a := qV g) (post := post) (by rw [hC]; rfl) hp, hF, hX, decide_eq_false c]
    cases sQ y N b p (20 + g 1) (qV g) <;> rfl
/-- a question's code tells what the law does with its parts -/
theorem q_all {n : Nat} {q0 : Int} {b p : Nat → Int} {g h : Nat → Int} (hg : vQ n g) (hh : vQ n h) (h0 : 0 ≤ q0 ∧ q0 ≤ 2) : qgo (sQ y N b p) (kK (lQ q0 g h)) (kA (lQ q0 g h)) (lQ q0 g h).length (lQ q0 g h).length 0 false = if q0 = 0 then qR y N b p g else if q0 = 1 then (qR y N b p g && qR y N b p h) else (qR y N b p g || qR y N b p h) := by
  generalize hC : lQ q0 g h = C
  unfold lQ at hC
  by_cases c : q0 = 0
  · rw [if_pos c] at hC ⊢
    obtain ⟨u', e1, e2⟩ := q_qA (y := y) (N := N) (b := b) (p := p) (u := 0) (pc := 0) (f := false) (C := C) (pre := []) (post := []) hg (by rw [← hC]; simp) rfl
    have el : C.length = u' := by rw [← e1, ← hC]; omega
    rw [show qgo (sQ y N b p) (kK C) (kA C) C.length C.length 0 false = qgo (sQ y N b p) (kK C) (kA C) C.length u' 0 false by rw [el], e2]
    rfl
  · rw [if_neg c] at hC ⊢
    generalize hv : (((qA g).length + 1 + (qA h).length : Nat) : Int) = v at hC
    obtain ⟨u1, e1, e2⟩ := q_qA (y := y) (N := N) (b := b) (p := p) (u := (qA h).length + 1) (pc := 0) (f := false) (C := C) (pre := []) (post := (if q0 = 1 then 19 else 20, v) :: qA h) hg (by rw [← hC]; simp) rfl
    have hl : C.length = (qA g).length + 1 + (qA h).length := by rw [← hC]; simp; omega
    have el : C.length = u1 := by omega
    rw [show qgo (sQ y N b p) (kK C) (kA C) C.length C.length 0 false = qgo (sQ y N b p) (kK C) (kA C) C.length u1 0 false by rw [el], e2, q_one (pre := qA g) (k := if q0 = 1 then 19 else 20) (a := v) (post := qA h) (by rw [← hC]; simp) (by omega)]
    have hF : ∀ x, qF (sQ y N b p) (if q0 = 1 then 19 else 20) v x = x := fun x => by
      unfold qF
      rw [if_neg (by split <;> decide), if_pos (by split <;> decide)]
    rw [hF]
    have hend : ∀ u x, qgo (sQ y N b p) (kK C) (kA C) C.length u v.toNat x = x := fun u x => qgo_end (by omega) u
    have hgo : ∀ x, qgo (sQ y N b p) (kK C) (kA C) C.length (qA h).length (0 + (qA g).length + 1) x = qR y N b p h := fun x => by
      obtain ⟨u2, e3, e4⟩ := q_qA (y := y) (N := N) (b := b) (p := p) (u := 0) (pc := 0 + (qA g).length + 1) (f := x) (C := C) (pre := qA g ++ [(if q0 = 1 then 19 else 20, v)]) (post := []) hh (by rw [← hC]; simp) (by simp)
      rw [show (qA h).length = u2 by omega, e4]
      rfl
    by_cases c1 : q0 = 1
    · rw [if_pos c1, if_pos c1]
      cases hx : qR y N b p g with
      | true =>
        have : xN 19 v (0 + (qA g).length) true = 0 + (qA g).length + 1 := by
          unfold xN
          rw [if_neg (by simp)]
        rw [this, hgo, Bool.true_and]
      | false =>
        have : xN 19 v (0 + (qA g).length) false = v.toNat := by
          unfold xN
          rw [if_pos (by simp)]
        rw [this, hend, Bool.false_and]
    · rw [if_neg c1, if_neg c1]
      cases hx : qR y N b p g with
      | true =>
        have : xN 20 v (0 + (qA g).length) true = v.toNat := by
          unfold xN
          rw [if_pos (by simp)]
        rw [this, hend, Bool.true_or]
      | false =>
        have : xN 20 v (0 + (qA g).length) false = 0 + (qA g).length + 1 := by
          unfold xN
          rw [if_neg (by simp)]
        rw [this, hgo, Bool.false_or]
theorem law_asked (hy : y < 400) (hN : N ≤ 10) (h0 : zI m 204 0 = i3 N) {a t5 t6 : Nat} (ha : a = 1 ∨ a = 5) {g b p : Nat → Int} (hv : vQ N g) (hf : ∀ j, j < 4 → zI m 205 (a + j) = i3 (g j)) (hb : ∀ k, k < N → zI m (207 + t5) k = i3 (b k) ∧ -1 ≤ b k ∧ b k < 400) (hp : ∀ k, k < N → zI m (207 + t6) k = i3 (p k) ∧ -1 ≤ p k ∧ p k < sLen y) :
    f_Law_asked (i3 a) (i3 y) t5 t6 m = some (b3 (qR y N b p g)) := by
  have hL := sLen_bd y
  have hFi := sFirst_bd hy
  obtain ⟨v0, v1, ⟨v2, v2'⟩, v3⟩ := hv
  have g0 := hf 0 (by decide)
  rw [Nat.add_zero] at g0
  have g1 := hf 1 (by decide)
  have g2 := hf 2 (by decide)
  have g3 := hf 3 (by decide)
  obtain ⟨i0, x0⟩ := in_n (k := a) (n := 9) (by omega) (by decide)
  obtain ⟨i1, x1⟩ := in_n (k := a + 1) (n := 9) (by omega) (by decide)
  obtain ⟨i2, x2⟩ := in_n (k := a + 2) (n := 9) (by omega) (by decide)
  obtain ⟨i3', x3⟩ := in_n (k := a + 3) (n := 9) (by omega) (by decide)
  have hcl := law_clashes hN h0 hb
  have hclb := clT_nn (b := b) (N := N) (by omega)
  obtain ⟨f2, e2⟩ : ∃ f2 : Nat, g 2 = f2 := ⟨(g 2).toNat, by omega⟩
  rw [e2] at g2 v2 v2'
  obtain ⟨i4, x4⟩ := in_n (k := f2) (n := 10) (by omega) (by decide)
  obtain ⟨hp1, hp2, hp3⟩ := hp f2 (by omega)
  -- the last join
  have hjj : ∀ (v : Bool) {X1 X0 : Option Int32}, X1 = some (if v then 0 else 1) → X0 = some (if v then 1 else 0) → (if i3 (g 0) = 1 then X1 else X0) = some (b3 (v != decide (g 0 = 1))) := by
    intro v X1 X0 e1 e0
    rw [it_e1 ⟨by omega, by omega⟩]
    by_cases c : g 0 = 1
    · rw [if_pos c, decide_eq_true c, e1]
      cases v <;> decide
    · rw [if_neg c, decide_eq_false c, e0]
      cases v <;> decide
  unfold f_Law_asked qR
  rw [ad1, ad2, ad3, if_pos i1, x1, g1, zLet_q, x2, x3, x0, g0, g2, g3]
  simp only [zLet_q, if_pos i0, if_pos i2, if_pos i3', if_pos i4, x4, hp1]
  have hone : ∀ {α : Type} {a b : α}, (if i3 (g 1) = 1 then a else b) = if g 1 = 1 then a else b := it_e1 ⟨by omega, by omega⟩
  have hn : ∀ (z : Int) (k : Int32), k = i3 z → (1 ≤ z ∧ z ≤ 5) → ∀ {α : Type} {a b : α}, (if i3 (g 1) = k then a else b) = if g 1 = z then a else b := fun z k hk hz α a b => by rw [hk]; exact it_eq ⟨by omega, by omega⟩ ⟨by omega, by omega⟩
  have h11 := @hn 1 1 rfl ⟨by decide, by decide⟩
  have h14 := @hn 4 4 rfl ⟨by decide, by decide⟩
  have h12 := @hn 2 2 rfl ⟨by decide, by decide⟩
  have h13 := @hn 3 3 rfl ⟨by decide, by decide⟩
  simp only [h11, h14, h12, h13]
  rcases (show g 1 = 1 ∨ g 1 = 2 ∨ g 1 = 3 ∨ g 1 = 4 ∨ g 1 = 5 by omega) with c | c | c | c | c
  · have e : sQ y N b p (20 + g 1) (qV g) = decide (clT b N N = 0) := by
      rw [c]
      rfl
    rw [e]
    simp only [c, if_true]
    rw [hcl, zBP_some, it_e0 ⟨by omega, by omega⟩]
    by_cases cc : clT b N N = 0
    · rw [if_pos cc, decide_eq_true cc]
      exact hjj true (by decide) (by decide)
    · rw [if_neg cc, decide_eq_false cc]
      exact hjj false (by decide) (by decide)
  · have hvd : vDt (g 3) := by
      rcases v3 with h | h | h
      · exact h.2
      · omega
      · omega
    have hdb := hvd.bz
    have eV : qV g = 10000 * (f2 : Int) + g 3 := by
      unfold qV
      rw [if_neg (by omega), if_pos c, e2]
    have e : sQ y N b p (20 + g 1) (qV g) = decide (p f2 ≠ -1 ∧ (sDt (sLeap y) (p f2).toNat : Int) = g 3) := by
      rw [c, eV]
      show decide (p ((10000 * (f2 : Int) + g 3) / 10000).toNat ≠ -1 ∧ (sDt (sLeap y) (p ((10000 * (f2 : Int) + g 3) / 10000).toNat).toNat : Int) = (10000 * (f2 : Int) + g 3) % 10000) = _
      rw [show ((10000 * (f2 : Int) + g 3) / 10000).toNat = f2 by omega, show (10000 * (f2 : Int) + g 3) % 10000 = g 3 by omega]
    rw [e]
    simp only [c, show ¬ (2 : Int) = 1 by decide, show ¬ (2 : Int) = 4 by decide, if_false, if_true]
    rw [it_lt0 ⟨by omega, by omega⟩]
    by_cases c0 : p f2 < 0
    · rw [if_pos c0, decide_eq_false (fun z => z.1 (by omega))]
      exact hjj false (by decide) (by decide)
    · rw [if_neg c0]
      obtain ⟨d, ed⟩ : ∃ d : Nat, p f2 = d := ⟨(p f2).toNat, by omega⟩
      have hd : d < sLenB (sLeap y) := by
        have : sLen y = sLenB (sLeap y) := rfl
        omega
      have hsd := sDt_bd hd
      rw [ed, law_date hy (by omega), zBP_some, it_eq ⟨by omega, by omega⟩ ⟨by omega, by omega⟩, Int.toNat_natCast]
      by_cases c9 : (sDt (sLeap y) d : Int) = g 3
      · rw [if_pos c9, decide_eq_true ⟨by omega, c9⟩]
        exact hjj true (by decide) (by decide)
      · rw [if_neg c9, decide_eq_false (fun z => c9 z.2)]
        exact hjj false (by decide) (by decide)
  · have hw : 0 ≤ g 3 ∧ g 3 ≤ 6 := by omega
    have eV : qV g = 10 * (f2 : Int) + g 3 := by
      unfold qV
      rw [if_neg (by omega), if_neg (by omega), if_pos c, e2]
    have e : sQ y N b p (20 + g 1) (qV g) = decide (p f2 ≠ -1 ∧ sWd y (p f2) = g 3) := by
      rw [c, eV]
      show decide (p ((10 * (f2 : Int) + g 3) / 10).toNat ≠ -1 ∧ sWd y (p ((10 * (f2 : Int) + g 3) / 10).toNat) = (10 * (f2 : Int) + g 3) % 10) = _
      rw [show ((10 * (f2 : Int) + g 3) / 10).toNat = f2 by omega, show (10 * (f2 : Int) + g 3) % 10 = g 3 by omega]
    rw [e]
    simp only [c, show ¬ (3 : Int) = 1 by decide, show ¬ (3 : Int) = 4 by decide, show ¬ (3 : Int) = 2 by decide, if_false, if_true]
    rw [it_lt0 ⟨by omega, by omega⟩]
    by_cases c0 : p f2 < 0
    · rw [if_pos c0, decide_eq_false (fun z => z.1 (by omega))]
      exact hjj false (by decide) (by decide)
    · rw [if_neg c0, law_great (by omega), zBP_some, i3_add, show (6 : Int32) = i3 6 from rfl, i3_add, show (7 : Int32) = i3 7 from rfl, i3_mod ⟨by omega, by omega⟩ ⟨by decide, by decide⟩, it_eq ⟨by omega, by omega⟩ ⟨by omega, by omega⟩]
      have hwd : sWd y (p f2) = ((sFirst y : Int) + p f2 + 6) % 7 := by
        show ((sFirst y : Int) + 6 + p f2) % 7 = _
        omega
      rw [hwd]
      by_cases c9 : ((sFirst y : Int) + p f2 + 6) % 7 = g 3
      · rw [if_pos c9, decide_eq_true ⟨by omega, c9⟩]
        exact hjj true (by decide) (by decide)
      · rw [if_neg c9, decide_eq_false (fun z => c9 z.2)]
        exact hjj false (by decide) (by decide)
  · have eV : qV g = (f2 : Int) := by
      unfold qV
      rw [if_neg (by omega), if_neg (by omega), if_neg (by omega), if_pos c, e2]
    have e : sQ y N b p (20 + g 1) (qV g) = decide (p f2 = -1) := by
      rw [c, eV]
      show decide (p ((f2 : Int)).toNat = -1) = _
      rw [Int.toNat_natCast]
    rw [e]
    simp only [c, show ¬ (4 : Int) = 1 by decide, if_false, if_true]
    rw [it_0le ⟨by omega, by omega⟩]
    by_cases c0 : 0 ≤ p f2
    · rw [if_pos c0, decide_eq_false (by omega)]
      exact hjj false (by decide) (by decide)
    · rw [if_neg c0, decide_eq_true (by omega)]
      exact hjj true (by decide) (by decide)
  · have h3 : 0 ≤ g 3 ∧ g 3 < N := by omega
    obtain ⟨f3, e3⟩ : ∃ f3 : Nat, g 3 = f3 := ⟨(g 3).toNat, by omega⟩
    obtain ⟨i5, x5⟩ := in_n (k := f3) (n := 10) (by omega) (by decide)
    obtain ⟨hq1, hq2, hq3⟩ := hp f3 (by omega)
    have eV : qV g = 100 * (f2 : Int) + f3 := by
      unfold qV
      rw [if_neg (by omega), if_neg (by omega), if_neg (by omega), if_neg (by omega), e2, e3]
    have e : sQ y N b p (20 + g 1) (qV g) = decide (p f2 ≠ -1 ∧ p f2 < p f3) := by
      rw [c, eV]
      show decide (p ((100 * (f2 : Int) + f3) / 100).toNat ≠ -1 ∧ p ((100 * (f2 : Int) + f3) / 100).toNat < p ((100 * (f2 : Int) + f3) % 100).toNat) = _
      rw [show ((100 * (f2 : Int) + f3) / 100).toNat = f2 by omega, show ((100 * (f2 : Int) + f3) % 100).toNat = f3 by omega]
    rw [e]
    simp only [c, e3, show ¬ (5 : Int) = 1 by decide, show ¬ (5 : Int) = 4 by decide, show ¬ (5 : Int) = 2 by decide, show ¬ (5 : Int) = 3 by decide, if_false, if_pos i5, x5, hq1]
    rw [it_lt0 ⟨by omega, by omega⟩, it_le ⟨by omega, by omega⟩ ⟨by omega, by omega⟩]
    by_cases c0 : p f2 < 0
    · rw [if_pos c0, decide_eq_false (fun z => z.1 (by omega))]
      exact hjj false (by decide) (by decide)
    · rw [if_neg c0]
      by_cases c9 : p f3 ≤ p f2
      · rw [if_pos c9, decide_eq_false (fun z => by omega)]
        exact hjj false (by decide) (by decide)
      · rw [if_neg c9, decide_eq_true ⟨by omega, by omega⟩]
        exact hjj true (by decide) (by decide)
end LQE
