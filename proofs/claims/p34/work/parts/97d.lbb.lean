/-! THE LAW'S BENT DAYS: its loops -/
def LF (m : Mm) (N : Nat) (fr : Nat → Nat → Int) : Prop := zI m 204 0 = i3 N ∧ ∀ k, k < N → ∀ j, j < 6 → zI m 201 (6 * k + j) = i3 (fr k j)
def LD (m : Mm) (nb : Nat) (F Y E : Nat → Int) : Prop := zI m 204 1 = i3 nb ∧ ∀ i, i < nb → zI m 203 (3 * i) = i3 (F i) ∧ zI m 203 (3 * i + 1) = i3 (Y i) ∧ zI m 203 (3 * i + 2) = i3 (E i)
theorem in_n {k n : Nat} (h : k < n) (hn : n ≤ 1000) : zIn (i3 (k : Int)) n ∧ zIx (i3 (k : Int)) = k := ⟨(i3_in ⟨by omega, by omega⟩).mpr ⟨by omega, by omega⟩, by rw [i3_ix ⟨by omega, by omega⟩, Int.toNat_natCast]⟩
theorem m3_i (i : Nat) : (3 : Int32) * i3 (i : Int) = i3 ((3 * i : Nat) : Int) := by rw [show (3 : Int32) = i3 3 from rfl, i3_mul]; rfl
theorem m6_i (i : Nat) : (6 : Int32) * i3 (i : Int) = i3 ((6 * i : Nat) : Int) := by rw [show (6 : Int32) = i3 6 from rfl, i3_mul]; rfl
theorem ad_i (a b : Nat) : i3 (a : Int) + i3 (b : Int) = i3 ((a + b : Nat) : Int) := by rw [i3_add]; rfl
theorem l_0 : (0 : Int32) = i3 ((0 : Nat) : Int) := rfl
theorem l_1 : (1 : Int32) = i3 ((1 : Nat) : Int) := rfl
theorem l_2 : (2 : Int32) = i3 ((2 : Nat) : Int) := rfl
theorem l_3 : (3 : Int32) = i3 ((3 : Nat) : Int) := rfl
theorem ad1 (a : Nat) : i3 (a : Int) + 1 = i3 ((a + 1 : Nat) : Int) := ad_i a 1
theorem ad2 (a : Nat) : i3 (a : Int) + 2 = i3 ((a + 2 : Nat) : Int) := ad_i a 2
theorem ad3 (a : Nat) : i3 (a : Int) + 3 = i3 ((a + 3 : Nat) : Int) := ad_i a 3
/-- a join that is gone to at once -/
theorem zl_if {α : Type} {J : Int32 → α} {c : Prop} [Decidable c] {a b : Int32} : (zLet J fun j => if c then j a else j b) = J (if c then a else b) := by
  rw [zLet_q]
  split <;> rfl
theorem zl_if2 {α : Type} {J : Int32 → α} {c c' : Prop} [Decidable c] [Decidable c'] {a b d : Int32} : (zLet J fun j => if c then j a else if c' then j b else j d) = J (if c then a else if c' then b else d) := by
  rw [zLet_q]
  split
  · rfl
  · split <;> rfl
theorem zl_ifb {α : Type} {J : Int32 → α} {c c' : Prop} [Decidable c] [Decidable c'] {a b : Int32} : (zLet J fun j => zLet (j a) fun k => if c then k else if c' then k else j b) = J (if c then a else if c' then a else b) := by
  rw [zLet_q, zLet_q]
  split
  · rfl
  · split <;> rfl
theorem zl_if3 {α : Type} {J : Int32 → α} {c c' : Prop} [Decidable c] [Decidable c'] {a b d : Int32} : (zLet J fun j => if c then (if c' then j a else j b) else j d) = J (if c then (if c' then a else b) else d) := by
  rw [zLet_q]
  split
  · split <;> rfl
  · rfl
section LBB
variable {y t N nb t6 t7 k : Nat} {F Y E B : Nat → Int} {fr : Nat → Nat → Int} {M : Mm}
theorem bents_in0 (hy : y < 400) (hk : k < 10) (hnb : nb ≤ 10) (hD : LD M nb F Y E) (hv : vB F Y E nb) (hU : Un F Y nb) {d c : Int} (hd : -1 ≤ d ∧ d < sLen y) (r : Int32 → Mm → Option Mm) :
    zLq2 (l_Law_bents_0 M (i3 k) t6 t7 (i3 c) r (i3 y)) zFu (i3 d) 0 = r (i3 ((k + 1 : Nat) : Int)) (wI (wI M (207 + t6) k (i3 (sBend y F Y E nb k d))) (207 + t7) k (i3 c)) := by
  have hL := sLen_bd y
  refine run_zLq2 (fun j x20 x21 => ∃ i : Nat, i ≤ nb ∧ j = nb - i ∧ x21 = i3 i ∧ x20 = i3 (sBend y F Y E i k d)) ?_ zFu nb _ _ ⟨0, Nat.zero_le _, rfl, rfl, by
    unfold sBend
    by_cases e : d = -1
    · rw [if_pos e, e]
    · rw [if_neg e]; rfl⟩ (by unfold zFu; omega)
  rintro r2 j _ _ ⟨i, hi, rfl, rfl, rfl⟩
  have hbd := sBend_bd (y := y) (F := F) (Y := Y) (K := E) (n := i) (f := k) hd
  unfold l_Law_bents_0
  obtain ⟨z1, z1x⟩ : zIn (1 : Int32) 6 ∧ zIx (1 : Int32) = 1 := by decide
  rw [if_pos z1, z1x, hD.1, it_le ⟨by omega, by omega⟩ ⟨by omega, by omega⟩]
  by_cases e : nb ≤ i
  · left
    obtain ⟨h1, h2⟩ := in_n (k := k) (n := 10) hk (by decide)
    rw [if_pos (by omega), if_pos h1, h2, zLet_q, if_pos h1, zLet_q, zLet_q, ad1, show i = nb by omega]
  · right
    have hi9 : i < nb := by omega
    obtain ⟨a1, a2, a3⟩ := hD.2 i hi9
    obtain ⟨b1, b2, b3'⟩ := hv.2 i hi9
    obtain ⟨h1, h2⟩ := in_n (k := 3 * i) (n := 30) (by omega) (by decide)
    obtain ⟨h3, h4⟩ := in_n (k := 3 * i + 1) (n := 30) (by omega) (by decide)
    obtain ⟨h5, h6⟩ := in_n (k := 3 * i + 2) (n := 30) (by omega) (by decide)
    refine ⟨i3 (sBend y F Y E (i + 1) k d), i3 ((i + 1 : Nat) : Int), nb - (i + 1), by omega, ⟨i + 1, by omega, rfl, rfl, rfl⟩, ?_⟩
    rw [if_neg (by omega), m3_i, if_pos h1, h2, ad1, ad2]
    simp only [zLet_q, if_pos h3, h4, if_pos h5, h6, a1, a2, a3, ad1]
    rw [it_eq ⟨by omega, by omega⟩ ⟨by omega, by omega⟩, it_eq ⟨by omega, by omega⟩ ⟨by omega, by omega⟩, it_lt0 ⟨by omega, by omega⟩, show (99 : Int32) = i3 99 from rfl, it_eq ⟨by omega, by omega⟩ ⟨by decide, by decide⟩]
    have hs : sIx F Y k y (i + 1) = if F i = k ∧ Y i = y then (i : Int) else sIx F Y k y i := sIx_succ
    by_cases e1 : F i = k
    · rw [if_pos e1]
      by_cases e2 : Y i = y
      · have hno : sIx F Y k y i = -1 := by
          rcases sIx_bd (F := F) (Y := Y) (f := k) (y := y) i with h | ⟨q, q1, -, q3, q4⟩
          · exact h
          · exact absurd (hU q i (by omega) hi9 (by rw [q3, e1]) (by rw [q4, e2])) (by omega)
        rw [if_pos ⟨e1, e2⟩] at hs
        have ecur : sBend y F Y E i k d = d := by
          unfold sBend
          by_cases e3 : d = -1
          · rw [if_pos e3, e3]
          · rw [if_neg e3, if_pos hno]
        rw [if_pos e2, ecur]
        unfold sBend
        rw [hs]
        by_cases e3 : d = -1
        · rw [if_pos (show d < 0 by omega), if_pos e3, e3]
        · rw [if_neg (show ¬ d < 0 by omega), if_neg e3, if_neg (show ¬ (i : Int) = -1 by omega), Int.toNat_natCast]
          by_cases e4 : E i = 99
          · rw [if_pos e4, if_pos e4]
            rfl
          · rw [if_neg e4, if_neg e4, i3_add, law_in hy ⟨by omega, by omega⟩, zBP_some]
      · rw [if_neg e2]
        rw [if_neg (fun z => e2 z.2)] at hs
        unfold sBend
        rw [hs]
    · rw [if_neg e1]
      rw [if_neg (fun z => e1 z.1)] at hs
      unfold sBend
      rw [hs]
theorem bents_in1 (hy : y < 400) (ht : t < 2) (hk : k < N) (hN : N ≤ 10) (hnb : nb ≤ 10) (hFm : LF M N fr) (hD : LD M nb F Y E) (hv : vB F Y E nb) (hU : Un F Y nb) {d c s : Int} (hd : -1 ≤ d ∧ d < sLen y) (hs : vS s) (h4 : vS (fr k 4)) (h5 : vS (fr k 5)) (r : Int32 → Mm → Option Mm) :
    zLq3 (l_Law_bents_1 M (i3 k) t6 t7 r (i3 y) (i3 t) (i3 s)) zFu (i3 d) (i3 c) 0 = r (i3 ((k + 1 : Nat) : Int)) (wI (wI M (207 + t6) k (i3 (sBend y F Y E nb k (sStp y t (fr k 5) (sStp y t (fr k 4) (sStp y t s d)))))) (207 + t7) k (i3 (c + lPr s + lPr (fr k 4) + lPr (fr k 5)))) := by
  have d1 := sStp_bd (y := y) t (s := s) hd
  have d2 := sStp_bd (y := y) t (s := fr k 4) d1
  have d3 := sStp_bd (y := y) t (s := fr k 5) d2
  have body : ∀ (r2 : Int32 → Int32 → Int32 → Option Mm) (i : Nat) (dd cc q : Int), i < 3 → (-1 ≤ dd ∧ dd < sLen y) → vS q → (i = 0 → q = s) → (i ≠ 0 → q = fr k (3 + i)) → l_Law_bents_1 M (i3 k) t6 t7 r (i3 y) (i3 t) (i3 s) r2 (i3 dd) (i3 cc) (i3 i) = r2 (i3 (sStp y t q dd)) (i3 (cc + lPr q)) (i3 ((i + 1 : Nat) : Int)) := by
    intro r2 i dd cc q hi hdd hq q0 q1
    unfold l_Law_bents_1
    rw [l_3, it_le ⟨by decide, by decide⟩ ⟨by omega, by omega⟩, if_neg (by omega), zLet_q, it_e0 ⟨by omega, by omega⟩]
    by_cases e : i = 0
    · rw [if_pos (by omega), ← q0 e]
      dsimp only
      rw [law_walk hy ht hq hdd, zBP_some, law_price hq, zBP_some, zLet_q, zLet_q, i3_add, ad1]
    · obtain ⟨h1, h2⟩ := in_n (k := 6 * k + 3 + i) (n := 60) (by omega) (by decide)
      have hz := hFm.2 k hk (3 + i) (by omega)
      rw [if_neg (by omega), m6_i, ad_i, ad_i, if_pos h1, h2, show 6 * k + 3 + i = 6 * k + (3 + i) by omega, hz, ← q1 e]
      dsimp only
      rw [law_walk hy ht hq hdd, zBP_some, law_price hq, zBP_some, zLet_q, zLet_q, i3_add, ad1]
  refine run_zLq3 (fun j x15 x16 x17 => (j = 3 ∧ x15 = i3 d ∧ x16 = i3 c ∧ x17 = i3 ((0 : Nat) : Int)) ∨ (j = 2 ∧ x15 = i3 (sStp y t s d) ∧ x16 = i3 (c + lPr s) ∧ x17 = i3 ((1 : Nat) : Int)) ∨ (j = 1 ∧ x15 = i3 (sStp y t (fr k 4) (sStp y t s d)) ∧ x16 = i3 (c + lPr s + lPr (fr k 4)) ∧ x17 = i3 ((2 : Nat) : Int)) ∨ (j = 0 ∧ x15 = i3 (sStp y t (fr k 5) (sStp y t (fr k 4) (sStp y t s d))) ∧ x16 = i3 (c + lPr s + lPr (fr k 4) + lPr (fr k 5)) ∧ x17 = i3 ((3 : Nat) : Int))) ?_ zFu 3 _ _ _ (Or.inl ⟨rfl, rfl, rfl, rfl⟩) (by unfold zFu; omega)
  rintro r2 j x15 x16 x17 (⟨rfl, rfl, rfl, rfl⟩ | ⟨rfl, rfl, rfl, rfl⟩ | ⟨rfl, rfl, rfl, rfl⟩ | ⟨rfl, rfl, rfl, rfl⟩)
  · right
    exact ⟨_, _, _, 2, by decide, Or.inr (Or.inl ⟨rfl, rfl, rfl, rfl⟩), body r2 0 d c s (by decide) hd hs (fun _ => rfl) (fun h => absurd rfl h)⟩
  · right
    exact ⟨_, _, _, 1, by decide, Or.inr (Or.inr (Or.inl ⟨rfl, rfl, rfl, rfl⟩)), body r2 1 _ _ (fr k 4) (by decide) d1 h4 (fun h => absurd h (by decide)) (fun _ => rfl)⟩
  · right
    exact ⟨_, _, _, 0, by decide, Or.inr (Or.inr (Or.inr ⟨rfl, rfl, rfl, rfl⟩)), body r2 2 _ _ (fr k 5) (by decide) d2 h5 (fun h => absurd h (by decide)) (fun _ => rfl)⟩
  · left
    unfold l_Law_bents_1
    rw [l_3, it_le ⟨by decide, by decide⟩ ⟨by decide, by decide⟩, if_pos (by decide)]
    exact bents_in0 hy (by omega) hnb hD hv hU d3 r
theorem bents_body (hy : y < 400) (ht : t < 2) (hk : k < N) (hN : N ≤ 10) (hnb : nb ≤ 10) (hFm : LF M N fr) (hR : vR k (fr k)) (hD : LD M nb F Y E) (hv : vB F Y E nb) (hU : Un F Y nb) (hB : ∀ j, j < k → zI M (207 + t6) j = i3 (B j) ∧ -1 ≤ B j ∧ B j < sLen y) (r : Int32 → Mm → Option Mm) :
    l_Law_bents_2 (i3 y) t6 t7 (i3 t) r (i3 k) M = r (i3 ((k + 1 : Nat) : Int)) (wI (wI M (207 + t6) k (i3 (sBend y F Y E nb k (lDy y t B (fr k))))) (207 + t7) k (i3 (lCo y t B (fr k)))) := by
  have hL := sLen_bd y
  have g0 := hFm.2 k hk 0 (by decide)
  have g1 := hFm.2 k hk 1 (by decide)
  have g2 := hFm.2 k hk 2 (by decide)
  have g3 := hFm.2 k hk 3 (by decide)
  rw [Nat.add_zero] at g0
  have hd0 := lSt_bd (y := y) (B := B) hR.1 (fun j hj => (hB j hj).2)
  have hvs := lSp_ok (y := y) (B := B) (d := lSt y B (fr k 0)) hR
  obtain ⟨r0, r1, r2, r3, r4, r5⟩ := hR
  have hb0 := r0.bd
  have hb2 := r2.bd
  have hb3 : -1 ≤ fr k 3 ∧ fr k 3 ≤ 8000 := by
    rcases r3 with h | h
    · omega
    · have := h.bd
      omega
  obtain ⟨h1, h2⟩ := in_n (k := 6 * k) (n := 60) (by omega) (by decide)
  obtain ⟨h3, h4⟩ := in_n (k := 6 * k + 1) (n := 60) (by omega) (by decide)
  obtain ⟨h5, h6⟩ := in_n (k := 6 * k + 2) (n := 60) (by omega) (by decide)
  obtain ⟨h7, h8⟩ := in_n (k := 6 * k + 3) (n := 60) (by omega) (by decide)
  have h9 : zIn 0 6 := by decide
  have h10 : zIx 0 = 0 := by decide
  have q1 : (i3 (fr k 0) : Int32) / 10000 = i3 (fr k 0 / 10000) := by rw [show (10000 : Int32) = i3 10000 from rfl, i3_div ⟨by omega, by omega⟩ ⟨by decide, by decide⟩]
  have eC0 : (if i3 (fr k 0 / 10000) = 1 then (1 : Int32) else if i3 (fr k 0 / 10000) = 4 then 2 else 3) = i3 (lC0 (fr k)) := by
    rw [show (1 : Int32) = i3 1 from rfl, it_eq ⟨by omega, by omega⟩ ⟨by decide, by decide⟩, show (4 : Int32) = i3 4 from rfl, it_eq ⟨by omega, by omega⟩ ⟨by decide, by decide⟩]
    unfold lC0
    by_cases e : fr k 0 / 10000 = 1
    · rw [if_pos e, if_pos e]
    · rw [if_neg e, if_neg e]
      by_cases e2 : fr k 0 / 10000 = 4
      · rw [if_pos e2, if_pos e2]; rfl
      · rw [if_neg e2, if_neg e2]; rfl
  unfold l_Law_bents_2
  simp only [m6_i, ad1, ad2, ad3, if_pos h1, h2, if_pos h3, h4, if_pos h5, h6, if_pos h7, h8, if_pos h9, h10, hFm.1, g0, g1, g2, g3, q1]
  rw [it_le ⟨by omega, by omega⟩ ⟨by omega, by omega⟩, if_neg (by omega), law_begin1 hy r0 (by omega) (fun j hj => (hB j hj).1), zBP_some, zLet_q, zl_if2, eC0, zLet_q, zLet_q]
  generalize hc : fr k 1 = c at r1
  generalize hd : lSt y B (fr k 0) = d at hd0 hvs
  have hlDy : lDy y t B (fr k) = sStp y t (fr k 5) (sStp y t (fr k 4) (sStp y t (lSp y B (fr k) d) d)) := by unfold lDy; rw [hd]
  have hlCo : lCo y t B (fr k) = lC0 (fr k) + lC1 y B (fr k) d + lPr (lSp y B (fr k) d) + lPr (fr k 4) + lPr (fr k 5) := by unfold lCo; rw [hd]
  rw [hlDy, hlCo]
  by_cases c0 : c = 0
  · have e1 : lSp y B (fr k) d = fr k 2 := if_pos (Or.inl (hc.trans c0))
    have e2 : lC1 y B (fr k) d = 0 := if_pos (hc.trans c0)
    rw [if_pos (show i3 c = 0 by rw [c0]; rfl), e1, e2, Int.add_zero]
    exact bents_in1 hy ht hk hN hnb hFm hD hv hU hd0 r2 r4 r5 r
  · obtain ⟨cb1, cb2, cc⟩ := r1.resolve_left c0
    have ha : (c.natAbs : Int) = if 0 ≤ c then c else -c := by split <;> omega
    have hcn : ((c.natAbs : Int) / 10000 = 13 ∧ (c.natAbs : Int) % 10000 ≤ 6) ∨ ((c.natAbs : Int) / 10000 = 14 ∧ (c.natAbs : Int) % 10000 = 0) ∨ ((c.natAbs : Int) / 10000 = 15 ∧ (c.natAbs : Int) % 10000 < k) ∨ ((c.natAbs : Int) / 10000 = 16 ∧ vDt ((c.natAbs : Int) % 10000)) := by
      rcases cc with h | h | h | h
      · exact Or.inl (by omega)
      · exact Or.inr (Or.inl (by omega))
      · exact Or.inr (Or.inr (Or.inl (by omega)))
      · refine Or.inr (Or.inr (Or.inr ⟨by omega, ?_⟩))
        have := h.2
        rw [show (((c.natAbs % 10000 : Nat)) : Int) = (c.natAbs : Int) % 10000 by omega] at this
        exact this
    have eab : (if 0 ≤ i3 c then i3 c else -i3 c) = i3 (c.natAbs : Int) := by
      rw [show (0 : Int32) = i3 0 from rfl, it_le ⟨by decide, by decide⟩ ⟨by omega, by omega⟩, i3_neg, ha]
      split <;> rfl
    have hz : ¬ i3 c = 0 := by
      rw [show (0 : Int32) = i3 0 from rfl, i3_eq ⟨by omega, by omega⟩ ⟨by decide, by decide⟩]
      exact c0
    rw [if_neg hz, zl_if, eab, law_holds hy hcn (by omega) hd0 (fun j hj => ⟨(hB j hj).1, (hB j hj).2.1, by have := (hB j hj).2.2; omega⟩), zBP_some]
    have ed1 : (c.natAbs : Int) / 10000 = ((c.natAbs / 10000 : Nat) : Int) := by omega
    have ed2 : (c.natAbs : Int) % 10000 = ((c.natAbs % 10000 : Nat) : Int) := by omega
    rw [ed1, ed2]
    have ho : lHo y B (fr k 1) d = (sCond y B ((c.natAbs / 10000 : Nat)) ((c.natAbs % 10000 : Nat)) d == decide (0 < c)) := by unfold lHo; rw [hc]
    generalize sCond y B ((c.natAbs / 10000 : Nat)) ((c.natAbs % 10000 : Nat)) d = h at ho ⊢
    have e49 : (if i3 c ≤ 0 then (0 : Int32) else 1) = b3 (decide (0 < c)) := by
      rw [show (0 : Int32) = i3 0 from rfl, it_le ⟨by omega, by omega⟩ ⟨by decide, by decide⟩]
      by_cases e : c ≤ 0
      · rw [if_pos e, decide_eq_false (by omega)]; rfl
      · rw [if_neg e, decide_eq_true (by omega)]; rfl
    have e52 : (if b3 h = b3 (decide (0 < c)) then (1 : Int32) else 0) = b3 (lHo y B (fr k 1) d) := by
      rw [ho]
      cases h <;> cases decide (0 < c) <;> decide
    have e55 : (if 0 ≤ i3 c then (0 : Int32) else 1) = i3 (if c < 0 then 1 else 0) := by
      rw [show (0 : Int32) = i3 0 from rfl, it_le ⟨by decide, by decide⟩ ⟨by omega, by omega⟩]
      by_cases e : 0 ≤ c
      · rw [if_pos e, if_neg (by omega)]
      · rw [if_neg e, if_pos (by omega)]; rfl
    have q15 : (i3 (c.natAbs : Int) : Int32) / 10000 = i3 ((c.natAbs / 10000 : Nat) : Int) := by rw [show (10000 : Int32) = i3 10000 from rfl, i3_div ⟨by omega, by omega⟩ ⟨by decide, by decide⟩, ed1]
    have e61 : (if i3 ((c.natAbs / 10000 : Nat) : Int) = 15 then (2 : Int32) else 1) = i3 (if c.natAbs / 10000 = 15 then 2 else 1) := by
      rw [show (15 : Int32) = i3 15 from rfl, it_eq ⟨by omega, by omega⟩ ⟨by decide, by decide⟩]
      by_cases e : c.natAbs / 10000 = 15
      · rw [if_pos (by omega), if_pos e]; rfl
      · rw [if_neg (by omega), if_neg e]; rfl
    rw [zl_if, e49, zl_if, e52, zl_if, e55, zl_if, eab, q15, zl_if, e61, zl_ifb]
    have e64 : (if b3 (lHo y B (fr k 1) d) = 0 then (0 : Int32) else if i3 (fr k 3) < 0 then 0 else 1) = i3 (if lHo y B (fr k 1) d = true ∧ 0 ≤ fr k 3 then 1 else 0) := by
      rw [show (if i3 (fr k 3) < 0 then (0 : Int32) else 1) = if fr k 3 < 0 then (0 : Int32) else 1 from it_lt (b := 0) ⟨by omega, by omega⟩ ⟨by decide, by decide⟩]
      cases lHo y B (fr k 1) d with
      | false => rw [if_pos (by decide), if_neg (fun z => nomatch z.1)]; rfl
      | true =>
        rw [if_neg (by decide)]
        by_cases e : fr k 3 < 0
        · rw [if_pos e, if_neg (fun z => by omega)]; rfl
        · rw [if_neg e, if_pos ⟨rfl, by omega⟩]; rfl
    rw [e64, zLet_q, show (1 : Int32) = i3 1 from rfl, i3_add, i3_add, i3_add, i3_add, zl_if3]
    have e68 : (if b3 (lHo y B (fr k 1) d) = 0 then (if 0 ≤ i3 (fr k 3) then i3 (fr k 3) else 0) else i3 (fr k 2)) = i3 (lSp y B (fr k) d) := by
      rw [show (if 0 ≤ i3 (fr k 3) then i3 (fr k 3) else 0) = if 0 ≤ fr k 3 then i3 (fr k 3) else 0 from it_le (a := 0) ⟨by decide, by decide⟩ ⟨by omega, by omega⟩]
      cases e : lHo y B (fr k 1) d with
      | false =>
        have er : lSp y B (fr k) d = if fr k 3 < 0 then 0 else fr k 3 := if_neg (fun z => z.elim (fun z => c0 (hc.symm.trans z)) (fun z => by rw [e] at z; exact nomatch z))
        rw [er, if_pos (by decide)]
        by_cases e3 : fr k 3 < 0
        · rw [if_neg (show ¬ 0 ≤ fr k 3 by omega), if_pos e3]; rfl
        · rw [if_pos (show 0 ≤ fr k 3 by omega), if_neg e3]
      | true =>
        have er : lSp y B (fr k) d = fr k 2 := if_pos (Or.inr e)
        rw [er, if_neg (by decide)]
    rw [e68]
    have e1 : lC1 y B (fr k) d = 1 + (if c < 0 then 1 else 0) + (if c.natAbs / 10000 = 15 then 2 else 1) + (if lHo y B (fr k 1) d = true ∧ 0 ≤ fr k 3 then 1 else 0) := by
      unfold lC1
      rw [hc, if_neg c0]
    rw [e1]
    exact bents_in1 hy ht hk hN hnb hFm hD hv hU hd0 hvs r4 r5 r
/-- the bent days and the costs of a year, as the law reckons them -/
theorem law_bents (hy : y < 400) (ht : t < 2) (hN : N ≤ 10) (hnb : nb ≤ 10) (h67 : t6 ≠ t7) {m : Mm} (hFm : LF m N fr) (hR : ∀ k, k < N → vR k (fr k)) (hD : LD m nb F Y E) (hv : vB F Y E nb) (hU : Un F Y nb) (hB : ∀ k, k < N → B k = sBend y F Y E nb k (lDy y t B (fr k))) :
    ∃ m', f_Law_bents (i3 y) (i3 t) t6 t7 m = some m' ∧ (∀ k, k < N → zI m' (207 + t6) k = i3 (B k) ∧ zI m' (207 + t7) k = i3 (lCo y t B (fr k)) ∧ -1 ≤ B k ∧ B k < sLen y) ∧ (∀ b j, b ≠ 207 + t6 → b ≠ 207 + t7 → zI m' b j = zI m b j) ∧ m'.2 = m.2 := by
  rw [e_Law_bents]
  refine ex_zLp1 (Q := fun o => ∃ m', o = some m' ∧ (∀ k, k < N → zI m' (207 + t6) k = i3 (B k) ∧ zI m' (207 + t7) k = i3 (lCo y t B (fr k)) ∧ -1 ≤ B k ∧ B k < sLen y) ∧ (∀ b j, b ≠ 207 + t6 → b ≠ 207 + t7 → zI m' b j = zI m b j) ∧ m'.2 = m.2)
    (fun j x1 M => ∃ k : Nat, k ≤ N ∧ j = N - k ∧ x1 = i3 k ∧ (∀ q, q < k → zI M (207 + t6) q = i3 (B q) ∧ zI M (207 + t7) q = i3 (lCo y t B (fr q)) ∧ -1 ≤ B q ∧ B q < sLen y) ∧ (∀ b j, b ≠ 207 + t6 → b ≠ 207 + t7 → zI M b j = zI m b j) ∧ M.2 = m.2) ?_ zFu N _ _ ⟨0, Nat.zero_le _, rfl, rfl, fun q h => absurd h (Nat.not_lt_zero q), fun _ _ _ _ => rfl, rfl⟩ (by unfold zFu; omega)
  rintro r j _ M ⟨k, hk, rfl, rfl, hq, hfr, h2⟩
  have hFM : LF M N fr := ⟨by rw [hfr _ _ (by omega) (by omega)]; exact hFm.1, fun k hk j hj => by rw [hfr _ _ (by omega) (by omega)]; exact hFm.2 k hk j hj⟩
  have hDM : LD M nb F Y E := ⟨by rw [hfr _ _ (by omega) (by omega)]; exact hD.1, fun i hi => by rw [hfr _ _ (by omega) (by omega), hfr _ _ (by omega) (by omega), hfr _ _ (by omega) (by omega)]; exact hD.2 i hi⟩
  by_cases e : k = N
  · left
    subst e
    refine ⟨M, ?_, hq, hfr, h2⟩
    unfold l_Law_bents_2
    have h9 : zIn 0 6 := by decide
    have h10 : zIx 0 = 0 := by decide
    rw [if_pos h9, h10, hFM.1, it_le ⟨by omega, by omega⟩ ⟨by omega, by omega⟩, if_pos (Int.le_refl _)]
  · right
    have hkN : k < N := by omega
    have hd0 := lSt_bd (y := y) (B := B) (hR k hkN).1 (fun j hj => (hq j hj).2.2)
    have hdy : -1 ≤ lDy y t B (fr k) ∧ lDy y t B (fr k) < sLen y := sStp_bd _ _ (sStp_bd _ _ (sStp_bd _ _ hd0))
    have hbk := sBend_bd (y := y) (F := F) (Y := Y) (K := E) (n := nb) (f := k) hdy
    rw [← hB k hkN] at hbk
    refine ⟨_, wI (wI M (207 + t6) k (i3 (sBend y F Y E nb k (lDy y t B (fr k))))) (207 + t7) k (i3 (lCo y t B (fr k))), N - (k + 1), by omega, ⟨k + 1, by omega, rfl, rfl, fun q hq9 => ?_, fun b j hb1 hb2 => ?_, h2⟩, bents_body hy ht hkN hN hnb hFM (hR k hkN) hDM hv hU (fun j hj => ⟨(hq j hj).1, (hq j hj).2.2⟩) r⟩
    · by_cases eq : q = k
      · subst eq
        rw [zI_ne (by omega), zI_eq, zI_eq, ← hB q hkN]
        exact ⟨rfl, rfl, hbk⟩
      · rw [zI_ne (by omega), zI_nk eq, zI_nk eq, zI_ne (by omega)]
        exact hq q (by omega)
    · rw [zI_ne hb2, zI_ne hb1]
      exact hfr b j hb1 hb2
end LBB
