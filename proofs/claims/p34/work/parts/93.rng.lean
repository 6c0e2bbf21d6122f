/-! RINGING: who is best to ring -/
/-- last days, counts, who rings (at 36 f + 6 p + b; -2 where nobody was to), silences -/
abbrev RS : Type := (Nat → Int) × (Nat → Int) × (Nat → Int) × Int
def rFr (PR RE : Nat → Int) (p : Nat) (d : Int) (s : RS) (k : Nat) : Bool := decide (PR k = p ∧ (s.2.1 k = 0 ∨ RE k < d - s.1 k))
def rIts (PR RE : Nat → Int) (nR p : Nat) (d : Int) (s : RS) : Int := bst (fun k => -(s.2.1 k)) (rFr PR RE p d s) nR
def RSb (B : Int) (s : RS) : Prop := (∀ k, 0 ≤ s.2.1 k ∧ s.2.1 k ≤ B) ∧ (∀ k, -1 ≤ s.1 k ∧ s.1 k ≤ 400) ∧ (∀ k, s.1 k = -1 ↔ s.2.1 k = 0) ∧ ∀ j, -2 ≤ s.2.2.1 j ∧ s.2.2.1 j < 24
def vRg (nR : Nat) (PR RE : Nat → Int) : Prop := nR ≤ 24 ∧ ∀ k, k < nR → (0 ≤ PR k ∧ PR k ≤ 5) ∧ 0 ≤ RE k ∧ RE k ≤ 6
def Crg (m : Mm) (nR : Nat) (PR RE : Nat → Int) : Prop := zI m 174 3 = i3 nR ∧ ∀ k, k < nR → zI m 176 k = i3 (PR k) ∧ zI m 177 k = i3 (RE k)
def Rrg (m : Mm) (nR : Nat) (PR RE : Nat → Int) : Prop := zI m 201 41 = i3 nR ∧ ∀ k, k < nR → zI m 224 k = i3 (PR k) ∧ zI m 225 k = i3 (RE k)
def CSl (m : Mm) (s : RS) : Prop := ∀ k, k < 24 → zI m 178 k = i3 (s.1 k) ∧ zI m 179 k = i3 (s.2.1 k)
def RSl (m : Mm) (nR : Nat) (s : RS) : Prop := ∀ k, k < nR → zI m 226 k = i3 (s.2.1 k) ∧ (s.2.1 k ≠ 0 → zI m 227 k = i3 (s.1 k))
section RNG
variable {m : Mm} {nR p : Nat} {PR RE : Nat → Int} {s : RS} {B d : Int}
theorem bel_rested (hv : vRg nR PR RE) (hg : Crg m nR PR RE) (hS : CSl m s) (hb : RSb B s) (hd : 0 ≤ d ∧ d ≤ 400) {k : Nat} (hk : k < nR) : f_Bel_isRested (i3 k) (i3 d) m = some (b3 (decide (s.2.1 k = 0 ∨ RE k < d - s.1 k))) := by
  have h24 := hv.1
  have hin : zIn (i3 (k : Int)) 24 := (i3_in ⟨by omega, by omega⟩).mpr ⟨by omega, by omega⟩
  have hix : zIx (i3 (k : Int)) = k := by rw [i3_ix ⟨by omega, by omega⟩, Int.toNat_natCast]
  have hl := hb.2.1 k
  have he := hb.2.2.1 k
  have hr := (hv.2 k hk).2
  unfold f_Bel_isRested
  simp only [zLet, if_pos hin, hix, (hS k (by omega)).1, (hg.2 k hk).2, i3_sub]
  rw [show (-1 : Int32) = i3 (-1) from rfl, it_m1 ⟨by omega, by omega⟩, it_le ⟨by omega, by omega⟩ ⟨by omega, by omega⟩]
  by_cases c : s.1 k = -1
  · rw [if_pos c, decide_eq_true (Or.inl (he.mp c))]
    rfl
  · rw [if_neg c]
    by_cases c2 : d - s.1 k ≤ RE k
    · rw [if_pos c2, decide_eq_false (fun z => z.elim (fun z => c (he.mpr z)) (fun z => by omega))]
      rfl
    · rw [if_neg c2, decide_eq_true (Or.inr (by omega))]
      rfl
theorem bel_ringer (hv : vRg nR PR RE) (hg : Crg m nR PR RE) (hS : CSl m s) (hb : RSb B s) (hB : B ≤ 1000000) (hd : 0 ≤ d ∧ d ≤ 400) (hp : p < 6) : f_Bel_ringerFor (i3 p) (i3 d) m = some (i3 (rIts PR RE nR p d s)) := by
  have h24 := hv.1
  unfold rIts
  generalize hR : (fun k => -(s.2.1 k)) = R
  have hRe : ∀ k, R k = -(s.2.1 k) := fun k => by rw [← hR]
  rw [e_Bel_ringerFor]
  refine run_zLq2 (fun j x1 x2 => ∃ i : Nat, x1 = i3 (bst R (rFr PR RE p d s) i) ∧ x2 = i3 i ∧ i ≤ nR ∧ j = nR - i) ?_ zFu nR _ _ ⟨0, show (-1 : Int32) = i3 (-1) from rfl, rfl, Nat.zero_le _, rfl⟩ (by unfold zFu; omega)
  rintro r j x1 x2 ⟨i, rfl, rfl, hi, rfl⟩
  unfold l_Bel_ringerFor_0
  rw [hg.1, it_le ⟨by omega, by omega⟩ ⟨by omega, by omega⟩]
  by_cases e : (nR : Int) ≤ i
  · left
    rw [if_pos e, show i = nR by omega]
  · right
    have hlt : i < nR := by omega
    have hin : zIn (i3 (i : Int)) 24 := (i3_in ⟨by omega, by omega⟩).mpr ⟨by omega, by omega⟩
    have hix : zIx (i3 (i : Int)) = i := by rw [i3_ix ⟨by omega, by omega⟩, Int.toNat_natCast]
    obtain ⟨v1, v2⟩ := hv.2 i hlt
    refine ⟨_, _, nR - (i + 1), by omega, ⟨i + 1, rfl, rfl, hlt, rfl⟩, ?_⟩
    rw [if_neg e, if_pos hin, bst_succ]
    simp only [zLet, i3_add1, hix, (hg.2 i hlt).1]
    rw [it_eq ⟨by omega, by omega⟩ ⟨by omega, by omega⟩]
    have no : rFr PR RE p d s i = false → (if (0 : Int32) = 0 then r (i3 (bst R (rFr PR RE p d s) i)) (i3 ((i + 1 : Nat) : Int)) else if i3 (bst R (rFr PR RE p d s) i) = -1 then r (i3 (i : Int)) (i3 ((i + 1 : Nat) : Int)) else if zIn (i3 (i : Int)) 24 then if zIn (i3 (bst R (rFr PR RE p d s) i)) 24 then if zI m 179 (zIx (i3 (bst R (rFr PR RE p d s) i))) ≤ zI m 179 i then r (i3 (bst R (rFr PR RE p d s) i)) (i3 ((i + 1 : Nat) : Int)) else r (i3 (i : Int)) (i3 ((i + 1 : Nat) : Int)) else none else none) = r (i3 (if rFr PR RE p d s i then (if bst R (rFr PR RE p d s) i = -1 then (i : Int) else if R i ≤ R (bst R (rFr PR RE p d s) i).toNat then bst R (rFr PR RE p d s) i else i) else bst R (rFr PR RE p d s) i)) (i3 ((i + 1 : Nat) : Int)) := by
      intro hf
      rw [if_pos rfl, hf]
      rfl
    by_cases c1 : PR i = (p : Int)
    · rw [if_pos c1, bel_rested hv hg hS hb hd hlt, zBP_some]
      by_cases c2 : s.2.1 i = 0 ∨ RE i < d - s.1 i
      · have hf : rFr PR RE p d s i = true := decide_eq_true ⟨c1, c2⟩
        rw [decide_eq_true c2, if_neg (show ¬ b3 true = 0 by decide), if_neg (show ¬ (1 : Int32) = 0 by decide), if_pos hf]
        rcases bst_cases (R := R) (ask := rFr PR RE p d s) i with e2 | ⟨g, g1, g2, -⟩
        · rw [e2, if_pos (show i3 (-1) = -1 from rfl), if_pos rfl]
          rfl
        · have ci := hb.1 i
          have cg := hb.1 g
          have hing : zIn (i3 (g : Int)) 24 := (i3_in ⟨by omega, by omega⟩).mpr ⟨by omega, by omega⟩
          have hixg : zIx (i3 (g : Int)) = g := by rw [i3_ix ⟨by omega, by omega⟩, Int.toNat_natCast]
          rw [g2, if_neg (show ¬ i3 (g : Int) = -1 by rw [show (-1 : Int32) = i3 (-1) from rfl, i3_eq ⟨by omega, by omega⟩ ⟨by decide, by decide⟩]; omega), if_neg (show ¬ (g : Int) = -1 by omega), if_pos hin, if_pos hing, hixg, (hS i (by omega)).2, (hS g (by omega)).2, it_le ⟨by omega, by omega⟩ ⟨by omega, by omega⟩, Int.toNat_natCast, hRe, hRe]
          by_cases c : s.2.1 g ≤ s.2.1 i
          · rw [if_pos c, if_pos (show -(s.2.1 i) ≤ -(s.2.1 g) by omega)]
            rfl
          · rw [if_neg c, if_neg (show ¬ -(s.2.1 i) ≤ -(s.2.1 g) by omega)]
            rfl
      · rw [decide_eq_false c2, if_pos (show b3 false = 0 by decide)]
        exact no (decide_eq_false (fun z => c2 z.2))
    · rw [if_neg c1]
      exact no (decide_eq_false (fun z => c1 z.1))
/-- the best of those from i on -/
def bAt (c : Nat → Int) (fr : Nat → Bool) (n i : Nat) (x : Int) : Prop := (x = -1 ∧ ∀ k, i ≤ k → k < n → fr k = false) ∨ ∃ g : Nat, x = g ∧ i ≤ g ∧ g < n ∧ fr g = true ∧ ∀ k, i ≤ k → k < n → fr k = true → k = g ∨ c g < c k ∨ (c g = c k ∧ g < k)
theorem bAt_0 {c : Nat → Int} {fr : Nat → Bool} {n : Nat} {x : Int} (h : bAt c fr n 0 x) : x = bst (fun k => -(c k)) fr n := by
  rcases h with ⟨rfl, h⟩ | ⟨g, rfl, h1, h2, h3, h4⟩
  · exact (bst_no n (fun k hk => h k (Nat.zero_le k) hk)).symm
  · refine (bst_is h3 n (fun k hk hf => ?_) h2).symm
    rcases h4 k (Nat.zero_le k) hk hf with e | e | e
    · exact Or.inl e
    · right
      show -(c k) < -(c g) ∨ (-(c g) = -(c k) ∧ g < k)
      omega
    · right
      show -(c k) < -(c g) ∨ (-(c g) = -(c k) ∧ g < k)
      omega
theorem mod_ringer (hv : vRg nR PR RE) (hg : Rrg m nR PR RE) (hS : RSl m nR s) (hb : RSb B s) (hB : B ≤ 1000000) (hd : 0 ≤ d ∧ d ≤ 400) (hp : p < 6) : f_Mod_bestRinger (i3 p) (i3 d) m = some (i3 (rIts PR RE nR p d s)) := by
  have h24 := hv.1
  rw [e_Mod_bestRinger]
  simp only [zLet]
  have hx : zI m 201 41 - 1 = i3 ((nR : Int) - 1) := by rw [hg.1, show (1 : Int32) = i3 1 from rfl, i3_sub]
  rw [hx]
  refine run_zLq2 (fun j x2 x3 => ∃ (i : Nat) (x : Int), x2 = i3 x ∧ x3 = i3 ((i : Int) - 1) ∧ i ≤ nR ∧ j = i ∧ bAt s.2.1 (rFr PR RE p d s) nR i x) ?_ zFu nR _ _ ⟨nR, -1, rfl, rfl, Nat.le_refl _, rfl, Or.inl ⟨rfl, fun k h1 h2 => absurd h1 (by omega)⟩⟩ (by unfold zFu; omega)
  rintro r j x2 x3 ⟨i, x, rfl, rfl, hi, rfl, hA⟩
  unfold l_Mod_bestRinger_0
  rw [it_lt0 ⟨by omega, by omega⟩]
  by_cases e : (j : Int) - 1 < 0
  · left
    have e0 : j = 0 := by omega
    subst e0
    rw [if_pos e, bAt_0 hA]
    rfl
  · right
    obtain ⟨i, rfl⟩ : ∃ i, j = i + 1 := ⟨j - 1, by omega⟩
    have ei : ((i + 1 : Nat) : Int) - 1 = i := by omega
    have hlt : i < nR := by omega
    have hin : zIn (i3 (i : Int)) 24 := (i3_in ⟨by omega, by omega⟩).mpr ⟨by omega, by omega⟩
    have hix : zIx (i3 (i : Int)) = i := by rw [i3_ix ⟨by omega, by omega⟩, Int.toNat_natCast]
    obtain ⟨v1, v2⟩ := hv.2 i hlt
    obtain ⟨s1, s2⟩ := hS i hlt
    have ci := hb.1 i
    have li := hb.2.1 i
    have em : i3 (i : Int) + (-1) = i3 ((i : Int) - 1) := by rw [show (-1 : Int32) = i3 (-1) from rfl, i3_add]; rfl
    rw [if_neg e, ei, if_pos hin]
    simp only [zLet, hix, (hg.2 i hlt).1, s1, em, if_pos hin, (hg.2 i hlt).2]
    -- the ringer does not come in question
    have no : rFr PR RE p d s i = false → ∃ (x2' x3' : Int32) (j' : Nat), j' < i + 1 ∧ (∃ (i : Nat) (x : Int), x2' = i3 x ∧ x3' = i3 ((i : Int) - 1) ∧ i ≤ nR ∧ j' = i ∧ bAt s.2.1 (rFr PR RE p d s) nR i x) ∧ r (i3 x) (i3 ((i : Int) - 1)) = r x2' x3' := fun hf => by
      refine ⟨_, _, i, by omega, ⟨i, x, rfl, rfl, by omega, rfl, ?_⟩, rfl⟩
      rcases hA with ⟨rfl, h⟩ | ⟨g, rfl, h1, h2, h3, h4⟩
      · left
        refine ⟨rfl, fun k k1 k2 => ?_⟩
        by_cases ek : k = i
        · rw [ek]; exact hf
        · exact h k (by omega) k2
      · right
        refine ⟨g, rfl, by omega, h2, h3, fun k k1 k2 k3 => ?_⟩
        by_cases ek : k = i
        · rw [ek, hf] at k3; exact nomatch k3
        · exact h4 k (by omega) k2 k3
    have yes : rFr PR RE p d s i = true → (∀ g : Nat, x = g → s.2.1 i ≤ s.2.1 g) → ∃ (x2' x3' : Int32) (j' : Nat), j' < i + 1 ∧ (∃ (i : Nat) (x : Int), x2' = i3 x ∧ x3' = i3 ((i : Int) - 1) ∧ i ≤ nR ∧ j' = i ∧ bAt s.2.1 (rFr PR RE p d s) nR i x) ∧ r (i3 (i : Int)) (i3 ((i : Int) - 1)) = r x2' x3' := fun hf hc => by
      refine ⟨_, _, i, by omega, ⟨i, i, rfl, rfl, by omega, rfl, Or.inr ⟨i, rfl, Nat.le_refl _, hlt, hf, fun k k1 k2 k3 => ?_⟩⟩, rfl⟩
      by_cases ek : k = i
      · exact Or.inl ek
      · right
        rcases hA with ⟨rfl, h⟩ | ⟨g, rfl, h1, h2, h3, h4⟩
        · rw [h k (by omega) k2] at k3; exact nomatch k3
        · have := hc g rfl
          rcases h4 k (by omega) k2 k3 with h | h | h
          · subst h; omega
          · omega
          · omega
    have mid : ∀ g : Nat, x = g → g < nR → rFr PR RE p d s i = true → ¬ s.2.1 i ≤ s.2.1 g → ∃ (x2' x3' : Int32) (j' : Nat), j' < i + 1 ∧ (∃ (i : Nat) (x : Int), x2' = i3 x ∧ x3' = i3 ((i : Int) - 1) ∧ i ≤ nR ∧ j' = i ∧ bAt s.2.1 (rFr PR RE p d s) nR i x) ∧ r (i3 x) (i3 ((i : Int) - 1)) = r x2' x3' := fun g hx hgn hf hc => by
      refine ⟨_, _, i, by omega, ⟨i, x, rfl, rfl, by omega, rfl, ?_⟩, rfl⟩
      rcases hA with ⟨rfl, h⟩ | ⟨g', rfl, h1, h2, h3, h4⟩
      · omega
      · obtain rfl : g' = g := by omega
        right
        refine ⟨g', rfl, by omega, h2, h3, fun k k1 k2 k3 => ?_⟩
        by_cases ek : k = i
        · subst ek; omega
        · exact h4 k (by omega) k2 k3
    rw [it_eq ⟨by omega, by omega⟩ ⟨by omega, by omega⟩]
    by_cases c1 : PR i = (p : Int)
    · rw [if_pos c1, it_e0 ⟨by omega, by omega⟩]
      -- it is free
      have free : rFr PR RE p d s i = true → ∃ (x2' x3' : Int32) (j' : Nat), j' < i + 1 ∧ (∃ (i : Nat) (x : Int), x2' = i3 x ∧ x3' = i3 ((i : Int) - 1) ∧ i ≤ nR ∧ j' = i ∧ bAt s.2.1 (rFr PR RE p d s) nR i x) ∧ (if (1 : Int32) = 0 then r (i3 x) (i3 ((i : Int) - 1)) else if i3 x = -1 then r (i3 (i : Int)) (i3 ((i : Int) - 1)) else if i3 x = -1 then (if zIn 0 24 then if zI m 226 (zIx 0) < i3 (s.2.1 i) then r (i3 x) (i3 ((i : Int) - 1)) else r (i3 (i : Int)) (i3 ((i : Int) - 1)) else none) else (if zIn (i3 x) 24 then if zI m 226 (zIx (i3 x)) < i3 (s.2.1 i) then r (i3 x) (i3 ((i : Int) - 1)) else r (i3 (i : Int)) (i3 ((i : Int) - 1)) else none)) = r x2' x3' := by
        intro hf
        rw [if_neg (show ¬ (1 : Int32) = 0 by decide)]
        rcases hA with ⟨rfl, h⟩ | ⟨g, rfl, h1, h2, h3, h4⟩
        · rw [if_pos (show i3 (-1) = -1 from rfl)]
          exact yes hf (fun g hg => by omega)
        · have hing : zIn (i3 (g : Int)) 24 := (i3_in ⟨by omega, by omega⟩).mpr ⟨by omega, by omega⟩
          have hixg : zIx (i3 (g : Int)) = g := by rw [i3_ix ⟨by omega, by omega⟩, Int.toNat_natCast]
          have hne : ¬ i3 (g : Int) = -1 := by rw [show (-1 : Int32) = i3 (-1) from rfl, i3_eq ⟨by omega, by omega⟩ ⟨by decide, by decide⟩]; omega
          have cg := hb.1 g
          rw [if_neg hne, if_neg hne, if_pos hing, hixg, (hS g h2).1, it_lt ⟨by omega, by omega⟩ ⟨by omega, by omega⟩]
          by_cases c : s.2.1 g < s.2.1 i
          · rw [if_pos c]
            exact mid g rfl h2 hf (by omega)
          · rw [if_neg c]
            exact yes hf (fun g' hg' => by obtain rfl : g' = g := by omega
                                           omega)
      by_cases c2 : s.2.1 i = 0
      · rw [if_pos c2]
        exact free (decide_eq_true ⟨c1, Or.inl c2⟩)
      · rw [if_neg c2, s2 c2, i3_sub, it_le ⟨by omega, by omega⟩ ⟨by omega, by omega⟩]
        by_cases c3 : d - s.1 i ≤ RE i
        · rw [if_pos c3, if_pos trivial]
          exact no (decide_eq_false (fun z => z.2.elim c2 (fun z => by omega)))
        · rw [if_neg c3]
          exact free (decide_eq_true ⟨c1, Or.inr (by omega)⟩)
    · rw [if_neg c1, if_pos trivial]
      exact no (decide_eq_false (fun z => c1 z.1))
end RNG
