/-! PLACES, DAY BY DAY -/
/-- g comes before f -/
def hi (R : Nat → Int) (g f : Nat) : Prop := R f < R g ∨ (R g = R f ∧ g < f)
theorem sFree_up {tk : Int → Bool} {L : Int} : ∀ (k : Nat) (d : Int), sFree tk L k d = -1 ∨ sFree tk L k d < d + k := by
  intro k
  induction k with
  | zero => intro d; exact Or.inl rfl
  | succ k ih =>
    intro d
    rw [sFree_succ]
    split
    · exact Or.inl rfl
    · split
      · rcases ih (d + 1) with e | e
        · exact Or.inl e
        · exact Or.inr (by omega)
      · exact Or.inr (by omega)
theorem sFree_tk {tk : Int → Bool} {L x : Int} : ∀ (k : Nat) (d : Int), d ≤ x → x < d + k → x < L → (sFree tk L k d = -1 ∨ x < sFree tk L k d) → (0 ≤ d) → tk x = true := by
  intro k
  induction k with
  | zero => intro d h1 h2; omega
  | succ k ih =>
    intro d h1 h2 h3 h4 h5
    rw [sFree_succ, if_neg (by omega)] at h4
    cases ht : tk d with
    | false =>
      rw [ht, if_neg (by decide)] at h4
      omega
    | true =>
      rw [ht, if_pos rfl] at h4
      by_cases e : d = x
      · rw [← e, ht]
      · exact ih (d + 1) (by omega) (by omega) h3 h4 (by omega)
section PLD
variable {N : Nat} {L : Int} {R b : Nat → Int} {mv : Nat → Bool}
theorem sPass_mono {r : Int} {pl : Nat → Int} {g n : Nat} : ∀ n', n ≤ n' → (g < n ∨ R g ≠ r) → sPass N L b R mv r n' pl g = sPass N L b R mv r n pl g := by
  intro n'
  induction n' with
  | zero =>
    intro h _
    have : n = 0 := by omega
    subst this
    rfl
  | succ n' ih =>
    intro h hg
    by_cases e : n = n' + 1
    · subst e; rfl
    · rw [sPass_succ]
      split
      · next c =>
        unfold upI
        rw [if_neg (fun e => by subst e; omega)]
        exact ih (by omega) hg
      · exact ih (by omega) hg
theorem sAll_late {g k : Nat} (hg : 9 - (k : Int) < R g) : ∀ k', k ≤ k' → sAll N L b R mv k' g = sAll N L b R mv k g := by
  intro k'
  induction k' with
  | zero =>
    intro h
    have : k = 0 := by omega
    subst this
    rfl
  | succ k' ih =>
    intro h
    by_cases e : k = k' + 1
    · subst e; rfl
    · rw [sAll_succ, sPass_keep N _ (Or.inl (by omega))]
      exact ih (by omega)
/-- what is placed stays -/
theorem sAll_at {k n g : Nat} (hk : k < 10) (hn : n ≤ N) (hg : 9 - (k : Int) < R g ∨ R g = 9 - (k : Int) ∧ g < n) : sAll N L b R mv 10 g = sPass N L b R mv (9 - k) n (sAll N L b R mv k) g := by
  have e1 : sAll N L b R mv 10 g = sAll N L b R mv (k + 1) g := sAll_late (by omega) 10 (by omega)
  rw [e1, sAll_succ]
  exact sPass_mono N hn (by omega)
theorem sAll_one {f : Nat} (hf : f < N) (hR : 0 ≤ R f ∧ R f ≤ 9) : ∃ pl : Nat → Int, sAll N L b R mv 10 f = sOne N L (b f) (mv f) pl ∧ ∀ g, pl g ≠ -1 → hi R g f ∧ sAll N L b R mv 10 g = pl g := by
  obtain ⟨k, hk, ek⟩ : ∃ k : Nat, k < 10 ∧ R f = 9 - (k : Int) := ⟨(9 - R f).toNat, by omega, by omega⟩
  refine ⟨sPass N L b R mv (9 - k) f (sAll N L b R mv k), ?_, fun g hg => ?_⟩
  · rw [sAll_at (n := f + 1) hk (by omega) (Or.inr ⟨ek, Nat.lt_succ_self f⟩), sPass_succ, if_pos ek]
    unfold upI
    rw [if_pos rfl]
  · have hh : 9 - (k : Int) < R g ∨ R g = 9 - (k : Int) ∧ g < f := by
      by_cases c : 9 - (k : Int) < R g
      · exact Or.inl c
      · by_cases c2 : R g = 9 - (k : Int) ∧ g < f
        · exact Or.inr c2
        · exfalso
          apply hg
          rw [sPass_keep f _ (by omega)]
          exact sAll_keep k (by omega)
    exact ⟨by unfold hi; omega, sAll_at hk (by omega) hh⟩
theorem sAll_p1 {f : Nat} (hf : f < N) (hR : 0 ≤ R f ∧ R f ≤ 9) (hb : -1 ≤ b f) (h : sAll N L b R mv 10 f ≠ -1) : b f ≠ -1 ∧ b f ≤ sAll N L b R mv 10 f ∧ sAll N L b R mv 10 f ≤ b f + lim (mv f) ∧ sAll N L b R mv 10 f < L := by
  obtain ⟨pl, e, -⟩ := sAll_one (L := L) (b := b) (mv := mv) hf hR
  rw [e] at h ⊢
  unfold sOne at h ⊢
  by_cases c : b f = -1
  · rw [if_pos c] at h; exact absurd rfl h
  · rw [if_neg c] at h ⊢
    have h1 := sFree_bd (tk := fun d => tkN pl d N) (L := L) (lim (mv f) + 1) (b f) (by omega)
    have h2 := sFree_up (tk := fun d => tkN pl d N) (L := L) (lim (mv f) + 1) (b f)
    rcases h1 with h1 | ⟨h1, h3, -⟩
    · exact absurd h1 h
    · rcases h2 with h2 | h2
      · exact absurd h2 h
      · exact ⟨c, h1, by omega, h3⟩
theorem sAll_p2 {f : Nat} {x : Int} (hf : f < N) (hR : 0 ≤ R f ∧ R f ≤ 9) (hb : -1 ≤ b f) (hb1 : b f ≠ -1) (h1 : b f ≤ x) (h2 : x ≤ b f + lim (mv f)) (h3 : x < L) (h : sAll N L b R mv 10 f = -1 ∨ x < sAll N L b R mv 10 f) : ∃ g, g < N ∧ hi R g f ∧ sAll N L b R mv 10 g = x := by
  obtain ⟨pl, e, hp⟩ := sAll_one (L := L) (b := b) (mv := mv) hf hR
  rw [e] at h
  unfold sOne at h
  rw [if_neg hb1] at h
  have htk : tkN pl x N = true := sFree_tk (tk := fun d => tkN pl d N) (L := L) (lim (mv f) + 1) (b f) h1 (by omega) h3 h (by omega)
  obtain ⟨g, g1, g2⟩ := (tkN_iff N).mp htk
  obtain ⟨q1, q2⟩ := hp g (by omega)
  exact ⟨g, g1, q1, by rw [q2, g2]⟩
/-- the best that asks -/
def bst (R : Nat → Int) (ask : Nat → Bool) : Nat → Int
  | 0 => -1
  | n + 1 => if ask n then (if bst R ask n = -1 then n else if R n ≤ R (bst R ask n).toNat then bst R ask n else n) else bst R ask n
theorem bst_succ {ask : Nat → Bool} {n : Nat} : bst R ask (n + 1) = if ask n then (if bst R ask n = -1 then (n : Int) else if R n ≤ R (bst R ask n).toNat then bst R ask n else n) else bst R ask n := rfl
theorem bst_cases {ask : Nat → Bool} : ∀ n, bst R ask n = -1 ∨ ∃ g : Nat, g < n ∧ bst R ask n = g ∧ ask g = true := by
  intro n
  induction n with
  | zero => exact Or.inl rfl
  | succ n ih =>
    rw [bst_succ]
    cases ha : ask n with
    | false =>
      rw [if_neg (by decide)]
      rcases ih with e | ⟨g, h1, h2⟩
      · exact Or.inl e
      · exact Or.inr ⟨g, by omega, h2⟩
    | true =>
      rw [if_pos rfl]
      split
      · exact Or.inr ⟨n, by omega, rfl, ha⟩
      · split
        · rcases ih with e | ⟨g, h1, h2⟩
          · exact Or.inl e
          · exact Or.inr ⟨g, by omega, h2⟩
        · exact Or.inr ⟨n, by omega, rfl, ha⟩
theorem bst_no {ask : Nat → Bool} (n : Nat) (h : ∀ f, f < n → ask f = false) : bst R ask n = -1 := by
  rcases bst_cases (R := R) (ask := ask) n with e | ⟨g, h1, h2, h3⟩
  · exact e
  · rw [h g h1] at h3
    exact nomatch h3
theorem bst_is {ask : Nat → Bool} {f : Nat} (ha : ask f = true) : ∀ n, (∀ g, g < n → ask g = true → g = f ∨ hi R f g) → f < n → bst R ask n = f := by
  intro n
  induction n with
  | zero => intro _ h; exact absurd h (Nat.not_lt_zero f)
  | succ n ih =>
    intro h hf
    rw [bst_succ]
    by_cases e : f = n
    · subst e
      rw [if_pos ha]
      rcases bst_cases (R := R) (ask := ask) f with e | ⟨g, h1, h2, h3⟩
      · rw [if_pos e]
      · have h4 := h g (by omega) h3
        have : R g < R f := by
          unfold hi at h4
          omega
        rw [if_neg (by omega), h2, Int.toNat_natCast, if_neg (by omega)]
    · have hb := ih (fun g hg => h g (by omega)) (by omega)
      rw [hb]
      cases hn : ask n with
      | false => rw [if_neg (by decide)]
      | true =>
        have h4 := h n (by omega) hn
        unfold hi at h4
        rw [if_pos rfl, if_neg (by omega), Int.toNat_natCast, if_pos (by omega)]
/-- after the days before x: those are placed whose day has come -/
def qAt (s : Nat → Int) (x : Int) (f : Nat) : Int := if s f < x then s f else -1
def askB (b : Nat → Int) (mv : Nat → Bool) (q : Nat → Int) (x : Int) (f : Nat) : Bool := decide (b f ≠ -1 ∧ q f = -1 ∧ b f ≤ x ∧ x ≤ b f + lim (mv f))
theorem day_best (hR : ∀ f, f < N → 0 ≤ R f ∧ R f ≤ 9) (hb : ∀ f, f < N → -1 ≤ b f) {x : Int} (hx : 0 ≤ x ∧ x < L) :
    (∃ f, f < N ∧ sAll N L b R mv 10 f = x ∧ bst R (askB b mv (qAt (sAll N L b R mv 10) x) x) N = f) ∨ ((∀ f, f < N → sAll N L b R mv 10 f ≠ x) ∧ bst R (askB b mv (qAt (sAll N L b R mv 10) x) x) N = -1) := by
  have hinj := sAll_inj (L := L) (R := R) (mv := mv) hb 10
  have hq : ∀ f, qAt (sAll N L b R mv 10) x f = -1 → sAll N L b R mv 10 f = -1 ∨ x ≤ sAll N L b R mv 10 f := by
    intro f h
    unfold qAt at h
    split at h
    · exact Or.inl h
    · omega
  by_cases c : ∃ f, f < N ∧ sAll N L b R mv 10 f = x
  · left
    obtain ⟨f, hf, e⟩ := c
    refine ⟨f, hf, e, bst_is (f := f) ?_ N (fun g hg ha => ?_) hf⟩
    · obtain ⟨p1, p2, p3, p4⟩ := sAll_p1 hf (hR f hf) (hb f hf) (by rw [e]; omega)
      refine decide_eq_true ⟨p1, ?_, by omega, by omega⟩
      unfold qAt
      rw [if_neg (by omega)]
    · obtain ⟨a1, a2, a3, a4⟩ := of_decide_eq_true ha
      by_cases e2 : sAll N L b R mv 10 g = x
      · exact Or.inl (hinj g f hg hf (by rw [e2, e]) (by omega))
      · right
        obtain ⟨g', g1, g2, g3⟩ := sAll_p2 hg (hR g hg) (hb g hg) a1 a3 a4 hx.2 (by have := hq g a2; omega)
        have : g' = f := hinj g' f g1 hf (by rw [g3, e]) (by omega)
        rw [← this]
        exact g2
  · right
    refine ⟨fun f hf e => c ⟨f, hf, e⟩, bst_no N (fun f hf => ?_)⟩
    cases ha : askB b mv (qAt (sAll N L b R mv 10) x) x f with
    | false => rfl
    | true =>
      obtain ⟨a1, a2, a3, a4⟩ := of_decide_eq_true ha
      have h1 : sAll N L b R mv 10 f ≠ x := fun e => c ⟨f, hf, e⟩
      obtain ⟨g', g1, g2, g3⟩ := sAll_p2 hf (hR f hf) (hb f hf) a1 a3 a4 hx.2 (by have := hq f a2; omega)
      exact absurd ⟨g', g1, g3⟩ c
end PLD
