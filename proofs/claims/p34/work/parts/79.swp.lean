/-! WHAT A FEAST NEEDS -/
def sw (p : Nat) (nm : Nat → Nat) : Nat → Nat → Nat
  | 0, S => S
  | n + 1, S => if (sw p nm n S).testBit n = true ∧ n ≠ p then sw p nm n S ||| nm n else sw p nm n S
theorem sw_succ {p n S : Nat} {nm : Nat → Nat} : sw p nm (n + 1) S = if (sw p nm n S).testBit n = true ∧ n ≠ p then sw p nm n S ||| nm n else sw p nm n S := rfl
def rnds (N p : Nat) (nm : Nat → Nat) : Nat → Nat → Nat
  | 0, S => S
  | k + 1, S => sw p nm N (rnds N p nm k S)
theorem sw_mono {p S : Nat} {nm : Nat → Nat} {g : Nat} : ∀ n, S.testBit g = true → (sw p nm n S).testBit g = true := by
  intro n
  induction n with
  | zero => exact fun h => h
  | succ n ih =>
    intro h
    rw [sw_succ]
    split
    · rw [Nat.testBit_or, ih h, Bool.true_or]
    · exact ih h
theorem sw_proc {p S : Nat} {nm : Nat → Nat} {g h : Nat} (hp : h ≠ p) (hS : S.testBit h = true) (hg : (nm h).testBit g = true) : ∀ n, h < n → (sw p nm n S).testBit g = true := by
  intro n
  induction n with
  | zero => exact fun h => absurd h (Nat.not_lt_zero _)
  | succ n ih =>
    intro hn
    rw [sw_succ]
    by_cases e : h = n
    · rw [if_pos ⟨by rw [← e]; exact sw_mono _ hS, by rw [← e]; exact hp⟩, Nat.testBit_or, ← e, hg, Bool.or_true]
    · have := ih (by omega)
      split
      · rw [Nat.testBit_or, this, Bool.true_or]
      · exact this
theorem sw_from {p S : Nat} {nm : Nat → Nat} {g : Nat} : ∀ n, (sw p nm n S).testBit g = true → S.testBit g = true ∨ ∃ h, h < n ∧ h ≠ p ∧ (sw p nm n S).testBit h = true ∧ (nm h).testBit g = true := by
  intro n
  induction n with
  | zero => exact fun h => Or.inl h
  | succ n ih =>
    intro hg
    have up : ∀ h, (sw p nm n S).testBit h = true → (sw p nm (n + 1) S).testBit h = true := by
      intro h hh
      rw [sw_succ]
      split
      · rw [Nat.testBit_or, hh, Bool.true_or]
      · exact hh
    have old : (sw p nm n S).testBit g = true → S.testBit g = true ∨ ∃ h, h < n + 1 ∧ h ≠ p ∧ (sw p nm (n + 1) S).testBit h = true ∧ (nm h).testBit g = true := by
      intro hh
      rcases ih hh with a | ⟨h, a, b, c, d⟩
      · exact Or.inl a
      · exact Or.inr ⟨h, by omega, b, up h c, d⟩
    have hg' := hg
    rw [sw_succ] at hg'
    by_cases c : (sw p nm n S).testBit n = true ∧ n ≠ p
    · rw [if_pos c, Nat.testBit_or, Bool.or_eq_true] at hg'
      rcases hg' with a | a
      · exact old a
      · exact Or.inr ⟨n, Nat.lt_succ_self n, c.2, up n c.1, a⟩
    · rw [if_neg c] at hg'
      exact old hg'
section RND
variable {N p S0 : Nat} {nm rk : Nat → Nat}
theorem rn_mono {g : Nat} : ∀ k k', k ≤ k' → (rnds N p nm k S0).testBit g = true → (rnds N p nm k' S0).testBit g = true := by
  intro k k' h hg
  induction k' with
  | zero =>
    have : k = 0 := by omega
    subst this
    exact hg
  | succ k' ih =>
    by_cases e : k = k' + 1
    · subst e; exact hg
    · exact sw_mono N (ih (by omega))
theorem rn_from {g : Nat} : ∀ k, (rnds N p nm k S0).testBit g = true → S0.testBit g = true ∨ ∃ h, h < N ∧ h ≠ p ∧ (rnds N p nm k S0).testBit h = true ∧ (nm h).testBit g = true := by
  intro k
  induction k with
  | zero => exact fun h => Or.inl h
  | succ k ih =>
    intro hg
    rcases sw_from N hg with a | a
    · rcases ih a with b | ⟨h, b1, b2, b3', b4⟩
      · exact Or.inl b
      · exact Or.inr ⟨h, b1, b2, sw_mono N b3', b4⟩
    · exact Or.inr a
theorem rn_rank (hnm : ∀ f, f < N → f ≠ p → ∀ g, (nm f).testBit g = true → rk g < rk f) (hrk : ∀ f, f < N → rk f < N) : ∀ (k : Nat), k ≤ N → ∀ g, (rnds N p nm N S0).testBit g = true → N ≤ rk g + k → (rnds N p nm k S0).testBit g = true := by
  intro k
  induction k with
  | zero =>
    intro _ g hg hr
    rcases rn_from N hg with a | ⟨h, h1, h2, h3, h4⟩
    · exact a
    · have := hnm h h1 h2 g h4
      have := hrk h h1
      omega
  | succ k ih =>
    intro hk g hg hr
    rcases rn_from N hg with a | ⟨h, h1, h2, h3, h4⟩
    · exact rn_mono 0 (k + 1) (Nat.zero_le _) a
    · have h5 := hnm h h1 h2 g h4
      exact sw_proc h2 (ih (by omega) h h3 (by omega)) h4 N h1
theorem rn_closed (hnm : ∀ f, f < N → f ≠ p → ∀ g, (nm f).testBit g = true → rk g < rk f) (hrk : ∀ f, f < N → rk f < N) {f g : Nat} (hf : f < N) (hp : f ≠ p) (hS : (rnds N p nm N S0).testBit f = true) (hg : (nm f).testBit g = true) : (rnds N p nm N S0).testBit g = true := by
  have h1 := hnm f hf hp g hg
  obtain ⟨N', rfl⟩ : ∃ N', N = N' + 1 := ⟨N - 1, by omega⟩
  have h2 := rn_rank hnm hrk N' (by omega) f hS (by omega)
  exact sw_proc hp h2 hg (N' + 1) hf
/-- an order that holds shows that p doesn't need itself -/
theorem ord_no {nf : Nat → Nat} {ord : Nat → Nat} (ho : dO nf ord N N) (hp : p < N) (e0 : nf p = S0) (e1 : ∀ f, f < N → f ≠ p → nf f = nm f) (k : Nat) : (rnds N p nm k S0).testBit p = false := by
  obtain ⟨o1, o2, o3⟩ := ho
  obtain ⟨ip, hip, eip⟩ := pigeon N ord o1 o2 p hp
  have base : ∀ g, S0.testBit g = true → ∃ j, j < ip ∧ ord j = g := by
    intro g hg
    refine o3 ip hip g ?_
    rw [eip, e0]
    exact hg
  have clos : ∀ h, h < N → h ≠ p → (∃ j, j < ip ∧ ord j = h) → ∀ g, (nm h).testBit g = true → ∃ j, j < ip ∧ ord j = g := by
    rintro h hN hne ⟨j, hj, rfl⟩ g hg
    obtain ⟨j', hj', e⟩ := o3 j (by omega) g (by rw [e1 _ hN hne]; exact hg)
    exact ⟨j', by omega, e⟩
  have one : ∀ (n S : Nat), n ≤ N → (∀ g, S.testBit g = true → ∃ j, j < ip ∧ ord j = g) → ∀ g, (sw p nm n S).testBit g = true → ∃ j, j < ip ∧ ord j = g := by
    intro n
    induction n with
    | zero => intro S _ h; exact h
    | succ n ih =>
      intro S hn h g hg
      rw [sw_succ] at hg
      by_cases c : (sw p nm n S).testBit n = true ∧ n ≠ p
      · rw [if_pos c, Nat.testBit_or, Bool.or_eq_true] at hg
        rcases hg with a | a
        · exact ih S (by omega) h g a
        · exact clos n (by omega) c.2 (ih S (by omega) h n c.1) g a
      · rw [if_neg c] at hg
        exact ih S (by omega) h g hg
  have all : ∀ k g, (rnds N p nm k S0).testBit g = true → ∃ j, j < ip ∧ ord j = g := by
    intro k
    induction k with
    | zero => exact base
    | succ k ih => exact one N _ (Nat.le_refl _) ih
  cases h : (rnds N p nm k S0).testBit p with
  | false => rfl
  | true =>
    obtain ⟨j, hj, e⟩ := all k p h
    have := o2 j ip (by omega) hip (by rw [e, eip])
    omega
/-- where p doesn't need itself nothing is stuck -/
theorem ord_yes {nf : Nat → Nat} (hp : p < N) (e0 : nf p = S0) (e1 : ∀ f, f < N → f ≠ p → nf f = nm f) (hnm : ∀ f, f < N → f ≠ p → ∀ g, (nm f).testBit g = true → rk g < rk f) (hrk : ∀ f, f < N → rk f < N) (hb : ∀ f, f < N → f ≠ p → ∀ g, (nm f).testBit g = true → g < N) (hS : ∀ g, S0.testBit g = true → g < N)
    (hno : (rnds N p nm N S0).testBit p = false) {D : Nat} (hD : ∀ f, f < N → ¬ Rd1 nf D f) : ∀ f, f < N → D.testBit f = true := by
  have a1 : ∀ r f, f < N → (rnds N p nm N S0).testBit f = true → rk f < r → D.testBit f = true := by
    intro r
    induction r with
    | zero => intro f _ _ h; exact absurd h (Nat.not_lt_zero _)
    | succ r ih =>
      intro f hf hs hr
      have hne : f ≠ p := fun e => by rw [e, hno] at hs; exact nomatch hs
      cases h : D.testBit f with
      | true => rfl
      | false =>
        exfalso
        refine hD f hf ⟨h, fun g hg => ?_⟩
        rw [e1 f hf hne] at hg
        have := hnm f hf hne g hg
        exact ih g (hb f hf hne g hg) (rn_closed hnm hrk hf hne hs hg) (by omega)
  have ap : D.testBit p = true := by
    cases h : D.testBit p with
    | true => rfl
    | false =>
      exfalso
      refine hD p hp ⟨h, fun g hg => ?_⟩
      rw [e0] at hg
      exact a1 (rk g + 1) g (hS g hg) (rn_mono 0 N (Nat.zero_le _) hg) (Nat.lt_succ_self _)
  have a2 : ∀ r f, f < N → rk f < r → D.testBit f = true := by
    intro r
    induction r with
    | zero => intro f _ h; exact absurd h (Nat.not_lt_zero _)
    | succ r ih =>
      intro f hf hr
      by_cases hne : f = p
      · rw [hne]; exact ap
      cases h : D.testBit f with
      | true => rfl
      | false =>
        exfalso
        refine hD f hf ⟨h, fun g hg => ?_⟩
        rw [e1 f hf hne] at hg
        have := hnm f hf hne g hg
        exact ih g (hb f hf hne g hg) (by omega)
  exact fun f hf => a2 (rk f + 1) f hf (Nat.lt_succ_self _)
end RND
