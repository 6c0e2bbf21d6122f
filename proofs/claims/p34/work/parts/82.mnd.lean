/-! MENDING: both sides say the same -/
theorem mend_agree {N p S0 : Nat} {nm nf rk : Nat → Nat} {b : Bool} (hp : p < N) (e0 : nf p = S0) (e1 : ∀ f, f < N → f ≠ p → nf f = nm f) (hnm : ∀ f, f < N → f ≠ p → ∀ g, (nm f).testBit g = true → rk g < rk f) (hrk : ∀ f, f < N → rk f < N) (hb : ∀ f, f < N → f ≠ p → ∀ g, (nm f).testBit g = true → g < N) (hS : ∀ g, S0.testBit g = true → g < N)
    (bt' : b = true → ∃ ord : Nat → Nat, dO nf ord N N) (bf : b = false → ∃ D : Nat, (∀ f, f < N → ¬ Rd1 nf D f) ∧ ∃ f, f < N ∧ D.testBit f = false) : (rnds N p nm N S0).testBit p = !b := by
  cases b with
  | true =>
    obtain ⟨ord, ho⟩ := bt' rfl
    rw [ord_no ho hp e0 e1 N]
    rfl
  | false =>
    obtain ⟨D, d1, f, hf, d2⟩ := bf rfl
    cases h : (rnds N p nm N S0).testBit p with
    | true => rfl
    | false =>
      have := ord_yes hp e0 e1 hnm hrk hb hS h d1 f hf
      rw [d2] at this
      exact nomatch this
/-- an order gives ranks -/
theorem rk_of {N : Nat} {Kc Ac : Nat → Nat → Int} {Lc o : Nat → Nat} (vo : vO N Kc Ac Lc o) (inj : ∀ i j, i < N → j < N → o i = o j → i = j) : ∃ rk : Nat → Nat, RK N Kc Ac Lc rk ∧ ∀ i, i < N → rk (o i) = i := by
  have hc : ∀ f, ∃ r, f < N → r < N ∧ o r = f := by
    intro f
    by_cases h : f < N
    · obtain ⟨i, hi, e⟩ := vo.2.1 f h
      exact ⟨i, fun _ => ⟨hi, e⟩⟩
    · exact ⟨0, fun z => absurd z h⟩
  refine ⟨fun f => Classical.choose (hc f), ?_, ?_⟩
  · intro f hf
    obtain ⟨h1, h2⟩ := Classical.choose_spec (hc f) hf
    refine ⟨h1, fun g hg => ?_⟩
    rw [← h2] at hg
    obtain ⟨j, hj, e⟩ := vo.2.2 _ h1 g hg
    have hgN : g < N := by rw [← e]; exact vo.1 j (by omega)
    obtain ⟨h3, h4⟩ := Classical.choose_spec (hc g) hgN
    have := inj _ j h3 (by omega) (by rw [h4, e])
    show Classical.choose (hc g) < Classical.choose (hc f)
    omega
  · intro i hi
    obtain ⟨h3, h4⟩ := Classical.choose_spec (hc (o i)) (vo.1 i hi)
    exact inj _ i h3 hi h4
/-- a drafted order is one -/
theorem vO_of {N : Nat} {Kc Ac : Nat → Nat → Int} {Lc ord : Nat → Nat} {nf : Nat → Nat} (ho : dO nf ord N N) (hn : ∀ f, f < N → ∀ g, Nm Kc Ac Lc f g → (nf f).testBit g = true) : vO N Kc Ac Lc ord :=
  ⟨ho.1, fun f hf => pigeon N ord ho.1 ho.2.1 f hf, fun i hi g hg => ho.2.2 i hi g (hn (ord i) (ho.1 i hi) g hg)⟩
/-- a new feast at the end -/
theorem vO_add {N : Nat} {Kc Ac Kc' Ac' : Nat → Nat → Int} {Lc Lc' o : Nat → Nat} (vo : vO N Kc Ac Lc o) (he : ∀ f, f < N → ∀ g, Nm Kc' Ac' Lc' f g → Nm Kc Ac Lc f g) (hN : ∀ g, Nm Kc' Ac' Lc' N g → g < N) : vO (N + 1) Kc' Ac' Lc' (fun i => if i = N then N else o i) := by
  obtain ⟨o1, o2, o3⟩ := vo
  refine ⟨fun i hi => ?_, fun f hf => ?_, fun i hi g hg => ?_⟩
  · by_cases c : i = N
    · simp only [if_pos c]
      omega
    · simp only [if_neg c]
      have := o1 i (by omega)
      omega
  · by_cases c : f = N
    · exact ⟨N, Nat.lt_succ_self N, by simp only [if_true]; exact c.symm⟩
    · obtain ⟨i, hi, e⟩ := o2 f (by omega)
      exact ⟨i, by omega, by simp only [if_neg (show ¬ i = N by omega)]; exact e⟩
  · by_cases c : i = N
    · simp only [if_pos c] at hg
      obtain ⟨j, hj, e⟩ := o2 g (hN g hg)
      exact ⟨j, by omega, by simp only [if_neg (show ¬ j = N by omega)]; exact e⟩
    · simp only [if_neg c] at hg
      obtain ⟨j, hj, e⟩ := o3 i (by omega) g (he (o i) (o1 i (by omega)) g hg)
      exact ⟨j, hj, by simp only [if_neg (show ¬ j = N by omega)]; exact e⟩
