/-! RINGING: silences are counted -/
def cS (g : Nat → Int) : Nat → Int
  | 0 => 0
  | n + 1 => cS g n + if g n = -1 then 1 else 0
theorem cS_up {g : Nat → Int} {j : Nat} {v : Int} (hj : g j = -2) : ∀ n : Nat, cS (upI g j v) n = cS g n + if j < n ∧ v = -1 then 1 else 0
  | 0 => by rw [if_neg (by omega)]; rfl
  | n + 1 => by
    show cS (upI g j v) n + (if upI g j v n = -1 then 1 else 0) = cS g n + (if g n = -1 then 1 else 0) + _
    rw [cS_up hj n]
    unfold upI
    by_cases e : n = j
    · subst e
      rw [if_pos rfl, hj, if_neg (by omega), if_neg (show ¬ (-2 : Int) = -1 by decide)]
      by_cases hv : v = -1
      · rw [if_pos hv, if_pos ⟨by omega, hv⟩]
      · rw [if_neg hv, if_neg (fun z => hv z.2)]
    · rw [if_neg e]
      by_cases hv : j < n ∧ v = -1
      · rw [if_pos hv, if_pos (show j < n + 1 ∧ v = -1 from ⟨by omega, hv.2⟩)]; omega
      · rw [if_neg hv, if_neg (show ¬ (j < n + 1 ∧ v = -1) from fun z => hv ⟨by omega, z.2⟩)]; omega
theorem cS_end {g : Nat → Int} {k : Nat} : ∀ n : Nat, k ≤ n → (∀ j, k ≤ j → j < n → g j = -2) → cS g n = cS g k
  | 0, h, _ => by rw [show k = 0 by omega]
  | n + 1, h, hg => by
    by_cases e : k = n + 1
    · rw [e]
    · show cS g n + (if g n = -1 then 1 else 0) = _
      rw [hg n (by omega) (by omega), if_neg (by decide), cS_end n (by omega) (fun j h1 h2 => hg j h1 (by omega))]
      omega
section SIL
variable {PR RE BE pl R : Nat → Int} {nR N : Nat} {nt : Nat → Bool} {d ld rk : Int} {f p : Nat} {s : RS}
/-- silences are those of the row -/
def SV (s : RS) : Prop := s.2.2.2 = cS s.2.2.1 720
theorem one_sv {b : Nat} (hi : 36 * f + (6 * p + b) < 720) (h0 : s.2.2.1 (36 * f + (6 * p + b)) = -2) (h : SV s) : SV (rOne PR RE nR d ld f p b s) ∧ ∀ j, j ≠ 36 * f + (6 * p + b) → (rOne PR RE nR d ld f p b s).2.2.1 j = s.2.2.1 j := by
  unfold SV at h
  unfold rOne
  rcases rIts_cases (PR := PR) (RE := RE) (nR := nR) (p := p) (d := d) (s := s) with e | ⟨g, hg, e⟩
  · rw [if_pos e]
    refine ⟨?_, fun j hj => if_neg hj⟩
    show s.2.2.2 + 1 = cS (upI s.2.2.1 _ _) 720
    rw [cS_up h0, if_pos ⟨hi, rfl⟩, h]
  · rw [e, if_neg (by omega)]
    refine ⟨?_, fun j hj => if_neg hj⟩
    show s.2.2.2 = cS (upI s.2.2.1 _ _) 720
    rw [cS_up h0, if_neg (fun z => by omega), h]
    omega
theorem bl_sv (hf : f < 20) (hp : p < 6) (h : SV s) : ∀ b : Nat, b ≤ 6 → (∀ b', b' < b → s.2.2.1 (36 * f + (6 * p + b')) = -2) → SV (rBl PR RE nR d ld f p b s) ∧ ∀ j, (∀ b', b' < b → j ≠ 36 * f + (6 * p + b')) → (rBl PR RE nR d ld f p b s).2.2.1 j = s.2.2.1 j
  | 0, _, _ => ⟨h, fun _ _ => rfl⟩
  | b + 1, hb, h0 => by
    obtain ⟨h1, h2⟩ := bl_sv hf hp h b (by omega) (fun b' hb' => h0 b' (by omega))
    obtain ⟨g1, g2⟩ := one_sv (PR := PR) (RE := RE) (nR := nR) (d := d) (ld := ld) (f := f) (p := p) (b := b) (by omega) (by rw [h2 _ (fun b' hb' => by omega)]; exact h0 b (by omega)) h1
    refine ⟨g1, fun j hj => ?_⟩
    show (rOne PR RE nR d ld f p b _).2.2.1 j = _
    rw [g2 j (hj b (by omega)), h2 j (fun b' hb' => hj b' (by omega))]
theorem pa_sv (hf : f < 20) (hbv : vBE BE) (hk : 0 ≤ rk ∧ rk ≤ 9) (h : SV s) (h0 : ∀ k, k < 36 → s.2.2.1 (36 * f + k) = -2) : ∀ p : Nat, p ≤ 6 → SV (rPa PR RE nR BE d ld rk f p s) ∧ ∀ j, (j < 36 * f ∨ 36 * f + 6 * p ≤ j) → (rPa PR RE nR BE d ld rk f p s).2.2.1 j = s.2.2.1 j
  | 0, _ => ⟨h, fun _ _ => rfl⟩
  | p + 1, hp => by
    obtain ⟨h1, h2⟩ := pa_sv hf hbv hk h h0 p (by omega)
    obtain ⟨n1, -⟩ := nBl_bd hbv (show p < 6 by omega) hk
    obtain ⟨g1, g2⟩ := bl_sv (PR := PR) (RE := RE) (nR := nR) (d := d) (ld := ld) (f := f) (p := p) hf (by omega) h1 (nBl rk BE p) n1 (fun b' hb' => by rw [h2 _ (by omega)]; exact h0 _ (by omega))
    refine ⟨g1, fun j hj => ?_⟩
    show (rBl PR RE nR d ld f p (nBl rk BE p) _).2.2.1 j = _
    rw [g2 j (fun b' hb' => by omega), h2 j (by omega)]
/-- the feasts whose day is to come have no ringers yet -/
def Fsh (N : Nat) (pl : Nat → Int) (d n : Nat) (s : RS) : Prop := ∀ g, (N ≤ g ∨ pl g = -1 ∨ (d : Int) < pl g ∨ (pl g = d ∧ n ≤ g)) → ∀ k, k < 36 → s.2.2.1 (36 * g + k) = -2
theorem dy_sv {d : Nat} (hN : N ≤ 20) (hbv : vBE BE) (hR : ∀ k, k < N → 0 ≤ R k ∧ R k ≤ 9) (h : SV s) (h0 : Fsh N pl d 0 s) : ∀ n : Nat, n ≤ N → SV (rDy PR RE nR BE nt pl R d n s) ∧ Fsh N pl d n (rDy PR RE nR BE nt pl R d n s)
  | 0, _ => ⟨h, h0⟩
  | n + 1, hn => by
    obtain ⟨h1, h2⟩ := dy_sv hN hbv hR h h0 n (by omega)
    unfold rDy
    by_cases c : pl n = d
    · rw [if_pos c]
      obtain ⟨g1, g2⟩ := pa_sv (PR := PR) (RE := RE) (nR := nR) (d := d) (ld := rLd nt d n) (f := n) (by omega) hbv (hR n (by omega)) h1 (h2 n (Or.inr (Or.inr (Or.inr ⟨c, Nat.le_refl n⟩)))) 6 (Nat.le_refl 6)
      refine ⟨g1, fun g hg k hk => ?_⟩
      rw [g2 _ (by
        have : g ≠ n := fun e => by subst e; omega
        omega)]
      exact h2 g (by omega) k hk
    · rw [if_neg c]
      refine ⟨h1, fun g hg k hk => h2 g ?_ k hk⟩
      omega
theorem yr_sv (hN : N ≤ 20) (hbv : vBE BE) (hR : ∀ k, k < N → 0 ≤ R k ∧ R k ≤ 9) (hp : ∀ g, g < N → -1 ≤ pl g) : ∀ d : Nat, SV (rYr PR RE nR BE nt pl R N d) ∧ Fsh N pl d 0 (rYr PR RE nR BE nt pl R N d)
  | 0 => by
    refine ⟨?_, fun g _ k _ => rfl⟩
    show (0 : Int) = cS (fun _ => -2) 720
    rw [cS_end 720 (Nat.zero_le _) (fun _ _ _ => rfl)]
    rfl
  | d + 1 => by
    obtain ⟨h1, h2⟩ := yr_sv hN hbv hR hp d
    obtain ⟨g1, g2⟩ := dy_sv (PR := PR) (RE := RE) (nR := nR) (nt := nt) hN hbv hR h1 h2 N (Nat.le_refl N)
    exact ⟨g1, fun g hg k hk => g2 g (by omega) k hk⟩
theorem yr_sil (hN : N ≤ 20) (hbv : vBE BE) (hR : ∀ k, k < N → 0 ≤ R k ∧ R k ≤ 9) (hp : ∀ g, g < N → -1 ≤ pl g) (d : Nat) : (rYr PR RE nR BE nt pl R N d).2.2.2 = cS (rYr PR RE nR BE nt pl R N d).2.2.1 (36 * N) := by
  obtain ⟨h1, h2⟩ := yr_sv (PR := PR) (RE := RE) (nR := nR) (nt := nt) hN hbv hR hp d
  unfold SV at h1
  rw [h1]
  refine cS_end 720 (by omega) (fun j h3 h4 => ?_)
  have := h2 (j / 36) (Or.inl (by omega)) (j % 36) (by omega)
  rw [show 36 * (j / 36) + j % 36 = j by omega] at this
  exact this
theorem cS_bd {g : Nat → Int} : ∀ n : Nat, 0 ≤ cS g n ∧ cS g n ≤ n
  | 0 => ⟨Int.le_refl 0, Int.le_refl 0⟩
  | n + 1 => by
    have := cS_bd (g := g) n
    unfold cS
    split <;> omega
end SIL
