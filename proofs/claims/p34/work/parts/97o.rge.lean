/-! RINGING: who rings at the end is who rang then -/
section RGE
variable {PR RE BE pl R : Nat → Int} {nR N : Nat} {nt : Nat → Bool} {d ld rk : Int} {f p : Nat} {s : RS}
theorem rOne_at {b : Nat} : (rOne PR RE nR d ld f p b s).2.2.1 (36 * f + (6 * p + b)) = rIts PR RE nR p d s := by
  unfold rOne
  by_cases e : rIts PR RE nR p d s = -1
  · rw [if_pos e, e]
    exact if_pos rfl
  · rw [if_neg e]
    exact if_pos rfl
theorem rOne_ne {b j : Nat} (h : j ≠ 36 * f + (6 * p + b)) : (rOne PR RE nR d ld f p b s).2.2.1 j = s.2.2.1 j := by
  unfold rOne
  by_cases e : rIts PR RE nR p d s = -1
  · rw [if_pos e]
    exact if_neg h
  · rw [if_neg e]
    exact if_neg h
theorem rBl_ne {j : Nat} : ∀ n : Nat, (∀ b, b < n → j ≠ 36 * f + (6 * p + b)) → (rBl PR RE nR d ld f p n s).2.2.1 j = s.2.2.1 j
  | 0, _ => rfl
  | n + 1, h => by
    show (rOne PR RE nR d ld f p n (rBl PR RE nR d ld f p n s)).2.2.1 j = _
    rw [rOne_ne (h n (Nat.lt_succ_self n)), rBl_ne n (fun b hb => h b (by omega))]
theorem rBl_at {b : Nat} : ∀ n : Nat, b < n → (rBl PR RE nR d ld f p n s).2.2.1 (36 * f + (6 * p + b)) = rIts PR RE nR p d (rBl PR RE nR d ld f p b s)
  | 0, h => absurd h (Nat.not_lt_zero b)
  | n + 1, h => by
    show (rOne PR RE nR d ld f p n (rBl PR RE nR d ld f p n s)).2.2.1 _ = _
    by_cases e : b = n
    · subst e
      exact rOne_at
    · rw [rOne_ne (by omega), rBl_at n (by omega)]
theorem rPa_ne (hv : vBE BE) (hk : 0 ≤ rk ∧ rk ≤ 9) {j : Nat} : ∀ q : Nat, q ≤ 6 → (∀ p b, p < q → b < 6 → j ≠ 36 * f + (6 * p + b)) → (rPa PR RE nR BE d ld rk f q s).2.2.1 j = s.2.2.1 j
  | 0, _, _ => rfl
  | q + 1, hq, h => by
    have hb := nBl_bd hv (show q < 6 by omega) hk
    show (rBl PR RE nR d ld f q (nBl rk BE q) (rPa PR RE nR BE d ld rk f q s)).2.2.1 j = _
    rw [rBl_ne _ (fun b hb' => h q b (Nat.lt_succ_self q) (by omega)), rPa_ne hv hk q (by omega) (fun p b hp hb' => h p b (by omega) hb')]
theorem rPa_at (hv : vBE BE) (hk : 0 ≤ rk ∧ rk ≤ 9) {b : Nat} (hb : b < nBl rk BE p) : ∀ q : Nat, p < q → q ≤ 6 → (rPa PR RE nR BE d ld rk f q s).2.2.1 (36 * f + (6 * p + b)) = rIts PR RE nR p d (rBl PR RE nR d ld f p b (rPa PR RE nR BE d ld rk f p s))
  | 0, h, _ => absurd h (Nat.not_lt_zero p)
  | q + 1, h, hq => by
    have hbp := nBl_bd hv (show p < 6 by omega) hk
    have hbq := nBl_bd hv (show q < 6 by omega) hk
    show (rBl PR RE nR d ld f q (nBl rk BE q) (rPa PR RE nR BE d ld rk f q s)).2.2.1 _ = _
    by_cases e : p = q
    · subst e
      exact rBl_at _ hb
    · rw [rBl_ne _ (fun b' hb' => by omega), rPa_at hv hk hb q (by omega) (by omega)]
theorem rPa_no (hv : vBE BE) (hk : 0 ≤ rk ∧ rk ≤ 9) {b : Nat} (hb6 : b < 6) (hb : nBl rk BE p ≤ b) : ∀ q : Nat, q ≤ 6 → (rPa PR RE nR BE d ld rk f q s).2.2.1 (36 * f + (6 * p + b)) = s.2.2.1 (36 * f + (6 * p + b))
  | 0, _ => rfl
  | q + 1, hq => by
    have hbq := nBl_bd hv (show q < 6 by omega) hk
    show (rBl PR RE nR d ld f q (nBl rk BE q) (rPa PR RE nR BE d ld rk f q s)).2.2.1 _ = _
    rw [rBl_ne _ (fun b' hb' => by
      by_cases e : q = p
      · subst e
        omega
      · omega), rPa_no hv hk hb6 hb q (by omega)]
theorem rDy_fe (hv : vBE BE) (hR : ∀ k, k < N → 0 ≤ R k ∧ R k ≤ 9) {d : Nat} {j : Nat} (hj : 36 * f ≤ j ∧ j < 36 * f + 36) : ∀ n : Nat, n ≤ N → (rDy PR RE nR BE nt pl R d n s).2.2.1 j = if f < n ∧ pl f = d then (rPa PR RE nR BE d (rLd nt d f) (R f) f 6 (rDy PR RE nR BE nt pl R d f s)).2.2.1 j else s.2.2.1 j
  | 0, _ => by
    rw [if_neg (fun z => absurd z.1 (Nat.not_lt_zero f))]
    rfl
  | n + 1, hn => by
    have ih := rDy_fe hv hR (d := d) hj n (by omega)
    show (if pl n = d then rPa PR RE nR BE d (rLd nt d n) (R n) n 6 (rDy PR RE nR BE nt pl R d n s) else rDy PR RE nR BE nt pl R d n s).2.2.1 j = _
    by_cases e : pl n = d
    · rw [if_pos e]
      by_cases e2 : f = n
      · subst e2
        rw [if_pos ⟨Nat.lt_succ_self f, e⟩]
      · rw [rPa_ne hv (hR n (by omega)) 6 (Nat.le_refl 6) (fun p b hp hb => by omega), ih]
        by_cases e3 : f < n ∧ pl f = d
        · rw [if_pos e3, if_pos ⟨by omega, e3.2⟩]
        · rw [if_neg e3, if_neg (fun z => e3 ⟨by omega, z.2⟩)]
    · rw [if_neg e, ih]
      by_cases e3 : f < n ∧ pl f = d
      · rw [if_pos e3, if_pos ⟨by omega, e3.2⟩]
      · rw [if_neg e3, if_neg (fun z => e3 ⟨by
          by_cases e4 : f = n
          · rw [e4] at z
            exact absurd z.2 e
          · omega, z.2⟩)]
theorem rYr_fe (hv : vBE BE) (hR : ∀ k, k < N → 0 ≤ R k ∧ R k ≤ 9) (hf : f < N) {j : Nat} (hj : 36 * f ≤ j ∧ j < 36 * f + 36) : ∀ L : Nat, (rYr PR RE nR BE nt pl R N L).2.2.1 j = if 0 ≤ pl f ∧ pl f < L then (rPa PR RE nR BE (pl f).toNat (rLd nt (pl f).toNat f) (R f) f 6 (rDy PR RE nR BE nt pl R (pl f).toNat f (rYr PR RE nR BE nt pl R N (pl f).toNat))).2.2.1 j else -2
  | 0 => by
    rw [if_neg (by omega)]
    rfl
  | L + 1 => by
    show (rDy PR RE nR BE nt pl R L N (rYr PR RE nR BE nt pl R N L)).2.2.1 j = _
    rw [rDy_fe hv hR hj N (Nat.le_refl N)]
    by_cases e : pl f = L
    · rw [if_pos ⟨hf, e⟩, if_pos (by omega), e, Int.toNat_natCast]
    · rw [if_neg (fun z => e z.2), rYr_fe hv hR hf hj L]
      by_cases e3 : 0 ≤ pl f ∧ pl f < L
      · rw [if_pos e3, if_pos (by omega)]
      · rw [if_neg e3, if_neg (by omega)]
/-- who rings for feast f, parish p, bell b at the end of the year -/
theorem rFin (hv : vBE BE) (hR : ∀ k, k < N → 0 ≤ R k ∧ R k ≤ 9) (hf : f < N) {d L : Nat} (hd : pl f = d) (hL : d < L) {b : Nat} (hp : p < 6) (hb : b < 6) : (rYr PR RE nR BE nt pl R N L).2.2.1 (36 * f + (6 * p + b)) = if b < nBl (R f) BE p then rIts PR RE nR p d (rBl PR RE nR d (rLd nt d f) f p b (rPa PR RE nR BE d (rLd nt d f) (R f) f p (rDy PR RE nR BE nt pl R d f (rYr PR RE nR BE nt pl R N d)))) else -2 := by
  rw [rYr_fe hv hR hf ⟨by omega, by omega⟩, if_pos (by omega), hd, Int.toNat_natCast]
  by_cases e : b < nBl (R f) BE p
  · rw [if_pos e, rPa_at hv (hR f hf) e 6 hp (Nat.le_refl 6)]
  · rw [if_neg e, rPa_no hv (hR f hf) hb (by omega) 6 (Nat.le_refl 6), rDy_fe (f := f) hv hR ⟨by omega, by omega⟩ f (by omega), if_neg (fun z => absurd z.1 (Nat.lt_irrefl f)), rYr_fe (f := f) hv hR hf ⟨by omega, by omega⟩, if_neg (by omega)]
theorem pa_b {N : Nat} {L : Int} {b R : Nat → Int} {mv : Nat → Bool} {r : Int} {f : Nat} : ∀ (n : Nat) (pl : Nat → Int), (pl f ≠ -1 → b f ≠ -1) → sPass N L b R mv r n pl f ≠ -1 → b f ≠ -1
  | 0, _, h => h
  | n + 1, pl, h => by
    have ih := pa_b (N := N) (L := L) (b := b) (R := R) (mv := mv) (r := r) (f := f) n pl h
    rw [sPass_succ]
    by_cases e : R n = r
    · rw [if_pos e]
      unfold upI
      by_cases e2 : f = n
      · rw [if_pos e2]
        intro h2 h3
        apply h2
        unfold sOne
        rw [if_pos (by rw [← e2]; exact h3)]
      · rw [if_neg e2]
        exact ih
    · rw [if_neg e]
      exact ih
/-- a feast that has a day has a bent day -/
theorem al_b {N : Nat} {L : Int} {b R : Nat → Int} {mv : Nat → Bool} {f : Nat} : ∀ c : Nat, sAll N L b R mv c f ≠ -1 → b f ≠ -1
  | 0, h => absurd rfl h
  | c + 1, h => pa_b N (sAll N L b R mv c) (al_b c) (by rw [← sAll_succ]; exact h)
end RGE
