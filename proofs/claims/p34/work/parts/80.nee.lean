/-! THE REFERENCE ASKS WHETHER A FEAST NEEDS ITSELF -/
section NEE
variable {m : Mm} {N p n : Nat} {Kc Ac : Nat → Nat → Int} {Lc : Nat → Nat} {K A : Nat → Int}
theorem sw_lt {S : Nat} {nm : Nat → Nat} (hS : S < 2 ^ 20) : ∀ i, i ≤ N → (∀ f, f < N → nm f < 2 ^ 20) → sw p nm i S < 2 ^ 20 := by
  intro i
  induction i with
  | zero => intro _ _; exact hS
  | succ i ih =>
    intro hi hn
    rw [sw_succ]
    split
    · exact Nat.or_lt_two_pow (ih (by omega) hn) (hn i (by omega))
    · exact ih (by omega) hn
theorem rn_lt {S : Nat} {nm : Nat → Nat} (hS : S < 2 ^ 20) (hn : ∀ f, f < N → nm f < 2 ^ 20) : ∀ k, rnds N p nm k S < 2 ^ 20 := by
  intro k
  induction k with
  | zero => exact hS
  | succ k ih => exact sw_lt ih N (Nat.le_refl _) hn
theorem mod_needs (hW : VW N Kc Ac Lc) (h : Rfe m N Kc Ac Lc) (hp : p < N) (hn : n ≤ 40) (h11 : zI m 201 11 = i3 n) (hC : ∀ i, i < n → zI m 206 i = i3 (K i) ∧ zI m 207 i = i3 (A i)) (hb : ∀ i, i < n → (-1000000 ≤ K i ∧ K i ≤ 1000000) ∧ ((K i = 4 ∨ K i = 15) → 0 ≤ A i ∧ A i ≤ 19)) :
    f_Mod_needsItself (i3 p) m = some (b3 ((rnds N p (fun f => nms (Kc f) (Ac f) (Lc f)) N (nms K A n)).testBit p)) := by
  have h20 := hW.1
  have hnm : ∀ f, f < N → nms (Kc f) (Ac f) (Lc f) < 2 ^ 20 := fun f hf => nms_lt (Lc f) (fun i hi hk => (hW.nm hf hi hk).2.2.2)
  have hS0 : nms K A n < 2 ^ 20 := nms_lt n (fun i hi hk => ((hb i hi).2 hk).2)
  have p31 : (2 : Nat) ^ 20 < 2147483648 := by decide
  rw [e_Mod_needsItself]
  refine run_zLq2 (fun j x1 x2 => ∃ i : Nat, x1 = i3 (nms K A i) ∧ x2 = i3 i ∧ i ≤ n ∧ j = n - i) ?_ zFu n _ _ ⟨0, rfl, rfl, Nat.zero_le _, rfl⟩ (by unfold zFu; omega)
  rintro r j x1 x2 ⟨i, rfl, rfl, hi, rfl⟩
  unfold l_Mod_needsItself_2
  rw [h11, it_le ⟨by omega, by omega⟩ ⟨by omega, by omega⟩]
  by_cases e : (n : Int) ≤ i
  case neg =>
    right
    have hlt : i < n := by omega
    obtain ⟨d1, d2⟩ := hC i hlt
    obtain ⟨b1, b2⟩ := hb i hlt
    have hin : zIn (i3 (i : Int)) 80 := (i3_in ⟨by omega, by omega⟩).mpr ⟨by omega, by omega⟩
    have hix : zIx (i3 (i : Int)) = i := by rw [i3_ix ⟨by omega, by omega⟩, Int.toNat_natCast]
    refine ⟨_, _, n - (i + 1), by omega, ⟨i + 1, rfl, rfl, hlt, rfl⟩, ?_⟩
    rw [if_neg e, if_pos hin]
    simp only [zLet, if_pos hin, hix, d1, d2, i3_add1]
    rw [show (4 : Int32) = i3 4 from rfl, show (15 : Int32) = i3 15 from rfl, it_eq ⟨by omega, by omega⟩ ⟨by decide, by decide⟩, it_eq ⟨by omega, by omega⟩ ⟨by decide, by decide⟩, nms_succ]
    by_cases hk : K i = 4 ∨ K i = 15
    · have n3 := b2 hk
      have hpw := i3_pow (k := (A i).toNat) (by omega)
      rw [show (((A i).toNat : Nat) : Int) = A i by omega] at hpw
      rw [if_pos hk, ← i3_or, ← hpw]
      rcases hk with hk | hk
      · rw [if_pos hk]
        rfl
      · rw [if_neg (by omega), if_pos hk]
        rfl
    · rw [if_neg hk, if_neg (fun z => hk (Or.inl z)), if_neg (fun z => hk (Or.inr z)), Nat.or_zero, Int32.or_zero]
      rfl
  left
  have ei : i = n := by omega
  subst ei
  rw [if_pos e]
  generalize hnf : (fun f => nms (Kc f) (Ac f) (Lc f)) = nm at *
  have hnm' : ∀ f, f < N → nm f < 2 ^ 20 := fun f hf => by rw [← hnf]; exact hnm f hf
  refine run_zLq2 (fun j x5 x6 => ∃ k : Nat, x5 = i3 (rnds N p nm k (nms K A i)) ∧ x6 = i3 k ∧ k ≤ N ∧ j = N - k) ?_ zFu N _ _ ⟨0, rfl, rfl, Nat.zero_le _, rfl⟩ (by unfold zFu; omega)
  rintro r7 j x5 x6 ⟨k, rfl, rfl, hk, rfl⟩
  have hrl : rnds N p nm k (nms K A i) < 2 ^ 20 := rn_lt hS0 hnm' k
  unfold l_Mod_needsItself_1
  rw [h.1, it_le ⟨by omega, by omega⟩ ⟨by omega, by omega⟩]
  by_cases e2 : (N : Int) ≤ k
  · left
    have ek : k = N := by omega
    subst ek
    rw [if_pos e2, i3_tb (show p < 20 by omega) (by omega)]
    cases (rnds k p nm k (nms K A i)).testBit p with
    | true => exact if_pos (by decide)
    | false => exact if_neg (by decide)
  right
  rw [if_neg e2]
  refine ⟨i3 (rnds N p nm (k + 1) (nms K A i)), i3 ((k + 1 : Nat) : Int), N - (k + 1), by omega, ⟨k + 1, rfl, rfl, by omega, rfl⟩, ?_⟩
  refine run_zLq2 (fun j x10 x11 => ∃ q : Nat, x10 = i3 (sw p nm q (rnds N p nm k (nms K A i))) ∧ x11 = i3 q ∧ q ≤ N ∧ j = N - q) ?_ zFu N _ _ ⟨0, rfl, rfl, Nat.zero_le _, rfl⟩ (by unfold zFu; omega)
  rintro r12 j x10 x11 ⟨q, rfl, rfl, hq, rfl⟩
  have hsl : sw p nm q (rnds N p nm k (nms K A i)) < 2 ^ 20 := sw_lt hrl q hq hnm'
  unfold l_Mod_needsItself_0
  rw [h.1, it_le ⟨by omega, by omega⟩ ⟨by omega, by omega⟩]
  by_cases e3 : (N : Int) ≤ q
  · left
    have eq' : q = N := by omega
    subst eq'
    rw [if_pos e3]
    simp only [zLet, i3_add1]
    rfl
  · right
    have hlt : q < N := by omega
    have hnd := mod_named hW h hlt
    have hnq : nms (Kc q) (Ac q) (Lc q) = nm q := by rw [← hnf]
    rw [hnq] at hnd
    refine ⟨_, _, N - (q + 1), by omega, ⟨q + 1, rfl, rfl, hlt, rfl⟩, ?_⟩
    rw [if_neg e3]
    simp only [zLet, i3_add1]
    rw [i3_tb (show q < 20 by omega) (by omega), it_eq ⟨by omega, by omega⟩ ⟨by omega, by omega⟩, hnd, zBP_some, sw_succ, Int32.or_zero]
    cases hbit : (sw p nm q (rnds N p nm k (nms K A i))).testBit q with
    | false =>
      rw [if_neg (show ¬ i3 (bt false) = 1 by decide), if_neg (fun z => nomatch z.1)]
      rfl
    | true =>
      rw [if_pos (show i3 (bt true) = 1 by decide)]
      by_cases c : q = p
      · rw [if_pos (by omega), if_neg (fun z => z.2 c)]
        rfl
      · rw [if_neg (by omega), if_pos ⟨rfl, c⟩, i3_or]
        rfl
end NEE
