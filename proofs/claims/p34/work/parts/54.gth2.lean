/-! THE REFERENCE GOES THROUGH A RULE -/
set_option maxHeartbeats 4000000 in
theorem mod_go {m : Mm} {f y t nb : Nat} {B K A F Y E : Nat → Int} {n : Nat} (hy : y < 400) (ht : t < 2) (hf : f < 20) (hn : n ≤ 40) (h210 : zI m 210 f = i3 n) (hC : ∀ i, i < n → zI m 211 (80 * f + i) = i3 (K i) ∧ zI m 212 (80 * f + i) = i3 (A i)) (hV : cV K A n)
    (hB : ∀ i, i < n → (K i = 4 ∨ K i = 15) → zI m 216 (20 * t + (A i).toNat) = i3 (B (A i).toNat) ∧ -1 ≤ B (A i).toNat ∧ B (A i).toNat < sLen y) (hv : vB F Y E nb) (hD : Rbn m F Y E nb) :
    f_Mod_goesThrough (i3 f) (i3 y) (i3 t) m = some (wI (wI m 216 (20 * t + f) (i3 (sBend y F Y E nb f (xgo y t B K A n n 0 (-1) false 0).1))) 218 f (i3 (xgo y t B K A n n 0 (-1) false 0).2)) := by
  have hL := sLen_bd y
  have hinf : zIn (i3 (f : Int)) 20 := (i3_in ⟨by omega, by omega⟩).mpr ⟨by omega, by omega⟩
  have hixf : zIx (i3 (f : Int)) = f := by rw [i3_ix ⟨by omega, by omega⟩, Int.toNat_natCast]
  have e20 : (20 : Int32) * i3 t + i3 f = i3 ((20 * t + f : Nat) : Int) := by rw [show (20 : Int32) = i3 20 from rfl, i3_mul, i3_add]; rfl
  have hin2 : zIn (i3 ((20 * t + f : Nat) : Int)) 40 := (i3_in ⟨by omega, by omega⟩).mpr ⟨by omega, by omega⟩
  have hix2 : zIx (i3 ((20 * t + f : Nat) : Int)) = 20 * t + f := by rw [i3_ix ⟨by omega, by omega⟩, Int.toNat_natCast]
  rw [e_Mod_goesThrough]
  refine run_zLq4 (fun j x1 x2 x3 x4 => ∃ (d c : Int) (g : Bool) (pc u : Nat), x1 = i3 d ∧ x2 = b3 g ∧ x3 = i3 c ∧ x4 = i3 pc ∧ (-1 ≤ d ∧ d < sLen y) ∧ pc ≤ n ∧ (0 ≤ c ∧ c ≤ 6 * pc) ∧ j = n - pc ∧ n ≤ u + pc ∧ xgo y t B K A n u pc d g c = xgo y t B K A n n 0 (-1) false 0) ?_ zFu n _ _ _ _ ⟨-1, 0, false, 0, n, by decide, by decide, by decide, by decide, by omega, by omega, by omega, by omega, by omega, rfl⟩ (by unfold zFu; omega)
  rintro r j x1 x2 x3 x4 ⟨d, c, g, pc, u, rfl, rfl, rfl, rfl, hd, hpn, hc, rfl, hu, hx⟩
  unfold l_Mod_goesThrough_0
  rw [if_pos hinf, hixf, h210, it_le ⟨by omega, by omega⟩ ⟨by omega, by omega⟩]
  by_cases e1 : n ≤ pc
  · left
    rw [xgo_end e1] at hx
    rw [← hx, if_pos (by omega), mod_bendOf hv hD ⟨by omega, by omega⟩ ⟨by omega, by omega⟩, zBP_some]
    simp only [zLet, e20, if_pos hin2, hix2, if_pos hinf, hixf]
    unfold sBend
    rw [show (-1 : Int32) = i3 (-1) from rfl]
    rcases sIx_bd (F := F) (Y := Y) (f := f) (y := y) nb with e | ⟨i, h1, h2, -⟩
    · rw [e, if_pos rfl, if_pos rfl]
      by_cases c1 : d = -1
      · rw [if_pos c1, c1]
      · rw [if_neg c1]
    · have h30 := hv.1
      obtain ⟨-, -, b3⟩ := hv.2 i h1
      have hin : zIn (i3 (i : Int)) 30 := (i3_in ⟨by omega, by omega⟩).mpr ⟨by omega, by omega⟩
      have hix : zIx (i3 (i : Int)) = i := by rw [i3_ix ⟨by omega, by omega⟩, Int.toNat_natCast]
      rw [h2, it_m1 ⟨by omega, by omega⟩, if_neg (show ¬ (i : Int) = -1 by omega), it_m1 ⟨by omega, by omega⟩]
      by_cases c1 : d = -1
      · rw [if_pos c1, if_pos c1, c1]
      · rw [if_neg c1, if_neg c1, if_neg (show ¬ (i : Int) = -1 by omega), if_pos hin, hix, (hD.2 i h1).2.2, Int.toNat_natCast, show (99 : Int32) = i3 99 from rfl, it_eq ⟨by omega, by omega⟩ ⟨by decide, by decide⟩]
        by_cases c2 : E i = 99
        · rw [if_pos c2, if_pos c2]
        · rw [if_neg c2, if_neg c2, if_pos hin, i3_add, mod_within hy ⟨by omega, by omega⟩, zBP_some]
  · right
    have hlt : pc < n := by omega
    have hvs := hV pc hlt
    have hbd := hvs.bd hn
    obtain ⟨c1, c2⟩ := hC pc hlt
    have hnx := xN_bd (f := xF y B (K pc) (A pc) d g) hvs hlt
    obtain ⟨u', rfl⟩ : ∃ u', u = u' + 1 := ⟨u - 1, by omega⟩
    rw [xgo_go hlt] at hx
    have hcb := sCost_bd (K pc)
    have hdb := xD_bd (t := t) (B := B) hvs hd (fun h4 => (hB pc hlt (Or.inl h4)).2)
    refine ⟨_, _, _, _, n - xN (K pc) (A pc) pc (xF y B (K pc) (A pc) d g), by omega, ⟨xD y t B (K pc) (A pc) d, c + sCost (K pc), xF y B (K pc) (A pc) d g, xN (K pc) (A pc) pc (xF y B (K pc) (A pc) d g), u', rfl, rfl, rfl, rfl, hdb, by omega, by omega, rfl, by omega, hx⟩, ?_⟩
    have e80 : (80 : Int32) * i3 f + i3 pc = i3 ((80 * f + pc : Nat) : Int) := by rw [show (80 : Int32) = i3 80 from rfl, i3_mul, i3_add]; rfl
    have hin3 : zIn (i3 ((80 * f + pc : Nat) : Int)) 1600 := (i3_in ⟨by omega, by omega⟩).mpr ⟨by omega, by omega⟩
    have hix3 : zIx (i3 ((80 * f + pc : Nat) : Int)) = 80 * f + pc := by rw [i3_ix ⟨by omega, by omega⟩, Int.toNat_natCast]
    have epc : i3 pc + i3 1 = i3 ((pc + 1 : Nat) : Int) := by rw [i3_add]; rfl
    rw [if_neg (by omega)]
    simp only [e80, if_pos hin3, hix3, c1, c2, zLet, mod_cost hbd.1, zBP_some, i3_add]
    simp only [i3_lit, i3_add]
    rw [it_lt ⟨by decide, by decide⟩ ⟨by omega, by omega⟩]
    have nj : K pc < 18 → xN (K pc) (A pc) pc (xF y B (K pc) (A pc) d g) = pc + 1 := fun h => by unfold xN; rw [if_neg (by omega)]
    by_cases h3 : (3 : Int) < K pc
    case neg =>
      have eD : xD y t B (K pc) (A pc) d = sStart y (K pc) (A pc) := by unfold xD; rw [if_pos (by omega)]
      have eF : xF y B (K pc) (A pc) d g = g := by unfold xF; rw [if_neg (by omega), if_neg (by omega)]
      rw [if_neg h3, mod_starts hy hvs (by omega), zBP_some, nj (by omega), eD, eF]
      rfl
    rw [if_pos h3, it_eq ⟨by omega, by omega⟩ ⟨by decide, by decide⟩]
    by_cases h4 : K pc = 4
    · have hv19 : 0 ≤ A pc ∧ A pc ≤ 19 := by unfold vStep at hvs; omega
      obtain ⟨q1, q2⟩ := hB pc hlt (Or.inl h4)
      have eD : xD y t B (K pc) (A pc) d = B (A pc).toNat := by unfold xD; rw [if_neg (by omega), if_pos h4]
      have eF : xF y B (K pc) (A pc) d g = g := by unfold xF; rw [if_neg (by omega), if_neg (by omega)]
      have hin4 : zIn (i3 (20 * (t : Int) + A pc)) 40 := (i3_in ⟨by omega, by omega⟩).mpr ⟨by omega, by omega⟩
      have hix4 : zIx (i3 (20 * (t : Int) + A pc)) = 20 * t + (A pc).toNat := by rw [i3_ix ⟨by omega, by omega⟩]; omega
      rw [if_pos h4, i3_mul, i3_add, if_pos hin4, hix4, q1, nj (by omega), eD, eF]
      rfl
    rw [if_neg h4, it_lt ⟨by decide, by decide⟩ ⟨by omega, by omega⟩]
    by_cases h12 : (12 : Int) < K pc
    case neg =>
      have eD : xD y t B (K pc) (A pc) d = sMove y t (K pc) (A pc) d := by unfold xD; rw [if_neg (by omega), if_neg h4, if_pos (by omega)]
      have eF : xF y B (K pc) (A pc) d g = g := by unfold xF; rw [if_neg (by omega), if_neg (by omega)]
      rw [if_neg h12, mod_moved hy ht hvs ⟨by omega, by omega⟩ ⟨by omega, by omega⟩, zBP_some, nj (by omega), eD, eF]
      rfl
    rw [if_pos h12, it_lt ⟨by decide, by decide⟩ ⟨by omega, by omega⟩]
    have eD : xD y t B (K pc) (A pc) d = d := by unfold xD; rw [if_neg (by omega), if_neg h4, if_neg (by omega)]
    by_cases h16 : (16 : Int) < K pc
    case neg =>
      have eF : xF y B (K pc) (A pc) d g = sCond y B (K pc) (A pc) d := by unfold xF; rw [if_pos ⟨by omega, by omega⟩]
      rw [if_neg h16, mod_isSo (B := B) hy ht hvs ⟨by omega, by omega⟩ hd m (fun h15 => by obtain ⟨q1, q2⟩ := hB pc hlt (Or.inr h15); exact ⟨q1, by omega, by omega⟩), zBP_some, nj (by omega), eD, eF]
      rfl
    rw [if_pos h16, it_eq ⟨by omega, by omega⟩ ⟨by decide, by decide⟩]
    by_cases h17 : K pc = 17
    · have eF : xF y B (K pc) (A pc) d g = !g := by unfold xF; rw [if_neg (by omega), if_pos h17]
      rw [if_pos h17, it_b0, nj (by omega), eD, eF]
      cases g with
      | true => rw [if_neg (by decide)]; rfl
      | false => rw [if_pos rfl]; rfl
    have eF : xF y B (K pc) (A pc) d g = g := by unfold xF; rw [if_neg (by omega), if_neg h17]
    have hj : (i : Nat) → ((A pc).toNat : Int) = A pc := fun _ => by unfold vStep at hvs; omega
    have hj := hj 0
    rw [if_neg h17, it_eq ⟨by omega, by omega⟩ ⟨by decide, by decide⟩, it_eq ⟨by omega, by omega⟩ ⟨by decide, by decide⟩, it_eq ⟨by omega, by omega⟩ ⟨by decide, by decide⟩, it_b0, it_b0, eD, eF]
    by_cases h18 : K pc = 18
    · have eN : xN (K pc) (A pc) pc g = (A pc).toNat := by unfold xN; rw [if_pos (Or.inl h18)]
      rw [if_pos h18, eN, hj]
    rw [if_neg h18]
    by_cases h19 : K pc = 19
    · rw [if_pos h19, if_neg (show ¬ K pc = 20 by omega)]
      cases g with
      | true =>
        have eN : xN (K pc) (A pc) pc true = pc + 1 := by unfold xN; rw [if_neg (by simp [h18, h19])]
        rw [if_neg (by decide), eN]
        rfl
      | false =>
        have eN : xN (K pc) (A pc) pc false = (A pc).toNat := by unfold xN; rw [if_pos (Or.inr (Or.inl ⟨h19, rfl⟩))]
        rw [if_pos rfl, eN, hj]
    · have h20 : K pc = 20 := by omega
      rw [if_neg h19, if_pos h20]
      cases g with
      | true =>
        have eN : xN (K pc) (A pc) pc true = (A pc).toNat := by unfold xN; rw [if_pos (Or.inr (Or.inr ⟨h20, rfl⟩))]
        rw [if_neg (by decide), eN, hj]
      | false =>
        have eN : xN (K pc) (A pc) pc false = pc + 1 := by unfold xN; rw [if_neg (by simp [h18, h20])]
        rw [if_pos rfl, eN]
        rfl
