/-! THE CLASS GOES THROUGH THE DAYS -/
section PGD
variable {m mm : Mm} {y N : Nat} {R b q : Nat → Int} {mv : Nat → Bool}
theorem pla_asks (h20 : N ≤ 20) (hr : Crk m N R mv) {f : Nat} (hf : f < N) (hB : zI m 166 f = i3 (b f)) (hb : -1 ≤ b f ∧ b f < 400) (hQ : zI m 167 f = i3 (q f)) (hq : -1 ≤ q f ∧ q f < 400) {x : Int} (hx : 0 ≤ x ∧ x < 400) : f_Pla_asksFor (i3 f) (i3 x) m = some (b3 (askB b mv q x f)) := by
  have hinf : zIn (i3 (f : Int)) 20 := (i3_in ⟨by omega, by omega⟩).mpr ⟨by omega, by omega⟩
  have hixf : zIx (i3 (f : Int)) = f := by rw [i3_ix ⟨by omega, by omega⟩, Int.toNat_natCast]
  have hcm : f_Alm_canMove (i3 f) m = some (b3 (mv f)) := by
    unfold f_Alm_canMove
    rw [if_pos hinf, hixf, (hr f hf).2, if_pos (b3_bo _)]
  unfold f_Pla_asksFor
  rw [if_pos hinf, hixf, hB, hQ]
  simp only [zLet]
  rw [if_pos hinf, show (-1 : Int32) = i3 (-1) from rfl, it_m1 ⟨by omega, by omega⟩, it_m1 ⟨by omega, by omega⟩, hcm]
  by_cases c1 : b f = -1
  · have : askB b mv q x f = false := decide_eq_false (fun z => z.1 c1)
    rw [if_pos c1, this]
    rfl
  rw [if_neg c1]
  by_cases c2 : q f = -1
  case neg =>
    have : askB b mv q x f = false := decide_eq_false (fun z => c2 z.2.1)
    rw [if_neg c2, this]
    rfl
  rw [if_pos c2, zBP_some]
  have fin : ∀ l : Nat, l ≤ 20 → lim (mv f) = l → (if i3 x < i3 (b f) then some (0 : Int32) else if i3 (b f + l) < i3 x then some 0 else some 1) = some (b3 (askB b mv q x f)) := by
    intro l hl e
    rw [it_lt ⟨by omega, by omega⟩ ⟨by omega, by omega⟩, it_lt ⟨by omega, by omega⟩ ⟨by omega, by omega⟩]
    unfold askB
    rw [e]
    by_cases c3 : x < b f
    · rw [if_pos c3, decide_eq_false (fun z => by omega)]
      rfl
    · rw [if_neg c3]
      by_cases c4 : b f + (l : Int) < x
      · rw [if_pos c4, decide_eq_false (fun z => by omega)]
        rfl
      · rw [if_neg c4, decide_eq_true ⟨c1, c2, by omega, by omega⟩]
        rfl
  cases hm : mv f with
  | false =>
    rw [if_pos (show b3 false = 0 by decide)]
    have := fin 0 (by decide) (by rw [hm]; rfl)
    rw [show b f + ((0 : Nat) : Int) = b f by omega] at this
    exact this
  | true =>
    rw [if_neg (show ¬ b3 true = 0 by decide)]
    have := fin 20 (by decide) (by rw [hm]; rfl)
    rw [show (20 : Int32) = i3 20 from rfl, i3_add]
    exact this
theorem pla_best (h20 : N ≤ 20) (h25 : zI m 25 3 = i3 N) (hr : Crk m N R mv) (hRb : ∀ f, f < N → 0 ≤ R f ∧ R f ≤ 9) (hB : ∀ f, f < N → zI m 166 f = i3 (b f) ∧ -1 ≤ b f ∧ b f < 400) (hQ : ∀ f, f < N → zI m 167 f = i3 (q f) ∧ -1 ≤ q f ∧ q f < 400) {x : Int} (hx : 0 ≤ x ∧ x < 400) : f_Pla_bestOn (i3 x) m = some (i3 (bst R (askB b mv q x) N)) := by
  have hsz : f_Alm_size m = some (i3 N) := by
    unfold f_Alm_size
    rw [h25]
  have hrank : ∀ f : Nat, f < N → f_Alm_rankOf (i3 f) m = some (i3 (R f)) := by
    intro f hf
    unfold f_Alm_rankOf
    rw [if_pos ((i3_in ⟨by omega, by omega⟩).mpr ⟨by omega, by omega⟩), i3_ix ⟨by omega, by omega⟩, Int.toNat_natCast, (hr f hf).1]
  rw [e_Pla_bestOn]
  refine run_zLq2 (fun j x1 x2 => ∃ i : Nat, x1 = i3 (bst R (askB b mv q x) i) ∧ x2 = i3 i ∧ i ≤ N ∧ j = N - i) ?_ zFu N _ _ ⟨0, show (-1 : Int32) = i3 (-1) from rfl, rfl, Nat.zero_le _, rfl⟩ (by unfold zFu; omega)
  rintro r j x1 x2 ⟨i, rfl, rfl, hi, rfl⟩
  unfold l_Pla_bestOn_0
  rw [hsz, zBP_some, it_le ⟨by omega, by omega⟩ ⟨by omega, by omega⟩]
  by_cases e : (N : Int) ≤ i
  · left
    rw [if_pos e, show i = N by omega]
  · right
    have hlt : i < N := by omega
    obtain ⟨b1, b2, b3'⟩ := hB i hlt
    obtain ⟨q1, q2, q3⟩ := hQ i hlt
    refine ⟨_, _, N - (i + 1), by omega, ⟨i + 1, rfl, rfl, hlt, rfl⟩, ?_⟩
    rw [if_neg e, pla_asks h20 hr hlt b1 ⟨b2, b3'⟩ q1 ⟨q2, q3⟩ hx, zBP_some, bst_succ]
    simp only [zLet, i3_add1]
    cases ha : askB b mv q x i with
    | false => rw [if_pos (show b3 false = 0 by decide)]; rfl
    | true =>
      rw [if_neg (show ¬ b3 true = 0 by decide), if_pos rfl]
      rcases bst_cases (R := R) (ask := askB b mv q x) i with e2 | ⟨g, g1, g2, -⟩
      · rw [e2, if_pos (show i3 (-1) = -1 from rfl), if_pos rfl]
        rfl
      · have hRi := hRb i hlt
        have hRg := hRb g (by omega)
        rw [g2, if_neg (show ¬ i3 (g : Int) = -1 by rw [show (-1 : Int32) = i3 (-1) from rfl, i3_eq ⟨by omega, by omega⟩ ⟨by decide, by decide⟩]; omega), if_neg (show ¬ (g : Int) = -1 by omega), hrank i hlt, zBP_some, hrank g (by omega), zBP_some, it_le ⟨by omega, by omega⟩ ⟨by omega, by omega⟩, Int.toNat_natCast]
        by_cases c : R i ≤ R g
        · rw [if_pos c, if_pos c]
          rfl
        · rw [if_neg c, if_neg c]
          rfl
theorem pla_goDays (hy : y < 400) (h20 : N ≤ 20) (h25 : zI m 25 3 = i3 N) (hr : Crk m N R mv) (hRb : ∀ f, f < N → 0 ≤ R f ∧ R f ≤ 9) (hB : ∀ f, f < N → zI m 166 f = i3 (b f) ∧ -1 ≤ b f ∧ b f < sLen y) :
    ∃ m', f_Pla_goThroughDays (i3 y) m = some m' ∧ Fx1 167 m m' ∧ ∀ f, f < N → zI m' 167 f = i3 (sAll N (sLen y) b R mv 10 f) := by
  have hL := sLen_bd y
  have hb1 : ∀ f, f < N → -1 ≤ b f := fun f hf => (hB f hf).2.1
  have plb : ∀ f, -1 ≤ sAll N (sLen y) b R mv 10 f ∧ sAll N (sLen y) b R mv 10 f < sLen y := sAll_bd (by omega) hb1 10
  have keep : ∀ mm, Fx1 167 m mm → zI mm 25 3 = i3 N ∧ Crk mm N R mv ∧ ∀ f, f < N → zI mm 166 f = i3 (b f) ∧ -1 ≤ b f ∧ b f < 400 := fun mm h => ⟨by rw [h.2 _ _ (by decide), h25], fun f hf => ⟨by rw [h.2 _ _ (by omega)]; exact (hr f hf).1, by rw [h.2 _ _ (by omega)]; exact (hr f hf).2⟩, fun f hf => ⟨by rw [h.2 _ _ (by decide)]; exact (hB f hf).1, (hB f hf).2.1, by have := (hB f hf).2.2; omega⟩⟩
  rw [e_Pla_goThroughDays]
  refine ex_zLp1 (Q := fun X => ∃ m', X = some m' ∧ Fx1 167 m m' ∧ ∀ f, f < N → zI m' 167 f = i3 (sAll N (sLen y) b R mv 10 f))
    (fun j x2 mm => ∃ i : Nat, x2 = i3 i ∧ i ≤ N ∧ j = N - i ∧ Fx1 167 m mm ∧ ∀ f, f < i → zI mm 167 f = i3 (-1)) ?_ zFu N _ _ ⟨0, rfl, Nat.zero_le _, rfl, Fx1.refl, fun f hf => absurd hf (Nat.not_lt_zero f)⟩ (by unfold zFu; omega)
  rintro r j x2 mm ⟨i, rfl, hi, rfl, hF, hz⟩
  have hsz : f_Alm_size mm = some (i3 N) := by
    unfold f_Alm_size
    rw [(keep mm hF).1]
  unfold l_Pla_goThroughDays_1
  rw [hsz, zBP_some, it_le ⟨by omega, by omega⟩ ⟨by omega, by omega⟩]
  by_cases e : (N : Int) ≤ i
  case neg =>
    right
    have hin : zIn (i3 (i : Int)) 20 := (i3_in ⟨by omega, by omega⟩).mpr ⟨by omega, by omega⟩
    have hix : zIx (i3 (i : Int)) = i := by rw [i3_ix ⟨by omega, by omega⟩, Int.toNat_natCast]
    refine ⟨_, _, N - (i + 1), by omega, ⟨i + 1, rfl, by omega, rfl, hF.w (k := i) (v := i3 (-1)), fun f hf => ?_⟩, ?_⟩
    · by_cases e2 : f = i
      · subst e2; exact zI_eq
      · rw [zI_nk e2]; exact hz f (by omega)
    · rw [if_neg e, if_pos hin, hix]
      simp only [zLet, i3_add1]
      rfl
  left
  rw [if_pos e, cal_len hy, zBP_some]
  have hN : i = N := by omega
  subst hN
  refine ex_zLp1 (Q := fun X => ∃ m', X = some m' ∧ Fx1 167 m m' ∧ ∀ f, f < i → zI m' 167 f = i3 (sAll i (sLen y) b R mv 10 f))
    (fun j x7 mm => ∃ d : Nat, x7 = i3 d ∧ d ≤ sLen y ∧ j = sLen y - d ∧ Fx1 167 m mm ∧ ∀ f, f < i → zI mm 167 f = i3 (qAt (sAll i (sLen y) b R mv 10) d f)) ?_ zFu (sLen y) _ _ ⟨0, rfl, Nat.zero_le _, rfl, hF, fun f hf => ?_⟩ (by unfold zFu; omega)
  case refine_2 =>
    rw [hz f hf]
    have := plb f
    unfold qAt
    split
    · congr 1; omega
    · rfl
  rintro r8 j x7 mm ⟨d, rfl, hd, rfl, hF, hq⟩
  obtain ⟨k1, k2, k3⟩ := keep mm hF
  unfold l_Pla_goThroughDays_0
  rw [it_le ⟨by omega, by omega⟩ ⟨by omega, by omega⟩]
  by_cases e2 : ((sLen y : Nat) : Int) ≤ d
  · left
    rw [if_pos e2]
    refine ⟨mm, rfl, hF, fun f hf => ?_⟩
    have := plb f
    rw [hq f hf]
    unfold qAt
    rw [if_pos (by omega)]
  · right
    rw [if_neg e2]
    have hqb : ∀ f, f < i → zI mm 167 f = i3 (qAt (sAll i (sLen y) b R mv 10) d f) ∧ -1 ≤ qAt (sAll i (sLen y) b R mv 10) d f ∧ qAt (sAll i (sLen y) b R mv 10) d f < 400 := by
      intro f hf
      have := plb f
      refine ⟨hq f hf, ?_⟩
      unfold qAt
      split <;> omega
    have hbest := pla_best (x := d) h20 k1 k2 hRb k3 hqb ⟨by omega, by omega⟩
    rw [hbest, zBP_some]
    simp only [zLet, i3_add1]
    rcases day_best (L := sLen y) (mv := mv) hRb hb1 (x := d) ⟨by omega, by omega⟩ with ⟨f, hf, es, eb⟩ | ⟨es, eb⟩
    · have hinf : zIn (i3 (f : Int)) 20 := (i3_in ⟨by omega, by omega⟩).mpr ⟨by omega, by omega⟩
      have hixf : zIx (i3 (f : Int)) = f := by rw [i3_ix ⟨by omega, by omega⟩, Int.toNat_natCast]
      rw [eb, if_neg (show ¬ i3 (f : Int) = -1 by rw [show (-1 : Int32) = i3 (-1) from rfl, i3_eq ⟨by omega, by omega⟩ ⟨by decide, by decide⟩]; omega), if_pos hinf, hixf]
      refine ⟨_, wI mm 167 f (i3 d), sLen y - (d + 1), by omega, ⟨d + 1, rfl, by omega, rfl, hF.w, fun g hg => ?_⟩, rfl⟩
      by_cases e3 : g = f
      · rw [e3, zI_eq]
        unfold qAt
        rw [if_pos (by omega), es]
      · rw [zI_nk e3, hq g hg]
        have hne : sAll i (sLen y) b R mv 10 g ≠ d := fun h => e3 (sAll_inj (L := sLen y) (R := R) (mv := mv) hb1 10 g f hg hf (by rw [h, es]) (by omega))
        unfold qAt
        by_cases c : sAll i (sLen y) b R mv 10 g < d
        · rw [if_pos c, if_pos (by omega)]
        · rw [if_neg c, if_neg (by omega)]
    · rw [eb, if_pos (show i3 (-1) = -1 from rfl)]
      refine ⟨_, mm, sLen y - (d + 1), by omega, ⟨d + 1, rfl, by omega, rfl, hF, fun g hg => ?_⟩, rfl⟩
      rw [hq g hg]
      have hne := es g hg
      unfold qAt
      by_cases c : sAll i (sLen y) b R mv 10 g < d
      · rw [if_pos c, if_pos (by omega)]
      · rw [if_neg c, if_neg (by omega)]
end PGD
