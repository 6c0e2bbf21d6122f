/-! THE CLASS PLACES ALL: the ranks -/
section PLA
variable {m mm : Mm} {a N : Nat} {L : Nat} {R b pl : Nat → Int} {mv : Nat → Bool}
theorem boo_placeAll (ha : 152 ≤ a) (h20 : N ≤ 20) (hL : L ≤ 366) (hr : Crk m N R mv) (hRb : ∀ f, f < N → 0 ≤ R f ∧ R f ≤ 9) (h25 : zI m 25 3 = i3 N) (h7 : zI m a 7 = i3 L) (hB : ∀ f, f < N → zI m (a + 2) f = i3 (b f) ∧ -1 ≤ b f ∧ b f < L) :
    ∃ m', f_Boo_placeAll a m = some m' ∧ Fx2 a m m' ∧ (∀ f, f < N → zI m' (a + 4) f = i3 (sAll N L b R mv 10 f)) ∧ Cdy m' (a + 5) N (sAll N L b R mv 10) := by
  have keep : ∀ mm, Fx2 a m mm → zI mm 25 3 = i3 N ∧ zI mm a 7 = i3 L ∧ Crk mm N R mv ∧ ∀ f, f < N → zI mm (a + 2) f = i3 (b f) := fun mm h => ⟨by rw [h.2 _ _ (by omega) (by omega), h25], by rw [h.2 _ _ (by omega) (by omega), h7], fun f hf => ⟨by rw [h.2 _ _ (by omega) (by omega)]; exact (hr f hf).1, by rw [h.2 _ _ (by omega) (by omega)]; exact (hr f hf).2⟩, fun f hf => by rw [h.2 _ _ (by omega) (by omega)]; exact (hB f hf).1⟩
  have hb1 : ∀ f, f < N → -1 ≤ b f := fun f hf => (hB f hf).2.1
  have plb : ∀ k f, -1 ≤ sAll N L b R mv k f ∧ sAll N L b R mv k f < L := sAll_bd (by omega) hb1
  rw [e_Boo_placeAll]
  refine ex_zLp1 (Q := fun X => ∃ m', X = some m' ∧ Fx2 a m m' ∧ (∀ f, f < N → zI m' (a + 4) f = i3 (sAll N L b R mv 10 f)) ∧ Cdy m' (a + 5) N (sAll N L b R mv 10))
    (fun j x2 mm => ∃ i : Nat, x2 = i3 i ∧ i ≤ 366 ∧ j = 366 - i ∧ Fx2 a m mm ∧ ∀ d, d < i → zI mm (a + 5) d = i3 (-1)) ?_ zFu 366 _ _ ⟨0, rfl, Nat.zero_le _, rfl, Fx2.refl, fun f hf => absurd hf (Nat.not_lt_zero f)⟩ (by unfold zFu; omega)
  rintro r j x2 mm ⟨i, rfl, hi, rfl, hF, hz⟩
  unfold l_Boo_placeAll_2
  rw [show (366 : Int32) = i3 366 from rfl, it_le ⟨by decide, by decide⟩ ⟨by omega, by omega⟩]
  by_cases e : (366 : Int) ≤ i
  case neg =>
    right
    have hin : zIn (i3 (i : Int)) 366 := (i3_in ⟨by omega, by omega⟩).mpr ⟨by omega, by omega⟩
    have hix : zIx (i3 (i : Int)) = i := by rw [i3_ix ⟨by omega, by omega⟩, Int.toNat_natCast]
    refine ⟨_, _, 366 - (i + 1), by omega, ⟨i + 1, rfl, by omega, rfl, hF.trans (Fx2.w (k := i) (v := i3 (-1)) (Or.inr rfl)), fun f hf => ?_⟩, ?_⟩
    · by_cases e2 : f = i
      · subst e2; exact zI_eq
      · rw [zI_nk e2]; exact hz f (by omega)
    · rw [if_neg e, if_pos hin, hix]
      simp only [zLet, i3_add1]
      rfl
  left
  rw [if_pos e]
  refine ex_zLp1 (Q := fun X => ∃ m', X = some m' ∧ Fx2 a m m' ∧ (∀ f, f < N → zI m' (a + 4) f = i3 (sAll N L b R mv 10 f)) ∧ Cdy m' (a + 5) N (sAll N L b R mv 10))
    (fun j x6 mm => ∃ k : Nat, x6 = i3 (9 - (k : Int)) ∧ k ≤ 10 ∧ j = 10 - k ∧ Fx2 a m mm ∧ Cdy mm (a + 5) N (sAll N L b R mv k) ∧ ∀ f, f < N → 9 - (k : Int) < R f → zI mm (a + 4) f = i3 (sAll N L b R mv k f)) ?_ zFu 10 _ _ ⟨0, rfl, Nat.zero_le _, rfl, hF, fun d hd => Or.inl ⟨hz d (by omega), fun g _ => ?_⟩, fun f hf h => ?_⟩ (by unfold zFu; omega)
  case refine_2 =>
    show (-1 : Int) ≠ d
    omega
  case refine_3 =>
    have := hRb f hf
    omega
  rintro r7 j x6 mm ⟨k, rfl, hk, rfl, hF, hcd, hp⟩
  unfold l_Boo_placeAll_1
  rw [show (0 : Int32) = i3 0 from rfl, it_lt ⟨by omega, by omega⟩ ⟨by decide, by decide⟩]
  by_cases e2 : 9 - (k : Int) < 0
  · left
    rw [if_pos e2]
    have : k = 10 := by omega
    subst this
    exact ⟨mm, rfl, hF, fun f hf => hp f hf (by have := hRb f hf; omega), hcd⟩
  right
  rw [if_neg e2]
  have inner := ex_zLp1 (F := l_Boo_placeAll_0 (i3 (9 - (k : Int))) r7 a) (Q := fun X => ∃ m', X = r7 (i3 (9 - ((k + 1 : Nat) : Int))) m' ∧ Fx2 a m m' ∧ Cdy m' (a + 5) N (sAll N L b R mv (k + 1)) ∧ ∀ f, f < N → 9 - ((k + 1 : Nat) : Int) < R f → zI m' (a + 4) f = i3 (sAll N L b R mv (k + 1) f))
    (fun j x10 mm => ∃ n : Nat, x10 = i3 n ∧ n ≤ N ∧ j = N - n ∧ Fx2 a m mm ∧ Cdy mm (a + 5) N (sPass N L b R mv (9 - k) n (sAll N L b R mv k)) ∧ ∀ f, f < N → (9 - (k : Int) < R f ∨ R f = 9 - (k : Int) ∧ f < n) → zI mm (a + 4) f = i3 (sPass N L b R mv (9 - k) n (sAll N L b R mv k) f)) ?_ zFu N (i3 0) mm ⟨0, rfl, Nat.zero_le _, rfl, hF, hcd, fun f hf h => hp f hf (by omega)⟩ (by unfold zFu; omega)
  · obtain ⟨m', e3, hF', hc', hp'⟩ := inner
    exact ⟨_, m', 10 - (k + 1), by omega, ⟨k + 1, rfl, by omega, rfl, hF', hc', hp'⟩, e3⟩
  rintro r j x10 mm ⟨n, rfl, hn, rfl, hF, hcd, hp⟩
  obtain ⟨k1, k2, k3, k4⟩ := keep mm hF
  have hsz : f_Alm_size mm = some (i3 N) := by
    unfold f_Alm_size
    rw [k1]
  unfold l_Boo_placeAll_0
  rw [hsz, zBP_some, it_le ⟨by omega, by omega⟩ ⟨by omega, by omega⟩]
  by_cases e3 : (N : Int) ≤ n
  · left
    rw [if_pos e3]
    simp only [zLet]
    have en : n = N := by omega
    subst en
    refine ⟨mm, ?_, hF, hcd, fun f hf h => hp f hf (by omega)⟩
    rw [show (-1 : Int32) = i3 (-1) from rfl, i3_add]
    congr 2
    omega
  · right
    have hlt : n < N := by omega
    have hin : zIn (i3 (n : Int)) 20 := (i3_in ⟨by omega, by omega⟩).mpr ⟨by omega, by omega⟩
    have hix : zIx (i3 (n : Int)) = n := by rw [i3_ix ⟨by omega, by omega⟩, Int.toNat_natCast]
    have hRn := hRb n hlt
    have hpb : ∀ f, -1 ≤ sPass N L b R mv (9 - k) n (sAll N L b R mv k) f ∧ sPass N L b R mv (9 - k) n (sAll N L b R mv k) f < L := sPass_bd (by omega) hb1 n _ (by omega) (plb k)
    have hrank : f_Alm_rankOf (i3 n) mm = some (i3 (R n)) := by
      unfold f_Alm_rankOf
      rw [if_pos hin, hix, (k3 n hlt).1]
    rw [if_neg e3, hrank, zBP_some]
    simp only [zLet, i3_add1]
    rw [it_eq ⟨by omega, by omega⟩ ⟨by omega, by omega⟩]
    by_cases c : R n = 9 - (k : Int)
    · have hpn : sPass N L b R mv (9 - k) n (sAll N L b R mv k) n = -1 := by
        rw [sPass_keep n _ (Or.inr (Nat.le_refl _))]
        exact sAll_keep k (by omega)
      obtain ⟨m', e4, f1, f2, f3, f4⟩ := boo_place ha h20 hL k3 k2 hlt (k4 n hlt) (hB n hlt).2 (fun g _ => ⟨(hpb g).1, by have := (hpb g).2; omega⟩) hpn hcd
      rw [if_pos c, e4, zBV_some]
      refine ⟨_, m', N - (n + 1), by omega, ⟨n + 1, rfl, by omega, rfl, hF.trans f1, ?_, fun g hg h => ?_⟩, rfl⟩
      · rw [sPass_succ, if_pos c]
        exact f4
      · rw [sPass_succ, if_pos c]
        by_cases e5 : g = n
        · rw [e5, f3]
          unfold upI
          rw [if_pos rfl]
        · rw [f2 g e5]
          unfold upI
          rw [if_neg e5]
          exact hp g hg (by omega)
    · rw [if_neg c]
      refine ⟨_, mm, N - (n + 1), by omega, ⟨n + 1, rfl, by omega, rfl, hF, ?_, fun g hg h => ?_⟩, rfl⟩
      · rw [sPass_succ, if_neg c]
        exact hcd
      · rw [sPass_succ, if_neg c]
        refine hp g hg ?_
        by_cases e5 : g = n
        · subst e5; omega
        · omega
end PLA
