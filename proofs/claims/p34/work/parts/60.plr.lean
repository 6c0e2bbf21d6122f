/-! THE REFERENCE PLACES ALL -/
def FxP (t : Nat) (m m' : Mm) : Prop := m'.2 = m.2 ∧ (∀ b j, b ≠ 216 → b ≠ 217 → b ≠ 218 → b ≠ 219 → zI m' b j = zI m b j) ∧ ∀ j, j < 20 * t ∨ 20 * t + 20 ≤ j → zI m' 216 j = zI m 216 j
def Fx1 (c : Nat) (m m' : Mm) : Prop := m'.2 = m.2 ∧ ∀ b j, b ≠ c → zI m' b j = zI m b j
theorem Fx1.refl {c : Nat} {m : Mm} : Fx1 c m m := ⟨rfl, fun _ _ _ => rfl⟩
theorem Fx1.w {c k : Nat} {m m' : Mm} {v : Int32} (h : Fx1 c m m') : Fx1 c m (wI m' c k v) := ⟨h.1, fun b j hb => (zI_ne hb).trans (h.2 b j hb)⟩
theorem FxF.p {t : Nat} {m m' m'' : Mm} (h : FxF t m m') (h2 : Fx1 219 m' m'') : FxP t m m'' := ⟨h2.1.trans h.1, fun b j a1 a2 a3 a4 => (h2.2 b j a4).trans (h.2.1 b j a1 a2 a3), fun j hj => (h2.2 _ j (by decide)).trans (h.2.2 j hj)⟩
section PLR
variable {m mm : Mm} {y t N nb : Nat} {F Y E : Nat → Int} {Kc Ac : Nat → Nat → Int} {Lc rk : Nat → Nat} {R b : Nat → Int} {mv : Nat → Bool}
theorem mod_places1 (hy : y < 400) (ht : t < 2) (h20 : N ≤ 20) (h19 : zI m 201 19 = i3 N) (h1 : zI m 201 1 = i3 t) (hr : Rrk m N R mv) (hRb : ∀ f, f < N → 0 ≤ R f ∧ R f ≤ 9) (hB : ∀ f, f < N → zI m 216 (20 * t + f) = i3 (b f) ∧ -1 ≤ b f ∧ b f < sLen y) :
    ∃ m', zLp1 (l_Mod_places_2 (i3 y)) zFu 0 m = some m' ∧ Fx1 219 m m' ∧ Rpl m' N (sAll N (sLen y) b R mv 10) := by
  have hL := sLen_bd y
  have keep : ∀ mm, Fx1 219 m mm → zI mm 201 19 = i3 N ∧ zI mm 201 1 = i3 t ∧ Rrk mm N R mv ∧ ∀ f, f < N → zI mm 216 (20 * t + f) = i3 (b f) := fun mm h => ⟨by rw [h.2 _ _ (by decide), h19], by rw [h.2 _ _ (by decide), h1], fun f hf => ⟨by rw [h.2 _ _ (by decide)]; exact (hr f hf).1, by rw [h.2 _ _ (by decide)]; exact (hr f hf).2⟩, fun f hf => by rw [h.2 _ _ (by decide)]; exact (hB f hf).1⟩
  have plb : ∀ k f, -1 ≤ sAll N (sLen y) b R mv k f ∧ sAll N (sLen y) b R mv k f < sLen y := sAll_bd (by omega) (fun f hf => (hB f hf).2.1)
  refine ex_zLp1 (Q := fun X => ∃ m', X = some m' ∧ Fx1 219 m m' ∧ Rpl m' N (sAll N (sLen y) b R mv 10))
    (fun j x2 mm => ∃ i : Nat, x2 = i3 i ∧ i ≤ N ∧ j = N - i ∧ Fx1 219 m mm ∧ ∀ f, f < i → zI mm 219 f = i3 (-1)) ?_ zFu N _ _ ⟨0, rfl, Nat.zero_le _, rfl, Fx1.refl, fun f hf => absurd hf (Nat.not_lt_zero f)⟩ (by unfold zFu; omega)
  rintro r j x2 mm ⟨i, rfl, hi, rfl, hF, hz⟩
  unfold l_Mod_places_2
  rw [(keep mm hF).1, it_le ⟨by omega, by omega⟩ ⟨by omega, by omega⟩]
  by_cases e : (N : Int) ≤ i
  case neg =>
    right
    have hin : zIn (i3 (i : Int)) 20 := (i3_in ⟨by omega, by omega⟩).mpr ⟨by omega, by omega⟩
    have hix : zIx (i3 (i : Int)) = i := by rw [i3_ix ⟨by omega, by omega⟩, Int.toNat_natCast]
    refine ⟨_, _, N - (i + 1), by omega, ⟨i + 1, rfl, by omega, rfl, hF.w (k := i) (v := i3 (-1)), fun f hf => ?_⟩, ?_⟩
    · by_cases e2 : f = i
      · subst e2; exact zI_eq
      · rw [zI_nk e2]; exact hz f (by omega)
    · rw [if_neg e, if_pos hin, hix]
      simp only [zLet, i3_add1]
      rfl
  left
  rw [if_pos e]
  have hN : i = N := by omega
  subst hN
  refine ex_zLp1 (Q := fun X => ∃ m', X = some m' ∧ Fx1 219 m m' ∧ Rpl m' i (sAll i (sLen y) b R mv 10))
    (fun j x6 mm => ∃ k : Nat, x6 = i3 (9 - (k : Int)) ∧ k ≤ 10 ∧ j = 10 - k ∧ Fx1 219 m mm ∧ Rpl mm i (sAll i (sLen y) b R mv k)) ?_ zFu 10 _ _ ⟨0, rfl, Nat.zero_le _, rfl, hF, fun f hf => hz f hf⟩ (by unfold zFu; omega)
  rintro r7 j x6 mm ⟨k, rfl, hk, rfl, hF, hp⟩
  unfold l_Mod_places_1
  rw [show (0 : Int32) = i3 0 from rfl, it_lt ⟨by omega, by omega⟩ ⟨by decide, by decide⟩]
  by_cases e2 : 9 - (k : Int) < 0
  · left
    rw [if_pos e2]
    have : k = 10 := by omega
    subst this
    exact ⟨mm, rfl, hF, hp⟩
  right
  rw [if_neg e2]
  have inner := ex_zLp1 (F := l_Mod_places_0 (i3 (9 - (k : Int))) r7 (i3 y)) (Q := fun X => ∃ m', X = r7 (i3 (9 - ((k + 1 : Nat) : Int))) m' ∧ Fx1 219 m m' ∧ Rpl m' i (sAll i (sLen y) b R mv (k + 1)))
    (fun j x10 mm => ∃ n : Nat, x10 = i3 n ∧ n ≤ i ∧ j = i - n ∧ Fx1 219 m mm ∧ Rpl mm i (sPass i (sLen y) b R mv (9 - k) n (sAll i (sLen y) b R mv k))) ?_ zFu i (i3 0) mm ⟨0, rfl, Nat.zero_le _, rfl, hF, hp⟩ (by unfold zFu; omega)
  · obtain ⟨m', e3, hF', hp'⟩ := inner
    exact ⟨_, m', 10 - (k + 1), by omega, ⟨k + 1, rfl, by omega, rfl, hF', hp'⟩, e3⟩
  rintro r j x10 mm ⟨n, rfl, hn, rfl, hF, hp⟩
  obtain ⟨k1, k2, k3, k4⟩ := keep mm hF
  unfold l_Mod_places_0
  rw [k1, it_le ⟨by omega, by omega⟩ ⟨by omega, by omega⟩]
  by_cases e3 : (i : Int) ≤ n
  · left
    rw [if_pos e3]
    simp only [zLet]
    have en : n = i := by omega
    subst en
    refine ⟨mm, ?_, hF, hp⟩
    rw [show (-1 : Int32) = i3 (-1) from rfl, i3_add]
    congr 2
    omega
  · right
    have hlt : n < i := by omega
    have hin : zIn (i3 (n : Int)) 20 := (i3_in ⟨by omega, by omega⟩).mpr ⟨by omega, by omega⟩
    have hix : zIx (i3 (n : Int)) = n := by rw [i3_ix ⟨by omega, by omega⟩, Int.toNat_natCast]
    have hRn := hRb n hlt
    have hpb : ∀ f, -1 ≤ sPass i (sLen y) b R mv (9 - k) n (sAll i (sLen y) b R mv k) f ∧ sPass i (sLen y) b R mv (9 - k) n (sAll i (sLen y) b R mv k) f < sLen y := sPass_bd (by omega) (fun f hf => (hB f hf).2.1) n _ (by omega) (plb k)
    have hpf := mod_placeFor hy ht h20 k1 k2 k3 hp (fun f _ => ⟨(hpb f).1, by have := (hpb f).2; omega⟩) hlt (k4 n hlt) (hB n hlt).2
    rw [if_neg e3, if_pos hin]
    simp only [zLet, if_pos hin, hix, (k3 n hlt).1, hpf, zBP_some, i3_add1]
    rw [it_eq ⟨by omega, by omega⟩ ⟨by omega, by omega⟩]
    by_cases c : R n = 9 - (k : Int)
    · rw [if_pos c]
      refine ⟨_, wI mm 219 n (i3 (sOne i (sLen y) (b n) (mv n) (sPass i (sLen y) b R mv (9 - k) n (sAll i (sLen y) b R mv k)))), i - (n + 1), by omega, ⟨n + 1, rfl, by omega, rfl, hF.w, fun g hg => ?_⟩, rfl⟩
      rw [sPass_succ, if_pos c]
      unfold upI
      by_cases e4 : g = n
      · rw [if_pos e4, e4, zI_eq]
      · rw [if_neg e4, zI_nk e4, hp g hg]
    · rw [if_neg c]
      refine ⟨_, wI mm 219 n (zI mm 219 n), i - (n + 1), by omega, ⟨n + 1, rfl, by omega, rfl, hF.w, fun g hg => ?_⟩, rfl⟩
      rw [sPass_succ, if_neg c, wI_self]
      exact hp g hg
theorem mod_places (hy : y < 400) (ht : t < 2) (hW : VW N Kc Ac Lc) (hR : RK N Kc Ac Lc rk) (hv : vB F Y E nb) (h : Rfe m N Kc Ac Lc) (hD : Rbn m F Y E nb) (h1 : zI m 201 1 = i3 t) (hr : Rrk m N R mv) (hRb : ∀ f, f < N → 0 ≤ R f ∧ R f ≤ 9) :
    ∃ m', f_Mod_places (i3 y) m = some m' ∧ FxP t m m' ∧ (∀ f, f < N → zI m' 216 (20 * t + f) = i3 (sB y t F Y E nb Kc Ac Lc f) ∧ zI m' 218 f = i3 (sG y t F Y E nb Kc Ac Lc f).2) ∧ Rpl m' N (sAll N (sLen y) (sB y t F Y E nb Kc Ac Lc) R mv 10) := by
  obtain ⟨m1, e1, hF, hval⟩ := mod_finds hy ht hW hR hv h hD
  have h19 := (h.fx hF).1
  have h1' : zI m1 201 1 = i3 t := by rw [hF.2.1 _ _ (by decide) (by decide) (by decide), h1]
  have hr' : Rrk m1 N R mv := fun f hf => ⟨by rw [hF.2.1 _ _ (by decide) (by decide) (by decide)]; exact (hr f hf).1, by rw [hF.2.1 _ _ (by decide) (by decide) (by decide)]; exact (hr f hf).2⟩
  obtain ⟨m2, e2, hF2, hp⟩ := mod_places1 hy ht hW.1 h19 h1' hr' hRb (b := sB y t F Y E nb Kc Ac Lc) (fun f hf => ⟨(hval f hf).1, sB_bd hW hf⟩)
  refine ⟨m2, ?_, hF.p hF2, fun f hf => ?_, hp⟩
  · rw [e_Mod_places, h1, e1, zBV_some, e2]
  · rw [hF2.2 _ _ (by decide), hF2.2 _ _ (by decide)]
    exact hval f hf
end PLR
