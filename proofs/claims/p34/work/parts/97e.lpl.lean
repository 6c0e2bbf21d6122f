/-! THE LAW'S PLACES, AND ITS CLASHES -/
theorem pa_ne {N : Nat} {L : Int} {b R : Nat → Int} {mv : Nat → Bool} {r : Int} {f : Nat} (h : R f ≠ r) : ∀ (n : Nat) (pl : Nat → Int), sPass N L b R mv r n pl f = pl f
  | 0, _ => rfl
  | n + 1, pl => by
    rw [sPass_succ]
    by_cases e : R n = r
    · rw [if_pos e]
      unfold upI
      rw [if_neg (fun z => h (by rw [z, e])), pa_ne h n pl]
    · rw [if_neg e, pa_ne h n pl]
theorem pa_hi {N : Nat} {L : Int} {b R : Nat → Int} {mv : Nat → Bool} {r : Int} {f : Nat} : ∀ (n : Nat) (pl : Nat → Int), n ≤ f → sPass N L b R mv r n pl f = pl f
  | 0, _, _ => rfl
  | n + 1, pl, h => by
    rw [sPass_succ]
    by_cases e : R n = r
    · rw [if_pos e]
      unfold upI
      rw [if_neg (by omega), pa_hi n pl (by omega)]
    · rw [if_neg e, pa_hi n pl (by omega)]
theorem al_un {N : Nat} {L : Int} {b R : Nat → Int} {mv : Nat → Bool} {f : Nat} : ∀ c : Nat, R f + c ≤ 9 → sAll N L b R mv c f = -1
  | 0, _ => rfl
  | c + 1, h => by rw [sAll_succ, pa_ne (by omega), al_un c (by omega)]
theorem wI_id {m : Mm} {a k : Nat} {v : Int32} (h : zI m a k = v) : wI m a k v = m := wI_ext (fun b j => by
  by_cases e : b = a
  · subst e
    by_cases e2 : j = k
    · subst e2
      rw [zI_eq, h]
    · exact zI_nk e2
  · exact zI_ne e) rfl
theorem z06 : zIn 0 6 ∧ zIx 0 = 0 := by decide
section LPL
variable {y t4 t5 N k : Nat} {b pl Rv : Nat → Int} {m M : Mm}
theorem place_in0 (hN : N ≤ 10) (h0 : zI M 204 0 = i3 N) (hp : ∀ i, i < N → zI M (207 + t5) i = i3 (pl i) ∧ -1 ≤ pl i ∧ pl i < 400) (hk : k < N) {d : Int} (hd : 0 ≤ d ∧ d < 400) (r21 : Int32 → Mm → Option Mm) :
    zLq2 (l_Law_place_0 M (i3 d) r21 (i3 k) t5) zFu 1 0 = r21 (i3 (d + 1)) (if tkN pl d N then M else wI M (207 + t5) k (i3 d)) := by
  obtain ⟨h6, h6x⟩ := z06
  refine run_zLq2 (fun j x27 x28 => ∃ i : Nat, i ≤ N ∧ j = N - i ∧ x27 = b3 (!tkN pl d i) ∧ x28 = i3 i) ?_ zFu N _ _ ⟨0, Nat.zero_le _, rfl, rfl, rfl⟩ (by unfold zFu; omega)
  rintro r j _ _ ⟨i, hi, rfl, rfl, rfl⟩
  unfold l_Law_place_0
  rw [if_pos h6, h6x, h0, it_le ⟨by omega, by omega⟩ ⟨by omega, by omega⟩]
  by_cases e : N ≤ i
  · left
    obtain ⟨h1, h2⟩ := in_n (k := k) (n := 10) (by omega) (by decide)
    rw [if_pos (by omega), show i = N by omega]
    simp only [zLet_q, if_pos h1, h2, i3_add1]
    cases tkN pl d N with
    | true => rw [if_pos (show b3 (!true) = 0 by decide), if_pos rfl]
    | false => rw [if_neg (show ¬ b3 (!false) = 0 by decide), if_neg (by decide)]
  · right
    have hi9 : i < N := by omega
    obtain ⟨a1, a2⟩ := hp i hi9
    obtain ⟨h1, h2⟩ := in_n (k := i) (n := 10) (by omega) (by decide)
    refine ⟨b3 (!tkN pl d (i + 1)), i3 ((i + 1 : Nat) : Int), N - (i + 1), by omega, ⟨i + 1, by omega, rfl, rfl, rfl⟩, ?_⟩
    rw [if_neg (by omega)]
    simp only [zLet_q, if_pos h1, h2, a1, ad1]
    rw [it_eq ⟨by omega, by omega⟩ ⟨by omega, by omega⟩, tkN_succ]
    cases tkN pl d i with
    | true =>
      rw [if_pos (show b3 (!true) = 0 by decide), Bool.true_or]
      rfl
    | false =>
      rw [if_neg (show ¬ b3 (!false) = 0 by decide), Bool.false_or]
      by_cases c : pl i = d
      · rw [if_pos c, decide_eq_true c]
        rfl
      · rw [if_neg c, decide_eq_false c]
        rfl
theorem place_in1 (hy : y < 400) (hN : N ≤ 10) (h45 : t4 ≠ t5) (h0 : zI M 204 0 = i3 N) (hp : ∀ i, i < N → zI M (207 + t5) i = i3 (pl i) ∧ -1 ≤ pl i ∧ pl i < 400) (hk : k < N) (hpk : pl k = -1) (hb : zI M (207 + t4) k = i3 (b k)) (hb2 : 0 ≤ b k ∧ b k < sLen y) (hr : zI M 202 k = i3 (Rv k)) (hr2 : 0 ≤ Rv k ∧ Rv k ≤ 19) (j16 : Mm → Option Mm) :
    zLp1 (l_Law_place_1 (i3 k) t4 j16 (i3 y) t5) zFu (i3 (b k)) M = j16 (wI M (207 + t5) k (i3 (sOne N (sLen y) (b k) (decide (Rv k % 2 = 1)) pl))) := by
  have hL := sLen_bd y
  obtain ⟨h1, h2⟩ := in_n (k := k) (n := 10) (by omega) (by decide)
  have hlim : (lim (decide (Rv k % 2 = 1)) : Int) = 20 * (Rv k % 2) := by
    unfold lim
    by_cases c : Rv k % 2 = 1
    · rw [decide_eq_true c, if_pos rfl, c]; rfl
    · rw [decide_eq_false c, if_neg (by decide)]; omega
  unfold sOne
  rw [if_neg (by omega)]
  generalize lim (decide (Rv k % 2 = 1)) = l at hlim
  have hl20 : l ≤ 20 := by omega
  generalize hw : sFree (fun d => tkN pl d N) (sLen y) (l + 1) (b k) = w
  have hwb : w = -1 ∨ (0 ≤ w ∧ w < sLen y) := by
    rcases sFree_bd (tk := fun d => tkN pl d N) (L := sLen y) (l + 1) (b k) hb2.1 with e | ⟨e1, e2, -⟩
    · left; omega
    · right; omega
  have q20 : i3 (b k) + (20 * (i3 (Rv k) % 2)) = i3 (b k + l) := by
    rw [show (2 : Int32) = i3 2 from rfl, i3_mod ⟨by omega, by omega⟩ ⟨by decide, by decide⟩, show (20 : Int32) = i3 20 from rfl, i3_mul, i3_add, hlim]
  refine run_zLp1 (fun j x20 M2 => (∃ c : Nat, c ≤ l + 1 ∧ j = l + 2 - c ∧ x20 = i3 (b k + c) ∧ M2 = M ∧ sFree (fun d => tkN pl d N) (sLen y) (l + 1 - c) (b k + c) = w) ∨ (∃ d : Int, 0 ≤ d ∧ d ≤ 400 ∧ j = 0 ∧ x20 = i3 d ∧ M2 = wI M (207 + t5) k (i3 w) ∧ 0 ≤ w ∧ w < 400)) ?_ zFu (l + 2) _ _ (Or.inl ⟨0, Nat.zero_le _, rfl, by rw [show b k + ((0 : Nat) : Int) = b k by omega], rfl, by rw [Nat.sub_zero, show b k + ((0 : Nat) : Int) = b k by omega]; exact hw⟩) (by unfold zFu; omega)
  rintro r j _ _ (⟨c, hc, rfl, rfl, rfl, hs⟩ | ⟨d, d1, d2, rfl, rfl, rfl, w1, w2⟩)
  · unfold l_Law_place_1
    rw [if_pos h1, if_pos h1, h2, hb, hr, q20, it_lt ⟨by omega, by omega⟩ ⟨by omega, by omega⟩, law_days hy, zBP_some, it_le ⟨by omega, by omega⟩ ⟨by omega, by omega⟩, if_pos h1, (hp k hk).1, hpk]
    by_cases c1 : l + 1 ≤ c
    · left
      have : w = -1 := by rw [← hs, show l + 1 - c = 0 by omega]; rfl
      rw [if_pos (by omega), this, wI_id (by rw [(hp k hk).1, hpk])]
    · rw [if_neg (by omega)]
      rw [show l + 1 - c = l + 1 - (c + 1) + 1 by omega, sFree_succ] at hs
      by_cases c2 : (sLen y : Int) ≤ b k + c
      · left
        rw [if_pos c2] at hs ⊢
        rw [← hs, wI_id (by rw [(hp k hk).1, hpk])]
      · right
        rw [if_neg c2] at hs
        rw [if_neg c2, if_neg (show ¬ (0 : Int32) ≤ i3 (-1) by decide), place_in0 hN h0 hp hk ⟨by omega, by omega⟩]
        by_cases c3 : tkN pl (b k + c) N = true
        · rw [if_pos c3] at hs ⊢
          exact ⟨_, _, l + 2 - (c + 1), by omega, Or.inl ⟨c + 1, by omega, rfl, by rw [show b k + (c : Int) + 1 = b k + ((c + 1 : Nat) : Int) by omega], rfl, by rw [show b k + ((c + 1 : Nat) : Int) = b k + c + 1 by omega]; exact hs⟩, rfl⟩
        · rw [if_neg c3] at hs ⊢
          refine ⟨_, _, 0, by omega, Or.inr ⟨b k + c + 1, by omega, by omega, rfl, rfl, ?_, by omega, by omega⟩, rfl⟩
          rw [hs]
  · left
    unfold l_Law_place_1
    rw [if_pos h1, if_pos h1, h2, zI_ne (by omega), zI_ne (by omega), hb, hr, q20, it_lt ⟨by omega, by omega⟩ ⟨by omega, by omega⟩, law_days hy, zBP_some, it_le ⟨by omega, by omega⟩ ⟨by omega, by omega⟩, if_pos h1, zI_eq, it_0le ⟨by omega, by omega⟩, if_pos w1]
    by_cases c1 : b k + l < d
    · rw [if_pos c1]
    · rw [if_neg c1]
      by_cases c2 : (sLen y : Int) ≤ d
      · rw [if_pos c2]
      · rw [if_neg c2]
/-- what of the memory a place needs and keeps -/
def PlK (m M : Mm) (t5 N : Nat) (pl : Nat → Int) : Prop := (∀ i, i < N → zI M (207 + t5) i = i3 (pl i)) ∧ (∀ b j, b ≠ 207 + t5 → zI M b j = zI m b j) ∧ M.2 = m.2
theorem law_place (hy : y < 400) (hN : N ≤ 10) (h45 : t4 ≠ t5) (h0 : zI m 204 0 = i3 N) (hr : ∀ k, k < N → zI m 202 k = i3 (Rv k) ∧ 0 ≤ Rv k ∧ Rv k ≤ 19) (hb : ∀ k, k < N → zI m (207 + t4) k = i3 (b k) ∧ -1 ≤ b k ∧ b k < sLen y) :
    ∃ m', f_Law_place (i3 y) t4 t5 m = some m' ∧ PlK m m' t5 N (sAll N (sLen y) b (fun k => Rv k / 2) (fun k => decide (Rv k % 2 = 1)) 10) := by
  have hL := sLen_bd y
  obtain ⟨h6, h6x⟩ := z06
  generalize hR : (fun k => Rv k / 2) = R
  have hRe : ∀ k, R k = Rv k / 2 := fun k => by rw [← hR]
  generalize hmv : (fun k => decide (Rv k % 2 = 1)) = mv
  have hme : ∀ k, mv k = decide (Rv k % 2 = 1) := fun k => by rw [← hmv]
  have hbb : ∀ f, f < N → -1 ≤ b f := fun f hf => (hb f hf).2.1
  -- the loop from rank 9 down
  have hmain : ∀ M : Mm, PlK m M t5 N (fun _ => -1) → ∃ m', zLp1 (l_Law_place_3 t4 (i3 y) t5) zFu 9 M = some m' ∧ PlK m m' t5 N (sAll N (sLen y) b R mv 10) := by
    intro M hM
    refine ex_zLp1 (Q := fun X => ∃ m', X = some m' ∧ PlK m m' t5 N (sAll N (sLen y) b R mv 10)) (fun j x5 M2 => ∃ c : Nat, c ≤ 10 ∧ j = 10 - c ∧ x5 = i3 (9 - (c : Int)) ∧ PlK m M2 t5 N (sAll N (sLen y) b R mv c)) ?_ zFu 10 _ _ ⟨0, Nat.zero_le _, rfl, rfl, hM⟩ (by unfold zFu; omega)
    rintro r6 j _ M2 ⟨c, hc, rfl, rfl, hK⟩
    unfold l_Law_place_3
    rw [it_lt0 ⟨by omega, by omega⟩]
    by_cases e : c = 10
    · left
      subst e
      exact ⟨M2, if_pos (by decide), hK⟩
    · right
      rw [if_neg (by omega)]
      have hPb := sAll_bd (N := N) (L := sLen y) (b := b) (R := R) (mv := mv) (by omega) hbb c
      have hPu : ∀ f, R f = 9 - c → sAll N (sLen y) b R mv c f = -1 := fun f hf => al_un c (by omega)
      have hin : ∃ m', zLp1 (l_Law_place_2 (i3 (9 - (c : Int))) r6 t4 (i3 y) t5) zFu 0 M2 = r6 (i3 (9 - ((c + 1 : Nat) : Int))) m' ∧ PlK m m' t5 N (sAll N (sLen y) b R mv (c + 1)) := by
        rw [sAll_succ]
        generalize sAll N (sLen y) b R mv c = P at hK hPb hPu
        refine ex_zLp1 (Q := fun X => ∃ m', X = r6 (i3 (9 - ((c + 1 : Nat) : Int))) m' ∧ PlK m m' t5 N (sPass N (sLen y) b R mv (9 - c) N P)) (fun j x9 M3 => ∃ k : Nat, k ≤ N ∧ j = N - k ∧ x9 = i3 k ∧ PlK m M3 t5 N (sPass N (sLen y) b R mv (9 - c) k P)) ?_ zFu N _ _ ⟨0, Nat.zero_le _, rfl, rfl, hK⟩ (by unfold zFu; omega)
        rintro r10 j _ M3 ⟨k, hk, rfl, rfl, hp, hfr, h2⟩
        have h03 : zI M3 204 0 = i3 N := by rw [hfr _ _ (by omega)]; exact h0
        by_cases e2 : k = N
        · left
          rw [e2] at hp
          refine ⟨M3, ?_, hp, hfr, h2⟩
          unfold l_Law_place_2
          rw [if_pos h6, h6x, h03, it_le ⟨by omega, by omega⟩ ⟨by omega, by omega⟩, if_pos (by omega), zLet_q, show (-1 : Int32) = i3 (-1) from rfl, i3_add, show 9 - (c : Int) + -1 = 9 - ((c + 1 : Nat) : Int) by omega]
        · right
          have hk9 : k < N := by omega
          have hpb := sPass_bd (N := N) (L := sLen y) (b := b) (R := R) (mv := mv) (r := 9 - c) (by omega) hbb k P (by omega) hPb
          have hhi : sPass N (sLen y) b R mv (9 - c) k P k = P k := pa_hi k P (Nat.le_refl k)
          have hsu := sPass_succ (N := N) (n := k) (L := sLen y) (b := b) (R := R) (mv := mv) (r := 9 - c) (pl := P)
          generalize sPass N (sLen y) b R mv (9 - c) k P = pl at hp hpb hhi hsu
          obtain ⟨h1, h1x⟩ := in_n (k := k) (n := 10) (by omega) (by decide)
          obtain ⟨r1, r2, r3⟩ := hr k hk9
          obtain ⟨b1, b2, b3'⟩ := hb k hk9
          have h202 : zI M3 202 k = i3 (Rv k) := by rw [hfr _ _ (by omega)]; exact r1
          have hbM : zI M3 (207 + t4) k = i3 (b k) := by rw [hfr _ _ (by omega)]; exact b1
          have hT : l_Law_place_2 (i3 (9 - (c : Int))) r6 t4 (i3 y) t5 r10 (i3 k) M3 = if R k = 9 - c then (if 0 ≤ b k then zLp1 (l_Law_place_1 (i3 k) t4 (r10 (i3 ((k + 1 : Nat) : Int))) (i3 y) t5) zFu (i3 (b k)) M3 else r10 (i3 ((k + 1 : Nat) : Int)) M3) else r10 (i3 ((k + 1 : Nat) : Int)) M3 := by
            unfold l_Law_place_2
            rw [if_pos h6, h6x, h03, it_le ⟨by omega, by omega⟩ ⟨by omega, by omega⟩, if_neg (by omega)]
            simp only [zLet_q, if_pos h1, h1x, h202, hbM, ad1]
            rw [show (2 : Int32) = i3 2 from rfl, i3_div ⟨by omega, by omega⟩ ⟨by decide, by decide⟩, it_eq ⟨by omega, by omega⟩ ⟨by omega, by omega⟩, it_0le ⟨by omega, by omega⟩, hRe]
          by_cases e3 : R k = 9 - c
          · rw [if_pos e3] at hT hsu
            by_cases e4 : 0 ≤ b k
            · rw [if_pos e4, place_in1 (pl := pl) (b := b) (Rv := Rv) hy hN h45 h03 (fun i hi => ⟨hp i hi, (hpb i).1, by have := (hpb i).2; omega⟩) hk9 (by rw [hhi, hPu k e3]) hbM ⟨e4, b3'⟩ h202 ⟨r2, r3⟩] at hT
              refine ⟨_, wI M3 (207 + t5) k (i3 (sOne N (sLen y) (b k) (decide (Rv k % 2 = 1)) pl)), N - (k + 1), by omega, ⟨k + 1, by omega, rfl, rfl, fun i hi => ?_, fun b' j' hb' => ?_, h2⟩, hT⟩
              · rw [hsu]
                unfold upI
                by_cases e5 : i = k
                · rw [if_pos e5, e5, zI_eq, hme]
                · rw [if_neg e5, zI_nk e5, hp i hi]
              · rw [zI_ne hb', hfr b' j' hb']
            · rw [if_neg e4] at hT
              refine ⟨_, _, N - (k + 1), by omega, ⟨k + 1, by omega, rfl, rfl, fun i hi => ?_, hfr, h2⟩, hT⟩
              rw [hsu]
              unfold upI
              by_cases e5 : i = k
              · rw [if_pos e5, hp i hi, e5, hhi, hPu k e3]
                unfold sOne
                rw [if_pos (by omega)]
              · rw [if_neg e5, hp i hi]
          · rw [if_neg e3] at hT hsu
            exact ⟨_, _, N - (k + 1), by omega, ⟨k + 1, by omega, rfl, rfl, fun i hi => by rw [hsu]; exact hp i hi, hfr, h2⟩, hT⟩
      obtain ⟨m', e1, e2⟩ := hin
      exact ⟨_, _, 10 - (c + 1), by omega, ⟨c + 1, by omega, rfl, rfl, e2⟩, e1⟩
  rw [e_Law_place]
  refine ex_zLp1 (Q := fun X => ∃ m', X = some m' ∧ PlK m m' t5 N (sAll N (sLen y) b R mv 10)) (fun j x1 M => ∃ k : Nat, k ≤ N ∧ j = N - k ∧ x1 = i3 k ∧ PlK m M t5 k (fun _ => -1)) ?_ zFu N _ _ ⟨0, Nat.zero_le _, rfl, rfl, fun i h => absurd h (Nat.not_lt_zero i), fun _ _ _ => rfl, rfl⟩ (by unfold zFu; omega)
  rintro r2 j _ M ⟨k, hk, rfl, rfl, hp, hfr, h2⟩
  have h03 : zI M 204 0 = i3 N := by rw [hfr _ _ (by omega)]; exact h0
  unfold l_Law_place_4
  rw [if_pos h6, h6x, h03, it_le ⟨by omega, by omega⟩ ⟨by omega, by omega⟩]
  by_cases e : k = N
  · left
    rw [e] at hp
    rw [if_pos (by omega)]
    exact hmain M ⟨hp, hfr, h2⟩
  · right
    obtain ⟨h1, h1x⟩ := in_n (k := k) (n := 10) (by omega) (by decide)
    rw [if_neg (by omega), if_pos h1, h1x, zLet_q, zLet_q, ad1]
    refine ⟨_, wI M (207 + t5) k (-1), N - (k + 1), by omega, ⟨k + 1, by omega, rfl, rfl, fun i hi => ?_, fun b' j' hb' => ?_, h2⟩, rfl⟩
    · by_cases e5 : i = k
      · rw [e5, zI_eq]; rfl
      · rw [zI_nk e5]
        exact hp i (by omega)
    · rw [zI_ne hb', hfr b' j' hb']
/-- clashes are the same, counted from behind -/
theorem clI_end {b : Nat → Int} {i : Nat} : ∀ k, clI b i (k + 1) = clI b i k + if b i ≠ -1 ∧ b i = b (i + 1 + k) then 1 else 0 := fun _ => rfl
def clB (b : Nat → Int) (k : Nat) : Nat → Int
  | 0 => 0
  | i + 1 => clB b k i + if b k ≠ -1 ∧ b k = b i then 1 else 0
def clS (b : Nat → Int) : Nat → Int
  | 0 => 0
  | k + 1 => clS b k + clB b k k
theorem clT_up {b : Nat → Int} {N : Nat} : ∀ n, n ≤ N → clT b (N + 1) n = clT b N n + clB b N n
  | 0, _ => rfl
  | n + 1, h => by
    show clT b (N + 1) n + clI b n (N + 1 - (n + 1)) = clT b N n + clI b n (N - (n + 1)) + (clB b N n + if b N ≠ -1 ∧ b N = b n then 1 else 0)
    have ih := clT_up (b := b) (N := N) n (by omega)
    have e : N + 1 - (n + 1) = (N - (n + 1)) + 1 := by omega
    rw [ih, e, clI_end, show n + 1 + (N - (n + 1)) = N by omega]
    by_cases c : b n = b N
    · rw [c]
      by_cases c2 : b N = -1
      · rw [if_neg (fun z => z.1 c2)]
        omega
      · rw [if_pos ⟨c2, rfl⟩]
        omega
    · rw [if_neg (fun z => c z.2), if_neg (fun z => c z.2.symm)]
      omega
theorem clT_S {b : Nat → Int} : ∀ N, clT b N N = clS b N
  | 0 => rfl
  | N + 1 => by
    show clT b (N + 1) N + clI b N (N + 1 - (N + 1)) = clS b N + clB b N N
    rw [clT_up N (Nat.le_refl _), clT_S N, Nat.sub_self]
    show clS b N + clB b N N + 0 = _
    omega
theorem clB_bd {b : Nat → Int} {k : Nat} : ∀ i : Nat, 0 ≤ clB b k i ∧ clB b k i ≤ i
  | 0 => ⟨Int.le_refl _, Int.le_refl _⟩
  | i + 1 => by
    have ih := clB_bd (b := b) (k := k) i
    show 0 ≤ clB b k i + (if b k ≠ -1 ∧ b k = b i then 1 else 0) ∧ clB b k i + (if b k ≠ -1 ∧ b k = b i then 1 else 0) ≤ ((i + 1 : Nat) : Int)
    split <;> omega
theorem clS_bd {b : Nat → Int} : ∀ k : Nat, k ≤ 10 → 0 ≤ clS b k ∧ clS b k ≤ 10 * k
  | 0, _ => ⟨Int.le_refl _, Int.le_refl _⟩
  | k + 1, h => by
    have ih := clS_bd (b := b) k (by omega)
    have h2 := clB_bd (b := b) (k := k) k
    show 0 ≤ clS b k + clB b k k ∧ clS b k + clB b k k ≤ 10 * ((k + 1 : Nat) : Int)
    omega
theorem law_clashes (hN : N ≤ 10) (h0 : zI m 204 0 = i3 N) (hb : ∀ k, k < N → zI m (207 + t4) k = i3 (b k) ∧ -1 ≤ b k ∧ b k < 400) : f_Law_clashes t4 m = some (i3 (clT b N N)) := by
  obtain ⟨h6, h6x⟩ := z06
  rw [e_Law_clashes, clT_S]
  refine run_zLq2 (fun j x1 x2 => ∃ k : Nat, k ≤ N ∧ j = N - k ∧ x1 = i3 (clS b k) ∧ x2 = i3 k) ?_ zFu N _ _ ⟨0, Nat.zero_le _, rfl, rfl, rfl⟩ (by unfold zFu; omega)
  rintro r3 j _ _ ⟨k, hk, rfl, rfl, rfl⟩
  unfold l_Law_clashes_1
  rw [if_pos h6, h6x, h0, it_le ⟨by omega, by omega⟩ ⟨by omega, by omega⟩]
  by_cases e : k = N
  · left
    rw [e, if_pos (Int.le_refl _)]
  · right
    rw [if_neg (by omega)]
    refine ⟨i3 (clS b (k + 1)), i3 ((k + 1 : Nat) : Int), N - (k + 1), by omega, ⟨k + 1, by omega, rfl, rfl, rfl⟩, ?_⟩
    obtain ⟨h1, h1x⟩ := in_n (k := k) (n := 10) (by omega) (by decide)
    obtain ⟨a1, a2, a3⟩ := hb k (by omega)
    refine run_zLq2 (fun j x5 x6 => ∃ i : Nat, i ≤ k ∧ j = k - i ∧ x5 = i3 (clS b k + clB b k i) ∧ x6 = i3 i) ?_ zFu k _ _ ⟨0, Nat.zero_le _, rfl, by show _ = i3 (clS b k + 0); rw [Int.add_zero], rfl⟩ (by unfold zFu; omega)
    rintro r7 j _ _ ⟨i, hi, rfl, rfl, rfl⟩
    unfold l_Law_clashes_0
    rw [it_le ⟨by omega, by omega⟩ ⟨by omega, by omega⟩]
    by_cases e2 : i = k
    · left
      rw [e2, if_pos (Int.le_refl _), zLet_q, ad1]
      rfl
    · right
      obtain ⟨g1, g1x⟩ := in_n (k := i) (n := 10) (by omega) (by decide)
      obtain ⟨c1, c2, c3⟩ := hb i (by omega)
      refine ⟨i3 (clS b k + clB b k (i + 1)), i3 ((i + 1 : Nat) : Int), k - (i + 1), by omega, ⟨i + 1, by omega, rfl, rfl, rfl⟩, ?_⟩
      rw [if_neg (by omega)]
      simp only [zLet_q, if_pos h1, h1x, if_pos g1, g1x, a1, c1, ad1]
      rw [it_lt0 ⟨by omega, by omega⟩, it_eq ⟨by omega, by omega⟩ ⟨by omega, by omega⟩]
      have e0 : ∀ z : Int, clB b k (i + 1) = clB b k i + z → clS b k + clB b k (i + 1) = clS b k + clB b k i + z := fun z hz => by rw [hz]; omega
      by_cases c4 : b k < 0
      · rw [if_pos c4, e0 0 (by show clB b k i + (if b k ≠ -1 ∧ b k = b i then 1 else 0) = _; rw [if_neg (fun z => z.1 (by omega))]), show (0 : Int32) = i3 0 from rfl, i3_add]
      · rw [if_neg c4]
        by_cases c5 : b k = b i
        · rw [if_pos c5, e0 1 (by show clB b k i + (if b k ≠ -1 ∧ b k = b i then 1 else 0) = _; rw [if_pos ⟨by omega, c5⟩]), show (1 : Int32) = i3 1 from rfl, i3_add]
        · rw [if_neg c5, e0 0 (by show clB b k i + (if b k ≠ -1 ∧ b k = b i then 1 else 0) = _; rw [if_neg (fun z => c5 z.2)]), show (0 : Int32) = i3 0 from rfl, i3_add]
end LPL
