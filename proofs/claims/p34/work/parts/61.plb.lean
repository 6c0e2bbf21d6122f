/-! THE CLASS PLACES ALL -/
def Inj (pl : Nat → Int) (N : Nat) : Prop := ∀ g g', g < N → g' < N → pl g = pl g' → pl g ≠ -1 → g = g'
theorem sOne_free {N : Nat} {L b : Int} {mv : Bool} {pl : Nat → Int} (hb : -1 ≤ b) : sOne N L b mv pl = -1 ∨ (b ≤ sOne N L b mv pl ∧ 0 ≤ sOne N L b mv pl ∧ sOne N L b mv pl < L ∧ ∀ g, g < N → pl g ≠ sOne N L b mv pl) := by
  unfold sOne
  by_cases h : b = -1
  · rw [if_pos h]; exact Or.inl rfl
  · rw [if_neg h]
    rcases sFree_bd (tk := fun d => tkN pl d N) (L := L) (lim mv + 1) b (by omega) with e | ⟨e1, e2, e3⟩
    · exact Or.inl e
    · refine Or.inr ⟨e1, by omega, e2, fun g hg hq => ?_⟩
      have : tkN pl (sFree (fun d => tkN pl d N) L (lim mv + 1) b) N = true := (tkN_iff N).mpr ⟨g, hg, hq⟩
      rw [this] at e3
      exact nomatch e3
theorem Inj.up {pl : Nat → Int} {N f : Nat} {v : Int} (h : Inj pl N) (hv : v = -1 ∨ ∀ g, g < N → pl g ≠ v) : Inj (upI pl f v) N := by
  intro g g' hg hg' e hn
  unfold upI at e hn
  by_cases c : g = f
  · rw [if_pos c] at e hn
    by_cases c' : g' = f
    · rw [c, c']
    · rw [if_neg c'] at e
      rcases hv with hv | hv
      · exact absurd hv hn
      · exact absurd e.symm (hv g' hg')
  · rw [if_neg c] at e hn
    by_cases c' : g' = f
    · rw [if_pos c'] at e
      rcases hv with hv | hv
      · rw [hv] at e; exact absurd e hn
      · exact absurd e (hv g hg)
    · rw [if_neg c'] at e
      exact h g g' hg hg' e hn
theorem sPass_inj {N : Nat} {L : Int} {b R : Nat → Int} {mv : Nat → Bool} {r : Int} (hb : ∀ f, f < N → -1 ≤ b f) : ∀ (n : Nat) (pl : Nat → Int), n ≤ N → Inj pl N → Inj (sPass N L b R mv r n pl) N := by
  intro n
  induction n with
  | zero => intro pl _ h; exact h
  | succ n ih =>
    intro pl hn h
    have := ih pl (by omega) h
    rw [sPass_succ]
    split
    · refine this.up ?_
      rcases sOne_free (N := N) (L := L) (b := b n) (mv := mv n) (pl := sPass N L b R mv r n pl) (hb n (by omega)) with e | ⟨-, -, -, e⟩
      · exact Or.inl e
      · exact Or.inr e
    · exact this
theorem sAll_inj {N : Nat} {L : Int} {b R : Nat → Int} {mv : Nat → Bool} (hb : ∀ f, f < N → -1 ≤ b f) : ∀ k, Inj (sAll N L b R mv k) N := by
  intro k
  induction k with
  | zero => exact fun g g' _ _ _ h => absurd rfl h
  | succ k ih => exact sPass_inj hb N _ (Nat.le_refl _) ih
theorem sPass_keep {N : Nat} {L : Int} {b R : Nat → Int} {mv : Nat → Bool} {r : Int} {f : Nat} : ∀ (n : Nat) (pl : Nat → Int), (R f ≠ r ∨ n ≤ f) → sPass N L b R mv r n pl f = pl f := by
  intro n
  induction n with
  | zero => intro pl _; rfl
  | succ n ih =>
    intro pl h
    rw [sPass_succ]
    split
    · next c =>
      unfold upI
      rw [if_neg (fun e => by subst e; omega)]
      exact ih pl (by omega)
    · exact ih pl (by omega)
theorem sAll_keep {N : Nat} {L : Int} {b R : Nat → Int} {mv : Nat → Bool} {f : Nat} : ∀ k : Nat, R f ≤ 9 - (k : Int) → sAll N L b R mv k f = -1 := by
  intro k
  induction k with
  | zero => intro _; rfl
  | succ k ih =>
    intro h
    rw [sAll_succ, sPass_keep N _ (Or.inl (by omega))]
    exact ih (by omega)
def Crk (m : Mm) (N : Nat) (R : Nat → Int) (mv : Nat → Bool) : Prop := ∀ f, f < N → zI m (32 + 6 * f) 2 = i3 (R f) ∧ zI m (32 + 6 * f) 3 = b3 (mv f)
/-- the days, each with the feast that has it -/
def Cdy (m : Mm) (c N : Nat) (pl : Nat → Int) : Prop := ∀ d : Nat, d < 366 → (zI m c d = i3 (-1) ∧ ∀ g, g < N → pl g ≠ d) ∨ ∃ g, g < N ∧ pl g = d ∧ zI m c d = i3 g
def Fx2 (a : Nat) (m m' : Mm) : Prop := m'.2 = m.2 ∧ ∀ b j, b ≠ a + 4 → b ≠ a + 5 → zI m' b j = zI m b j
theorem Fx2.trans {a : Nat} {m m' m'' : Mm} (h : Fx2 a m m') (h2 : Fx2 a m' m'') : Fx2 a m m'' := ⟨h2.1.trans h.1, fun b j a1 a2 => (h2.2 b j a1 a2).trans (h.2 b j a1 a2)⟩
theorem Fx2.refl {a : Nat} {m : Mm} : Fx2 a m m := ⟨rfl, fun _ _ _ _ => rfl⟩
theorem Fx2.w {a b k : Nat} {m : Mm} {v : Int32} (h : b = a + 4 ∨ b = a + 5) : Fx2 a m (wI m b k v) := ⟨rfl, fun c j h1 h2 => zI_ne (by omega)⟩
section PLB
variable {m mm : Mm} {a N : Nat} {L : Nat} {R b pl : Nat → Int} {mv : Nat → Bool}
theorem boo_place (ha : 152 ≤ a) (h20 : N ≤ 20) (hL : L ≤ 366) (hr : Crk m N R mv) (h7 : zI m a 7 = i3 L) {f : Nat} (hf : f < N) (hB : zI m (a + 2) f = i3 (b f)) (hb : -1 ≤ b f ∧ b f < L) (hpb : ∀ g, g < N → -1 ≤ pl g ∧ pl g < 400) (hpf : pl f = -1) (hd : Cdy m (a + 5) N pl) :
    ∃ m', f_Boo_place a (i3 f) m = some m' ∧ Fx2 a m m' ∧ (∀ g, g ≠ f → zI m' (a + 4) g = zI m (a + 4) g) ∧ zI m' (a + 4) f = i3 (sOne N L (b f) (mv f) pl) ∧ Cdy m' (a + 5) N (upI pl f (sOne N L (b f) (mv f) pl)) := by
  have hinf : zIn (i3 (f : Int)) 20 := (i3_in ⟨by omega, by omega⟩).mpr ⟨by omega, by omega⟩
  have hixf : zIx (i3 (f : Int)) = f := by rw [i3_ix ⟨by omega, by omega⟩, Int.toNat_natCast]
  have same : upI pl f (-1) = pl := funext fun g => by
    unfold upI
    by_cases e : g = f
    · rw [if_pos e, e, hpf]
    · rw [if_neg e]
  have hcm : f_Alm_canMove (i3 f) (wI m (a + 4) f (i3 (-1))) = some (b3 (mv f)) := by
    unfold f_Alm_canMove
    rw [if_pos hinf, hixf, zI_ne (by omega), (hr f hf).2, if_pos (b3_bo _)]
  rw [e_Boo_place, if_pos hinf, hixf, hB]
  simp only [zLet]
  rw [if_pos hinf, show (-1 : Int32) = i3 (-1) from rfl, it_m1 ⟨by omega, by omega⟩]
  have none' : ∃ m', some (wI m (a + 4) f (i3 (-1))) = some m' ∧ Fx2 a m m' ∧ (∀ g, g ≠ f → zI m' (a + 4) g = zI m (a + 4) g) ∧ zI m' (a + 4) f = i3 (-1) ∧ Cdy m' (a + 5) N (upI pl f (-1)) := by
    refine ⟨_, rfl, Fx2.w (Or.inl rfl), fun g hg => zI_nk hg, zI_eq, ?_⟩
    rw [same]
    intro d hd'
    rw [zI_ne (by omega)]
    exact hd d hd'
  unfold sOne
  by_cases c1 : b f = -1
  · rw [if_pos c1, if_pos c1]
    exact none'
  rw [if_neg c1, if_neg c1, hcm, zBP_some]
  have loop : ∀ l : Nat, l ≤ 20 → ∃ m', zLq1 (l_Boo_place_0 (i3 (b f + l)) (wI m (a + 4) f (i3 (-1))) a (i3 f)) zFu (i3 (b f)) = some m' ∧ Fx2 a m m' ∧ (∀ g, g ≠ f → zI m' (a + 4) g = zI m (a + 4) g) ∧ zI m' (a + 4) f = i3 (sFree (fun d => tkN pl d N) L (l + 1) (b f)) ∧ Cdy m' (a + 5) N (upI pl f (sFree (fun d => tkN pl d N) L (l + 1) (b f))) := by
    intro l hl
    generalize hw : sFree (fun d => tkN pl d N) L (l + 1) (b f) = w
    have fin : ∃ m', (if w = -1 then some (wI m (a + 4) f (i3 (-1))) else some (wI (wI (wI m (a + 4) f (i3 (-1))) (a + 5) w.toNat (i3 f)) (a + 4) f (i3 w))) = some m' ∧ Fx2 a m m' ∧ (∀ g, g ≠ f → zI m' (a + 4) g = zI m (a + 4) g) ∧ zI m' (a + 4) f = i3 w ∧ Cdy m' (a + 5) N (upI pl f w) := by
      by_cases c : w = -1
      · rw [if_pos c, c]
        exact none'
      · rw [if_neg c]
        have hwf : b f ≤ w ∧ w < L ∧ ∀ g, g < N → pl g ≠ w := by
          rcases sFree_bd (tk := fun d => tkN pl d N) (L := L) (l + 1) (b f) (by omega) with e | ⟨e1, e2, e3⟩
          · rw [hw] at e; exact absurd e c
          · rw [hw] at e1 e2 e3
            refine ⟨e1, e2, fun g hg hq => ?_⟩
            have : tkN pl w N = true := (tkN_iff N).mpr ⟨g, hg, hq⟩
            rw [this] at e3
            exact nomatch e3
        refine ⟨_, rfl, (Fx2.w (Or.inl rfl)).trans ((Fx2.w (Or.inr rfl)).trans (Fx2.w (Or.inl rfl))), fun g hg => by rw [zI_nk hg, zI_ne (by omega), zI_nk hg], zI_eq, ?_⟩
        intro d hd'
        rw [zI_ne (by omega)]
        by_cases e : d = w.toNat
        · right
          exact ⟨f, hf, by unfold upI; rw [if_pos rfl]; omega, by rw [e, zI_eq]⟩
        · rw [zI_nk e, zI_ne (by omega)]
          rcases hd d hd' with ⟨q1, q2⟩ | ⟨g, q1, q2, q3⟩
          · left
            refine ⟨q1, fun g hg => ?_⟩
            unfold upI
            split
            · omega
            · exact q2 g hg
          · right
            refine ⟨g, q1, ?_, q3⟩
            unfold upI
            rw [if_neg (fun e => by rw [e, hpf] at q2; omega)]
            exact q2
    obtain ⟨m', e', rest⟩ := fin
    refine ⟨m', ?_, rest⟩
    rw [← e']
    refine run_zLq1 (fun j x8 => ∃ k : Nat, x8 = i3 (b f + k) ∧ k ≤ l + 1 ∧ j = l + 1 - k ∧ sFree (fun d => tkN pl d N) L (l + 1 - k) (b f + k) = w) ?_ zFu (l + 1) _ ⟨0, by rw [show b f + ((0 : Nat) : Int) = b f by omega], Nat.zero_le _, rfl, by rw [Nat.sub_zero, show b f + ((0 : Nat) : Int) = b f by omega]; exact hw⟩ (by unfold zFu; omega)
    rintro r j x8 ⟨k, rfl, hk, rfl, hv⟩
    unfold l_Boo_place_0
    rw [it_lt ⟨by omega, by omega⟩ ⟨by omega, by omega⟩]
    by_cases c2 : b f + (l : Int) < b f + k
    · left
      rw [if_pos c2]
      rw [show l + 1 - k = 0 by omega] at hv
      have hv : -1 = w := hv
      rw [if_pos hv.symm]
    · rw [show l + 1 - k = l + 1 - (k + 1) + 1 by omega, sFree_succ] at hv
      rw [if_neg c2, zI_ne (by omega), h7, it_le ⟨by omega, by omega⟩ ⟨by omega, by omega⟩]
      by_cases c3 : (L : Int) ≤ b f + k
      · left
        rw [if_pos c3] at hv ⊢
        rw [if_pos hv.symm]
      · have hin : zIn (i3 (b f + k)) 366 := (i3_in ⟨by omega, by omega⟩).mpr ⟨by omega, by omega⟩
        have hix : zIx (i3 (b f + k)) = (b f + k).toNat := i3_ix ⟨by omega, by omega⟩
        have hdd := hd (b f + k).toNat (by omega)
        have ecast : (((b f + k).toNat : Nat) : Int) = b f + k := by omega
        rw [ecast] at hdd
        rw [if_neg c3] at hv ⊢
        rw [if_pos hin, hix, zI_ne (by omega)]
        rcases hdd with ⟨q1, q2⟩ | ⟨g, q1, q2, q3⟩
        · left
          have htk : tkN pl (b f + k) N = false := by
            cases h : tkN pl (b f + k) N with
            | false => rfl
            | true =>
              obtain ⟨g, g1, g2⟩ := (tkN_iff N).mp h
              exact absurd g2 (q2 g g1)
          rw [htk, if_neg (by decide)] at hv
          rw [q1, if_pos (show i3 (-1) = -1 from rfl), if_pos hin]
          simp only [zLet]
          rw [if_pos hinf, hixf, if_neg (show ¬ w = -1 by omega), hv]
        · right
          have htk : tkN pl (b f + k) N = true := (tkN_iff N).mpr ⟨g, q1, q2⟩
          rw [htk, if_pos rfl, show b f + (k : Int) + 1 = b f + ((k + 1 : Nat) : Int) by omega] at hv
          refine ⟨_, l + 1 - (k + 1), by omega, ⟨k + 1, rfl, by omega, rfl, hv⟩, ?_⟩
          rw [q3, if_neg (show ¬ i3 (g : Int) = -1 by rw [show (-1 : Int32) = i3 (-1) from rfl, i3_eq ⟨by omega, by omega⟩ ⟨by decide, by decide⟩]; omega)]
          simp only [zLet, i3_add1]
          rw [show b f + (k : Int) + 1 = b f + ((k + 1 : Nat) : Int) by omega]
  cases mv f with
  | false =>
    rw [if_pos (show b3 false = 0 by decide)]
    have := loop 0 (by decide)
    rw [show b f + ((0 : Nat) : Int) = b f by omega] at this
    exact this
  | true =>
    rw [if_neg (show ¬ b3 true = 0 by decide)]
    have := loop 20 (by decide)
    rw [show (20 : Int32) = i3 20 from rfl, i3_add]
    exact this
end PLB
