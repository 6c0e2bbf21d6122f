/-! PLACES -/
/-- is a day taken by one of the first n? -/
def tkN (pl : Nat → Int) (d : Int) : Nat → Bool
  | 0 => false
  | n + 1 => tkN pl d n || decide (pl n = d)
theorem tkN_succ {pl : Nat → Int} {d : Int} {n : Nat} : tkN pl d (n + 1) = (tkN pl d n || decide (pl n = d)) := rfl
theorem tkN_iff {pl : Nat → Int} {d : Int} : ∀ n, tkN pl d n = true ↔ ∃ g, g < n ∧ pl g = d := by
  intro n
  induction n with
  | zero => exact ⟨fun h => (nomatch h), fun ⟨g, hg, _⟩ => absurd hg (Nat.not_lt_zero g)⟩
  | succ n ih =>
    rw [tkN_succ, Bool.or_eq_true, ih, decide_eq_true_eq]
    constructor
    · rintro (⟨g, h1, h2⟩ | h)
      · exact ⟨g, by omega, h2⟩
      · exact ⟨n, Nat.lt_succ_self n, h⟩
    · rintro ⟨g, h1, h2⟩
      by_cases e : g = n
      · subst e; exact Or.inr h2
      · exact Or.inl ⟨g, by omega, h2⟩
/-- the first day from d on that isn't taken, of the next k -/
def sFree (tk : Int → Bool) (L : Int) : Nat → Int → Int
  | 0, _ => -1
  | k + 1, d => if L ≤ d then -1 else if tk d then sFree tk L k (d + 1) else d
theorem sFree_succ {tk : Int → Bool} {L : Int} {k : Nat} {d : Int} : sFree tk L (k + 1) d = if L ≤ d then -1 else if tk d then sFree tk L k (d + 1) else d := rfl
theorem sFree_hi {tk : Int → Bool} {L d : Int} (h : L ≤ d) (k : Nat) : sFree tk L k d = -1 := by
  cases k with
  | zero => rfl
  | succ k => rw [sFree_succ, if_pos h]
theorem sFree_bd {tk : Int → Bool} {L : Int} : ∀ (k : Nat) (d : Int), 0 ≤ d → sFree tk L k d = -1 ∨ (d ≤ sFree tk L k d ∧ sFree tk L k d < L ∧ tk (sFree tk L k d) = false) := by
  intro k
  induction k with
  | zero => intro d _; exact Or.inl rfl
  | succ k ih =>
    intro d hd
    rw [sFree_succ]
    by_cases h : L ≤ d
    · rw [if_pos h]; exact Or.inl rfl
    · rw [if_neg h]
      cases ht : tk d with
      | true =>
        rw [if_pos rfl]
        rcases ih (d + 1) (by omega) with e | ⟨e1, e2, e3⟩
        · exact Or.inl e
        · exact Or.inr ⟨by omega, e2, e3⟩
      | false =>
        rw [if_neg (by decide)]
        exact Or.inr ⟨by omega, by omega, ht⟩
def lim (mv : Bool) : Nat := if mv then 20 else 0
/-- the place of a feast, when those before it have theirs -/
def sOne (N : Nat) (L : Int) (b : Int) (mv : Bool) (pl : Nat → Int) : Int := if b = -1 then -1 else sFree (fun d => tkN pl d N) L (lim mv + 1) b
def upI (pl : Nat → Int) (f : Nat) (v : Int) : Nat → Int := fun g => if g = f then v else pl g
def sPass (N : Nat) (L : Int) (b : Nat → Int) (R : Nat → Int) (mv : Nat → Bool) (r : Int) : Nat → (Nat → Int) → Nat → Int
  | 0, pl => pl
  | n + 1, pl => if R n = r then upI (sPass N L b R mv r n pl) n (sOne N L (b n) (mv n) (sPass N L b R mv r n pl)) else sPass N L b R mv r n pl
def sAll (N : Nat) (L : Int) (b : Nat → Int) (R : Nat → Int) (mv : Nat → Bool) : Nat → Nat → Int
  | 0 => fun _ => -1
  | k + 1 => sPass N L b R mv (9 - k) N (sAll N L b R mv k)
theorem sPass_succ {N n : Nat} {L : Int} {b R : Nat → Int} {mv : Nat → Bool} {r : Int} {pl : Nat → Int} : sPass N L b R mv r (n + 1) pl = if R n = r then upI (sPass N L b R mv r n pl) n (sOne N L (b n) (mv n) (sPass N L b R mv r n pl)) else sPass N L b R mv r n pl := rfl
theorem sAll_succ {N k : Nat} {L : Int} {b R : Nat → Int} {mv : Nat → Bool} : sAll N L b R mv (k + 1) = sPass N L b R mv (9 - k) N (sAll N L b R mv k) := rfl
theorem sOne_bd {N : Nat} {L b : Int} {mv : Bool} {pl : Nat → Int} (hb : -1 ≤ b) (hL : 0 ≤ L) : -1 ≤ sOne N L b mv pl ∧ sOne N L b mv pl < L := by
  unfold sOne
  by_cases h : b = -1
  · rw [if_pos h]; omega
  · rw [if_neg h]
    rcases sFree_bd (tk := fun d => tkN pl d N) (L := L) (lim mv + 1) b (by omega) with e | ⟨e1, e2, e3⟩
    · rw [e]; omega
    · omega
theorem sPass_bd {N : Nat} {L : Int} {b R : Nat → Int} {mv : Nat → Bool} {r : Int} (hL : 0 ≤ L) (hb : ∀ f, f < N → -1 ≤ b f) : ∀ (n : Nat) (pl : Nat → Int), n ≤ N → (∀ f, -1 ≤ pl f ∧ pl f < L) → ∀ f, -1 ≤ sPass N L b R mv r n pl f ∧ sPass N L b R mv r n pl f < L := by
  intro n
  induction n with
  | zero => intro pl _ h; exact h
  | succ n ih =>
    intro pl hn h f
    have := ih pl (by omega) h
    rw [sPass_succ]
    split
    · unfold upI
      split
      · exact sOne_bd (hb n (by omega)) hL
      · exact this f
    · exact this f
theorem sAll_bd {N : Nat} {L : Int} {b R : Nat → Int} {mv : Nat → Bool} (hL : 0 ≤ L) (hb : ∀ f, f < N → -1 ≤ b f) : ∀ (k f : Nat), -1 ≤ sAll N L b R mv k f ∧ sAll N L b R mv k f < L := by
  intro k
  induction k with
  | zero =>
    intro f
    show -1 ≤ (-1 : Int) ∧ (-1 : Int) < L
    omega
  | succ k ih => exact sPass_bd hL hb N _ (Nat.le_refl _) ih
/-! the reference places -/
def Rrk (m : Mm) (N : Nat) (R : Nat → Int) (mv : Nat → Bool) : Prop := ∀ f, f < N → zI m 208 f = i3 (R f) ∧ zI m 209 f = b3 (mv f)
def Rpl (m : Mm) (N : Nat) (pl : Nat → Int) : Prop := ∀ f, f < N → zI m 219 f = i3 (pl f)
section PLC
variable {m mm : Mm} {y t N nb : Nat} {L : Int} {b R pl : Nat → Int} {mv : Nat → Bool}
theorem mod_isTaken (h20 : N ≤ 20) (h19 : zI m 201 19 = i3 N) (hp : Rpl m N pl) (hpb : ∀ f, f < N → -1 ≤ pl f ∧ pl f < 400) {d : Int} (hd : 0 ≤ d ∧ d < 400) : f_Mod_isTaken (i3 d) m = some (b3 (tkN pl d N)) := by
  rw [e_Mod_isTaken]
  refine run_zLq2 (fun j x1 x2 => ∃ i : Nat, x1 = b3 (tkN pl d i) ∧ x2 = i3 i ∧ i ≤ N ∧ j = N - i) ?_ zFu N _ _ ⟨0, show (0 : Int32) = b3 false by decide, rfl, Nat.zero_le _, rfl⟩ (by unfold zFu; omega)
  rintro r j x1 x2 ⟨i, rfl, rfl, hi, rfl⟩
  unfold l_Mod_isTaken_0
  rw [h19, it_le ⟨by omega, by omega⟩ ⟨by omega, by omega⟩]
  by_cases e : (N : Int) ≤ i
  · left
    rw [if_pos e, show i = N by omega, if_pos (b3_bo _)]
  · right
    have hlt : i < N := by omega
    have hin : zIn (i3 (i : Int)) 20 := (i3_in ⟨by omega, by omega⟩).mpr ⟨by omega, by omega⟩
    have hix : zIx (i3 (i : Int)) = i := by rw [i3_ix ⟨by omega, by omega⟩, Int.toNat_natCast]
    have hb := hpb i hlt
    refine ⟨_, _, N - (i + 1), by omega, ⟨i + 1, rfl, rfl, hlt, rfl⟩, ?_⟩
    rw [if_neg e, tkN_succ]
    simp only [zLet, if_pos hin, hix, hp i hlt, i3_add1]
    rw [it_eq ⟨by omega, by omega⟩ ⟨by omega, by omega⟩]
    cases tkN pl d i with
    | true => rw [if_neg (show ¬ b3 true = 0 by decide)]; rfl
    | false =>
      rw [if_pos (show b3 false = 0 by decide)]
      by_cases c : pl i = d
      · rw [if_pos c, decide_eq_true c]; rfl
      · rw [if_neg c, decide_eq_false c]; rfl
theorem mod_placeFor (hy : y < 400) (ht : t < 2) (h20 : N ≤ 20) (h19 : zI m 201 19 = i3 N) (h1 : zI m 201 1 = i3 t) (hr : Rrk m N R mv) (hp : Rpl m N pl) (hpb : ∀ f, f < N → -1 ≤ pl f ∧ pl f < 400) {f : Nat} (hf : f < N) (hB : zI m 216 (20 * t + f) = i3 (b f)) (hb : -1 ≤ b f ∧ b f < sLen y) :
    f_Mod_placeFor (i3 f) (i3 y) m = some (i3 (sOne N (sLen y) (b f) (mv f) pl)) := by
  have hL := sLen_bd y
  have hinf : zIn (i3 (f : Int)) 20 := (i3_in ⟨by omega, by omega⟩).mpr ⟨by omega, by omega⟩
  have hixf : zIx (i3 (f : Int)) = f := by rw [i3_ix ⟨by omega, by omega⟩, Int.toNat_natCast]
  have e20 : (20 : Int32) * i3 t + i3 f = i3 ((20 * t + f : Nat) : Int) := by rw [show (20 : Int32) = i3 20 from rfl, i3_mul, i3_add]; rfl
  have hin2 : zIn (i3 ((20 * t + f : Nat) : Int)) 40 := (i3_in ⟨by omega, by omega⟩).mpr ⟨by omega, by omega⟩
  have hix2 : zIx (i3 ((20 * t + f : Nat) : Int)) = 20 * t + f := by rw [i3_ix ⟨by omega, by omega⟩, Int.toNat_natCast]
  rw [e_Mod_placeFor, h1, e20, if_pos hin2, hix2, hB]
  simp only [zLet]
  unfold sOne
  by_cases c1 : b f = -1
  · rw [if_pos c1, c1]
    exact if_pos (by decide)
  rw [if_neg c1, if_neg (show ¬ i3 (b f) = -1 by rw [show (-1 : Int32) = i3 (-1) from rfl, i3_eq ⟨by omega, by omega⟩ ⟨by decide, by decide⟩]; exact c1), if_pos hinf, hixf, (hr f hf).2]
  have loop : ∀ l : Nat, l ≤ 20 → zLq1 (l_Mod_placeFor_0 (i3 l) (i3 y) (i3 (b f)) m) zFu 0 = some (i3 (sFree (fun d => tkN pl d N) (sLen y) (l + 1) (b f))) := by
    intro l hl
    generalize hw : sFree (fun d => tkN pl d N) (sLen y) (l + 1) (b f) = w
    refine run_zLq1 (fun j x6 => ∃ k : Nat, x6 = i3 k ∧ k ≤ l + 1 ∧ j = l + 1 - k ∧ sFree (fun d => tkN pl d N) (sLen y) (l + 1 - k) (b f + k) = w) ?_ zFu (l + 1) _ ⟨0, rfl, Nat.zero_le _, rfl, by rw [Nat.sub_zero, show b f + ((0 : Nat) : Int) = b f by omega]; exact hw⟩ (by unfold zFu; omega)
    rintro r j x6 ⟨k, rfl, hk, rfl, hv⟩
    unfold l_Mod_placeFor_0
    rw [it_lt ⟨by omega, by omega⟩ ⟨by omega, by omega⟩]
    by_cases c2 : (l : Int) < k
    · left
      rw [if_pos c2, ← hv, show l + 1 - k = 0 by omega]
      rfl
    · rw [show l + 1 - k = l + 1 - (k + 1) + 1 by omega, sFree_succ] at hv
      rw [if_neg c2, i3_add, mod_within hy ⟨by omega, by omega⟩, zBP_some]
      simp only [zLet]
      have hbk := sTo_bd y (b f + k)
      rw [show (-1 : Int32) = i3 (-1) from rfl, it_m1 ⟨by omega, by omega⟩, i3_add1]
      have ek : b f + (k : Int) + 1 = b f + ((k + 1 : Nat) : Int) := by omega
      by_cases c3 : sLen y ≤ b f + k
      · right
        rw [if_pos c3] at hv
        refine ⟨_, l + 1 - (k + 1), by omega, ⟨k + 1, rfl, by omega, rfl, ?_⟩, ?_⟩
        · rw [← hv, sFree_hi (by omega)]
        · have : sTo y (b f + k) = -1 := by unfold sTo; rw [if_neg (by omega)]
          rw [if_pos this]
          rfl
      · have : ¬ sTo y (b f + k) = -1 := by unfold sTo; rw [if_pos (by omega)]; omega
        rw [if_neg c3] at hv
        rw [if_neg this, mod_isTaken h20 h19 hp hpb ⟨by omega, by omega⟩, zBP_some]
        cases htk : tkN pl (b f + k) N with
        | false =>
          left
          rw [htk, if_neg (by decide)] at hv
          rw [if_pos (show b3 false = 0 by decide), hv]
        | true =>
          right
          rw [htk, if_pos rfl, ek] at hv
          refine ⟨_, l + 1 - (k + 1), by omega, ⟨k + 1, rfl, by omega, rfl, hv⟩, ?_⟩
          rw [if_neg (show ¬ b3 true = 0 by decide)]
          rfl
  cases mv f with
  | false =>
    rw [if_pos (show b3 false = 0 by decide)]
    exact loop 0 (by decide)
  | true =>
    rw [if_neg (show ¬ b3 true = 0 by decide)]
    exact loop 20 (by decide)
end PLC
