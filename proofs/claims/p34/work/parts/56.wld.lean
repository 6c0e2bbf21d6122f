/-! BENT DAYS OF ALL FEASTS -/
theorem xgo_congr {y t : Nat} {B B' K A : Nat → Int} {n : Nat} (h : ∀ i, i < n → (K i = 4 ∨ K i = 15) → B (A i).toNat = B' (A i).toNat) : ∀ (u pc : Nat) (d : Int) (f : Bool) (c : Int), xgo y t B K A n u pc d f c = xgo y t B' K A n u pc d f c := by
  intro u
  induction u with
  | zero => intro pc d f c; rfl
  | succ u ih =>
    intro pc d f c
    by_cases e : pc < n
    · rw [xgo_go e, xgo_go e]
      have eD : xD y t B (K pc) (A pc) d = xD y t B' (K pc) (A pc) d := by
        unfold xD
        by_cases h4 : K pc = 4
        · rw [h pc e (Or.inl h4)]
        · rw [if_neg h4, if_neg h4]
      have eF : xF y B (K pc) (A pc) d f = xF y B' (K pc) (A pc) d f := by
        unfold xF sCond
        by_cases h15 : K pc = 15
        · rw [h pc e (Or.inr h15)]
        · rw [if_neg h15, if_neg h15]
      rw [eD, eF, ih]
    · rw [xgo_end (by omega), xgo_end (by omega)]
theorem xgo_bd {y t : Nat} {B K A : Nat → Int} {n : Nat} (hV : cV K A n) (hB : ∀ i, i < n → (K i = 4 ∨ K i = 15) → -1 ≤ B (A i).toNat ∧ B (A i).toNat < sLen y) : ∀ (u pc : Nat) (d : Int) (f : Bool) (c : Int), (-1 ≤ d ∧ d < sLen y) → -1 ≤ (xgo y t B K A n u pc d f c).1 ∧ (xgo y t B K A n u pc d f c).1 < sLen y := by
  intro u
  induction u with
  | zero => intro pc d f c hd; exact hd
  | succ u ih =>
    intro pc d f c hd
    by_cases e : pc < n
    · rw [xgo_go e]
      exact ih _ _ _ _ (xD_bd (hV pc e) hd (fun h4 => hB pc e (Or.inl h4)))
    · rw [xgo_end (by omega)]
      exact hd
def sBt (y t : Nat) (F Y E : Nat → Int) (nb : Nat) (Kc Ac : Nat → Nat → Int) (Lc : Nat → Nat) : Nat → Nat → Int
  | 0, _ => -1
  | k + 1, f => sBend y F Y E nb f (xgo y t (sBt y t F Y E nb Kc Ac Lc k) (Kc f) (Ac f) (Lc f) (Lc f) 0 (-1) false 0).1
def Nm (Kc Ac : Nat → Nat → Int) (Lc : Nat → Nat) (f g : Nat) : Prop := ∃ i, i < Lc f ∧ (Kc f i = 4 ∨ Kc f i = 15) ∧ Ac f i = g
/-- feasts: N of them, each with a code that may stand, naming feasts that are there -/
def VW (N : Nat) (Kc Ac : Nat → Nat → Int) (Lc : Nat → Nat) : Prop := N ≤ 20 ∧ ∀ f, f < N → Lc f ≤ 40 ∧ cV (Kc f) (Ac f) (Lc f) ∧ ∀ i, i < Lc f → (Kc f i = 4 ∨ Kc f i = 15) → (Ac f i).toNat < N
/-- and none needs itself: each stands behind those that it names -/
def RK (N : Nat) (Kc Ac : Nat → Nat → Int) (Lc : Nat → Nat) (rk : Nat → Nat) : Prop := ∀ f, f < N → rk f < N ∧ ∀ g, Nm Kc Ac Lc f g → rk g < rk f
section WLD
variable {y t N nb : Nat} {F Y E : Nat → Int} {Kc Ac : Nat → Nat → Int} {Lc rk : Nat → Nat}
theorem VW.nm (h : VW N Kc Ac Lc) {f : Nat} (hf : f < N) {i : Nat} (hi : i < Lc f) (hk : Kc f i = 4 ∨ Kc f i = 15) : Nm Kc Ac Lc f (Ac f i).toNat ∧ (Ac f i).toNat < N ∧ 0 ≤ Ac f i ∧ Ac f i ≤ 19 := by
  obtain ⟨h1, h2, h3⟩ := h.2 f hf
  have hv := h2 i hi
  have hb : 0 ≤ Ac f i ∧ Ac f i ≤ 19 := by
    unfold vStep at hv
    omega
  exact ⟨⟨i, hi, hk, by omega⟩, h3 i hi hk, hb⟩
theorem sBt_bd : ∀ (k f : Nat), VW N Kc Ac Lc → f < N → -1 ≤ sBt y t F Y E nb Kc Ac Lc k f ∧ sBt y t F Y E nb Kc Ac Lc k f < sLen y := by
  intro k
  have hL := sLen_bd y
  induction k with
  | zero =>
    intro f _ _
    show -1 ≤ (-1 : Int) ∧ (-1 : Int) < sLen y
    omega
  | succ k ih =>
    intro f hW hf
    exact sBend_bd (xgo_bd (hW.2 f hf).2.1 (fun i hi hk => ih _ hW (hW.nm hf hi hk).2.1) _ _ _ _ _ (by omega))
theorem sBt_st (hW : VW N Kc Ac Lc) (hR : RK N Kc Ac Lc rk) : ∀ (k f : Nat), f < N → rk f < k → sBt y t F Y E nb Kc Ac Lc k f = sBt y t F Y E nb Kc Ac Lc (k + 1) f := by
  intro k
  induction k with
  | zero => intro f _ h; exact absurd h (Nat.not_lt_zero _)
  | succ k ih =>
    intro f hf hk
    show sBend y F Y E nb f _ = sBend y F Y E nb f _
    rw [xgo_congr (fun i hi hkd => ?_)]
    obtain ⟨n1, n2, -⟩ := hW.nm hf hi hkd
    exact ih _ n2 (by have := (hR f hf).2 _ n1; omega)
/-- the bent day -/
def sB (y t : Nat) (F Y E : Nat → Int) (nb : Nat) (Kc Ac : Nat → Nat → Int) (Lc : Nat → Nat) : Nat → Int := sBt y t F Y E nb Kc Ac Lc 20
/-- what going through a rule gives, and costs -/
def sG (y t : Nat) (F Y E : Nat → Int) (nb : Nat) (Kc Ac : Nat → Nat → Int) (Lc : Nat → Nat) (f : Nat) : Int × Int := xgo y t (sB y t F Y E nb Kc Ac Lc) (Kc f) (Ac f) (Lc f) (Lc f) 0 (-1) false 0
theorem sB_fix (hW : VW N Kc Ac Lc) (hR : RK N Kc Ac Lc rk) {f : Nat} (hf : f < N) : sB y t F Y E nb Kc Ac Lc f = sBend y F Y E nb f (sG y t F Y E nb Kc Ac Lc f).1 := sBt_st hW hR 20 f hf (by have := (hR f hf).1; have := hW.1; omega)
theorem sB_bd (hW : VW N Kc Ac Lc) {f : Nat} (hf : f < N) : -1 ≤ sB y t F Y E nb Kc Ac Lc f ∧ sB y t F Y E nb Kc Ac Lc f < sLen y := sBt_bd 20 f hW hf
theorem sG_bd (hW : VW N Kc Ac Lc) {f : Nat} (hf : f < N) : -1 ≤ (sG y t F Y E nb Kc Ac Lc f).1 ∧ (sG y t F Y E nb Kc Ac Lc f).1 < sLen y := by
  have hL := sLen_bd y
  exact xgo_bd (hW.2 f hf).2.1 (fun i hi hk => sB_bd hW (hW.nm hf hi hk).2.1) _ _ _ _ _ (by omega)
end WLD
/-! the reference finds them -/
/-- the reference keeps the feasts so -/
def Rfe (m : Mm) (N : Nat) (Kc Ac : Nat → Nat → Int) (Lc : Nat → Nat) : Prop := zI m 201 19 = i3 N ∧ ∀ f, f < N → zI m 210 f = i3 (Lc f) ∧ ∀ i, i < Lc f → zI m 211 (80 * f + i) = i3 (Kc f i) ∧ zI m 212 (80 * f + i) = i3 (Ac f i)
/-- names, as a set -/
def nms (K A : Nat → Int) : Nat → Nat
  | 0 => 0
  | n + 1 => nms K A n ||| if K n = 4 ∨ K n = 15 then 2 ^ (A n).toNat else 0
theorem nms_succ {K A : Nat → Int} {n : Nat} : nms K A (n + 1) = nms K A n ||| if K n = 4 ∨ K n = 15 then 2 ^ (A n).toNat else 0 := rfl
theorem nms_bit {K A : Nat → Int} {g : Nat} : ∀ n, (∀ i, i < n → (K i = 4 ∨ K i = 15) → 0 ≤ A i) → ((nms K A n).testBit g = true ↔ ∃ i, i < n ∧ (K i = 4 ∨ K i = 15) ∧ A i = g) := by
  intro n
  induction n with
  | zero => intro _; simp [nms]
  | succ n ih =>
    intro hA
    rw [nms_succ, Nat.testBit_or, Bool.or_eq_true, ih (fun i hi => hA i (by omega))]
    constructor
    · rintro (⟨i, hi, hk⟩ | h)
      · exact ⟨i, by omega, hk⟩
      · by_cases hk : K n = 4 ∨ K n = 15
        · rw [if_pos hk, Nat.testBit_two_pow] at h
          have := hA n (by omega) hk
          have h := of_decide_eq_true h
          exact ⟨n, by omega, hk, by omega⟩
        · rw [if_neg hk] at h
          simp at h
    · rintro ⟨i, hi, hk, hg⟩
      by_cases e : i = n
      · subst e
        right
        have := hA i (by omega) hk
        rw [if_pos hk, Nat.testBit_two_pow, decide_eq_true_eq]
        omega
      · left
        exact ⟨i, by omega, hk, hg⟩
theorem nms_lt {K A : Nat → Int} : ∀ n, (∀ i, i < n → (K i = 4 ∨ K i = 15) → A i ≤ 19) → nms K A n < 2 ^ 20 := by
  intro n
  induction n with
  | zero =>
    intro _
    show (0 : Nat) < 2 ^ 20
    decide
  | succ n ih =>
    intro hA
    rw [nms_succ]
    refine Nat.or_lt_two_pow (ih (fun i hi => hA i (by omega))) ?_
    by_cases hk : K n = 4 ∨ K n = 15
    · rw [if_pos hk]
      have := hA n (by omega) hk
      exact Nat.pow_lt_pow_right (by decide) (by omega)
    · rw [if_neg hk]
      decide
section FND
variable {m : Mm} {y t N nb : Nat} {F Y E : Nat → Int} {Kc Ac : Nat → Nat → Int} {Lc rk : Nat → Nat}
theorem mod_named (hW : VW N Kc Ac Lc) (h : Rfe m N Kc Ac Lc) {f : Nat} (hf : f < N) : f_Mod_named (i3 f) m = some (i3 (nms (Kc f) (Ac f) (Lc f))) := by
  obtain ⟨h1, h2⟩ := h.2 f hf
  obtain ⟨w1, w2, w3⟩ := hW.2 f hf
  have h20 := hW.1
  have hinf : zIn (i3 (f : Int)) 20 := (i3_in ⟨by omega, by omega⟩).mpr ⟨by omega, by omega⟩
  have hixf : zIx (i3 (f : Int)) = f := by rw [i3_ix ⟨by omega, by omega⟩, Int.toNat_natCast]
  rw [e_Mod_named]
  refine run_zLq2 (fun j x1 x2 => ∃ i : Nat, x1 = i3 (nms (Kc f) (Ac f) i) ∧ x2 = i3 i ∧ i ≤ Lc f ∧ j = Lc f - i) ?_ zFu (Lc f) _ _ ⟨0, rfl, rfl, Nat.zero_le _, rfl⟩ (by unfold zFu; omega)
  rintro r j x1 x2 ⟨i, rfl, rfl, hi, rfl⟩
  unfold l_Mod_named_0
  rw [if_pos hinf, hixf, h1, it_le ⟨by omega, by omega⟩ ⟨by omega, by omega⟩]
  by_cases e : (Lc f : Int) ≤ i
  · left
    rw [if_pos e, show i = Lc f by omega]
  · right
    have hlt : i < Lc f := by omega
    obtain ⟨d1, d2⟩ := h2 i hlt
    have e80 : (80 : Int32) * i3 f + i3 i = i3 ((80 * f + i : Nat) : Int) := by rw [show (80 : Int32) = i3 80 from rfl, i3_mul, i3_add]; rfl
    have hin3 : zIn (i3 ((80 * f + i : Nat) : Int)) 1600 := (i3_in ⟨by omega, by omega⟩).mpr ⟨by omega, by omega⟩
    have hix3 : zIx (i3 ((80 * f + i : Nat) : Int)) = 80 * f + i := by rw [i3_ix ⟨by omega, by omega⟩, Int.toNat_natCast]
    have hbd := (w2 i hlt).bd w1
    refine ⟨_, _, Lc f - (i + 1), by omega, ⟨i + 1, rfl, rfl, hlt, rfl⟩, ?_⟩
    rw [if_neg e]
    simp only [zLet, e80, if_pos hin3, hix3, d1, d2, i3_add1]
    rw [show (4 : Int32) = i3 4 from rfl, show (15 : Int32) = i3 15 from rfl, it_eq ⟨by omega, by omega⟩ ⟨by decide, by decide⟩, it_eq ⟨by omega, by omega⟩ ⟨by decide, by decide⟩, nms_succ]
    by_cases hk : Kc f i = 4 ∨ Kc f i = 15
    · obtain ⟨-, -, n3⟩ := hW.nm hf hlt hk
      have hp := i3_pow (k := (Ac f i).toNat) (by omega)
      rw [show (((Ac f i).toNat : Nat) : Int) = Ac f i by omega] at hp
      rw [if_pos hk, ← i3_or, ← hp]
      rcases hk with hk | hk
      · rw [if_pos hk]
        rfl
      · rw [if_neg (by omega), if_pos hk]
        rfl
    · rw [if_neg hk, if_neg (fun z => hk (Or.inl z)), if_neg (fun z => hk (Or.inr z)), Nat.or_zero, Int32.or_zero]
      rfl
/-- which are found -/
def Fnd (m : Mm) (N : Nat) (P : Nat → Bool) : Prop := ∀ f, f < N → zI m 217 f = b3 (P f)
def rdy (Nn : Nat) (P : Nat → Bool) : Nat → Bool
  | 0 => true
  | i + 1 => rdy Nn P i && (!Nn.testBit i || P i)
theorem rdy_succ {Nn : Nat} {P : Nat → Bool} {i : Nat} : rdy Nn P (i + 1) = (rdy Nn P i && (!Nn.testBit i || P i)) := rfl
theorem rdy_iff {Nn : Nat} {P : Nat → Bool} : ∀ n, rdy Nn P n = true ↔ ∀ g, g < n → Nn.testBit g = true → P g = true := by
  intro n
  induction n with
  | zero => exact ⟨fun _ g hg => absurd hg (Nat.not_lt_zero g), fun _ => rfl⟩
  | succ n ih =>
    rw [rdy_succ, Bool.and_eq_true, ih]
    constructor
    · rintro ⟨h1, h2⟩ g hg hb
      by_cases e : g = n
      · subst e
        rw [hb] at h2
        exact h2
      · exact h1 g (by omega) hb
    · intro h
      refine ⟨fun g hg => h g (by omega), ?_⟩
      cases hb : Nn.testBit n with
      | false => rfl
      | true => exact h n (Nat.lt_succ_self n) hb
theorem mod_isReady (hW : VW N Kc Ac Lc) (h : Rfe m N Kc Ac Lc) {P : Nat → Bool} (hP : Fnd m N P) {f : Nat} (hf : f < N) : ∃ b : Bool, f_Mod_isReady (i3 f) m = some (b3 b) ∧ (b = true ↔ P f = false ∧ ∀ g, Nm Kc Ac Lc f g → P g = true) := by
  obtain ⟨h1, h2⟩ := h.2 f hf
  obtain ⟨w1, w2, w3⟩ := hW.2 f hf
  have h20 := hW.1
  have hinf : zIn (i3 (f : Int)) 20 := (i3_in ⟨by omega, by omega⟩).mpr ⟨by omega, by omega⟩
  have hixf : zIx (i3 (f : Int)) = f := by rw [i3_ix ⟨by omega, by omega⟩, Int.toNat_natCast]
  have hnb : ∀ g, (nms (Kc f) (Ac f) (Lc f)).testBit g = true ↔ Nm Kc Ac Lc f g := fun g => nms_bit (Lc f) (fun i hi hk => (hW.nm hf hi hk).2.2.1)
  have hnl : nms (Kc f) (Ac f) (Lc f) < 2147483648 := Nat.lt_trans (nms_lt (Lc f) (fun i hi hk => (hW.nm hf hi hk).2.2.2)) (by decide)
  have hn := mod_named hW h hf
  generalize nms (Kc f) (Ac f) (Lc f) = Nn at hnb hnl hn
  have loop : ∀ b : Bool, zLq2 (l_Mod_isReady_0 m (i3 Nn)) zFu (b3 b) 0 = some (b3 (b && rdy Nn P N)) := by
    intro b
    refine run_zLq2 (fun j x1 x2 => ∃ i : Nat, x1 = b3 (b && rdy Nn P i) ∧ x2 = i3 i ∧ i ≤ N ∧ j = N - i) ?_ zFu N _ _ ⟨0, by cases b <;> rfl, rfl, Nat.zero_le _, rfl⟩ (by unfold zFu; omega)
    rintro r j x1 x2 ⟨i, rfl, rfl, hi, rfl⟩
    unfold l_Mod_isReady_0
    rw [h.1, it_le ⟨by omega, by omega⟩ ⟨by omega, by omega⟩]
    by_cases e : (N : Int) ≤ i
    · left
      rw [if_pos e, show i = N by omega, if_pos (b3_bo _)]
    · right
      have hlt : i < N := by omega
      have hin : zIn (i3 (i : Int)) 20 := (i3_in ⟨by omega, by omega⟩).mpr ⟨by omega, by omega⟩
      have hix : zIx (i3 (i : Int)) = i := by rw [i3_ix ⟨by omega, by omega⟩, Int.toNat_natCast]
      refine ⟨_, _, N - (i + 1), by omega, ⟨i + 1, rfl, rfl, hlt, rfl⟩, ?_⟩
      rw [if_neg e, rdy_succ, ← Bool.and_assoc]
      simp only [zLet, if_pos hin, hix, hP i hlt, i3_add1, i3_tb (show i < 20 by omega) hnl]
      generalize (b && rdy Nn P i) = q
      generalize Nn.testBit i = w
      generalize P i = p
      cases q <;> cases w <;> cases p <;> rfl
  rw [e_Mod_isReady, hn, zBP_some, if_pos hinf, hixf, hP f hf]
  simp only [zLet]
  refine ⟨!P f && rdy Nn P N, ?_, ?_⟩
  · cases hp : P f with
    | false =>
      rw [if_pos (show b3 false = 0 by decide)]
      exact loop true
    | true =>
      rw [if_neg (show ¬ b3 true = 0 by decide)]
      exact loop false
  · rw [Bool.and_eq_true, rdy_iff]
    constructor
    · rintro ⟨a, b⟩
      refine ⟨by simpa using a, fun g hg => b g ?_ ((hnb g).mpr hg)⟩
      obtain ⟨i, hi, hk, hg⟩ := hg
      have := (hW.nm hf hi hk).2.1
      omega
    · rintro ⟨a, b⟩
      exact ⟨by rw [a]; rfl, fun g _ hg => b g ((hnb g).mp hg)⟩
end FND
