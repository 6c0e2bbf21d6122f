/-! A RULE IS WRITTEN: the feasts afterwards -/
def uK (Kc : Nat → Nat → Int) (p : Nat) (C : Cx) : Nat → Nat → Int := fun f i => if f = p then (C.getD i (0, 0)).1 else Kc f i
def uA (Ac : Nat → Nat → Int) (p : Nat) (C : Cx) : Nat → Nat → Int := fun f i => if f = p then (C.getD i (0, 0)).2 else Ac f i
def uL (Lc : Nat → Nat) (p n : Nat) : Nat → Nat := fun f => if f = p then n else Lc f
def uT (Tx : Nat → List Int) (p : Nat) (T : List Int) : Nat → List Int := fun f => if f = p then T else Tx f
theorem nmC_nms {C : Cx} {M : Nat} (hv : vL M 0 C) (hM : M ≤ 40) : nmC C = nms (fun i => (C.getD i (0, 0)).1) (fun i => (C.getD i (0, 0)).2) C.length := by
  refine Nat.eq_of_testBit_eq fun g => ?_
  have hb : ∀ i, i < C.length → ((C.getD i (0, 0)).1 = 4 ∨ (C.getD i (0, 0)).1 = 15) → 0 ≤ (C.getD i (0, 0)).2 ∧ (C.getD i (0, 0)).2 ≤ 19 := fun i hi c => by
    have hvs := hv i hi
    unfold vStep at hvs
    omega
  have h1 := nmC_bit (g := g) C
  have h2 := nms_bit (K := fun i => (C.getD i (0, 0)).1) (A := fun i => (C.getD i (0, 0)).2) (g := g) C.length (fun i hi c => (hb i hi c).1)
  have h3 : (∃ i, i < C.length ∧ (cNm (C.getD i (0, 0))).testBit g = true) ↔ ∃ i, i < C.length ∧ ((C.getD i (0, 0)).1 = 4 ∨ (C.getD i (0, 0)).1 = 15) ∧ (C.getD i (0, 0)).2 = g := by
    have each : ∀ i, i < C.length → ((cNm (C.getD i (0, 0))).testBit g = true ↔ (((C.getD i (0, 0)).1 = 4 ∨ (C.getD i (0, 0)).1 = 15) ∧ (C.getD i (0, 0)).2 = g)) := by
      intro i hi
      have hvs := hv i hi
      have hbd := hvs.bd hM
      unfold cNm
      by_cases c : (C.getD i (0, 0)).1 = 4 ∨ (C.getD i (0, 0)).1 = 15
      · have h19 := hb i hi c
        rw [if_pos (by omega), Nat.testBit_two_pow, decide_eq_true_eq]
        omega
      · rw [if_neg (by omega), if_neg (by omega), if_neg (by omega), if_neg (by omega)]
        exact ⟨fun z => by simp at z, fun z => absurd z.1 c⟩
    exact ⟨fun ⟨i, hi, h⟩ => ⟨i, hi, (each i hi).mp h⟩, fun ⟨i, hi, h⟩ => ⟨i, hi, (each i hi).mpr h⟩⟩
  have h4 := h1.trans (h3.trans h2.symm)
  cases e1 : (nmC C).testBit g with
  | true => exact (h4.mp e1).symm
  | false =>
    cases e2 : (nms (fun i => (C.getD i (0, 0)).1) (fun i => (C.getD i (0, 0)).2) C.length).testBit g with
    | false => rfl
    | true => rw [h4.mpr e2] at e1; exact nomatch e1
section UPW
variable {m : Mm} {N N' p : Nat} {Kc Ac : Nat → Nat → Int} {Lc rk o : Nat → Nat} {Tx : Nat → List Int} {C : Cx} {T : List Int}
theorem uK_ne {f : Nat} (h : f ≠ p) : uK Kc p C f = Kc f ∧ uA Ac p C f = Ac f ∧ ∀ n, uL Lc p n f = Lc f := ⟨funext fun i => if_neg h, funext fun i => if_neg h, fun n => if_neg h⟩
theorem uK_eq : uK Kc p C p = (fun i => (C.getD i (0, 0)).1) ∧ uA Ac p C p = (fun i => (C.getD i (0, 0)).2) ∧ ∀ n, uL Lc p n p = n := ⟨funext fun i => if_pos rfl, funext fun i => if_pos rfl, fun n => if_pos rfl⟩
theorem Nm_ne {f g : Nat} (h : f ≠ p) : Nm (uK Kc p C) (uA Ac p C) (uL Lc p C.length) f g ↔ Nm Kc Ac Lc f g := by
  obtain ⟨e1, e2, e3⟩ := uK_ne (Kc := Kc) (Ac := Ac) (Lc := Lc) (C := C) h
  unfold Nm
  rw [e1, e2, e3]
theorem Nm_eq {g : Nat} : Nm (uK Kc p C) (uA Ac p C) (uL Lc p C.length) p g ↔ ∃ i, i < C.length ∧ ((C.getD i (0, 0)).1 = 4 ∨ (C.getD i (0, 0)).1 = 15) ∧ (C.getD i (0, 0)).2 = g := by
  obtain ⟨e1, e2, e3⟩ := uK_eq (Kc := Kc) (Ac := Ac) (Lc := Lc) (C := C) (p := p)
  unfold Nm
  rw [e1, e2, e3]
theorem VW.up (hW : VW N Kc Ac Lc) (hN : N ≤ N') (h20 : N' ≤ 20) (hp : ∀ f, f < N' → f ≠ p → f < N) (hv : vL C.length 0 C) (h40 : C.length ≤ 40) (hn : ∀ i, i < C.length → ((C.getD i (0, 0)).1 = 4 ∨ (C.getD i (0, 0)).1 = 15) → (C.getD i (0, 0)).2 < N') : VW N' (uK Kc p C) (uA Ac p C) (uL Lc p C.length) := by
  refine ⟨h20, fun f hf => ?_⟩
  by_cases e : f = p
  · subst e
    obtain ⟨e1, e2, e3⟩ := uK_eq (Kc := Kc) (Ac := Ac) (Lc := Lc) (C := C) (p := f)
    rw [e1, e2, e3]
    refine ⟨h40, fun i hi => ?_, fun i hi hk => ?_⟩
    · have := hv i hi
      rw [Nat.zero_add] at this
      exact this
    · have := hn i hi hk
      have hvs := hv i hi
      show (C.getD i (0, 0)).2.toNat < N'
      unfold vStep at hvs
      omega
  · obtain ⟨e1, e2, e3⟩ := uK_ne (Kc := Kc) (Ac := Ac) (Lc := Lc) (C := C) e
    rw [e1, e2, e3]
    obtain ⟨h1, h2, h3⟩ := hW.2 f (hp f hf e)
    exact ⟨h1, h2, fun i hi hk => Nat.lt_of_lt_of_le (h3 i hi hk) hN⟩
theorem vT.up (h : vT N Kc Ac Lc Tx) (hp : ∀ f, f < N' → f ≠ p → f < N) (hC : pRule T = .inr C) : vT N' (uK Kc p C) (uA Ac p C) (uL Lc p C.length) (uT Tx p T) := by
  intro f hf
  by_cases e : f = p
  · subst e
    obtain ⟨e1, e2, e3⟩ := uK_eq (Kc := Kc) (Ac := Ac) (Lc := Lc) (C := C) (p := f)
    rw [e1, e2, e3]
    refine ⟨C, ?_, rfl, fun i hi => ⟨rfl, rfl⟩⟩
    unfold uT
    rw [if_pos rfl]
    exact hC
  · obtain ⟨e1, e2, e3⟩ := uK_ne (Kc := Kc) (Ac := Ac) (Lc := Lc) (C := C) e
    rw [e1, e2, e3]
    have := h f (hp f hf e)
    unfold uT
    rw [if_neg e]
    exact this
/-! both sides read a rule -/
theorem cls_rule (hX : iX m T) : (∃ q m1, pRule T = .inl q ∧ f_Par_readRule 17 m = some (i3 (pl T q), m1) ∧ RdC m m1 ∧ ¬ i3 (pl T q) = -1) ∨ ∃ C m1, pRule T = .inr C ∧ f_Par_readRule 17 m = some (-1, m1) ∧ RdC m m1 ∧ zI m1 20 2 = i3 C.length ∧ zI m1 20 3 = i3 ((nmC C : Nat) : Int) ∧ CA (zI m1 21) (zI m1 22) 0 C := by
  have hp := par_rule hX.1 hX.2.2.2.1
  cases e : pRule T with
  | inl q =>
    rw [e] at hp
    obtain ⟨v', FK, FA, n, nm, e1⟩ := hp
    exact Or.inl ⟨q, _, rfl, e1, RdC.of, pl_ne (le_rule e) hX.1.1⟩
  | inr C =>
    rw [e] at hp
    obtain ⟨v', FK, FA, e1, hCA⟩ := hp
    exact Or.inr ⟨C, _, rfl, e1, RdC.of, pM_n, pM_nm, hCA⟩
theorem mod_rule (hMT : MT m T) (hRB : RB m) : (∀ q, pRule T = .inl q → ∃ M, f_Mod_reads 0 m = some (i3 (pl T q), M) ∧ RdR m M ∧ RB M) ∧ ∀ C, pRule T = .inr C → ∃ M, f_Mod_reads 0 m = some (-1, M) ∧ RdR m M ∧ RB M ∧ zI M 201 11 = i3 C.length ∧ ∀ i, i < C.length → zI M 206 i = i3 (C.getD i (0, 0)).1 ∧ zI M 207 i = i3 (C.getD i (0, 0)).2 := by
  have h := ref_rule hMT hRB
  refine ⟨fun q e => ?_, fun C e => ?_⟩
  · rw [e] at h
    obtain ⟨M, dg, mo, nu, dn, e2, hb, hq⟩ := h
    exact ⟨M, e2, RdR.of hq, QF.rb hb hq⟩
  · rw [e] at h
    obtain ⟨M, dg, mo, nu, dn, e2, hb, hq⟩ := h
    refine ⟨M, e2, RdR.of hq.qf, QF.rb hb hq.qf, ?_⟩
    obtain ⟨F3, F4, F5, F6, F7, rfl, -, -, h6⟩ := hq
    refine ⟨rfl, fun i hi => ?_⟩
    have := h6 i hi
    rw [Nat.zero_add] at this
    exact this
end UPW
