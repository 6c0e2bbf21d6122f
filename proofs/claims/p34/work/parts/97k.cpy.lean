/-! WHAT IS SAID OF THE CLASS ALONE -/
section DIS
variable {m m' : Mm} {N nb nb' : Nat} {F Y E F' Y' E' : Nat → Int} {Kc Ac : Nat → Nat → Int} {Lc o : Nat → Nat} {R : Nat → Int} {mv : Nat → Bool} {Tx : Nat → List Int}
theorem c_bn (hN : N ≤ 20) (h : iC m N Kc Ac Lc o R mv F Y E nb Tx) (hF : ∀ b j, b ≠ 29 → b ≠ 30 → b ≠ 31 → (b ≠ 25 ∨ j ≠ 7) → zI m' b j = zI m b j) (hb : Cbn m' F' Y' E' nb') : iC m' N Kc Ac Lc o R mv F' Y' E' nb' Tx := by
  obtain ⟨⟨h1, h2⟩, h3, h4, -, h7, h8⟩ := h
  refine ⟨⟨?_, fun f hf => ?_⟩, fun i hi => ?_, fun f hf => ⟨?_, ?_⟩, hb, fun f hf => ?_, fun f hf => ?_⟩
  · rw [hF _ _ (by decide) (by decide) (by decide) (by decide)]; exact h1
  · obtain ⟨a1, a2, a3⟩ := h2 f hf
    refine ⟨a1, ?_, fun i hi => ⟨?_, ?_⟩⟩
    · rw [hF _ _ (by omega) (by omega) (by omega) (by omega)]; exact a2
    · rw [hF _ _ (by omega) (by omega) (by omega) (by omega)]; exact (a3 i hi).1
    · rw [hF _ _ (by omega) (by omega) (by omega) (by omega)]; exact (a3 i hi).2
  · rw [hF _ _ (by decide) (by decide) (by decide) (Or.inl (by decide))]; exact h3 i hi
  · rw [hF _ _ (by omega) (by omega) (by omega) (by omega)]; exact (h4 f hf).1
  · rw [hF _ _ (by omega) (by omega) (by omega) (by omega)]; exact (h4 f hf).2
  · obtain ⟨a1, a2, a3, a4⟩ := h7 f hf
    refine ⟨a1, ?_, fun i hi => ?_, a4⟩
    · rw [hF _ _ (by omega) (by omega) (by omega) (by omega)]; exact a2
    · rw [hF _ _ (by omega) (by omega) (by omega) (by omega)]; exact a3 i hi
  · rw [hF _ _ (by omega) (by omega) (by omega) (by omega)]; exact h8 f hf
theorem wCn_ne {n : Nat} {f y k : Int} (b j : Nat) (h1 : b ≠ 29) (h2 : b ≠ 30) (h3 : b ≠ 31) (h4 : b ≠ 25 ∨ j ≠ 7) : zI (wCn m n f y k) b j = zI m b j := by
  unfold wCn
  by_cases e : b = 25
  · subst e
    rw [zI_nk (by omega), zI_ne (by decide), zI_ne (by decide), zI_ne (by decide)]
  · rw [zI_ne e, zI_ne h3, zI_ne h2, zI_ne h1]
end DIS
section DSP
variable {m : Mm}
end DSP
theorem pl_ne {T q : List Int} (h : q.length ≤ T.length) (h40 : T.length ≤ 40) : ¬ i3 (pl T q) = -1 := by
  unfold pl
  rw [show (-1 : Int32) = i3 (-1) from rfl, i3_eq ⟨by omega, by omega⟩ ⟨by decide, by decide⟩]
  omega
section RED
variable {m : Mm} {T : List Int}
end RED
def uK (Kc : Nat → Nat → Int) (p : Nat) (C : Cx) : Nat → Nat → Int := fun f i => if f = p then (C.getD i (0, 0)).1 else Kc f i
def uA (Ac : Nat → Nat → Int) (p : Nat) (C : Cx) : Nat → Nat → Int := fun f i => if f = p then (C.getD i (0, 0)).2 else Ac f i
def uL (Lc : Nat → Nat) (p n : Nat) : Nat → Nat := fun f => if f = p then n else Lc f
def uT (Tx : Nat → List Int) (p : Nat) (T : List Int) : Nat → List Int := fun f => if f = p then T else Tx f
theorem nmC_nms {C : Cx} {M : Nat} (hv : vL M 0 C) (hM : M ≤ 40) : nmC C = nms (fun i => (C.getD i (0, 0)).1) (fun i => (C.getD i (0, 0)).2) C.length := by
  refine Nat.eq_of_testBit_eq fun g => ?_
  have hb : ∀ i, i < C.length → ((C.getD i (0, 0)).1 = 4 ∨ (C.getD i (0, 0)).1 = 15) → 0 ≤ (C.getD i (0, 0)).2 ∧ (C.getD i (0, 0)).2 ≤ 19 := fun i hi c => by
    have hvs := hv i hi
    unfold vStep at hvs
    omega
  have h1 := nmC_bit (g := g) C
  have h2 := nms_bit (K := fun i => (C.getD i (0, 0)).1) (A := fun i => (C.getD i (0, 0)).2) (g := g) C.length (fun i hi c => (hb i hi c).1)
  have h3 : (∃ i, i < C.length ∧ (cNm (C.getD i (0, 0))).testBit g = true) ↔ ∃ i, i < C.length ∧ ((C.getD i (0, 0)).1 = 4 ∨ (C.getD i (0, 0)).1 = 15) ∧ (C.getD i (0, 0)).2 = g := by
    have each : ∀ i, i < C.length → ((cNm (C.getD i (0, 0))).testBit g = true ↔ (((C.getD i (0, 0)).1 = 4 ∨ (C.getD i (0, 0)).1 = 15) ∧ (C.getD i (0, 0)).2 = g)) := by
      intro i hi
      have hvs := hv i hi
      have hbd := hvs.bd hM
      unfold cNm
      by_cases c : (C.getD i (0, 0)).1 = 4 ∨ (C.getD i (0, 0)).1 = 15
      · have h19 := hb i hi c
        rw [if_pos (by omega), Nat.testBit_two_pow, decide_eq_true_eq]
        omega
      · rw [if_neg (by omega), if_neg (by omega), if_neg (by omega), if_neg (by omega)]
        exact ⟨fun z => by simp at z, fun z => absurd z.1 c⟩
    exact ⟨fun ⟨i, hi, h⟩ => ⟨i, hi, (each i hi).mp h⟩, fun ⟨i, hi, h⟩ => ⟨i, hi, (each i hi).mpr h⟩⟩
  have h4 := h1.trans (h3.trans h2.symm)
  cases e1 : (nmC C).testBit g with
  | true => exact (h4.mp e1).symm
  | false =>
    cases e2 : (nms (fun i => (C.getD i (0, 0)).1) (fun i => (C.getD i (0, 0)).2) C.length).testBit g with
    | false => rfl
    | true => rw [h4.mpr e2] at e1; exact nomatch e1
section UPW
variable {m : Mm} {N N' p : Nat} {Kc Ac : Nat → Nat → Int} {Lc rk o : Nat → Nat} {Tx : Nat → List Int} {C : Cx} {T : List Int}
theorem uK_ne {f : Nat} (h : f ≠ p) : uK Kc p C f = Kc f ∧ uA Ac p C f = Ac f ∧ ∀ n, uL Lc p n f = Lc f := ⟨funext fun i => if_neg h, funext fun i => if_neg h, fun n => if_neg h⟩
theorem uK_eq : uK Kc p C p = (fun i => (C.getD i (0, 0)).1) ∧ uA Ac p C p = (fun i => (C.getD i (0, 0)).2) ∧ ∀ n, uL Lc p n p = n := ⟨funext fun i => if_pos rfl, funext fun i => if_pos rfl, fun n => if_pos rfl⟩
theorem Nm_ne {f g : Nat} (h : f ≠ p) : Nm (uK Kc p C) (uA Ac p C) (uL Lc p C.length) f g ↔ Nm Kc Ac Lc f g := by
  obtain ⟨e1, e2, e3⟩ := uK_ne (Kc := Kc) (Ac := Ac) (Lc := Lc) (C := C) h
  unfold Nm
  rw [e1, e2, e3]
theorem Nm_eq {g : Nat} : Nm (uK Kc p C) (uA Ac p C) (uL Lc p C.length) p g ↔ ∃ i, i < C.length ∧ ((C.getD i (0, 0)).1 = 4 ∨ (C.getD i (0, 0)).1 = 15) ∧ (C.getD i (0, 0)).2 = g := by
  obtain ⟨e1, e2, e3⟩ := uK_eq (Kc := Kc) (Ac := Ac) (Lc := Lc) (C := C) (p := p)
  unfold Nm
  rw [e1, e2, e3]
theorem VW.up (hW : VW N Kc Ac Lc) (hN : N ≤ N') (h20 : N' ≤ 20) (hp : ∀ f, f < N' → f ≠ p → f < N) (hv : vL C.length 0 C) (h40 : C.length ≤ 40) (hn : ∀ i, i < C.length → ((C.getD i (0, 0)).1 = 4 ∨ (C.getD i (0, 0)).1 = 15) → (C.getD i (0, 0)).2 < N') : VW N' (uK Kc p C) (uA Ac p C) (uL Lc p C.length) := by
  refine ⟨h20, fun f hf => ?_⟩
  by_cases e : f = p
  · subst e
    obtain ⟨e1, e2, e3⟩ := uK_eq (Kc := Kc) (Ac := Ac) (Lc := Lc) (C := C) (p := f)
    rw [e1, e2, e3]
    refine ⟨h40, fun i hi => ?_, fun i hi hk => ?_⟩
    · have := hv i hi
      rw [Nat.zero_add] at this
      exact this
    · have := hn i hi hk
      have hvs := hv i hi
      show (C.getD i (0, 0)).2.toNat < N'
      unfold vStep at hvs
      omega
  · obtain ⟨e1, e2, e3⟩ := uK_ne (Kc := Kc) (Ac := Ac) (Lc := Lc) (C := C) e
    rw [e1, e2, e3]
    obtain ⟨h1, h2, h3⟩ := hW.2 f (hp f hf e)
    exact ⟨h1, h2, fun i hi hk => Nat.lt_of_lt_of_le (h3 i hi hk) hN⟩
theorem vT.up (h : vT N Kc Ac Lc Tx) (hp : ∀ f, f < N' → f ≠ p → f < N) (hC : pRule T = .inr C) : vT N' (uK Kc p C) (uA Ac p C) (uL Lc p C.length) (uT Tx p T) := by
  intro f hf
  by_cases e : f = p
  · subst e
    obtain ⟨e1, e2, e3⟩ := uK_eq (Kc := Kc) (Ac := Ac) (Lc := Lc) (C := C) (p := f)
    rw [e1, e2, e3]
    refine ⟨C, ?_, rfl, fun i hi => ⟨rfl, rfl⟩⟩
    unfold uT
    rw [if_pos rfl]
    exact hC
  · obtain ⟨e1, e2, e3⟩ := uK_ne (Kc := Kc) (Ac := Ac) (Lc := Lc) (C := C) e
    rw [e1, e2, e3]
    have := h f (hp f hf e)
    unfold uT
    rw [if_neg e]
    exact this
end UPW
section FEA
variable {m : Mm} {p N nb : Nat} {T : List Int} {C : Cx} {F Y E : Nat → Int} {Kc Ac : Nat → Nat → Int} {Lc o : Nat → Nat} {R : Nat → Int} {mv : Nat → Bool} {Tx : Nat → List Int}
theorem c_copy (hp : p < 20) (hT : TX m 17 T) (hch : ∀ i, i < 40 → zCh (zI m 18 i)) (h2 : zI m 20 2 = i3 C.length) (h40 : C.length ≤ 40) (hA : CA (zI m 21) (zI m 22) 0 C) :
    ∃ mA m2, f_Txt_copyFrom (32 + 6 * p + 1) 17 m = some mA ∧ f_Cod_copyFrom (32 + 6 * p + 3) 20 mA = some m2 ∧ m2.2 = m.2 ∧ (∀ b j, ¬ (32 + 6 * p + 1 ≤ b ∧ b ≤ 32 + 6 * p + 5) → zI m2 b j = zI m b j) ∧ TX m2 (32 + 6 * p + 1) T ∧ Cd m2 (32 + 6 * p + 3) (fun i => (C.getD i (0, 0)).1) (fun i => (C.getD i (0, 0)).2) C.length ∧ zI m2 (32 + 6 * p + 3) 3 = zI m 20 3 := by
  obtain ⟨mA, e1, f1, g1, t1⟩ := txt_copy hp hT hch
  have k : ∀ b j, b < 32 + 6 * p + 1 ∨ 32 + 6 * p + 2 < b → zI mA b j = zI m b j := fun b j h => g1 b j (by omega) (by omega)
  obtain ⟨m2, e2, f2, g2, n2, d2⟩ := cod_copy (m := mA) hp (n := C.length) (C := C) rfl h40 (by rw [k _ _ (by omega), h2]) (fun i hi => by rw [k _ _ (by omega), k _ _ (by omega)]; exact hA i hi)
  refine ⟨mA, m2, e1, e2, f2.trans f1, fun b j h => ?_, ?_, d2, ?_⟩
  · rw [g2 b j (by omega), k b j (by omega)]
  · obtain ⟨a1, a2, a3, a4⟩ := t1
    refine ⟨a1, ?_, fun i hi => ?_, a4⟩
    · rw [g2 _ _ (by omega)]; exact a2
    · rw [g2 _ _ (by omega)]; exact a3 i hi
  · rw [n2, k _ _ (by omega)]
theorem c_new {m2 : Mm} {r : Int} {b : Bool} (hN : N < 20) (h : iC m N Kc Ac Lc o R mv F Y E nb Tx) (hv : vL C.length 0 C) (h40 : C.length ≤ 40) (h3 : zI m 20 3 = i3 ((nmC C : Nat) : Int))
    (f2 : ∀ b j, ¬ (32 + 6 * N + 1 ≤ b ∧ b ≤ 32 + 6 * N + 5) → zI m2 b j = zI m b j) (t2 : TX m2 (32 + 6 * N + 1) T) (d2 : Cd m2 (32 + 6 * N + 3) (fun i => (C.getD i (0, 0)).1) (fun i => (C.getD i (0, 0)).2) C.length) (n2 : zI m2 (32 + 6 * N + 3) 3 = zI m 20 3) :
    iC (wI (wI (wI (wI m2 27 N (i3 N)) 25 3 (i3 ((N + 1 : Nat) : Int))) (32 + 6 * N) 2 (i3 r)) (32 + 6 * N) 3 (b3 b)) (N + 1) (uK Kc N C) (uA Ac N C) (uL Lc N C.length) (fun i => if i = N then N else o i) (fun g => if g = N then r else R g) (fun g => if g = N then b else mv g) F Y E nb (uT Tx N T) := by
  generalize hV : wI (wI (wI (wI m2 27 N (i3 N)) 25 3 (i3 ((N + 1 : Nat) : Int))) (32 + 6 * N) 2 (i3 r)) (32 + 6 * N) 3 (b3 b) = V
  have v2 : ∀ b j, (b ≠ 27 ∨ j ≠ N) → (b ≠ 25 ∨ j ≠ 3) → b ≠ 32 + 6 * N → zI V b j = zI m2 b j := by
    intro b j a1 a2 a3
    rw [← hV, zI_ne a3, zI_ne a3]
    by_cases e : b = 25
    · subst e
      rw [zI_nk (by omega), zI_ne (by decide)]
    · rw [zI_ne e]
      by_cases e2 : b = 27
      · subst e2
        exact zI_nk (by omega)
      · exact zI_ne e2
  have v1 : ∀ b j, (b ≠ 27 ∨ j ≠ N) → (b ≠ 25 ∨ j ≠ 3) → ¬ (32 + 6 * N ≤ b ∧ b ≤ 32 + 6 * N + 5) → zI V b j = zI m b j := fun b j a1 a2 a3 => by rw [v2 b j a1 a2 (by omega), f2 b j (by omega)]
  obtain ⟨⟨h1, h2⟩, h3', h4, ⟨h5, h6⟩, h7, h8⟩ := h
  refine ⟨⟨?_, fun f hf => ?_⟩, fun i hi => ?_, fun g hg => ?_, ⟨?_, fun i hi => ⟨?_, ?_, ?_⟩⟩, fun f hf => ?_, fun f hf => ?_⟩
  · rw [← hV, zI_ne (by omega), zI_ne (by omega), zI_eq]
  · by_cases e : f = N
    · subst e
      obtain ⟨e1, e2, e3⟩ := uK_eq (Kc := Kc) (Ac := Ac) (Lc := Lc) (C := C) (p := f)
      rw [e1, e2, e3, ← hV]
      exact (((d2.ne (by omega)).ne (by omega)).ne (by omega)).ne (by omega)
    · obtain ⟨e1, e2, e3⟩ := uK_ne (Kc := Kc) (Ac := Ac) (Lc := Lc) (C := C) e
      rw [e1, e2, e3]
      obtain ⟨a1, a2, a3⟩ := h2 f (by omega)
      refine ⟨a1, ?_, fun i hi => ⟨?_, ?_⟩⟩
      · rw [v1 _ _ (by omega) (by omega) (by omega)]; exact a2
      · rw [v1 _ _ (by omega) (by omega) (by omega)]; exact (a3 i hi).1
      · rw [v1 _ _ (by omega) (by omega) (by omega)]; exact (a3 i hi).2
  · show _ = i3 (((if i = N then N else o i : Nat) : Nat) : Int)
    by_cases e : i = N
    · rw [if_pos e, e, ← hV, zI_ne (by omega), zI_ne (by omega), zI_ne (by decide), zI_eq]
    · rw [if_neg e, v1 _ _ (by omega) (by omega) (by omega)]
      exact h3' i (by omega)
  · show _ = i3 (if g = N then r else R g) ∧ _ = b3 (if g = N then b else mv g)
    by_cases e : g = N
    · subst e
      rw [if_pos rfl, if_pos rfl, ← hV, zI_nk (by decide), zI_eq, zI_eq]
      exact ⟨rfl, rfl⟩
    · rw [if_neg e, if_neg e, v1 _ _ (by omega) (by omega) (by omega), v1 _ _ (by omega) (by omega) (by omega)]
      exact h4 g (by omega)
  · rw [v1 _ _ (by omega) (by omega) (by omega)]; exact h5
  · rw [v1 _ _ (Or.inl (by decide)) (Or.inl (by decide)) (by omega)]; exact (h6 i hi).1
  · rw [v1 _ _ (Or.inl (by decide)) (Or.inl (by decide)) (by omega)]; exact (h6 i hi).2.1
  · rw [v1 _ _ (Or.inl (by decide)) (Or.inl (by decide)) (by omega)]; exact (h6 i hi).2.2
  · by_cases e : f = N
    · subst e
      obtain ⟨a1, a2, a3, a4⟩ := t2
      unfold uT
      rw [if_pos rfl]
      refine ⟨a1, ?_, fun i hi => ?_, a4⟩
      · rw [v2 _ _ (by omega) (by omega) (by omega)]; exact a2
      · rw [v2 _ _ (by omega) (by omega) (by omega)]; exact a3 i hi
    · obtain ⟨a1, a2, a3, a4⟩ := h7 f (by omega)
      unfold uT
      rw [if_neg e]
      refine ⟨a1, ?_, fun i hi => ?_, a4⟩
      · rw [v1 _ _ (by omega) (by omega) (by omega)]; exact a2
      · rw [v1 _ _ (by omega) (by omega) (by omega)]; exact a3 i hi
  · by_cases e : f = N
    · subst e
      obtain ⟨e1, e2, e3⟩ := uK_eq (Kc := Kc) (Ac := Ac) (Lc := Lc) (C := C) (p := f)
      rw [e1, e2, e3, v2 _ _ (by omega) (by omega) (by omega), n2, h3, nmC_nms hv h40]
    · obtain ⟨e1, e2, e3⟩ := uK_ne (Kc := Kc) (Ac := Ac) (Lc := Lc) (C := C) e
      rw [e1, e2, e3, v1 _ _ (by omega) (by omega) (by omega)]
      exact h8 f (by omega)
end FEA
section FEB
variable {m : Mm}
end FEB
section SM2
variable {m : Mm}
theorem c_set {N nb f : Nat} {r : Int} {b : Bool} {F Y E : Nat → Int} {Kc Ac : Nat → Nat → Int} {Lc o : Nat → Nat} {R : Nat → Int} {mv : Nat → Bool} {Tx : Nat → List Int} (hN : N ≤ 20) (h : iC m N Kc Ac Lc o R mv F Y E nb Tx) : iC (wI (wI m (32 + 6 * f) 2 (i3 r)) (32 + 6 * f) 3 (b3 b)) N Kc Ac Lc o (fun g => if g = f then r else R g) (fun g => if g = f then b else mv g) F Y E nb Tx := by
  obtain ⟨⟨h1, h2⟩, h3, h4, ⟨h5, h6⟩, h7, h8⟩ := h
  have ne : ∀ c j, c ≠ 32 + 6 * f → zI (wI (wI m (32 + 6 * f) 2 (i3 r)) (32 + 6 * f) 3 (b3 b)) c j = zI m c j := fun c j hc => by rw [zI_ne hc, zI_ne hc]
  refine ⟨⟨?_, fun g hg => ((h2 g hg).ne (by omega)).ne (by omega)⟩, fun i hi => ?_, fun g hg => ?_, ⟨?_, fun i hi => ⟨?_, ?_, ?_⟩⟩, fun g hg => ?_, fun g hg => ?_⟩
  · rw [ne _ _ (by omega)]; exact h1
  · rw [ne _ _ (by omega)]; exact h3 i hi
  · show _ = i3 (if g = f then r else R g) ∧ _ = b3 (if g = f then b else mv g)
    by_cases e : g = f
    · subst e
      rw [if_pos rfl, if_pos rfl, zI_nk (by decide), zI_eq, zI_eq]
      exact ⟨rfl, rfl⟩
    · rw [if_neg e, if_neg e, ne _ _ (by omega), ne _ _ (by omega)]
      exact h4 g hg
  · rw [ne _ _ (by omega)]; exact h5
  · rw [ne _ _ (by omega)]; exact (h6 i hi).1
  · rw [ne _ _ (by omega)]; exact (h6 i hi).2.1
  · rw [ne _ _ (by omega)]; exact (h6 i hi).2.2
  · obtain ⟨a1, a2, a3, a4⟩ := h7 g hg
    refine ⟨a1, ?_, fun i hi => ?_, a4⟩
    · rw [ne _ _ (by omega)]; exact a2
    · rw [ne _ _ (by omega)]; exact a3 i hi
  · rw [ne _ _ (by omega)]; exact h8 g hg
end SM2
section SEA
variable {m : Mm} {N : Nat} {C C' : Cx} {T : List Int}
theorem cNm_q {k x : Int} (h : qCl k x) : (cNm (k, x) < 2 ^ N ↔ qNm N k x) ∧ cNm (k, x) < 2 ^ 20 := by
  have one : ∀ a : Nat, 2 ^ a < 2 ^ N ↔ a < N := fun a => Nat.pow_lt_pow_iff_right (by decide)
  have one20 : ∀ a : Nat, a < 20 → 2 ^ a < 2 ^ 20 := fun a h => Nat.pow_lt_pow_right (by decide) h
  have two : ∀ a b : Nat, 2 ^ a ||| 2 ^ b < 2 ^ N ↔ a < N ∧ b < N := by
    intro a b
    constructor
    · intro h
      exact ⟨(one a).mp (Nat.lt_of_le_of_lt Nat.left_le_or h), (one b).mp (Nat.lt_of_le_of_lt Nat.right_le_or h)⟩
    · intro ⟨h1, h2⟩
      exact Nat.or_lt_two_pow ((one a).mpr h1) ((one b).mpr h2)
  unfold cNm qNm
  rcases h with ⟨rfl, rfl⟩ | ⟨rfl, h0, h1⟩ | ⟨rfl, h0, h1, h2⟩ | ⟨rfl, h0, h1⟩ | ⟨rfl, h0, h1, h2⟩
  · rw [if_neg (by decide), if_neg (by decide), if_neg (by decide), if_neg (by decide)]
    exact ⟨⟨fun _ => ⟨fun z => absurd z (by decide), fun z => absurd z (by decide), fun z => absurd z (by decide), fun z => absurd z (by decide)⟩, fun _ => Nat.two_pow_pos N⟩, by decide⟩
  · rw [if_neg (by show ¬ ((22 : Int) = 4 ∨ (22 : Int) = 15 ∨ (22 : Int) = 24); decide), if_pos (show (22 : Int) = 22 from rfl)]
    show (2 ^ (x / 10000).toNat < 2 ^ N ↔ _) ∧ 2 ^ (x / 10000).toNat < 2 ^ 20
    rw [one]
    refine ⟨⟨fun h => ⟨fun _ => by omega, fun z => absurd z (by decide), fun z => absurd z (by decide), fun z => absurd z (by decide)⟩, fun h => ?_⟩, one20 _ (by omega)⟩
    have := h.1 rfl
    omega
  · rw [if_neg (by show ¬ ((23 : Int) = 4 ∨ (23 : Int) = 15 ∨ (23 : Int) = 24); decide), if_neg (by show ¬ ((23 : Int) = 22); decide), if_pos (show (23 : Int) = 23 from rfl)]
    show (2 ^ (x / 10).toNat < 2 ^ N ↔ _) ∧ 2 ^ (x / 10).toNat < 2 ^ 20
    rw [one]
    refine ⟨⟨fun h => ⟨fun z => absurd z (by decide), fun _ => by omega, fun z => absurd z (by decide), fun z => absurd z (by decide)⟩, fun h => ?_⟩, one20 _ (by omega)⟩
    have := h.2.1 rfl
    omega
  · rw [if_pos (show (24 : Int) = 4 ∨ (24 : Int) = 15 ∨ (24 : Int) = 24 from Or.inr (Or.inr rfl))]
    show (2 ^ x.toNat < 2 ^ N ↔ _) ∧ 2 ^ x.toNat < 2 ^ 20
    rw [one]
    refine ⟨⟨fun h => ⟨fun z => absurd z (by decide), fun z => absurd z (by decide), fun _ => by omega, fun z => absurd z (by decide)⟩, fun h => ?_⟩, one20 _ (by omega)⟩
    have := h.2.2.1 rfl
    omega
  · rw [if_neg (by show ¬ ((25 : Int) = 4 ∨ (25 : Int) = 15 ∨ (25 : Int) = 24); decide), if_neg (by show ¬ ((25 : Int) = 22); decide), if_neg (by show ¬ ((25 : Int) = 23); decide), if_pos (show (25 : Int) = 25 from rfl)]
    show (2 ^ (x / 100).toNat ||| 2 ^ (x % 100).toNat < 2 ^ N ↔ _) ∧ 2 ^ (x / 100).toNat ||| 2 ^ (x % 100).toNat < 2 ^ 20
    rw [two]
    refine ⟨⟨fun h => ⟨fun z => absurd z (by decide), fun z => absurd z (by decide), fun z => absurd z (by decide), fun _ => by omega⟩, fun h => ?_⟩, Nat.or_lt_two_pow (one20 _ (by omega)) (one20 _ (by omega))⟩
    have := h.2.2.2 rfl
    omega
theorem qNm_no {k x : Int} (h : k < 22 ∨ 25 < k) : qNm N k x := ⟨fun z => by omega, fun z => by omega, fun z => by omega, fun z => by omega⟩
theorem or_lt {a b : Nat} : a ||| b < 2 ^ N ↔ a < 2 ^ N ∧ b < 2 ^ N := ⟨fun h => ⟨Nat.lt_of_le_of_lt Nat.left_le_or h, Nat.lt_of_le_of_lt Nat.right_le_or h⟩, fun ⟨h1, h2⟩ => Nat.or_lt_two_pow h1 h2⟩
theorem nm_code {M : Nat} : ∀ (C : Cx) (n : Nat), qL M n C → nmC C < 2 ^ N → ∀ q, q ∈ C → qNm N q.1 q.2
  | [], _, _, _ => fun q hq => absurd hq List.not_mem_nil
  | q :: C, n, h, hn => by
    have e : nmC (q :: C) = cNm q ||| nmC C := rfl
    rw [e, or_lt] at hn
    have h0 := h 0 (by simp)
    have h0 : qStep M n q.1 q.2 := h0
    intro z hz
    rcases List.mem_cons.mp hz with rfl | hz
    · unfold qStep at h0
      rcases h0 with h0 | h0
      · exact (cNm_q h0).1.mp hn.1
      · exact qNm_no (by omega)
    · exact nm_code C (n + 1) (fun i hi => by
        have := h (i + 1) (by simp; omega)
        rw [show n + (i + 1) = n + 1 + i by omega] at this
        exact this) hn.2 z hz
end SEA
section SE2
variable {m : Mm} {N : Nat} {C C' : Cx} {T : List Int}
theorem cod_copyQ {n : Nat} (hn : n = C.length) (h40 : n ≤ 40) (h2 : zI m 20 2 = i3 n) (hA : CA (zI m 21) (zI m 22) 0 C) : ∃ m', f_Cod_copyFrom 171 20 m = some m' ∧ m'.2 = m.2 ∧ (∀ b j, b < 171 ∨ 173 < b → zI m' b j = zI m b j) ∧ Cd m' 171 (fun i => (C.getD i (0, 0)).1) (fun i => (C.getD i (0, 0)).2) n := by
  have hl : zLn (20 + 1) = 40 ∧ zLn (20 + 2) = 40 ∧ zLn (171 + 1) = 40 ∧ zLn (171 + 2) = 40 := by decide +kernel
  have hx : zIx (40 : Int32) = 40 := by decide
  unfold f_Cod_copyFrom
  rw [if_pos (show zCpy m 0 (20 + 1) (171 + 1) 40 from ⟨by decide, by rw [hx, hl.1]; exact Nat.le_refl _, by rw [hx, hl.2.2.1]; exact Nat.le_refl _, fun z => absurd z (by decide)⟩)]
  simp only [zLet]
  rw [if_pos (show zCpy (wC m (20 + 1) (171 + 1) (zIx 40)) 0 (20 + 2) (171 + 2) 40 from ⟨by decide, by rw [hx, hl.2.1]; exact Nat.le_refl _, by rw [hx, hl.2.2.2]; exact Nat.le_refl _, fun z => absurd z (by decide)⟩)]
  rw [hx]
  generalize hm2 : wC (wC m (20 + 1) (171 + 1) 40) (20 + 2) (171 + 2) 40 = m2
  have k0 : ∀ b j, b ≠ 172 → b ≠ 173 → zI m2 b j = zI m b j := fun b j h1 h2 => by rw [← hm2, zI_wC, if_neg (fun z => by omega), zI_wC, if_neg (fun z => by omega)]
  have k1 : ∀ i, i < 40 → zI m2 172 i = zI m 21 i := fun i hi => by rw [← hm2, zI_wC, if_neg (fun z => by omega), zI_wC, if_pos ⟨rfl, hi⟩]
  have k2 : ∀ i, i < 40 → zI m2 173 i = zI m 22 i := fun i hi => by rw [← hm2, zI_wC, if_pos ⟨rfl, hi⟩, zI_wC, if_neg (fun z => by omega)]
  have hm : m2.2 = m.2 := by rw [← hm2]; rfl
  refine ⟨_, rfl, hm, fun b j hb => ?_, h40, ?_, fun i hi => ⟨?_, ?_⟩⟩
  · rw [zI_ne (by omega), zI_ne (by omega), k0 _ _ (by omega) (by omega)]
  · rw [zI_nk (by decide), zI_eq, k0 _ _ (by decide) (by decide), h2]
  · rw [zI_ne (by decide), zI_ne (by decide), k1 i (by omega)]
    have := (hA i (by omega)).1
    rw [Nat.zero_add] at this
    exact this
  · rw [zI_ne (by decide), zI_ne (by decide), k2 i (by omega)]
    have := (hA i (by omega)).2
    rw [Nat.zero_add] at this
    exact this
theorem getD_mem {i : Nat} (h : i < C.length) : C.getD i (0, 0) ∈ C := by
  rw [List.getD_eq_getElem?_getD, List.getElem?_eq_getElem h]
  exact List.getElem_mem h
end SE2
theorem xgo_cost {y t : Nat} {B K A : Nat → Int} {n : Nat} : ∀ (u pc : Nat) (d : Int) (f : Bool) (c : Int), c ≤ (xgo y t B K A n u pc d f c).2 ∧ (xgo y t B K A n u pc d f c).2 ≤ c + 6 * u
  | 0, _, _, _, c => by show c ≤ c ∧ c ≤ c + 6 * ((0 : Nat) : Int); omega
  | u + 1, pc, d, f, c => by
    by_cases e : pc < n
    · rw [xgo_go e]
      have h := xgo_cost (y := y) (t := t) (B := B) (K := K) (A := A) (n := n) u (xN (K pc) (A pc) pc (xF y B (K pc) (A pc) d f)) (xD y t B (K pc) (A pc) d) (xF y B (K pc) (A pc) d f) (c + sCost (K pc))
      have := sCost_bd (K pc)
      omega
    · rw [xgo_end (by omega)]
      show c ≤ c ∧ c ≤ c + 6 * ((u + 1 : Nat) : Int)
      omega
theorem sSum_bd {c : Nat → Int} : ∀ n : Nat, (∀ i, i < n → 0 ≤ c i ∧ c i ≤ 240) → 1 ≤ sSum c n ∧ sSum c n ≤ 1 + 240 * n
  | 0, _ => by show (1 : Int) ≤ 1 ∧ (1 : Int) ≤ 1 + 240 * ((0 : Nat) : Int); omega
  | n + 1, h => by
    have := sSum_bd n (fun i hi => h i (by omega))
    have := h n (by omega)
    unfold sSum
    omega
def gG (cs : Nat → Int) (hl : Nat → Bool) : Nat → Int → Nat → Int64 → Int × Nat × Int64
  | 0, _, y, pd => (-1, y, pd)
  | u + 1, l, y, pd => if cs y ≤ l then (if hl y = true then ((y : Int), y + 1, pd + (i3 (cs y)).toInt64) else gG cs hl u (l - cs y) (y + 1) (pd + (i3 (cs y)).toInt64)) else (-2, y, pd)
theorem gG_bd {cs : Nat → Int} {hl : Nat → Bool} : ∀ (u : Nat) (l : Int) (y : Nat) (pd : Int64), y + u ≤ 400 → (gG cs hl u l y pd).2.1 ≤ 400
  | 0, _, y, _, h => by show y ≤ 400; omega
  | u + 1, l, y, pd, h => by
    unfold gG
    split
    · split
      · show y + 1 ≤ 400; omega
      · exact gG_bd u _ _ _ (by omega)
    · show y ≤ 400; omega
section GON
variable {m : Mm} {t N nb : Nat} {F Y E : Nat → Int} {Kc Ac : Nat → Nat → Int} {Lc rk o : Nat → Nat} {R : Nat → Int} {mv : Nat → Bool} {Tx : Nat → List Int} {C C' : Cx}
def cYr (y t : Nat) (F Y E : Nat → Int) (nb : Nat) (Kc Ac : Nat → Nat → Int) (Lc : Nat → Nat) (N : Nat) : Int := sSum (fun f => (sG y t F Y E nb Kc Ac Lc f).2) N
def hYr (y t : Nat) (F Y E : Nat → Int) (nb : Nat) (Kc Ac : Nat → Nat → Int) (Lc : Nat → Nat) (N : Nat) (R : Nat → Int) (mv : Nat → Bool) (C : Cx) : Bool := qgo (sQ y N (sB y t F Y E nb Kc Ac Lc) (sAll N (sLen y) (sB y t F Y E nb Kc Ac Lc) R mv 10)) (fun i => (C.getD i (0, 0)).1) (fun i => (C.getD i (0, 0)).2) C.length C.length 0 false
theorem cYr_bd {y : Nat} (hW : VW N Kc Ac Lc) : 1 ≤ cYr y t F Y E nb Kc Ac Lc N ∧ cYr y t F Y E nb Kc Ac Lc N ≤ 4801 := by
  have h20 := hW.1
  have := sSum_bd (c := fun f => (sG y t F Y E nb Kc Ac Lc f).2) N (fun f hf => by
    have h40 := (hW.2 f hf).1
    have := xgo_cost (y := y) (t := t) (B := sB y t F Y E nb Kc Ac Lc) (K := Kc f) (A := Ac f) (n := Lc f) (Lc f) 0 (-1) false 0
    show 0 ≤ (sG y t F Y E nb Kc Ac Lc f).2 ∧ (sG y t F Y E nb Kc Ac Lc f).2 ≤ 240
    unfold sG
    omega)
  unfold cYr
  omega
theorem c_look (hT : kTb m t) (hW : iW N Kc Ac Lc rk o R F Y E nb Tx) (hC : iC m N Kc Ac Lc o R mv F Y E nb Tx) (hQ : Cd m 171 (fun i => (C.getD i (0, 0)).1) (fun i => (C.getD i (0, 0)).2) C.length) (hq : ∀ i, i < C.length → qStep C.length i (C.getD i (0, 0)).1 (C.getD i (0, 0)).2 ∧ qNm N (C.getD i (0, 0)).1 (C.getD i (0, 0)).2) {l0 : Int} (hl0 : 0 ≤ l0 ∧ l0 ≤ 100000) {y0 : Nat} (hy0 : y0 ≤ 400) (h170 : zI m 170 2 = i3 y0)
    {g : Int × Nat × Int64} (hg : gG (fun y => cYr y t F Y E nb Kc Ac Lc N) (fun y => hYr y t F Y E nb Kc Ac Lc N R mv C) (400 - y0) l0 y0 (zL m 170 3) = g) :
    ∃ mF, f_Sol_look (i3 l0) 152 (i3 t) m = some (i3 g.1, mF) ∧ (∀ b j, ¬ (152 ≤ b ∧ b ≤ 157) → (b ≠ 170 ∨ j ≠ 2) → zI mF b j = zI m b j) ∧ zI mF 170 2 = i3 g.2.1 ∧ zL mF 170 3 = g.2.2 ∧ ∀ b j, (b ≠ 170 ∨ j ≠ 3) → zL mF b j = zL m b j := by
  obtain ⟨w1, w2, w3, w4, w5, w6, w7⟩ := hW
  have h20 := w1.1
  have h40 := hQ.1
  rw [e_Sol_look, zLet_eq, h170]
  refine ex_zLp2 (Q := fun X => ∃ mF, X = some (i3 g.1, mF) ∧ (∀ b j, ¬ (152 ≤ b ∧ b ≤ 157) → (b ≠ 170 ∨ j ≠ 2) → zI mF b j = zI m b j) ∧ zI mF 170 2 = i3 g.2.1 ∧ zL mF 170 3 = g.2.2 ∧ ∀ b j, (b ≠ 170 ∨ j ≠ 3) → zL mF b j = zL m b j)
    (fun j x2 x3 mm => ∃ (l : Int) (y : Nat), x2 = i3 l ∧ x3 = i3 y ∧ (0 ≤ l ∧ l ≤ 100000) ∧ y ≤ 400 ∧ j = 400 - y ∧ (∀ b j, ¬ (152 ≤ b ∧ b ≤ 157) → (b ≠ 170 ∨ j ≠ 2) → zI mm b j = zI m b j) ∧ zI mm 170 2 = i3 y ∧ (∀ b j, (b ≠ 170 ∨ j ≠ 3) → zL mm b j = zL m b j) ∧ gG (fun y => cYr y t F Y E nb Kc Ac Lc N) (fun y => hYr y t F Y E nb Kc Ac Lc N R mv C) (400 - y) l y (zL mm 170 3) = g) ?_ zFu (400 - y0) _ _ _ ⟨l0, y0, rfl, rfl, hl0, hy0, rfl, fun _ _ _ _ => rfl, h170, fun _ _ _ => rfl, hg⟩ (by unfold zFu; omega)
  rintro r j x2 x3 mm ⟨l, y, rfl, rfl, hl, hy, rfl, hmm, h2, hL, hgm⟩
  unfold l_Sol_look_0
  rw [show (399 : Int32) = i3 399 from rfl, it_lt ⟨by decide, by decide⟩ ⟨by omega, by omega⟩]
  by_cases e : (399 : Int) < y
  · left
    obtain rfl : y = 400 := by omega
    have : g = (-1, 400, zL mm 170 3) := hgm.symm
    subst this
    rw [if_pos e]
    exact ⟨mm, rfl, hmm, h2, rfl, hL⟩
  · have hy4 : y < 400 := by omega
    have hLn := sLen_bd y
    obtain ⟨u, hu⟩ : ∃ u, 400 - y = u + 1 := ⟨399 - y, by omega⟩
    have hCm : iC mm N Kc Ac Lc o R mv F Y E nb Tx := hC.gx h20 (fun b j q => hmm b j (by omega) (by omega))
    have hcb := cYr_bd (y := y) (t := t) (F := F) (Y := Y) (E := E) (nb := nb) w1
    obtain ⟨m7, e7, hFB, k6, k7, kW, hv7⟩ := boo_reckon (m := mm) (a := 152) (by decide) hy4 hT.1 w1 w2 w5 w6 hCm.1 hCm.2.2.2.1 hCm.2.1 w3
    have hS7 := hFB.sf (Or.inl rfl)
    have hC7 := hCm.fx h20 hS7
    have ec : f_Boo_costOfAll 152 m7 = some (i3 (cYr y t F Y E nb Kc Ac Lc N)) := boo_costs (c := fun f => (sG y t F Y E nb Kc Ac Lc f).2) h20 hC7.1.1 (fun f hf => (hv7 f hf).2)
    have l7 : ∀ b j, zL m7 b j = zL mm b j := fun b j => zL_of hFB.1 b j
    rw [if_neg e, e7, zBV_some, ec, zBP_some, it_le ⟨by omega, by omega⟩ ⟨by omega, by omega⟩]
    rw [hu] at hgm
    unfold gG at hgm
    by_cases cc : cYr y t F Y E nb Kc Ac Lc N ≤ l
    · rw [if_pos cc] at hgm
      rw [if_pos cc, zLet_eq, zLet_eq, zLet_eq]
      generalize hmB : wI (wL m7 170 3 (zL m7 170 3 + (i3 (cYr y t F Y E nb Kc Ac Lc N)).toInt64)) 170 2 (i3 (y : Int) + 1) = mB
      have zB : ∀ b j, (b ≠ 170 ∨ j ≠ 2) → zI mB b j = zI m7 b j := by
        intro b j hb
        rw [← hmB]
        by_cases eb : b = 170
        · subst eb
          rw [zI_nk (by omega)]
          rfl
        · rw [zI_ne eb]
          rfl
      have lB : ∀ b j, zL mB b j = if b = 170 ∧ j = 3 then zL mm 170 3 + (i3 (cYr y t F Y E nb Kc Ac Lc N)).toInt64 else zL mm b j := by
        intro b j
        rw [← hmB]
        show (if b = 170 ∧ j = 3 then zL m7 170 3 + _ else zL m7 b j) = _
        rw [l7, l7]
      have sfB : SF mB mB := SF.refl
      have hCB : iC mB N Kc Ac Lc o R mv F Y E nb Tx := hC7.gx h20 (fun b j q => zB b j (by omega))
      obtain ⟨mP, eP, hF2, hvP, -⟩ := boo_placeAll (m := mB) (a := 152) (R := R) (mv := mv) (L := sLen y) (b := sB y t F Y E nb Kc Ac Lc) (by decide) h20 (by omega) hCB.2.2.1 w4 hCB.1.1 (by rw [zB _ _ (by decide), k7]) (fun f hf => ⟨by rw [zB _ _ (Or.inl (by decide))]; exact (hv7 f hf).1, sB_bd w1 hf⟩)
      have zP : ∀ b j, b ≠ 156 → b ≠ 157 → (b ≠ 170 ∨ j ≠ 2) → zI mP b j = zI m7 b j := fun b j q1 q2 q3 => by rw [hF2.2 b j q1 q2, zB b j q3]
      have zPm : ∀ b j, ¬ (152 ≤ b ∧ b ≤ 157) → (b ≠ 170 ∨ j ≠ 2) → zI mP b j = zI m b j := fun b j q1 q2 => by rw [zP b j (by omega) (by omega) q2, hFB.2.1 b j (by omega), hmm b j q1 q2]
      have hpb : ∀ f, f < N → -1 ≤ sAll N (sLen y) (sB y t F Y E nb Kc Ac Lc) R mv 10 f ∧ sAll N (sLen y) (sB y t F Y E nb Kc Ac Lc) R mv 10 f < sLen y := fun f _ => sAll_bd (by omega) (fun f hf => (sB_bd w1 hf).1) 10 f
      have hQP : Cd mP 171 (fun i => (C.getD i (0, 0)).1) (fun i => (C.getD i (0, 0)).2) C.length := by
        obtain ⟨d1, d2, d3⟩ := hQ
        refine ⟨d1, ?_, fun i hi => ⟨?_, ?_⟩⟩
        · rw [zPm _ _ (by decide) (by decide)]; exact d2
        · rw [zPm _ _ (by decide) (Or.inl (by decide))]; exact (d3 i hi).1
        · rw [zPm _ _ (by decide) (Or.inl (by decide))]; exact (d3 i hi).2
      obtain ⟨mH, eH, hH⟩ := sol_holds (m := mP) (a := 152) (y := y) (t := t) (b := sB y t F Y E nb Kc Ac Lc) (p := sAll N (sLen y) (sB y t F Y E nb Kc Ac Lc) R mv 10) rfl hy4 h20 (by rw [zPm _ _ (by decide) (by decide)]; exact hC.1.1) (by rw [zP _ _ (by decide) (by decide) (by decide)]; exact k6) (fun h0 => by
        have hk := kW h0
        obtain ⟨g0, g1, g2, g3, g4, g5⟩ := hk
        exact ⟨g0, by rw [zP _ _ (by decide) (by decide) (by decide)]; exact g1, by rw [zP _ _ (by decide) (by decide) (by decide)]; exact g2, by rw [zP _ _ (by decide) (by decide) (by decide)]; exact g3, by rw [zP _ _ (by decide) (by decide) (by decide)]; exact g4, by rw [zP _ _ (by decide) (by decide) (by decide)]; exact g5⟩) (fun f hf => ⟨by rw [zP _ _ (by decide) (by decide) (Or.inl (by decide))]; exact (hv7 f hf).1, by have := sB_bd (y := y) (t := t) (F := F) (Y := Y) (E := E) (nb := nb) w1 hf; omega⟩) (fun f hf => ⟨hvP f hf, hpb f hf⟩) hQP hq
      have zH : ∀ b j, ¬ (152 ≤ b ∧ b ≤ 157) → zI mH b j = zI mP b j := by
        intro b j hb
        rcases hH with rfl | ⟨v, rfl⟩
        · rfl
        · exact zI_ne (by omega)
      have lH : ∀ b j, zL mH b j = zL mB b j := by
        intro b j
        have : zL mH b j = zL mP b j := by
          rcases hH with rfl | ⟨v, rfl⟩
          · rfl
          · rfl
        rw [this, zL_of hF2.1]
      have r1 : ∀ b j, ¬ (152 ≤ b ∧ b ≤ 157) → (b ≠ 170 ∨ j ≠ 2) → zI mH b j = zI m b j := fun b j q1 q2 => by rw [zH b j q1, zPm b j q1 q2]
      have r2 : zI mH 170 2 = i3 ((y + 1 : Nat) : Int) := by
        rw [zH _ _ (by decide), hF2.2 _ _ (by decide) (by decide), ← hmB, zI_eq]
        exact i3_add1 _
      have r3 : ∀ b j, (b ≠ 170 ∨ j ≠ 3) → zL mH b j = zL m b j := fun b j q => by rw [lH, lB, if_neg (by omega), hL b j q]
      have r4 : zL mH 170 3 = zL mm 170 3 + (i3 (cYr y t F Y E nb Kc Ac Lc N)).toInt64 := by rw [lH, lB, if_pos ⟨rfl, rfl⟩]
      have eH' : f_Sol_questionHolds 152 mP = some (b3 (hYr y t F Y E nb Kc Ac Lc N R mv C), mH) := eH
      rw [eP, zBV_some, eH', zBI_some]
      cases hh : hYr y t F Y E nb Kc Ac Lc N R mv C with
      | false =>
        right
        rw [hh, if_neg (by decide)] at hgm
        rw [if_pos (show b3 false = 0 by decide), zLet_eq, i3_add1, i3_sub]
        refine ⟨_, _, mH, 400 - (y + 1), by omega, ⟨l - cYr y t F Y E nb Kc Ac Lc N, y + 1, rfl, rfl, by omega, by omega, rfl, r1, r2, r3, ?_⟩, rfl⟩
        rw [show 400 - (y + 1) = u by omega, r4]
        exact hgm
      | true =>
        left
        rw [hh, if_pos rfl] at hgm
        subst hgm
        rw [if_neg (show ¬ b3 true = 0 by decide)]
        exact ⟨mH, rfl, r1, r2, r4, r3⟩
    · left
      rw [if_neg cc] at hgm
      subst hgm
      rw [if_neg cc]
      exact ⟨m7, rfl, fun b j q1 q2 => by rw [hFB.2.1 b j (by omega), hmm b j q1 q2], by rw [hFB.2.1 _ _ (by decide), h2], l7 _ _, fun b j q => by rw [l7, hL b j q]⟩
end GON
section GOO
variable {m : Mm}
end GOO
