/-! THE LAW'S TEXTS: rules and questions -/
def stC0 (kd : Int) : Int := if kd = 1 then 68 else if kd = 2 then 78 else if kd = 3 then 76 else 70
def kd0 (kd : Int) : Nat := if kd = 3 then 3 else if kd = 4 then 2 else 4
def whC (w : Int) : Int := if w = 13 then 87 else if w = 14 then 89 else if w = 15 then 65 else 69
def cnD (w : Int) : Nat := if w = 13 then 1 else if w = 15 then 2 else 4
def cnT (c : Int) : List Int := if c = 0 then [] else [63] ++ (if c < 0 then [33] else []) ++ [whC ((c.natAbs : Int) / 10000)] ++ (if (c.natAbs : Int) / 10000 = 14 then [] else dgs (cnD ((c.natAbs : Int) / 10000)) ((c.natAbs : Int) % 10000)) ++ [123]
def elT (f : Nat → Int) : List Int := if f 1 = 0 ∨ f 3 < 0 then [] else [123] ++ stT (f 3) ++ [125]
def rlT (f : Nat → Int) : List Int := [stC0 (f 0 / 10000)] ++ dgs (kd0 (f 0 / 10000)) (f 0 % 10000) ++ cnT (f 1) ++ stT (f 2) ++ (if f 1 = 0 then [] else [125]) ++ elT f ++ stT (f 4) ++ stT (f 5)
theorem ad4 (a : Nat) : i3 (a : Int) + 4 = i3 ((a + 4 : Nat) : Int) := ad_i a 4
theorem ad5 (a : Nat) : i3 (a : Int) + 5 = i3 ((a + 5 : Nat) : Int) := ad_i a 5
theorem cnD_bd (w : Int) : 1 ≤ cnD w ∧ cnD w ≤ 4 := by
  unfold cnD
  split
  · omega
  · split <;> omega
theorem kd0_bd (w : Int) : 1 ≤ kd0 w ∧ kd0 w ≤ 4 := by
  unfold kd0
  split
  · omega
  · split <;> omega
section LRT
variable {m : Mm} {T : List Int} {k : Nat} {f : Nat → Int}
theorem k_neg {c : Int} (hc : -200000 ≤ c ∧ c ≤ 200000) (hX : kX m T) (h40 : T.length < 40) : ∃ m1, (∀ J : Mm → Option Mm, (zLet J fun j => if 0 ≤ i3 c then j m else zBI (n_Loo_type 33 m) fun _ m1 => j m1) = J m1) ∧ kX m1 (T ++ if c < 0 then [33] else []) ∧ FxX m m1 := by
  by_cases h : c < 0
  · obtain ⟨m1, e1, hX1, hF1⟩ := k_type (v := 33) hX ⟨by decide, by decide⟩ h40
    have e1' : n_Loo_type 33 m = some (i3 ((T.length + 1 : Nat) : Int), m1) := e1
    refine ⟨m1, fun J => ?_, by rw [if_pos h]; exact hX1, hF1⟩
    rw [zLet_q, it_0le ⟨by omega, by omega⟩, if_neg (by omega), e1', zBI_some]
  · refine ⟨m, fun J => ?_, by rw [if_neg h, List.append_nil]; exact hX, FxX.refl⟩
    rw [zLet_q, it_0le ⟨by omega, by omega⟩, if_pos (by omega)]
theorem k_cls {c : Int} (hc : -200000 ≤ c ∧ c ≤ 200000) (hX : kX m T) (h40 : T.length < 40) : ∃ m1, (∀ J : Mm → Option Mm, (zLet J fun j => if i3 c = 0 then j m else zBI (n_Loo_type 125 m) fun _ m1 => j m1) = J m1) ∧ kX m1 (T ++ if c = 0 then [] else [125]) ∧ FxX m m1 := by
  by_cases h : c = 0
  · refine ⟨m, fun J => ?_, by rw [if_pos h, List.append_nil]; exact hX, FxX.refl⟩
    rw [zLet_q, it_e0 ⟨by omega, by omega⟩, if_pos h]
  · obtain ⟨m1, e1, hX1, hF1⟩ := k_type (v := 125) hX ⟨by decide, by decide⟩ h40
    have e1' : n_Loo_type 125 m = some (i3 ((T.length + 1 : Nat) : Int), m1) := e1
    refine ⟨m1, fun J => ?_, by rw [if_neg h]; exact hX1, hF1⟩
    rw [zLet_q, it_e0 ⟨by omega, by omega⟩, if_neg h, e1', zBI_some]
theorem k_wdg {w a : Int} (hw : 13 ≤ w ∧ w ≤ 16) (ha : 0 ≤ a ∧ a < 10000) (hX : kX m T) (h40 : T.length + 4 ≤ 40) : ∃ m1, (∀ J : Mm → Option Mm, (zLet J fun j48 => if i3 w = 14 then j48 m else zLet (fun (x52 : Int32) => zBV (f_Law_digits (i3 a) x52 m) fun m54 => j48 m54) fun j53 => if i3 w = 13 then j53 1 else if i3 w = 15 then j53 2 else j53 4) = J m1) ∧ kX m1 (T ++ if w = 14 then [] else dgs (cnD w) a) ∧ FxX m m1 := by
  by_cases h : w = 14
  · refine ⟨m, fun J => ?_, by rw [if_pos h, List.append_nil]; exact hX, FxX.refl⟩
    rw [zLet_q, h, if_pos (show i3 14 = 14 from rfl)]
  · have hk := cnD_bd w
    obtain ⟨m1, e1, hX1, hF1⟩ := law_digits (k := cnD w) (n := a) hk ha hX (by omega)
    refine ⟨m1, fun J => ?_, by rw [if_neg h]; exact hX1, hF1⟩
    have ek : (if i3 w = 13 then (1 : Int32) else if i3 w = 15 then 2 else 4) = i3 (cnD w) := by
      rcases (show w = 13 ∨ w = 14 ∨ w = 15 ∨ w = 16 by omega) with rfl | rfl | rfl | rfl <;> decide
    have hne : ¬ i3 w = 14 := by
      rw [show (14 : Int32) = i3 14 from rfl, i3_eq ⟨by omega, by omega⟩ ⟨by decide, by decide⟩]
      exact h
    rw [zLet_q, if_neg hne, zl_if2, ek, e1, zBV_some]
theorem k_cond {c : Int} (hc : c = 0 ∨ ((-170000 < c ∧ c < 170000) ∧ 13 ≤ (c.natAbs : Int) / 10000 ∧ (c.natAbs : Int) / 10000 ≤ 16)) (hX : kX m T) (h40 : T.length + 8 ≤ 40) :
    ∃ m1, (∀ J : Mm → Option Mm, (zLet J fun j14 => if i3 c = 0 then j14 m else zLet (fun (x33 : Int32) => zLet (x33 / 10000) fun x35 => zBI (n_Loo_type 63 m) fun _ m36 => zLet (fun (m39 : Mm) => zLet (fun (x42 : Int32) => zBI (n_Loo_type x42 m39) fun _ m44 => zLet (fun (m47 : Mm) => zBI (n_Loo_type 123 m47) fun _ m49 => j14 m49) fun j48 => if x35 = 14 then j48 m44 else zLet (fun (x52 : Int32) => zBV (f_Law_digits (x33 % 10000) x52 m44) fun m54 => j48 m54) fun j53 => if x35 = 13 then j53 1 else if x35 = 15 then j53 2 else j53 4) fun j43 => if x35 = 13 then j43 87 else if x35 = 14 then j43 89 else if x35 = 15 then j43 65 else j43 69) fun j40 => if 0 ≤ i3 c then j40 m36 else zBI (n_Loo_type 33 m36) fun _ m58 => j40 m58) fun j34 => if 0 ≤ i3 c then j34 (i3 c) else j34 (-i3 c)) = J m1) ∧ kX m1 (T ++ cnT c) ∧ FxX m m1 := by
  unfold cnT
  by_cases h : c = 0
  · refine ⟨m, fun J => ?_, by rw [if_pos h, List.append_nil]; exact hX, FxX.refl⟩
    rw [zLet_q, h, if_pos (show i3 0 = 0 from rfl)]
  obtain ⟨hc, hw⟩ := hc.resolve_left h
  obtain ⟨m1, e1, hX1, hF1⟩ := k_type (v := 63) hX ⟨by decide, by decide⟩ (by omega)
  have e1' : n_Loo_type 63 m = some (i3 ((T.length + 1 : Nat) : Int), m1) := e1
  obtain ⟨m2, e2, hX2, hF2⟩ := k_neg (c := c) ⟨by omega, by omega⟩ hX1 (by simp; omega)
  have l2 : (if c < 0 then [(33 : Int)] else []).length ≤ 1 := by split <;> simp
  generalize (if c < 0 then [(33 : Int)] else []) = ng at hX2 l2 ⊢
  have ha : (c.natAbs : Int) = if 0 ≤ c then c else -c := by split <;> omega
  have eab : (if 0 ≤ i3 c then i3 c else -i3 c) = i3 (c.natAbs : Int) := by
    rw [it_0le ⟨by omega, by omega⟩, i3_neg, ha]
    split <;> rfl
  have ha2 : (c.natAbs : Int) < 170000 := by omega
  generalize (c.natAbs : Int) = a at hw eab ha2
  have q1 : (i3 a : Int32) / 10000 = i3 (a / 10000) := by rw [show (10000 : Int32) = i3 10000 from rfl, i3_div ⟨by omega, by omega⟩ ⟨by decide, by decide⟩]
  have q2 : (i3 a : Int32) % 10000 = i3 (a % 10000) := by rw [show (10000 : Int32) = i3 10000 from rfl, i3_mod ⟨by omega, by omega⟩ ⟨by decide, by decide⟩]
  have eC : (if i3 (a / 10000) = 13 then (87 : Int32) else if i3 (a / 10000) = 14 then 89 else if i3 (a / 10000) = 15 then 65 else 69) = i3 (whC (a / 10000)) ∧ 33 ≤ whC (a / 10000) ∧ whC (a / 10000) ≤ 126 := by
    rcases (show a / 10000 = 13 ∨ a / 10000 = 14 ∨ a / 10000 = 15 ∨ a / 10000 = 16 by omega) with e | e | e | e <;> rw [e] <;> decide
  obtain ⟨m3, e3, hX3, hF3⟩ := k_type (v := whC (a / 10000)) hX2 eC.2 (by simp; omega)
  obtain ⟨m4, e4, hX4, hF4⟩ := k_wdg (w := a / 10000) (a := a % 10000) hw ⟨by omega, by omega⟩ hX3 (by simp; omega)
  have l4 : (if a / 10000 = 14 then [] else dgs (cnD (a / 10000)) (a % 10000)).length ≤ 4 := by
    have := cnD_bd (a / 10000)
    split
    · simp
    · rw [dgs_len]; omega
  generalize (if a / 10000 = 14 then [] else dgs (cnD (a / 10000)) (a % 10000)) = dg at hX4 l4 ⊢
  obtain ⟨m5, e5, hX5, hF5⟩ := k_type (v := 123) hX4 ⟨by decide, by decide⟩ (by simp; omega)
  have e5' : n_Loo_type 123 m4 = some (_, m5) := e5
  refine ⟨m5, fun J => ?_, ?_, (((hF1.trans hF2).trans hF3).trans hF4).trans hF5⟩
  · rw [zLet_q, it_e0 ⟨by omega, by omega⟩, if_neg h, zl_if, eab, zLet_q, q1, q2, e1', zBI_some, e2, zl_if4, eC.1, e3, zBI_some, e4, e5', zBI_some]
  · rw [if_neg h]
    simpa only [List.append_assoc] using hX5
theorem k_els {c : Int} (hc : -200000 ≤ c ∧ c ≤ 200000) (hk : 6 * k + 3 < 60) {s : Int} (hs : s = -1 ∨ vS s) (h3 : zI m 201 (6 * k + 3) = i3 s) (hX : kX m T) (h40 : T.length + 6 ≤ 40) :
    ∃ m1, (∀ J : Mm → Option Mm, (zLet J fun j21 => if i3 c = 0 then j21 m else if zIn (i3 ((6 * k + 3 : Nat) : Int)) 60 then if (zI m 201 (6 * k + 3)) < 0 then j21 m else zBI (n_Loo_type 123 m) fun _ m25 => if zIn (i3 ((6 * k + 3 : Nat) : Int)) 60 then zBV (f_Law_step (zI m25 201 (6 * k + 3)) m25) fun m27 => zBI (n_Loo_type 125 m27) fun _ m28 => j21 m28 else none else none) = J m1) ∧ kX m1 (T ++ if c = 0 ∨ s < 0 then [] else [123] ++ stT s ++ [125]) ∧ FxX m m1 := by
  have hb : -1 ≤ s ∧ s ≤ 8000 := by
    rcases hs with h | h
    · omega
    · have := h.bd
      omega
  obtain ⟨g1, g2⟩ := in_n (k := 6 * k + 3) (n := 60) hk (by decide)
  by_cases h : c = 0
  · refine ⟨m, fun J => ?_, by rw [if_pos (Or.inl h), List.append_nil]; exact hX, FxX.refl⟩
    rw [zLet_q, it_e0 ⟨by omega, by omega⟩, if_pos h]
  by_cases h2 : s < 0
  · refine ⟨m, fun J => ?_, by rw [if_pos (Or.inr h2), List.append_nil]; exact hX, FxX.refl⟩
    rw [zLet_q, it_e0 ⟨by omega, by omega⟩, if_neg h, if_pos g1, h3, it_lt0 ⟨by omega, by omega⟩, if_pos h2]
  · have hvs : vS s := hs.resolve_left (by omega)
    obtain ⟨m1, e1, hX1, hF1⟩ := k_type (v := 123) hX ⟨by decide, by decide⟩ (by omega)
    have e1' : n_Loo_type 123 m = some (_, m1) := e1
    obtain ⟨m2, e2, hX2, hF2⟩ := law_step hvs hX1 (by simp; omega)
    have hl := stT_len s
    obtain ⟨m3, e3, hX3, hF3⟩ := k_type (v := 125) hX2 ⟨by decide, by decide⟩ (by simp; omega)
    have e3' : n_Loo_type 125 m2 = some (_, m3) := e3
    refine ⟨m3, fun J => ?_, ?_, (hF1.trans hF2).trans hF3⟩
    · rw [zLet_q, it_e0 ⟨by omega, by omega⟩, if_neg h, if_pos g1, h3, it_lt0 ⟨by omega, by omega⟩, if_neg h2, e1', zBI_some, if_pos g1, hF1.at (by decide), h3, e2, zBV_some, e3', zBI_some]
    · rw [if_neg (by omega)]
      simpa only [List.append_assoc] using hX3
theorem law_rule {n : Nat} (hk : k < 10) (hv : vR n f) (hn : n ≤ 10) (hf : ∀ j, j < 6 → zI m 201 (6 * k + j) = i3 (f j)) (hX : kX m []) : ∃ m1, f_Law_rule (i3 k) m = some m1 ∧ kX m1 (rlT f) ∧ FxX m m1 := by
  obtain ⟨v0, v1, v2, v3, v4, v5⟩ := hv
  have hb0 := v0.bd
  have g0 := hf 0 (by decide)
  rw [Nat.add_zero] at g0
  have g1 := hf 1 (by decide)
  have g2 := hf 2 (by decide)
  have g3 := hf 3 (by decide)
  have g4 := hf 4 (by decide)
  have g5 := hf 5 (by decide)
  obtain ⟨i0, x0⟩ := in_n (k := 6 * k) (n := 60) (by omega) (by decide)
  obtain ⟨i1, x1⟩ := in_n (k := 6 * k + 1) (n := 60) (by omega) (by decide)
  obtain ⟨i2, x2⟩ := in_n (k := 6 * k + 2) (n := 60) (by omega) (by decide)
  obtain ⟨i3', x3⟩ := in_n (k := 6 * k + 3) (n := 60) (by omega) (by decide)
  obtain ⟨i4, x4⟩ := in_n (k := 6 * k + 4) (n := 60) (by omega) (by decide)
  obtain ⟨i5, x5⟩ := in_n (k := 6 * k + 5) (n := 60) (by omega) (by decide)
  have q1 : (i3 (f 0) : Int32) / 10000 = i3 (f 0 / 10000) := by rw [show (10000 : Int32) = i3 10000 from rfl, i3_div ⟨by omega, by omega⟩ ⟨by decide, by decide⟩]
  have q2 : (i3 (f 0) : Int32) % 10000 = i3 (f 0 % 10000) := by rw [show (10000 : Int32) = i3 10000 from rfl, i3_mod ⟨by omega, by omega⟩ ⟨by decide, by decide⟩]
  have hkd : f 0 / 10000 = 1 ∨ f 0 / 10000 = 2 ∨ f 0 / 10000 = 3 ∨ f 0 / 10000 = 4 := by omega
  have eC : (if i3 (f 0 / 10000) = 1 then (68 : Int32) else if i3 (f 0 / 10000) = 2 then 78 else if i3 (f 0 / 10000) = 3 then 76 else 70) = i3 (stC0 (f 0 / 10000)) ∧ 33 ≤ stC0 (f 0 / 10000) ∧ stC0 (f 0 / 10000) ≤ 126 := by
    rcases hkd with e | e | e | e <;> rw [e] <;> decide
  have eD : (if i3 (f 0 / 10000) = 3 then (3 : Int32) else if i3 (f 0 / 10000) = 4 then 2 else 4) = i3 (kd0 (f 0 / 10000)) := by
    rcases hkd with e | e | e | e <;> rw [e] <;> decide
  have hkb := kd0_bd (f 0 / 10000)
  have hc : f 1 = 0 ∨ ((-170000 < f 1 ∧ f 1 < 170000) ∧ 13 ≤ ((f 1).natAbs : Int) / 10000 ∧ ((f 1).natAbs : Int) / 10000 ≤ 16) := by
    rcases v1 with h | ⟨h1, h2, h⟩
    · exact Or.inl h
    · right
      refine ⟨⟨h1, h2⟩, ?_⟩
      rcases h with h | h | h | h <;> omega
  have hcb : -200000 ≤ f 1 ∧ f 1 ≤ 200000 := by omega
  obtain ⟨m1, e1, hX1, hF1⟩ := k_type (v := stC0 (f 0 / 10000)) hX eC.2 (by decide)
  obtain ⟨m2, e2, hX2, hF2⟩ := law_digits (k := kd0 (f 0 / 10000)) (n := f 0 % 10000) hkb ⟨by omega, by omega⟩ hX1 (by simp; omega)
  have l2 : ([] ++ [stC0 (f 0 / 10000)] ++ dgs (kd0 (f 0 / 10000)) (f 0 % 10000)).length ≤ 5 := by
    rw [List.length_append, dgs_len]
    simp
    omega
  have er : rlT f = [] ++ [stC0 (f 0 / 10000)] ++ dgs (kd0 (f 0 / 10000)) (f 0 % 10000) ++ cnT (f 1) ++ stT (f 2) ++ (if f 1 = 0 then [] else [125]) ++ elT f ++ stT (f 4) ++ stT (f 5) := rfl
  rw [er]
  generalize ([] ++ [stC0 (f 0 / 10000)] ++ dgs (kd0 (f 0 / 10000)) (f 0 % 10000)) = A at hX2 l2 ⊢
  obtain ⟨m3, e3, hX3, hF3⟩ := k_cond hc hX2 (by omega)
  have l3 : (cnT (f 1)).length ≤ 8 := by
    unfold cnT
    have h4 := cnD_bd (((f 1).natAbs : Int) / 10000)
    split
    · simp
    · split <;> split <;> simp <;> rw [dgs_len] <;> omega
  obtain ⟨m4, e4, hX4, hF4⟩ := law_step v2 hX3 (by rw [List.length_append]; omega)
  have l4 := stT_len (f 2)
  obtain ⟨m5, e5, hX5, hF5⟩ := k_cls (c := f 1) hcb hX4 (by rw [List.length_append, List.length_append]; omega)
  have l5 : (if f 1 = 0 then [] else [(125 : Int)]).length ≤ 1 := by split <;> simp
  generalize (if f 1 = 0 then [] else [(125 : Int)]) = c5 at hX5 l5 ⊢
  have hF15 := (((hF1.trans hF2).trans hF3).trans hF4).trans hF5
  obtain ⟨m6, e6, hX6, hF6⟩ := k_els (k := k) (c := f 1) hcb (by omega) v3 (by rw [hF15.at (by decide)]; exact g3) hX5 (by rw [List.length_append, List.length_append, List.length_append]; omega)
  have l6 : (if f 1 = 0 ∨ f 3 < 0 then [] else [123] ++ stT (f 3) ++ [(125 : Int)]).length ≤ 6 := by
    have := stT_len (f 3)
    split
    · simp
    · simp; omega
  have ee : elT f = if f 1 = 0 ∨ f 3 < 0 then [] else [123] ++ stT (f 3) ++ [(125 : Int)] := rfl
  rw [ee]
  generalize (if f 1 = 0 ∨ f 3 < 0 then [] else [123] ++ stT (f 3) ++ [(125 : Int)]) = c6 at hX6 l6 ⊢
  obtain ⟨m7, e7, hX7, hF7⟩ := law_step v4 hX6 (by rw [List.length_append, List.length_append, List.length_append, List.length_append]; omega)
  have l7 := stT_len (f 4)
  obtain ⟨m8, e8, hX8, hF8⟩ := law_step v5 hX7 (by rw [List.length_append, List.length_append, List.length_append, List.length_append, List.length_append]; omega)
  have hF16 := hF15.trans hF6
  have hF17 := hF16.trans hF7
  refine ⟨m8, ?_, hX8, hF17.trans hF8⟩
  unfold f_Law_rule
  rw [m6_i, ad1, ad2, ad3, ad4, ad5, x0, x1, x2, x3, x4, x5, if_pos i0, zLet_q, g0, q1, zl_if4, eC.1, e1, zBI_some, if_pos i0, hF1.at (by decide), g0, q2, zl_if2, eD, e2, zBV_some, if_pos i1, (hF1.trans hF2).at (by decide), g1, zLet_q, e3, if_pos i2, ((hF1.trans hF2).trans hF3).at (by decide), g2, e4, zBV_some, e5, e6, if_pos i4, hF16.at (by decide), g4, e7, zBV_some, if_pos i5, hF17.at (by decide), g5, e8, zBV_some]
/-- a part of the law's question: is it with 'not', its kind, feast, and the rest -/
def vQ (n : Nat) (g : Nat → Int) : Prop := (g 0 = 0 ∨ g 0 = 1) ∧ (1 ≤ g 1 ∧ g 1 ≤ 5) ∧ (0 ≤ g 2 ∧ g 2 < n) ∧ (g 1 = 2 ∧ vDt (g 3) ∨ g 1 = 3 ∧ 0 ≤ g 3 ∧ g 3 ≤ 6 ∨ g 1 ≠ 2 ∧ g 1 ≠ 3 ∧ 0 ≤ g 3 ∧ g 3 < n)
def qC (kd : Int) : Int := if kd = 1 then 67 else if kd = 2 then 68 else if kd = 3 then 87 else if kd = 4 then 78 else 66
def qT (g : Nat → Int) : List Int := (if g 0 = 1 then [33] else []) ++ [qC (g 1)] ++ (if g 1 ≤ 1 then [] else dgs 2 (g 2)) ++ (if g 1 = 2 then dgs 4 (g 3) else if g 1 = 3 then dgs 1 (g 3) else if g 1 = 5 then dgs 2 (g 3) else [])
theorem qT_len (g : Nat → Int) : (qT g).length ≤ 8 := by
  unfold qT
  rw [List.length_append, List.length_append, List.length_append]
  have h1 : (if g 0 = 1 then [(33 : Int)] else []).length ≤ 1 := by split <;> simp
  have h2 : (if g 1 ≤ 1 then [] else dgs 2 (g 2)).length ≤ 2 := by
    split
    · simp
    · rw [dgs_len]; omega
  have h3 : (if g 1 = 2 then dgs 4 (g 3) else if g 1 = 3 then dgs 1 (g 3) else if g 1 = 5 then dgs 2 (g 3) else []).length ≤ 4 := by
    split
    · rw [dgs_len]; omega
    · split
      · rw [dgs_len]; omega
      · split
        · rw [dgs_len]; omega
        · simp
  have h4 : [qC (g 1)].length = 1 := rfl
  omega
theorem law_ask {n a : Nat} {g : Nat → Int} (ha : a = 1 ∨ a = 5) (hv : vQ n g) (hn : n ≤ 10) (hf : ∀ j, j < 4 → zI m 205 (a + j) = i3 (g j)) (hX : kX m T) (h40 : T.length + 8 ≤ 40) : ∃ m1, f_Law_ask (i3 a) m = some m1 ∧ kX m1 (T ++ qT g) ∧ FxX m m1 := by
  obtain ⟨v0, v1, v2, v3⟩ := hv
  have g0 := hf 0 (by decide)
  rw [Nat.add_zero] at g0
  have g1 := hf 1 (by decide)
  have g2 := hf 2 (by decide)
  have g3 := hf 3 (by decide)
  obtain ⟨i0, x0⟩ := in_n (k := a) (n := 9) (by omega) (by decide)
  obtain ⟨i1, x1⟩ := in_n (k := a + 1) (n := 9) (by omega) (by decide)
  obtain ⟨i2, x2⟩ := in_n (k := a + 2) (n := 9) (by omega) (by decide)
  obtain ⟨i3', x3⟩ := in_n (k := a + 3) (n := 9) (by omega) (by decide)
  have hN : ∃ m1, (∀ J : Mm → Option Mm, (zLet J fun j3 => if i3 (g 0) = 1 then zBI (n_Loo_type 33 m) fun _ m27 => j3 m27 else j3 m) = J m1) ∧ kX m1 (T ++ if g 0 = 1 then [33] else []) ∧ FxX m m1 := by
    rcases v0 with h | h
    · refine ⟨m, fun J => ?_, by rw [if_neg (by omega), List.append_nil]; exact hX, FxX.refl⟩
      rw [zLet_q, h, if_neg (by decide)]
    · obtain ⟨m1, e1, hX1, hF1⟩ := k_type (v := 33) hX ⟨by decide, by decide⟩ (by omega)
      have e1' : n_Loo_type 33 m = some (_, m1) := e1
      refine ⟨m1, fun J => ?_, by rw [if_pos h]; exact hX1, hF1⟩
      rw [zLet_q, h, if_pos (by decide), e1', zBI_some]
  obtain ⟨m1, e1, hX1, hF1⟩ := hN
  have l1 : (if g 0 = 1 then [(33 : Int)] else []).length ≤ 1 := by split <;> simp
  have eq : qT g = (if g 0 = 1 then [33] else []) ++ [qC (g 1)] ++ (if g 1 ≤ 1 then [] else dgs 2 (g 2)) ++ (if g 1 = 2 then dgs 4 (g 3) else if g 1 = 3 then dgs 1 (g 3) else if g 1 = 5 then dgs 2 (g 3) else []) := rfl
  rw [eq]
  generalize (if g 0 = 1 then [(33 : Int)] else []) = A at hX1 l1 ⊢
  have eC : (if i3 (g 1) = 1 then (67 : Int32) else if i3 (g 1) = 2 then 68 else if i3 (g 1) = 3 then 87 else if i3 (g 1) = 4 then 78 else 66) = i3 (qC (g 1)) ∧ 33 ≤ qC (g 1) ∧ qC (g 1) ≤ 126 := by
    rcases (show g 1 = 1 ∨ g 1 = 2 ∨ g 1 = 3 ∨ g 1 = 4 ∨ g 1 = 5 by omega) with e | e | e | e | e <;> rw [e] <;> decide
  obtain ⟨m2, e2, hX2, hF2⟩ := k_type (v := qC (g 1)) hX1 eC.2 (by rw [List.length_append]; omega)
  have l2 : (T ++ A ++ [qC (g 1)]).length ≤ T.length + 2 := by simp; omega
  have hTA : T ++ (A ++ [qC (g 1)] ++ (if g 1 ≤ 1 then [] else dgs 2 (g 2)) ++ (if g 1 = 2 then dgs 4 (g 3) else if g 1 = 3 then dgs 1 (g 3) else if g 1 = 5 then dgs 2 (g 3) else [])) = T ++ A ++ [qC (g 1)] ++ (if g 1 ≤ 1 then [] else dgs 2 (g 2)) ++ (if g 1 = 2 then dgs 4 (g 3) else if g 1 = 3 then dgs 1 (g 3) else if g 1 = 5 then dgs 2 (g 3) else []) := by simp only [List.append_assoc]
  rw [hTA]
  generalize T ++ A ++ [qC (g 1)] = S at hX2 l2 ⊢
  have hF12 := hF1.trans hF2
  have f2 : zI m2 205 (a + 2) = i3 (g 2) := by rw [hF12.at (by decide)]; exact g2
  have f3 : zI m2 205 (a + 3) = i3 (g 3) := by rw [hF12.at (by decide)]; exact g3
  unfold f_Law_ask
  rw [ad1, ad2, ad3, x0, x1, x2, x3, if_pos i0, g0, e1, if_pos i1, hF1.at (by decide), g1, zLet_q, zl_if5, eC.1, e2, zBI_some]
  simp only [zLet_q, if_pos i2, if_pos i3', f2]
  by_cases c1 : g 1 = 1
  · refine ⟨m2, ?_, ?_, hF12⟩
    · rw [c1, if_pos (by decide), if_neg (by decide), if_neg (by decide), if_neg (by decide)]
    · rw [c1, if_pos (by decide), if_neg (by decide), if_neg (by decide), if_neg (by decide), List.append_nil, List.append_nil]
      exact hX2
  have l3 := dgs_len (g 2) 2
  obtain ⟨m3, e3, hX3, hF3⟩ := law_digits (k := 2) (n := g 2) ⟨by decide, by decide⟩ ⟨by omega, by omega⟩ hX2 (by omega)
  have e3' : f_Law_digits (i3 (g 2)) 2 m2 = some m3 := e3
  have f33 : zI m3 205 (a + 3) = i3 (g 3) := by rw [hF3.at (by decide)]; exact f3
  have hF13 := hF12.trans hF3
  have h2p : ¬ i3 (g 1) ≤ 1 := by
    rw [show (1 : Int32) = i3 1 from rfl, i3_le ⟨by omega, by omega⟩ ⟨by decide, by decide⟩]
    omega
  rw [if_neg h2p, e3', zBV_some, if_neg (show ¬ g 1 ≤ 1 by omega), f33]
  rcases (show g 1 = 2 ∨ g 1 = 3 ∨ g 1 = 4 ∨ g 1 = 5 by omega) with c | c | c | c
  · have h3 : 0 ≤ g 3 ∧ g 3 < 10000 := by
      rcases v3 with h | h | h
      · obtain ⟨-, ⟨a1, a2⟩, a3, a4⟩ := h
        have hm := (sMs_n true (g 3 / 100).toNat (by omega) (by omega))
        omega
      · omega
      · omega
    obtain ⟨m4, e4, hX4, hF4⟩ := law_digits (k := 4) (n := g 3) ⟨by decide, by decide⟩ h3 hX3 (by rw [List.length_append]; omega)
    have e4' : f_Law_digits (i3 (g 3)) 4 m3 = some m4 := e4
    refine ⟨m4, ?_, ?_, hF13.trans hF4⟩
    · rw [c, if_pos (by decide), e4', zBV_some, if_neg (by decide), if_neg (by decide)]
    · rw [if_pos c]
      exact hX4
  · have h3 : 0 ≤ g 3 ∧ g 3 ≤ 6 := by omega
    obtain ⟨m4, e4, hX4, hF4⟩ := law_digits (k := 1) (n := g 3) ⟨by decide, by decide⟩ ⟨by omega, by omega⟩ hX3 (by rw [List.length_append]; omega)
    have e4' : f_Law_digits (i3 (g 3)) 1 m3 = some m4 := e4
    refine ⟨m4, ?_, ?_, hF13.trans hF4⟩
    · rw [c, if_neg (by decide), if_pos (by decide), e4', zBV_some, if_neg (by decide)]
    · rw [if_neg (by omega), if_pos c]
      exact hX4
  · refine ⟨m3, ?_, ?_, hF13⟩
    · rw [c, if_neg (by decide), if_neg (by decide), if_neg (by decide)]
    · rw [c, if_neg (by decide), if_neg (by decide), if_neg (by decide), List.append_nil]
      exact hX3
  · have h3 : 0 ≤ g 3 ∧ g 3 < 10 := by omega
    obtain ⟨m4, e4, hX4, hF4⟩ := law_digits (k := 2) (n := g 3) ⟨by decide, by decide⟩ ⟨by omega, by omega⟩ hX3 (by rw [List.length_append]; omega)
    have e4' : f_Law_digits (i3 (g 3)) 2 m3 = some m4 := e4
    refine ⟨m4, ?_, ?_, hF13.trans hF4⟩
    · rw [c, if_neg (by decide), if_neg (by decide), if_pos (by decide), e4', zBV_some]
    · rw [if_neg (by omega), if_neg (by omega), if_pos c]
      exact hX4
end LRT
