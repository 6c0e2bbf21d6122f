/-! THE LAW'S TEXTS: how they are typed -/
theorem tx_add {m m' : Mm} {q : Nat} {T : List Int} {v : Int} (h : TX m q T) (hv : 33 ≤ v ∧ v ≤ 126) (h40 : T.length < 40) (h1 : zI m' q 1 = i3 ((T.length + 1 : Nat) : Int)) (h2 : zI m' (q + 1) T.length = i3 v) (h3 : ∀ i, i < T.length → zI m' (q + 1) i = zI m (q + 1) i) : TX m' q (T ++ [v]) := by
  obtain ⟨a1, a2, a3, a4⟩ := h
  refine ⟨by simp; omega, by rw [h1]; simp, fun i hi => ?_, fun c hc => ?_⟩
  · by_cases e : i < T.length
    · rw [h3 i e, a3 i e]
      congr 1
      simp [List.getD, List.getElem?_append_left e]
    · obtain rfl : i = T.length := by simp at hi; omega
      rw [h2]
      congr 1
      simp [List.getD]
  · rw [List.mem_append, List.mem_singleton] at hc
    rcases hc with hc | hc
    · exact a4 c hc
    · omega
/-- only the text is written -/
def FxX (m m' : Mm) : Prop := (∀ b j, b ≠ 17 ∨ j ≠ 1 → b ≠ 18 → zI m' b j = zI m b j) ∧ m'.2 = m.2
theorem FxX.refl {m : Mm} : FxX m m := ⟨fun _ _ _ _ => rfl, rfl⟩
theorem FxX.trans {m m' m'' : Mm} (h : FxX m m') (h2 : FxX m' m'') : FxX m m'' := ⟨fun b j q1 q2 => (h2.1 b j q1 q2).trans (h.1 b j q1 q2), h2.2.trans h.2⟩
theorem FxX.at {m m' : Mm} (h : FxX m m') {b j : Nat} (hb : 19 ≤ b) : zI m' b j = zI m b j := h.1 b j (Or.inl (by omega)) (by omega)
section LTX
variable {m : Mm} {T : List Int}
theorem k_type {v : Int} (hX : kX m T) (hv : 33 ≤ v ∧ v ≤ 126) (h40 : T.length < 40) : ∃ m1, n_Loo_type (i3 v) m = some (i3 ((T.length + 1 : Nat) : Int), m1) ∧ kX m1 (T ++ [v]) ∧ FxX m m1 := by
  obtain ⟨hTX, h3, ⟨vv, hvv⟩⟩ := hX
  have hch : zCh (i3 v) := (i3_ch ⟨by omega, by omega⟩).mpr ⟨by omega, by omega⟩
  have hin : zIn (i3 (T.length : Int)) 40 := (i3_in ⟨by omega, by omega⟩).mpr ⟨by omega, by omega⟩
  have hix : zIx (i3 (T.length : Int)) = T.length := by rw [i3_ix ⟨by omega, by omega⟩, Int.toNat_natCast]
  refine ⟨wI (wI m 18 T.length (i3 v)) 17 1 (i3 ((T.length + 1 : Nat) : Int)), ?_, ⟨tx_add hTX hv h40 zI_eq ?_ (fun i hi => ?_), fun i hi => ?_, ⟨vv, ?_⟩⟩, fun b j hb hb2 => ?_, rfl⟩
  · unfold n_Loo_type
    rw [zLet_q, show (33 : Int32) = i3 33 from rfl, it_lt ⟨by omega, by omega⟩ ⟨by decide, by decide⟩, if_neg (by omega), show (126 : Int32) = i3 126 from rfl, it_le ⟨by omega, by omega⟩ ⟨by decide, by decide⟩, if_pos hv.2]
    unfold f_Txt_append
    rw [hTX.2.1, show (40 : Int32) = i3 40 from rfl, it_lt ⟨by omega, by omega⟩ ⟨by decide, by decide⟩, if_pos (by omega), if_pos hch, if_pos hin, hix, zLet_eq, zLet_eq, zI_ne (by decide), hTX.2.1, zBI_some, if_neg (by decide)]
    unfold f_Txt_length
    rw [zBP_some, zI_eq, i3_add1]
    rfl
  · rw [zI_ne (by decide), zI_eq]
  · rw [zI_ne (by decide), zI_nk (by omega)]
  · rw [zI_ne (by decide)]
    by_cases e : i = T.length
    · rw [e, zI_eq]
      exact hch
    · rw [zI_nk e]
      exact h3 i hi
  · rw [zI_ne (by decide), zI_ne (by decide)]
    exact hvv
  · by_cases e : b = 17
    · subst e
      rw [zI_nk (by omega), zI_ne hb2]
    · rw [zI_ne e, zI_ne hb2]
/-- digits -/
def pw : Nat → Int
  | 0 => 0
  | 1 => 1
  | 2 => 10
  | 3 => 100
  | _ => 1000
def dgs : Nat → Int → List Int
  | 0, _ => []
  | k + 1, n => (48 + n / pw (k + 1) % 10) :: dgs k n
theorem dgs_len (n : Int) : ∀ k, (dgs k n).length = k
  | 0 => rfl
  | k + 1 => by
    show (dgs k n).length + 1 = k + 1
    rw [dgs_len n k]
theorem dg_ch : ∀ d : Nat, d < 10 → (((48 : Int32) + i3 ((d : Nat) : Int)).toUInt32 % 65536).toInt32 = i3 (48 + ((d : Nat) : Int)) := by decide +kernel
theorem law_digits {k : Nat} {n : Int} (hk : 1 ≤ k ∧ k ≤ 4) (hn : 0 ≤ n ∧ n < 10000) (hX : kX m T) (h40 : T.length + k ≤ 40) : ∃ m1, f_Law_digits (i3 n) (i3 k) m = some m1 ∧ kX m1 (T ++ dgs k n) ∧ FxX m m1 := by
  have hl : ∃ m1, zLp1 (l_Law_digits_0 (i3 n)) zFu (i3 (pw k)) m = some m1 ∧ kX m1 (T ++ dgs k n) ∧ FxX m m1 := by
    refine ex_zLp1 (Q := fun X => ∃ m1, X = some m1 ∧ kX m1 (T ++ dgs k n) ∧ FxX m m1) (fun j x4 M => ∃ S : List Int, j ≤ k ∧ x4 = i3 (pw j) ∧ kX M S ∧ FxX m M ∧ S.length + j ≤ 40 ∧ S ++ dgs j n = T ++ dgs k n) ?_ zFu k _ _ ⟨T, Nat.le_refl _, rfl, hX, FxX.refl, h40, rfl⟩ (by unfold zFu; omega)
    rintro r j _ M ⟨S, hj, rfl, hM, hF, h4, hS⟩
    unfold l_Law_digits_0
    cases j with
    | zero =>
      left
      refine ⟨M, if_pos (by decide), ?_, hF⟩
      rw [← hS]
      show kX M (S ++ [])
      rw [List.append_nil]
      exact hM
    | succ c =>
      right
      have hp : (1 ≤ pw (c + 1) ∧ pw (c + 1) ≤ 1000) ∧ pw (c + 1) / 10 = pw c := by
        rcases (show c = 0 ∨ c = 1 ∨ c = 2 ∨ c = 3 by omega) with rfl | rfl | rfl | rfl <;> decide
      have hz : ¬ i3 (pw (c + 1)) = 0 := by
        rw [show (0 : Int32) = i3 0 from rfl, i3_eq ⟨by omega, by omega⟩ ⟨by decide, by decide⟩]
        omega
      have hq := Int.ediv_nonneg hn.1 (show 0 ≤ pw (c + 1) by omega)
      have hq2 := Int.ediv_le_self (pw (c + 1)) hn.1
      have hcons : dgs (c + 1) n = (48 + n / pw (c + 1) % 10) :: dgs c n := rfl
      rw [hcons] at hS
      have hdiv : i3 n / i3 (pw (c + 1)) = i3 (n / pw (c + 1)) := i3_div ⟨hn.1, by omega⟩ ⟨by omega, by omega⟩
      generalize n / pw (c + 1) = q at hq hq2 hS hdiv
      obtain ⟨d, hd⟩ : ∃ d : Nat, q % 10 = d := ⟨(q % 10).toNat, by omega⟩
      rw [hd] at hS
      obtain ⟨m1, e1, hX1, hF1⟩ := k_type (v := 48 + (d : Int)) hM ⟨by omega, by omega⟩ (by omega)
      refine ⟨i3 (pw c), m1, c, Nat.lt_succ_self c, ⟨S ++ [48 + (d : Int)], by omega, rfl, hX1, hF.trans hF1, by simp; omega, by rw [List.append_assoc]; exact hS⟩, ?_⟩
      rw [show (if i3 (pw (c + 1)) ≤ 0 then some M else if ¬ i3 (pw (c + 1)) = 0 then zBI (n_Loo_type (((48 + ((i3 n / i3 (pw (c + 1))) % 10)).toUInt32 % 65536).toInt32) M) fun v9 m8 => zLet (i3 (pw (c + 1)) / 10) fun x10 => r x10 m8 else none) = (if pw (c + 1) ≤ 0 then some M else if ¬ i3 (pw (c + 1)) = 0 then zBI (n_Loo_type (((48 + ((i3 n / i3 (pw (c + 1))) % 10)).toUInt32 % 65536).toInt32) M) fun v9 m8 => zLet (i3 (pw (c + 1)) / 10) fun x10 => r x10 m8 else none) from it_le (b := 0) ⟨by omega, by omega⟩ ⟨by decide, by decide⟩, if_neg (by omega), if_pos hz, hdiv, show (10 : Int32) = i3 10 from rfl, i3_mod ⟨hq, by omega⟩ ⟨by decide, by decide⟩, hd, dg_ch d (by omega), e1, zBI_some, zLet_q, i3_div ⟨by omega, by omega⟩ ⟨by decide, by decide⟩, hp.2]
  rw [e_Law_digits, zLet_q]
  rcases (show k = 1 ∨ k = 2 ∨ k = 3 ∨ k = 4 by omega) with rfl | rfl | rfl | rfl
  · rw [if_neg (by decide), if_neg (by decide), if_neg (by decide)]
    exact hl
  · rw [if_neg (by decide), if_neg (by decide), if_pos (by decide)]
    exact hl
  · rw [if_neg (by decide), if_pos (by decide)]
    exact hl
  · rw [if_pos (by decide)]
    exact hl
/-- a step's text -/
def dgk (n : Int) : Nat := if n ≤ 99 then (if n ≤ 9 then 1 else 2) else 3
def stC (op : Int) : Int := if op = 2 then 62 else if op = 3 then 60 else if op = 4 then 93 else if op = 5 then 91 else if op = 6 then 79 else if op = 7 then 81 else 88
def stT (s : Int) : List Int := if s / 1000 = 0 then [] else if s / 1000 = 1 then (if 400 ≤ s % 1000 then [43] ++ dgs (dgk (s % 1000 - 400)) (s % 1000 - 400) else [45] ++ dgs (dgk (400 - s % 1000)) (400 - s % 1000)) else [stC (s / 1000)] ++ (if 6 ≤ s / 1000 then [] else dgs 1 (s % 1000))
theorem dgk_bd (n : Int) : 1 ≤ dgk n ∧ dgk n ≤ 3 := by
  unfold dgk
  split
  · split <;> omega
  · omega
theorem stT_len (s : Int) : (stT s).length ≤ 4 := by
  unfold stT
  have h1 := dgk_bd (s % 1000 - 400)
  have h2 := dgk_bd (400 - s % 1000)
  split
  · simp
  · split
    · split
      · rw [List.length_append, dgs_len]; simp; omega
      · rw [List.length_append, dgs_len]; simp; omega
    · split
      · simp
      · rw [List.length_append, dgs_len]; simp
theorem zl_if4 {α : Type} {J : Int32 → α} {c1 c2 c3 : Prop} [Decidable c1] [Decidable c2] [Decidable c3] {a b d e : Int32} : (zLet J fun j => if c1 then j a else if c2 then j b else if c3 then j d else j e) = J (if c1 then a else if c2 then b else if c3 then d else e) := by
  rw [zLet_q]
  repeat (first | rfl | split)
theorem zl_if5 {α : Type} {J : Int32 → α} {c1 c2 c3 c4 : Prop} [Decidable c1] [Decidable c2] [Decidable c3] [Decidable c4] {a b d e f : Int32} : (zLet J fun j => if c1 then j a else if c2 then j b else if c3 then j d else if c4 then j e else j f) = J (if c1 then a else if c2 then b else if c3 then d else if c4 then e else f) := by
  rw [zLet_q]
  repeat (first | rfl | split)
theorem zl_if7 {α : Type} {J : Int32 → α} {c1 c2 c3 c4 c5 c6 : Prop} [Decidable c1] [Decidable c2] [Decidable c3] [Decidable c4] [Decidable c5] [Decidable c6] {a b d e f g h : Int32} : (zLet J fun j => if c1 then j a else if c2 then j b else if c3 then j d else if c4 then j e else if c5 then j f else if c6 then j g else j h) = J (if c1 then a else if c2 then b else if c3 then d else if c4 then e else if c5 then f else if c6 then g else h) := by
  rw [zLet_q]
  repeat (first | rfl | split)
theorem law_step {s : Int} (hs : vS s) (hX : kX m T) (h40 : T.length + 4 ≤ 40) : ∃ m1, f_Law_step (i3 s) m = some m1 ∧ kX m1 (T ++ stT s) ∧ FxX m m1 := by
  have hb := hs.bd
  unfold f_Law_step
  have q1 : (i3 s : Int32) / 1000 = i3 (s / 1000) := by rw [show (1000 : Int32) = i3 1000 from rfl, i3_div ⟨by omega, by omega⟩ ⟨by decide, by decide⟩]
  have q2 : (i3 s : Int32) % 1000 = i3 (s % 1000) := by rw [show (1000 : Int32) = i3 1000 from rfl, i3_mod ⟨by omega, by omega⟩ ⟨by decide, by decide⟩]
  rw [zLet_q, zLet_q, q1, q2, it_e0 ⟨by omega, by omega⟩]
  unfold stT
  by_cases c0 : s / 1000 = 0
  · rw [if_pos c0, if_pos c0]
    exact ⟨m, rfl, by rw [List.append_nil]; exact hX, FxX.refl⟩
  rw [if_neg c0, if_neg c0, it_e1 ⟨by omega, by omega⟩]
  unfold vS at hs
  by_cases c1 : s / 1000 = 1
  · rw [if_pos c1, if_pos c1]
    have ha : 34 ≤ s % 1000 ∧ s % 1000 ≤ 766 := by omega
    generalize s % 1000 = a at ha
    have tail : ∀ (n ch : Int), 0 ≤ n ∧ n ≤ 366 → (ch = 43 ∨ ch = 45) → ∃ m1, (zBI (n_Loo_type (i3 ch) m) fun v24 m23 => zLet (fun (x26 : Int32) => zBV (f_Law_digits (i3 n) x26 m23) fun m28 => some m28) fun j27 => if i3 n ≤ 99 then if i3 n ≤ 9 then j27 1 else j27 2 else j27 3) = some m1 ∧ kX m1 (T ++ ([ch] ++ dgs (dgk n) n)) ∧ FxX m m1 := by
      intro n ch hn hc
      obtain ⟨m1, e1, hX1, hF1⟩ := k_type (v := ch) hX ⟨by omega, by omega⟩ (by omega)
      have hk := dgk_bd n
      obtain ⟨m2, e2, hX2, hF2⟩ := law_digits (k := dgk n) (n := n) ⟨hk.1, by omega⟩ ⟨by omega, by omega⟩ hX1 (by simp; omega)
      refine ⟨m2, ?_, by rw [← List.append_assoc]; exact hX2, hF1.trans hF2⟩
      rw [e1, zBI_some, zl_if3]
      have ek : (if i3 n ≤ 99 then if i3 n ≤ 9 then (1 : Int32) else 2 else 3) = i3 (dgk n) := by
        rw [show (99 : Int32) = i3 99 from rfl, it_le ⟨by omega, by omega⟩ ⟨by decide, by decide⟩, show (9 : Int32) = i3 9 from rfl, it_le ⟨by omega, by omega⟩ ⟨by decide, by decide⟩]
        unfold dgk
        split
        · split <;> rfl
        · rfl
      rw [ek, e2, zBV_some]
    have q4 : (400 : Int32) = i3 400 := rfl
    rw [zl_if, zl_if, q4, i3_sub, i3_sub, it_le ⟨by decide, by decide⟩ ⟨by omega, by omega⟩, it_le ⟨by decide, by decide⟩ ⟨by omega, by omega⟩]
    by_cases c4 : 400 ≤ a
    · rw [if_pos c4, if_pos c4, if_pos c4]
      exact tail (a - 400) 43 ⟨by omega, by omega⟩ (Or.inl rfl)
    · rw [if_neg c4, if_neg c4, if_neg c4]
      exact tail (400 - a) 45 ⟨by omega, by omega⟩ (Or.inr rfl)
  · rw [if_neg c1, if_neg c1]
    have hop : s / 1000 = 2 ∨ s / 1000 = 3 ∨ s / 1000 = 4 ∨ s / 1000 = 5 ∨ s / 1000 = 6 ∨ s / 1000 = 7 ∨ s / 1000 = 8 := by omega
    have ha : s / 1000 < 6 → 0 ≤ s % 1000 ∧ s % 1000 ≤ 6 := fun _ => by omega
    have eC : (if i3 (s / 1000) = 2 then (62 : Int32) else if i3 (s / 1000) = 3 then 60 else if i3 (s / 1000) = 4 then 93 else if i3 (s / 1000) = 5 then 91 else if i3 (s / 1000) = 6 then 79 else if i3 (s / 1000) = 7 then 81 else 88) = i3 (stC (s / 1000)) := by
      rcases hop with c | c | c | c | c | c | c <;> rw [c] <;> decide
    have hC : 33 ≤ stC (s / 1000) ∧ stC (s / 1000) ≤ 126 := by
      rcases hop with c | c | c | c | c | c | c <;> rw [c] <;> decide
    obtain ⟨m1, e1, hX1, hF1⟩ := k_type (v := stC (s / 1000)) hX hC (by omega)
    rw [zl_if7, eC, e1, zBI_some, show (6 : Int32) = i3 6 from rfl, it_le ⟨by decide, by decide⟩ ⟨by omega, by omega⟩]
    by_cases c6 : 6 ≤ s / 1000
    · rw [if_pos c6, if_pos c6, List.append_nil]
      exact ⟨m1, rfl, hX1, hF1⟩
    · rw [if_neg c6, if_neg c6]
      have ha := ha (by omega)
      obtain ⟨m2, e2, hX2, hF2⟩ := law_digits (k := 1) (n := s % 1000) ⟨by decide, by decide⟩ ⟨by omega, by omega⟩ hX1 (by simp; omega)
      have e2' : f_Law_digits (i3 (s % 1000)) 1 m1 = some m2 := e2
      refine ⟨m2, ?_, by rw [← List.append_assoc]; exact hX2, hF1.trans hF2⟩
      rw [e2', zBV_some]
end LTX
