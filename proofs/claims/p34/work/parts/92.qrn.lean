/-! QUESTIONS: both sides work them off -/
theorem ex_zLp3 {β : Type} {F : (Int32 → Int32 → Int32 → Mm → Option β) → Int32 → Int32 → Int32 → Mm → Option β} {Q : Option β → Prop} (I : Nat → Int32 → Int32 → Int32 → Mm → Prop)
    (step : ∀ (r : Int32 → Int32 → Int32 → Mm → Option β) (j : Nat) (x0 x1 x2 : Int32) (m : Mm), I j x0 x1 x2 m → Q (F r x0 x1 x2 m) ∨ ∃ (x0' x1' x2' : Int32) (m' : Mm) (j' : Nat), j' < j ∧ I j' x0' x1' x2' m' ∧ F r x0 x1 x2 m = r x0' x1' x2' m') :
    ∀ (n j : Nat) (x0 x1 x2 : Int32) (m : Mm), I j x0 x1 x2 m → j < n → Q (zLp3 F n x0 x1 x2 m) := by
  intro n
  induction n with
  | zero => intro j x0 x1 x2 m _ h; exact absurd h (Nat.not_lt_zero j)
  | succ n ih =>
    intro j x0 x1 x2 m hI hj
    rcases step (zLp3 F n) j x0 x1 x2 m hI with h | ⟨x0', x1', x2', m', j', hj', hI', h⟩
    · exact h
    · show Q (F (zLp3 F n) x0 x1 x2 m)
      rw [h]
      exact ih j' x0' x1' x2' m' hI' (by omega)
theorem zLet_eq {α β : Type} {e : α} {f : α → β} : zLet e f = f e := Eq.trans rfl rfl
theorem qCl.bd {k x : Int} (h : qCl k x) : 21 ≤ k ∧ k ≤ 25 ∧ 0 ≤ x ∧ x ≤ 199999 := by
  unfold qCl at h
  omega
theorem qStep.bd {M pc : Nat} {k x : Int} (h : qStep M pc k x) (hM : M ≤ 40) : 17 ≤ k ∧ k ≤ 25 ∧ 0 ≤ x ∧ x ≤ 199999 := by
  unfold qStep qCl at h
  omega
section QRN
variable {m mm : Mm} {a y t N n : Nat} {b p : Nat → Int} {K A : Nat → Int}
theorem sol_holds (ha : a = 152) (hy : y < 400) (h20 : N ≤ 20) (h25 : zI m 25 3 = i3 N) (h6 : zI m a 6 = i3 y) (hWk : 0 < N → Wk m (a + 1) y t)
    (hB : ∀ f, f < N → zI m (a + 2) f = i3 (b f) ∧ -1 ≤ b f ∧ b f < 400) (hP : ∀ f, f < N → zI m (a + 4) f = i3 (p f) ∧ -1 ≤ p f ∧ p f < sLen y)
    (hC : Cd m 171 K A n) (hq : ∀ i, i < n → qStep n i (K i) (A i) ∧ qNm N (K i) (A i)) :
    ∃ m', f_Sol_questionHolds a m = some (b3 (qgo (sQ y N b p) K A n n 0 false), m') ∧ (m' = m ∨ ∃ v, m' = wI m (a + 1) 5 v) := by
  have h40 := hC.1
  rw [e_Sol_questionHolds]
  refine ex_zLp3 (Q := fun X => ∃ m', X = some (b3 (qgo (sQ y N b p) K A n n 0 false), m') ∧ (m' = m ∨ ∃ v, m' = wI m (a + 1) 5 v))
    (fun j x1 x2 x3 mm => ∃ (f : Bool) (pc met u : Nat), x1 = b3 f ∧ x2 = i3 pc ∧ x3 = i3 met ∧ met ≤ pc ∧ pc ≤ n ∧ j = n - pc ∧ n ≤ u + pc ∧ qgo (sQ y N b p) K A n u pc f = qgo (sQ y N b p) K A n n 0 false ∧ (mm = m ∨ ∃ v, mm = wI m (a + 1) 5 v)) ?_ zFu n _ _ _ _ ⟨false, 0, 0, n, rfl, rfl, rfl, Nat.le_refl _, Nat.zero_le _, rfl, Nat.le_refl _, rfl, Or.inl rfl⟩ (by unfold zFu; omega)
  rintro r j x1 x2 x3 mm ⟨f, pc, met, u, rfl, rfl, rfl, hmp, hpn, rfl, hu, hx, hm⟩
  have hC' : Cd mm 171 K A n := by
    rcases hm with rfl | ⟨v, rfl⟩
    · exact hC
    · exact hC.ne (by omega)
  have keep : ∀ c i, (c ≠ a + 1 ∨ i ≠ 5) → zI mm c i = zI m c i := by
    intro c i hc
    rcases hm with rfl | ⟨v, rfl⟩
    · rfl
    · rcases hc with hc | hc
      · exact zI_ne hc
      · by_cases e : c = a + 1
        · rw [e, zI_nk hc]
        · exact zI_ne e
  unfold l_Sol_questionHolds_0
  rw [cod_size hC', zBP_some, it_le ⟨by omega, by omega⟩ ⟨by omega, by omega⟩]
  by_cases e : n ≤ pc
  · left
    rw [qgo_end e] at hx
    have e1 : pc = n := by omega
    by_cases e2 : (n : Int) ≤ met
    · rw [if_pos e2, if_pos (b3_bo _), hx]
      exact ⟨mm, rfl, hm⟩
    · rw [if_neg e2, zBP_some, it_le ⟨by omega, by omega⟩ ⟨by omega, by omega⟩, if_pos (by omega), if_pos (b3_bo _), hx]
      exact ⟨mm, rfl, hm⟩
  · right
    have hlt : pc < n := by omega
    obtain ⟨hs, hn⟩ := hq pc hlt
    have hbd := hs.bd h40
    obtain ⟨u', rfl⟩ : ∃ u', u = u' + 1 := ⟨u - 1, by omega⟩
    rw [qgo_go hlt] at hx
    have hN : pc < xN (K pc) (A pc) pc (qF (sQ y N b p) (K pc) (A pc) f) ∧ xN (K pc) (A pc) pc (qF (sQ y N b p) (K pc) (A pc) f) ≤ n := by
      unfold xN
      split
      · next h => unfold qStep qCl at hs; omega
      · omega
    rw [if_neg (by omega), zBP_some, it_le ⟨by omega, by omega⟩ ⟨by omega, by omega⟩, if_neg (by omega), cod_kind hC' hlt, zBP_some]
    simp only [zLet]
    have fin : ∀ (f' : Bool) (mm' : Mm), f' = qF (sQ y N b p) (K pc) (A pc) f → (mm' = m ∨ ∃ v, mm' = wI m (a + 1) 5 v) → ∀ X : Option (Int32 × Mm), X = (zBP (f_Cod_placeAfter 171 (i3 pc) (b3 f') mm') fun v15 => r (b3 f') v15 (i3 met + 1) mm') → ∃ (x0' x1' x2' : Int32) (m' : Mm) (j' : Nat), j' < n - pc ∧ (∃ (f : Bool) (pc met u : Nat), x0' = b3 f ∧ x1' = i3 pc ∧ x2' = i3 met ∧ met ≤ pc ∧ pc ≤ n ∧ j' = n - pc ∧ n ≤ u + pc ∧ qgo (sQ y N b p) K A n u pc f = qgo (sQ y N b p) K A n n 0 false ∧ (m' = m ∨ ∃ v, m' = wI m (a + 1) 5 v)) ∧ X = r x0' x1' x2' m' := by
      intro f' mm' hf' hm' X hX
      subst hf'
      have hC2 : Cd mm' 171 K A n := by
        rcases hm' with rfl | ⟨v, rfl⟩
        · exact hC
        · exact hC.ne (by omega)
      rw [cod_after hC2 hlt ⟨by omega, by omega⟩ (fun _ _ => by omega), zBP_some, i3_add1] at hX
      exact ⟨_, _, _, mm', n - xN (K pc) (A pc) pc (qF (sQ y N b p) (K pc) (A pc) f), by omega, ⟨_, _, met + 1, u', rfl, rfl, rfl, by omega, hN.2, rfl, by omega, hx, hm'⟩, hX⟩
    have e17 : (i3 (K pc) = 17) ↔ K pc = 17 := i3_eq (b := 17) ⟨by omega, by omega⟩ ⟨by decide, by decide⟩
    have e21 : (i3 (K pc) < 21) ↔ K pc < 21 := i3_lt (b := 21) ⟨by omega, by omega⟩ ⟨by decide, by decide⟩
    simp only [e17, e21]
    by_cases c17 : K pc = 17
    · rw [if_pos c17]
      have eF : qF (sQ y N b p) (K pc) (A pc) f = !f := if_pos c17
      cases f with
      | false =>
        rw [if_pos (show b3 false = 0 by decide)]
        exact fin true mm (by rw [eF]; rfl) hm _ rfl
      | true =>
        rw [if_neg (show ¬ b3 true = 0 by decide)]
        exact fin false mm (by rw [eF]; rfl) hm _ rfl
    rw [if_neg c17]
    by_cases c21 : K pc < 21
    · rw [if_pos c21]
      exact fin f mm (by unfold qF; rw [if_neg c17, if_pos c21]) hm _ rfl
    · rw [if_neg c21, cod_arg hC' hlt, zBP_some]
      have hcl : qCl (K pc) (A pc) := by unfold qStep qCl at *; omega
      have hWk' : 0 < N → Wk mm (a + 1) y t := by
        intro h0
        rcases hm with rfl | ⟨v, rfl⟩
        · exact hWk h0
        · exact (hWk h0).w5 _
      obtain ⟨m2, e2, h2⟩ := boo_claim (m := mm) (a := a) hy h20 (by rw [keep _ _ (Or.inl (by omega)), h25]) (by rw [keep _ _ (Or.inl (by omega)), h6]) hWk' (fun f hf => by rw [keep _ _ (Or.inl (by omega))]; exact hB f hf) (fun f hf => by rw [keep _ _ (Or.inl (by omega))]; exact hP f hf) hcl hn
      rw [e2, zBI_some]
      refine fin _ m2 (by unfold qF; rw [if_neg c17, if_neg c21]) ?_ _ rfl
      rcases h2 with rfl | ⟨v, rfl⟩
      · exact hm
      · rcases hm with rfl | ⟨w, rfl⟩
        · exact Or.inr ⟨v, rfl⟩
        · exact Or.inr ⟨v, wI_wI⟩
/-! the reference's row of answers -/
def Stk (m : Mm) : List Bool → Prop
  | [] => True
  | b :: t => zI m 222 t.length = b3 b ∧ Stk m t
theorem Stk.w {m : Mm} {k : Nat} {v : Int32} : ∀ {st : List Bool}, Stk m st → st.length ≤ k → Stk (wI m 222 k v) st
  | [], _, _ => trivial
  | _ :: _, h, hk => ⟨by rw [zI_nk (by simp at hk; omega)]; exact h.1, h.2.w (by simp at hk; omega)⟩
/-- the reference keeps the question so -/
def Rq (m : Mm) (C : Cx) : Prop := C.length ≤ 40 ∧ zI m 201 34 = i3 C.length ∧ ∀ i, i < C.length → zI m 220 i = i3 (C.getD i (0, 0)).1 ∧ zI m 221 i = i3 (C.getD i (0, 0)).2
theorem mod_holds {C : Cx} {V : Bool} (hy : y < 400) (ht : t < 2) (h20 : N ≤ 20) (h19 : zI m 201 19 = i3 N) (h1 : zI m 201 1 = i3 t)
    (hB : ∀ f, f < N → zI m 216 (20 * t + f) = i3 (b f) ∧ -1 ≤ b f ∧ b f < 400) (hP : ∀ f, f < N → zI m 219 f = i3 (p f) ∧ -1 ≤ p f ∧ p f < sLen y)
    (hC : Rq m C) (hq : ∀ q, q ∈ C → qSt q ∧ qNm N (q.1 + 20) q.2) (hV : pzL (sQ y N b p) C [] = some [V]) :
    ∃ m', zLp2 (l_Mod_holdsFor_0 (i3 y)) zFu 0 0 m = some (b3 V, m') ∧ Fx1 222 m m' := by
  obtain ⟨h40, h34, hc⟩ := hC
  refine ex_zLp2 (Q := fun X => ∃ m', X = some (b3 V, m') ∧ Fx1 222 m m')
    (fun j x2 x3 mm => ∃ (st : List Bool) (i : Nat), x2 = i3 st.length ∧ x3 = i3 i ∧ i ≤ C.length ∧ st.length ≤ i ∧ j = C.length - i ∧ Stk mm st ∧ pzL (sQ y N b p) (C.drop i) st = some [V] ∧ Fx1 222 m mm) ?_ zFu C.length _ _ _ ⟨[], 0, rfl, rfl, Nat.zero_le _, Nat.le_refl _, rfl, trivial, hV, Fx1.refl⟩ (by unfold zFu; omega)
  rintro r j x2 x3 mm ⟨st, i, rfl, rfl, hi, hsi, rfl, hS, hp, hF⟩
  have keep : ∀ c k, c ≠ 222 → zI mm c k = zI m c k := hF.2
  unfold l_Mod_holdsFor_0
  rw [keep _ _ (by decide), h34, it_le ⟨by omega, by omega⟩ ⟨by omega, by omega⟩]
  by_cases e : (C.length : Int) ≤ i
  · left
    have e1 : i = C.length := by omega
    rw [e1, List.drop_length] at hp
    have e2 : st = [V] := by cases hp; rfl
    rw [e2] at hS
    have ez : zIx 0 = 0 := by decide
    have e3 : zI mm 222 (zIx 0) = b3 V := by
      rw [ez]
      exact hS.1
    rw [if_pos e, if_pos (by decide), e3, if_pos (b3_bo _)]
    exact ⟨mm, rfl, hF⟩
  · right
    have hlt : i < C.length := by omega
    have hin : zIn (i3 (i : Int)) 80 := (i3_in ⟨by omega, by omega⟩).mpr ⟨by omega, by omega⟩
    have hix : zIx (i3 (i : Int)) = i := by rw [i3_ix ⟨by omega, by omega⟩, Int.toNat_natCast]
    have hmem : C.getD i (0, 0) ∈ C := by
      rw [List.getD_eq_getElem?_getD, List.getElem?_eq_getElem hlt]
      exact List.getElem_mem hlt
    have hdrop : C.drop i = C.getD i (0, 0) :: C.drop (i + 1) := by
      rw [List.getD_eq_getElem?_getD, List.getElem?_eq_getElem hlt]
      exact List.drop_eq_getElem_cons hlt
    obtain ⟨c1, c2⟩ := hc i hlt
    obtain ⟨hs, hn⟩ := hq _ hmem
    rw [hdrop] at hp
    generalize C.getD i (0, 0) = q at c1 c2 hs hn hp
    obtain ⟨k, x⟩ := q
    simp only at c1 c2 hs hn
    have hkb : 1 ≤ k ∧ k ≤ 8 := by
      unfold qSt at hs
      simp only at hs
      rcases hs with h | h | h | h
      · have := h.bd; omega
      · omega
      · omega
      · omega
    have e5 : (5 < i3 k) ↔ 5 < k := i3_lt (a := 5) ⟨by decide, by decide⟩ ⟨by omega, by omega⟩
    have e6 : (i3 k = 6) ↔ k = 6 := i3_eq (b := 6) ⟨by omega, by omega⟩ ⟨by decide, by decide⟩
    have e7 : (i3 k = 7) ↔ k = 7 := i3_eq (b := 7) ⟨by omega, by omega⟩ ⟨by decide, by decide⟩
    have hp2 : (pz1 (sQ y N b p) (k, x) st).bind (pzL (sQ y N b p) (C.drop (i + 1))) = some [V] := hp
    rw [if_neg e, if_pos hin, hix, keep 220 _ (by decide), c1, zLet_eq, zLet_eq]
    unfold pz1 at hp2
    simp only at hp2
    by_cases k5 : k ≤ 5
    · rw [if_pos k5, Option.bind_some] at hp2
      have hcl : qCl (k + 20) x := by
        unfold qSt at hs
        simp only at hs
        rcases hs with h | h | h | h
        · exact h
        · omega
        · omega
        · omega
      have hins : zIn (i3 (st.length : Int)) 80 := (i3_in ⟨by omega, by omega⟩).mpr ⟨by omega, by omega⟩
      have hixs : zIx (i3 (st.length : Int)) = st.length := by rw [i3_ix ⟨by omega, by omega⟩, Int.toNat_natCast]
      rw [if_neg (fun z => absurd (e5.mp z) (by omega)), if_pos hin, keep 221 _ (by decide), c2, mod_answer (m := mm) hy ht h20 (by rw [keep _ _ (by decide), h19]) (by rw [keep _ _ (by decide), h1]) (fun f hf => by rw [keep _ _ (by decide)]; exact hB f hf) (fun f hf => by rw [keep _ _ (by decide)]; exact hP f hf) hcl hn, zBP_some, if_pos (b3_bo _), if_pos hins, hixs]
      simp only [zLet, i3_add1]
      refine ⟨_, _, _, C.length - (i + 1), by omega, ⟨sQ y N b p (k + 20) x :: st, i + 1, ?_, rfl, by omega, by simp; omega, rfl, ⟨zI_eq, hS.w (Nat.le_refl _)⟩, hp2, hF.w⟩, rfl⟩
      simp only [List.length_cons]
      rfl
    rw [if_neg k5] at hp2
    rw [if_pos (e5.mpr (by omega))]
    by_cases k6 : k = 6
    · rw [if_pos k6] at hp2
      rw [if_pos (e6.mpr k6)]
      simp only [zLet, i3_add1]
      cases st with
      | nil => exact nomatch hp2
      | cons v s =>
        rw [Option.bind_some] at hp2
        rw [List.length_cons] at hsi
        have hx : i3 ((v :: s).length : Int) - 1 = i3 (s.length : Int) := by
          rw [show (1 : Int32) = i3 1 from rfl, i3_sub, List.length_cons]
          congr 1
          omega
        have hins : zIn (i3 (s.length : Int)) 80 := (i3_in ⟨by omega, by omega⟩).mpr ⟨by omega, by omega⟩
        have hixs : zIx (i3 (s.length : Int)) = s.length := by rw [i3_ix ⟨by omega, by omega⟩, Int.toNat_natCast]
        rw [hx, if_pos hins, hixs, hS.1]
        have fin : ∀ w : Bool, (if zBo (b3 w) then if zIn (i3 (s.length : Int)) 80 then r (i3 ((v :: s).length : Int)) (i3 ((i + 1 : Nat) : Int)) (wI mm 222 s.length (b3 w)) else none else none) = r (i3 ((v :: s).length : Int)) (i3 ((i + 1 : Nat) : Int)) (wI mm 222 s.length (b3 w)) := fun w => by rw [if_pos (b3_bo _), if_pos hins]
        refine ⟨i3 ((v :: s).length : Int), i3 ((i + 1 : Nat) : Int), wI mm 222 s.length (b3 !v), C.length - (i + 1), by omega, ⟨(!v) :: s, i + 1, rfl, rfl, by omega, by simp; omega, rfl, ⟨zI_eq, hS.2.w (Nat.le_refl _)⟩, hp2, hF.w⟩, ?_⟩
        cases v with
        | false =>
          rw [if_pos (show b3 false = 0 by decide)]
          exact fin true
        | true =>
          rw [if_neg (show ¬ b3 true = 0 by decide)]
          exact fin false
    rw [if_neg k6] at hp2
    rw [if_neg (fun z => k6 (e6.mp z)), zLet_eq]
    cases st with
    | nil => exact nomatch hp2
    | cons w s0 =>
      cases s0 with
      | nil => exact nomatch hp2
      | cons v s =>
        rw [Option.bind_some] at hp2
        rw [List.length_cons, List.length_cons] at hsi
        have hx1 : i3 ((w :: v :: s).length : Int) + (-1) = i3 ((s.length + 1 : Nat) : Int) := by
          rw [show (-1 : Int32) = i3 (-1) from rfl, i3_add, List.length_cons, List.length_cons]
          congr 1
          omega
        have hx2 : i3 ((s.length + 1 : Nat) : Int) - 1 = i3 (s.length : Int) := by
          rw [show (1 : Int32) = i3 1 from rfl, i3_sub]
          congr 1
          omega
        have hins : zIn (i3 (s.length : Int)) 80 := (i3_in ⟨by omega, by omega⟩).mpr ⟨by omega, by omega⟩
        have hixs : zIx (i3 (s.length : Int)) = s.length := by rw [i3_ix ⟨by omega, by omega⟩, Int.toNat_natCast]
        have hins1 : zIn (i3 ((s.length + 1 : Nat) : Int)) 80 := (i3_in ⟨by omega, by omega⟩).mpr ⟨by omega, by omega⟩
        have hixs1 : zIx (i3 ((s.length + 1 : Nat) : Int)) = s.length + 1 := by rw [i3_ix ⟨by omega, by omega⟩, Int.toNat_natCast]
        have hw : zI mm 222 (s.length + 1) = b3 w := hS.1
        rw [hx1, hx2, if_pos hins, zLet_eq, if_pos hins1, zLet_eq, zLet_eq, hixs, hixs1, hS.2.1, hw]
        have fin : ∀ w : Bool, (if zBo (b3 w) then if zIn (i3 (s.length : Int)) 80 then r (i3 ((s.length + 1 : Nat) : Int)) (i3 (i : Int) + 1) (wI mm 222 s.length (b3 w)) else none else none) = r (i3 ((s.length + 1 : Nat) : Int)) (i3 ((i + 1 : Nat) : Int)) (wI mm 222 s.length (b3 w)) := fun w => by rw [if_pos (b3_bo _), if_pos hins, i3_add1]; rfl
        refine ⟨i3 ((s.length + 1 : Nat) : Int), i3 ((i + 1 : Nat) : Int), wI mm 222 s.length (b3 (if k = 7 then v && w else v || w)), C.length - (i + 1), by omega, ⟨(if k = 7 then v && w else v || w) :: s, i + 1, rfl, rfl, by omega, by simp; omega, rfl, ⟨zI_eq, hS.2.2.w (Nat.le_refl _)⟩, hp2, hF.w⟩, ?_⟩
        by_cases k7 : k = 7
        · rw [if_pos (e7.mpr k7), zLet_eq, if_pos k7]
          cases v with
          | false =>
            rw [if_pos (show b3 false = 0 by decide)]
            exact fin false
          | true =>
            rw [if_neg (show ¬ b3 true = 0 by decide)]
            cases w with
            | false =>
              rw [if_pos (show b3 false = 0 by decide)]
              exact fin false
            | true =>
              rw [if_neg (show ¬ b3 true = 0 by decide)]
              exact fin true
        · rw [if_neg (fun z => k7 (e7.mp z)), zLet_eq, if_neg k7]
          cases v with
          | false =>
            rw [if_pos (show b3 false = 0 by decide)]
            cases w with
            | false =>
              rw [if_pos (show b3 false = 0 by decide)]
              exact fin false
            | true =>
              rw [if_neg (show ¬ b3 true = 0 by decide)]
              exact fin true
          | true =>
            rw [if_neg (show ¬ b3 true = 0 by decide)]
            exact fin true
end QRN
