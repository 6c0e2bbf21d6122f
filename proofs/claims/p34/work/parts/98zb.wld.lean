/-! THE WORLD AT THE START, out of the tables and of what the Statement gives -/
theorem nw_RL_63 : zNw RL 63 10 9 := ⟨RX11, TX11, tyX11, rfl, tyX11_ok, zinG_X11, zG_in 67 (by decide +kernel) (by decide +kernel), zG_in 68 (by decide +kernel) (by decide +kernel), zG_in 43 (by decide +kernel) (by decide +kernel), by decide +kernel⟩
theorem mi_RL_138 : zMi RL 138 yX11_init cX11_init 1 0 := ⟨Or.inl (zG_in 69 (by decide +kernel) (by decide +kernel)), zG_in 70 (by decide +kernel) (by decide +kernel), rfl, zG_in 43 (by decide +kernel) (by decide +kernel), zG_in 71 (by decide +kernel) (by decide +kernel), ⟨by decide +kernel, by decide +kernel⟩, by decide +kernel⟩
abbrev zF : List Cond := flatC (Jvm.Cond.and given_1 narrow_1)
def zStI : List (Nat × Nat) := [(1306, 795), (1296, 765), (436, 116), (450, 158), (638, 266), (643, 289), (717, 404), (729, 446), (742, 493), (751, 526), (931, 553), (936, 584), (995, 634), (1004, 662), (1009, 688), (1230, 712), (1273, 738), (716, 376), (405, 90), (637, 240), (994, 607), (698, 350), (660, 312)]
def zSixI : List (Nat × Nat) := [(493, 188), (574, 194), (575, 201), (576, 207), (592, 212), (593, 217), (618, 221), (619, 227), (620, 234)]
theorem zF_st : ∀ k, k < 23 → lw_tbl[(zStI.getD k (0, 0)).1]? = some (Cond.stringRef (zSt.getD k ("", 0, "")).1 (zSt.getD k ("", 0, "")).2.1 (zSt.getD k ("", 0, "")).2.2) ∧ zF[(zStI.getD k (0, 0)).2]? = some (Cond.exactly (.string (zSt.getD k ("", 0, "")).1 (zSt.getD k ("", 0, "")).2.1) "java/lang/String") := by decide +kernel
theorem zF_mon : ∀ j, j < 13 → zF[14 + j]? = some (Cond.eq (.elem (Term.static "AlmanacLoom$Calendar" "MONTH_STARTS" "[I") (.int (Int32.ofNat j))) (.int (zMonL.getD j 0))) := by decide +kernel
theorem zF_cst : ∀ j, j < 21 → zF[30 + j]? = some (Cond.eq (.elem (Term.static "AlmanacLoom$YearBook" "STEP_COSTS" "[I") (.int (Int32.ofNat j))) (.int (zCstL.getD j 0))) := by decide +kernel
abbrev zTr (i : Nat) : Term := .string "AlmanacLoom$Parser" (zSix.getD i (0, "")).1
abbrev zTv (i : Nat) : Term := .field (zTr i) "java/lang/String" "value" "[B"
theorem zF_s1 : ∀ i, i < 9 → zF[(zSixI.getD i (0, 0)).2]? = some (Cond.exactly (zTr i) "java/lang/String") := by decide +kernel
theorem zF_s2 : ∀ i, i < 9 → zF[(zSixI.getD i (0, 0)).2 + 1]? = some (Cond.eq (.field (zTr i) "java/lang/String" "coder" "B") (.int 0)) := by decide +kernel
theorem zF_s3 : ∀ i, i < 9 → zF[(zSixI.getD i (0, 0)).2 + 2]? = some (Cond.arrayOf (zTv i) .byte) := by decide +kernel
theorem zF_s4 : ∀ i, i < 9 → zF[(zSixI.getD i (0, 0)).2 + 3]? = some (Cond.eq (.length (zTv i)) (.int (Int32.ofNat (zSLn.getD i 0)))) := by decide +kernel
theorem zF_s5 : ∀ i, i < 9 → ∀ j, j < zSLn.getD i 0 → zF[(zSixI.getD i (0, 0)).2 + 4 + j]? = some (Cond.eq (.elem (zTv i) (.int (Int32.ofNat j))) (.int ((zSBy.getD i []).getD j 0))) := by decide +kernel
theorem zF_s6 : ∀ i, i < 9 → lw_tbl[(zSixI.getD i (0, 0)).1]? = some (Cond.stringRef "AlmanacLoom$Parser" (zSix.getD i (0, "")).1 (zSix.getD i (0, "")).2) := by decide +kernel
theorem str_apart : ∀ i, i < 9 → ∀ j, j < 9 → i ≠ j → Int32.ofNat (zSLn.getD i 0) ≠ Int32.ofNat (zSLn.getD j 0) ∨ ((List.range 3).any fun k => decide (k < zSLn.getD i 0 ∧ k < zSLn.getD j 0 ∧ (zSBy.getD i []).getD k 0 ≠ (zSBy.getD j []).getD k 0)) = true := by decide +kernel
theorem zSLn_sm : ∀ i, i < 9 → zSLn.getD i 0 < 2 ^ 31 := by decide +kernel
theorem len_congr {args : Array Value} {s : State} {t u : Term} (h : t.eval args s none [] s = u.eval args s none [] s) : (Term.length t).eval args s none [] s = (Term.length u).eval args s none [] s := by simp only [Term.eval, h]
theorem elem_congr {args : Array Value} {s : State} {t u i : Term} (h : t.eval args s none [] s = u.eval args s none [] s) : (Term.elem t i).eval args s none [] s = (Term.elem u i).eval args s none [] s := by simp only [Term.eval, h]
theorem kn_of {s : State} {args : Array Value} (hts : ∀ w ∈ zG, w.before args s = true) {own : String} {idx ci N : Nat} (h : zNw own idx ci N) : ∃ (cC : ClassId) (iS : Nat → Nat), ∀ q : vw_C, vwCl[ci]? = some q → u_Kn s q.1 q.2.1 q.2.2 cC iS := by
  obtain ⟨C, T, ty, h1, h2, h3, h4, h5, h6, h7⟩ := h
  obtain ⟨cC, iS, hk⟩ := u_known hts h3 (hts _ h5)
  exact ⟨cC, iS, fun q hq => by rw [h1] at hq; cases hq; exact hk⟩
theorem kn_all {s : State} {args : Array Value} (hts : ∀ w ∈ zG, w.before args s = true) : ∃ (dC : Nat → ClassId) (dI : Nat → Nat → Nat), ∀ (c : Nat) (q : vw_C), vwCl[c]? = some q → u_Kn s q.1 q.2.1 q.2.2 (dC c) (dI c) := by
  have h : ∀ c : Nat, ∃ p : ClassId × (Nat → Nat), ∀ q : vw_C, vwCl[c]? = some q → u_Kn s q.1 q.2.1 q.2.2 p.1 p.2 := by
    intro c
    match c with
    | 0 => obtain ⟨a, b, h⟩ := kn_of hts nw_RX11_23; exact ⟨(a, b), h⟩
    | 1 => obtain ⟨a, b, h⟩ := kn_of hts nw_RX11_56; exact ⟨(a, b), h⟩
    | 2 => obtain ⟨a, b, h⟩ := kn_of hts nw_RX5_11; exact ⟨(a, b), h⟩
    | 3 => obtain ⟨a, b, h⟩ := kn_of hts nw_RX0_11; exact ⟨(a, b), h⟩
    | 4 => obtain ⟨a, b, h⟩ := kn_of hts nw_RX11_16; exact ⟨(a, b), h⟩
    | 5 => obtain ⟨a, b, h⟩ := kn_of hts nw_RX11_42; exact ⟨(a, b), h⟩
    | 6 => obtain ⟨a, b, h⟩ := kn_of hts nw_RX11_49; exact ⟨(a, b), h⟩
    | 7 => obtain ⟨a, b, h⟩ := kn_of hts nw_RX11_7; exact ⟨(a, b), h⟩
    | 8 => obtain ⟨a, b, h⟩ := kn_of hts nw_RX10_9; exact ⟨(a, b), h⟩
    | 9 => obtain ⟨a, b, h⟩ := kn_of hts nw_RX11_30; exact ⟨(a, b), h⟩
    | 10 => obtain ⟨a, b, h⟩ := kn_of hts nw_RL_63; exact ⟨(a, b), h⟩
    | n + 11 =>
      obtain ⟨a, b, -⟩ := kn_of hts nw_RL_63
      exact ⟨(a, b), fun q hq => absurd (List.getElem?_eq_some_iff.mp hq).1 (by have h9 : vwCl.length = 11 := rfl; omega)⟩
  obtain ⟨f, hf⟩ := Classical.axiomOfChoice h
  exact ⟨fun c => (f c).1, fun c => (f c).2, hf⟩
theorem arr_all {s : State} {args : Array Value} (hts : ∀ w ∈ zG, w.before args s = true) : ∃ cA : Nat → ClassId, ∀ (k : Nat) (q : ClassId × FieldType), ([(cA 0, .int), (cA 1, .char), (cA 2, .int), (cA 3, .int), (cA 4, .object "AlmanacLoom$Feast"), (cA 5, .array .int)] : List (ClassId × FieldType))[k]? = some q → ArrOfT s q.1 q.2 ∧ va_RA s q.1 q.2 := by
  obtain ⟨c0, k0, p0, a0, b0, d0⟩ := Cond.arrayClass_spec (hts _ ca_int)
  obtain ⟨c1, k1, p1, a1, b1, d1⟩ := Cond.arrayClass_spec (hts _ ca_char)
  obtain ⟨c2, k2, p2, a2, b2, d2⟩ := Cond.arrayClass_spec (hts _ ca_int)
  obtain ⟨c3, k3, p3, a3, b3, d3⟩ := Cond.arrayClass_spec (hts _ ca_int)
  obtain ⟨p4, c4, k4, e4, i4, b4, d4, a4⟩ := Cond.arrayOver_spec (hts _ ca_F)
  obtain ⟨p5, c5, k5, e5, i5, b5, d5, a5⟩ := arrayOverA_spec (hts _ ca_A)
  refine ⟨fun k => match k with | 0 => c0 | 1 => c1 | 2 => c2 | 3 => c3 | 4 => c4 | _ => c5, fun k q hq => ?_⟩
  match k, hq with
  | 0, hq => cases hq; exact ⟨fun n z => ⟨(fun k h => by cases h), k0, b0, p0, d0⟩, a0⟩
  | 1, hq => cases hq; exact ⟨fun n z => ⟨(fun k h => by cases h), k1, b1, p1, d1⟩, a1⟩
  | 2, hq => cases hq; exact ⟨fun n z => ⟨(fun k h => by cases h), k2, b2, p2, d2⟩, a2⟩
  | 3, hq => cases hq; exact ⟨fun n z => ⟨(fun k h => by cases h), k3, b3, p3, d3⟩, a3⟩
  | 4, hq => cases hq; exact ⟨fun n z => ⟨(fun k h => by cases h), k4, b4, p4, d4⟩, k4, p4, b4, d4, e4, a4⟩
  | 5, hq => cases hq; exact ⟨fun n z => ⟨(fun k h => by cases h), k5, b5, p5, d5⟩, a5⟩
  | n + 6, hq => simp at hq
section WLD
variable {s : State} {args : Array Value} {A : Nat → Prop}
theorem wld_str (hT : ∀ w ∈ lw_tbl, w.before args s = true) (hm : ∀ (i : Nat) (w : Cond), zF[i]? = some w → w.before args s = true) (hA : ∀ a : Nat, a < s.heap.size → ¬ A a) : ∃ adK adV : Nat → Nat, vk_S 9 zSLn zSBy adK adV A s s.heap ∧ ∀ i, i < 9 → vk_R "AlmanacLoom$Parser" (zSix.getD i (0, "")).1 (zSix.getD i (0, "")).2 (adK i) s := by
  have hl : ∀ i, i < 9 → (Term.length (zTv i)).eval args s none [] s = some (.int (Int32.ofNat (zSLn.getD i 0))) := fun i hi => va_eqt (hm _ _ (zF_s4 i hi))
  have he : ∀ i, i < 9 → ∀ j, j < zSLn.getD i 0 → (Term.elem (zTv i) (.int (Int32.ofNat j))).eval args s none [] s = some (.int ((zSBy.getD i []).getD j 0)) := fun i hi j hj => va_eqt (hm _ _ (zF_s5 i hi j hj))
  have hne : ∀ i j, i < 9 → j < 9 → i ≠ j → (Cond.not (Cond.eq (zTr i) (zTr j))).before args s = true := by
    intro i j hi hj hij
    obtain ⟨a, c1, c2, c3, q1, -⟩ := Cond.exactly_spec (args := args) (first := s) (o := none) (s := s) (idx := []) (hm _ _ (zF_s1 i hi))
    obtain ⟨b, d1, d2, d3, q2, -⟩ := Cond.exactly_spec (args := args) (first := s) (o := none) (s := s) (idx := []) (hm _ _ (zF_s1 j hj))
    by_cases hab : a = b
    · exfalso
      subst hab
      have ef : (zTv i).eval args s none [] s = (zTv j).eval args s none [] s := (va_fe q1).trans (va_fe q2).symm
      rcases str_apart i hi j hj hij with h | h
      · exact h (Value.int.inj (Option.some.inj ((hl i hi).symm.trans ((len_congr ef).trans (hl j hj)))))
      · obtain ⟨k, -, hk⟩ := List.any_eq_true.mp h
        obtain ⟨h1, h2, h3⟩ := of_decide_eq_true hk
        exact h3 (Value.int.inj (Option.some.inj ((he i hi k h1).symm.trans ((elem_congr ef).trans (he j hj k h2)))))
    · simp [Cond.before, Cond.holds, Cond.value, q1, q2, hab]
  obtain ⟨adK, adV, h1, h2⟩ := vk_Sof (N := 9) (tm := zTr) (len := zSLn) (byt := zSBy) (A := A) zSLn_sm (fun i hi => hm _ _ (zF_s1 i hi)) (fun i hi => hm _ _ (zF_s2 i hi)) (fun i hi => hm _ _ (zF_s3 i hi)) (fun i hi => hm _ _ (zF_s4 i hi)) (fun i hi j hj => hm _ _ (zF_s5 i hi j hj)) (fun i j hi hj hij => Or.inl (hne i j hi hj hij)) hA
  exact ⟨adK, adV, h1, fun i hi => vk_R.of (hT _ (List.mem_of_getElem? (zF_s6 i hi))) (h2 i hi)⟩
theorem wld_nc (hm : ∀ (i : Nat) (w : Cond), zF[i]? = some w → w.before args s = true) : ∀ e f : Nat, e < 3 → f < 3 → e ≠ f → va_Nc (zEx e) (zEx f) s := fun e f h1 h2 h3 => match e, f, h1, h2, h3 with
  | 0, 0, _, _, h => absurd rfl h
  | 0, 1, _, _, _ => va_Nc.of (hm 88 (.not (.castable (zEx 0) (zEx 1))) (by decide +kernel))
  | 0, 2, _, _, _ => va_Nc.of (hm 62 (.not (.castable (zEx 0) (zEx 2))) (by decide +kernel))
  | 1, 0, _, _, _ => va_Nc.of (hm 75 (.not (.castable (zEx 1) (zEx 0))) (by decide +kernel))
  | 1, 1, _, _, h => absurd rfl h
  | 1, 2, _, _, _ => va_Nc.of (hm 63 (.not (.castable (zEx 1) (zEx 2))) (by decide +kernel))
  | 2, 0, _, _, _ => va_Nc.of (hm 76 (.not (.castable (zEx 2) (zEx 0))) (by decide +kernel))
  | 2, 1, _, _, _ => va_Nc.of (hm 89 (.not (.castable (zEx 2) (zEx 1))) (by decide +kernel))
  | 2, 2, _, _, h => absurd rfl h
  | n + 3, _, h, _, _ => absurd h (by omega)
  | 0, n + 3, _, h, _ => absurd h (by omega)
  | 1, n + 3, _, h, _ => absurd h (by omega)
  | 2, n + 3, _, h, _ => absurd h (by omega)
theorem wld_st (hT : ∀ w ∈ lw_tbl, w.before args s = true) (hm : ∀ (i : Nat) (w : Cond), zF[i]? = some w → w.before args s = true) : ∀ q ∈ zSt, ∃ sa : Nat, vk_R q.1 q.2.1 q.2.2 sa s := by
  intro q hq
  obtain ⟨k, hk⟩ := List.getElem?_of_mem hq
  have h25 : zSt.length = 23 := rfl
  have hlt : k < 23 := by rw [← h25]; exact (List.getElem?_eq_some_iff.mp hk).1
  have e : zSt.getD k ("", 0, "") = q := by rw [List.getD_eq_getElem?_getD, hk]; rfl
  obtain ⟨h1, h2⟩ := zF_st k hlt
  rw [e] at h1 h2
  obtain ⟨a, c1, c2, c3, q1, -⟩ := Cond.exactly_spec (args := args) (first := s) (o := none) (s := s) (idx := []) (hm _ _ h2)
  exact ⟨a, vk_R.of (hT _ (List.mem_of_getElem? h1)) q1⟩
end WLD
theorem wld {s : State} {args : Array Value} {b L : Nat} {xs : Nat → Int32} (hT : ∀ w ∈ lw_tbl, w.before args s = true) (hX : va_X b L xs s s.heap) (hbl : b < s.heap.size) (hgv : (Jvm.Cond.and given_1 narrow_1).before args s = true) : ∃ ω : Wd, oS ω = s.heap.size ∧ oL ω = L ∧ oT ω = [] ∧ oX ω 1 = b ∧ zC ω s s.heap := by
  have hm : ∀ (i : Nat) (w : Cond), zF[i]? = some w → w.before args s = true := fun i w h => flat_of_before _ hgv w (List.mem_of_getElem? h)
  have hG : ∀ w ∈ zG, w.before args s = true := fun w hw => hT w (List.mem_filter.mp hw).1
  have hA : ∀ a : Nat, a < s.heap.size → ¬ (fun q : Nat => s.heap.size ≤ q) a := fun a h1 h2 => absurd h1 (Nat.not_lt.mpr h2)
  obtain ⟨dC, dI, hK⟩ := kn_all hG
  obtain ⟨cA, hAr⟩ := arr_all hG
  obtain ⟨t2, ht2, hT2⟩ := va_Tof (tm := (Term.static "AlmanacLoom$Calendar" "MONTH_STARTS" "[I")) (ty := .int) (N := 13) (f := fun j => .int (zMonL.getD j 0)) (by decide) (hm 12 _ (by decide +kernel)) (va_eqt (hm 13 (.eq (.length (Term.static "AlmanacLoom$Calendar" "MONTH_STARTS" "[I")) (.int (Int32.ofNat 13))) (by decide +kernel))) (fun j hj => va_eqt (hm _ _ (zF_mon j hj))) hA
  obtain ⟨t3, ht3, hT3⟩ := va_Tof (tm := (Term.static "AlmanacLoom$YearBook" "STEP_COSTS" "[I")) (ty := .int) (N := 21) (f := fun j => .int (zCstL.getD j 0)) (by decide) (hm 28 _ (by decide +kernel)) (va_eqt (hm 29 (.eq (.length (Term.static "AlmanacLoom$YearBook" "STEP_COSTS" "[I")) (.int (Int32.ofNat 21))) (by decide +kernel))) (fun j hj => va_eqt (hm _ _ (zF_cst j hj))) hA
  obtain ⟨adK, adV, hS, hR⟩ := wld_str (A := fun q : Nat => s.heap.size ≤ q) hT hm hA
  obtain ⟨f, f1, f2, f3, f4, f5⟩ : ∃ f : Nat → Nat, f 1 = b ∧ f 2 = t2 ∧ f 3 = t3 ∧ (∀ i, i < 9 → f (4 + i) = adK i) ∧ ∀ i, i < 9 → f (20 + i) = adV i := by
    refine ⟨fun k => if k = 1 then b else if k = 2 then t2 else if k = 3 then t3 else if k < 20 then adK (k - 4) else adV (k - 20), by simp, by simp, by simp, fun i hi => ?_, fun i hi => ?_⟩
    · show (if 4 + i = 1 then b else if 4 + i = 2 then t2 else if 4 + i = 3 then t3 else if 4 + i < 20 then adK (4 + i - 4) else adV (4 + i - 20)) = adK i
      rw [if_neg (by omega), if_neg (by omega), if_neg (by omega), if_pos (by omega), Nat.add_sub_cancel_left]
    · show (if 20 + i = 1 then b else if 20 + i = 2 then t2 else if 20 + i = 3 then t3 else if 20 + i < 20 then adK (20 + i - 4) else adV (20 + i - 20)) = adV i
      rw [if_neg (by omega), if_neg (by omega), if_neg (by omega), if_neg (by omega), Nat.add_sub_cancel_left]
  have hS' : vk_S 9 zSLn zSBy (fun i => f (4 + i)) (fun i => f (20 + i)) (fun q : Nat => s.heap.size ≤ q) s s.heap := by
    refine ⟨fun i hi => ?_, fun i j hi hj e => hS.2 i j hi hj ?_⟩
    · have h := hS.1 i hi
      rw [← f4 i hi, ← f5 i hi] at h
      exact h
    · rw [← f4 i hi, ← f4 j hj]
      exact e
  have hR' : ∀ (i : Nat) (q : Nat × String), zSix[i]? = some q → vk_R "AlmanacLoom$Parser" q.1 q.2 (f (4 + i)) s := fun i q hq => by
    have h9 : zSix.length = 9 := rfl
    have hlt : i < 9 := by rw [← h9]; exact (List.getElem?_eq_some_iff.mp hq).1
    have h := hR i hlt
    rw [show zSix.getD i (0, "") = q by rw [List.getD_eq_getElem?_getD, hq]; rfl] at h
    rw [f4 i hlt]
    exact h
  rw [← f1] at hX hbl
  rw [← f2] at hT2 ht2
  rw [← f3] at hT3 ht3
  have hZ2 := va_Zref (A := fun q : Nat => s.heap.size ≤ q) (hT _ (List.mem_of_getElem? (i := 565) (by decide +kernel))) (hG _ (zG_in 63 (by decide +kernel) (by decide +kernel))) ht2 hA
  have hZ3 := va_Zref (A := fun q : Nat => s.heap.size ≤ q) (hT _ (List.mem_of_getElem? (i := 805) (by decide +kernel))) (hG _ (zG_in 49 (by decide +kernel) (by decide +kernel))) ht3 hA
  have hU := vx_Zqof (A := fun q : Nat => s.heap.size ≤ q) (C := Bundle.tN) (n := "UNASSIGNED_STACK") (d := Bundle.steD) (hT _ (List.mem_of_getElem? (i := 391) (by decide +kernel))) (hG _ (zG_in 54 (by decide +kernel) (by decide +kernel))) (hm 4 _ (by decide +kernel)) hA
  have hN := vx_Zqof (A := fun q : Nat => s.heap.size ≤ q) (C := Bundle.tN) (n := "SUPPRESSED_SENTINEL") (d := Bundle.listD) (hT _ (List.mem_of_getElem? (i := 393) (by decide +kernel))) (hG _ (zG_in 54 (by decide +kernel) (by decide +kernel))) (hm 5 _ (by decide +kernel)) hA
  have hCS := va_Zof (A := fun q : Nat => s.heap.size ≤ q) (C := "java/lang/String") (n := "COMPACT_STRINGS") (d := "Z") (v := .int 1) (hT _ (List.mem_of_getElem? (i := 507) (by decide +kernel))) (hG _ (zG_in 59 (by decide +kernel) (by decide +kernel))) (va_eqi (hm 6 _ (by decide +kernel))) hA
  have hSF := va_Zqof (A := fun q : Nat => s.heap.size ≤ q) (C := "jdk/internal/util/Preconditions") (n := "SIOOBE_FORMATTER") (d := "Ljava/util/function/BiFunction;") (hT _ (List.mem_of_getElem? (i := 523) (by decide +kernel))) (hG _ (zG_in 61 (by decide +kernel) (by decide +kernel))) (hm 7 _ (by decide +kernel)) hA
  exact ⟨(s.heap.size, f, dC, dI, cA, L, xs, []), rfl, rfl, rfl, f1, ⟨hK, hAr⟩, hX, ⟨hbl, Nat.le_refl _⟩, hU, hN, ⟨wld_st hT hm, wld_nc hm⟩, ⟨hZ2, hT2⟩, ⟨hZ3, hT3⟩, hCS, hSF, hS', hR'⟩
