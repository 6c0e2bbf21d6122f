/-! THE LAW'S HELPERS: a method with handlers; made by the generator, but for the rules -/
def EvW (ω : Wd) (ph : Bool) (D mc ms : Nat) (y : MethodName) (cc : ByteArray) (nL : Nat) (ret : Option FieldType) (hh : List (Nat × Nat × Nat × Nat)) (av : List Value) (m : Mm) {α : Type} (φ : α → Zo) (t : Option α) : Prop :=
  ∀ r, t = some r → ∀ l : Launch, l.stackTraces = false → vx_Met l y (Cond.codeWith y cc nL ret hh :: zG) (zRm D mc ms) (zPc ω ph m av) (zQc ω ph (φ r)) (zXc ω ph (φ r)) mc ms (zA ω)
/-- a call's answer, given on: a value to K, an exception to KX -/
def hB {α : Type} (K : Int32 → Mm → Option α) (KX : Nat → Mm → Option α) (f : Option ((Int32 ⊕ Nat) × Mm)) : Option α := f.bind fun r => match r.1 with | .inl v => K v r.2 | .inr e => KX e r.2
section LWR
variable {ω : Wd} {ph : Bool} {D mc ms : Nat} {κ : Kx} {α : Type} {φ : α → Zo} {c0 s0 : Nat} {m : Mm} {pc : Nat} {ls : List (Option Value)} {st rest As : List Value} {t : Option α}
variable {D' mc' ms' nL' idx : Nat} {y : MethodName} {cc' : ByteArray} {ret' : Option FieldType}
theorem EvW.of {cc : ByteArray} {nL : Nat} {ret : Option FieldType} {hh : List (Nat × Nat × Nat × Nat)} {av : List Value} (hy : plainName y.cls = true) (hav0 : av.all (fun v => v.category == 1) = true) (hlen : av.length ≤ nL) (hls : av.map some ++ List.replicate (nL - av.length) none = ls)
    (k : Sx ω ph D mc ms (y.cls, cc, nL, ret, hh, false) φ 0 0 m 0 ls [] t) : EvW ω ph D mc ms y cc nL ret hh av m φ t := by
  subst hls
  have hav : ∀ v ∈ av, v.category = 1 := fun v hv => by simpa using List.all_eq_true.mp hav0 v hv
  intro r hr l hl
  refine vx_ofWH hy rfl ?_
  intro p e s mid args below meth c s₁ B hml hP
  obtain ⟨rfl, hH, hC⟩ := hP
  rw [entry_eq mid av hav nL]
  have hts := atoms_spec (ws := Cond.codeWith y cc nL ret hh :: zG) B.pre
  have htab : c.exceptionTable.toList = tableOf hh := vx_table (x := y) B (hts _ List.mem_cons_self)
  exact k r hr p l e s mid _ below meth c s.heap [] _ ⟨B.exec, B.bytes, B.returns, hml, findClass_of_methodNamed B.named, fun w hw => hts w (List.mem_cons_of_mem _ hw), B.notSynchronized, hl, hC, htab, fun hb => by cases hb⟩ (zEntry hav hlen) hH va_S.rf
/-- a row of the handlers takes exception e9 at pc, and leads to hp -/
def zCt (κ : Kx) (pc e9 hp : Nat) : Prop := ∃ (pre : List ExceptionTableEntry) (x : ExceptionTableEntry) (suf : List ExceptionTableEntry), tableOf κ.2.2.2.2.1 = pre ++ x :: suf ∧ x.handlerPc = hp ∧ (∀ z ∈ pre, z.catchType ≠ 0 ∧ ∃ e', e' < 3 ∧ e' ≠ e9 ∧ Cond.classLink κ.1 z.catchType (zEx e') ∈ zG) ∧ covers x pc = true ∧ x.catchType ≠ 0 ∧ e9 < 3 ∧ Cond.classLink κ.1 x.catchType (zEx e9) ∈ zG ∧ Cond.castable (zEx e9) (zEx e9) ∈ zG
theorem x_callVE {a ci : Nat} {f : Option ((Int32 ⊕ Nat) × Mm)} {K : Int32 → Mm → Option α} {KX : Nat → Mm → Option α} {hp : Nat → Nat} (hE : Ev ω ph D' mc' ms' y cc' nL' ret' (.ref (zad ω a) :: As) m fXI f) (hM : zMv κ.1 idx ci y cc' nL' ret' As.length) (hT : zT a = ci + 1) (hi : ph = true ∨ a < zN m) (hst : st = As.reverse ++ .ref (zad ω a) :: rest) (hw : (rest.map fun v => v.category).sum ≤ 8) (hD : D' + 1 ≤ D) (hL : nL' ≤ 21) (hcs : c0 + mc' ≤ mc ∧ s0 + ms' ≤ ms) (d : decode κ.2.1 pc = .ok (.invokevirtual idx, 3))
    (hx : ∀ e9 m9 r, KX e9 m9 = some r → zCt κ pc e9 (hp e9))
    (k : ∀ v m', Sx ω ph D mc ms κ φ (c0 + mc') (s0 + ms') m' (pc + 3) ls (.int v :: rest) (K v m'))
    (kx : ∀ e9 m' q, Sx ω ph D mc ms κ φ (c0 + mc') (s0 + ms') m' (hp e9) ls [.ref q] (KX e9 m')) :
    Sx ω ph D mc ms κ φ c0 s0 m pc ls st (hB K KX f) := by
  intro r hr p l e s mid args below meth c H locs la C L hH hS
  obtain ⟨⟨r1, r2⟩, hf, hr⟩ := Option.bind_eq_some_iff.mp hr
  cases r1 with
  | inl u =>
    exact zW_cont (zW_runV C L hH hS hE hf hM hT hi hst hw hD hL hcs d) hS
      (fun v m' ho H' locs' hH' hS' => by cases ho; exact k u r2 r hr p l e s mid args below meth c H' locs' la C L hH' hS')
      (fun e9 m' ho => by cases ho)
  | inr e0 =>
    refine zW_cont (zW_runV C L hH hS hE hf hM hT hi hst hw hD hL hcs d) hS (fun v m' ho => by cases ho) (fun e9 m' ho H' locs' q ce hH' hS' hce hcv hcl => ?_)
    cases ho
    obtain ⟨pre, x, suf, h1, h2, h3, h4, h5, h6, h7, h8⟩ := hx e0 r2 r hr
    have hts := C.2.2.2.2.2.1
    refine vx_catch C.2.2.2.2.1 pre x suf (C.2.2.2.2.2.2.2.2.2.1.trans h1) (fun z hz => ?_) h4 h5 (hts _ h7) (hts _ h8) hce hcv hcl ?_
    · obtain ⟨g1, e', g2, g3, g4⟩ := h3 z hz
      exact Or.inr ⟨g1, zEx e', hts _ g4, C.2.2.2.2.2.2.2.2.1.2.2.2.2.2.1.2 e0 e' h6 g2 (Ne.symm g3)⟩
    · rw [h2]
      exact kx e0 r2 q r hr p l e s mid args below meth c H' locs' la C L hH' hS'
end LWR
/-- what a helper does with its call's answer: 0 and the value laid down, or the number of the exception -/
def hO (v : Int32) (m : Mm) : Option (Int32 × Mm) := if zIn 0 (zLn 229) then some (0, wL m 229 (zIx 0) v.toInt64) else none
def hZ (v : Int32) (m : Mm) : Option (Int32 × Mm) := if v = 0 then (if zIn 0 (zLn 229) then some (0, wL m 229 (zIx 0) 0) else none) else (if zIn 0 (zLn 229) then some (0, wL m 229 (zIx 0) 1) else none)
def kA (e : Nat) (m : Mm) : Option (Int32 × Mm) := if e = 0 then some (1, m) else none
def kAS (e : Nat) (m : Mm) : Option (Int32 × Mm) := if e = 0 then some (1, m) else if e = 1 then some (2, m) else none
def kI (e : Nat) (m : Mm) : Option (Int32 × Mm) := if e = 2 then some (1, m) else none
def kIA (e : Nat) (m : Mm) : Option (Int32 × Mm) := if e = 2 then some (1, m) else if e = 0 then some (2, m) else none
def kIAS (e : Nat) (m : Mm) : Option (Int32 × Mm) := if e = 2 then some (1, m) else if e = 0 then some (2, m) else if e = 1 then some (3, m) else none
theorem cl_L13 : Cond.classLink RL 13 (zEx 0) ∈ zG := zG_in 595 (by decide +kernel) (by decide +kernel)
theorem cl_L29 : Cond.classLink RL 29 (zEx 1) ∈ zG := zG_in 722 (by decide +kernel) (by decide +kernel)
theorem cl_L38 : Cond.classLink RL 38 (zEx 2) ∈ zG := zG_in 801 (by decide +kernel) (by decide +kernel)
theorem ca_x0 : Cond.castable (zEx 0) (zEx 0) ∈ zG := zG_in 605 (by decide +kernel) (by decide +kernel)
theorem ca_x1 : Cond.castable (zEx 1) (zEx 1) ∈ zG := zG_in 734 (by decide +kernel) (by decide +kernel)
theorem ca_x2 : Cond.castable (zEx 2) (zEx 2) ∈ zG := zG_in 812 (by decide +kernel) (by decide +kernel)
theorem mv_RL_7 : zMv RL 7 10 yX11_begin cX11_begin 2 (some .int) 1 := ⟨zG_in 596 (by decide +kernel) (by decide +kernel), zG_in 597 (by decide +kernel) (by decide +kernel), zG_in 598 (by decide +kernel) (by decide +kernel), zG_in 87 (by decide +kernel) (by decide +kernel), zG_in 599 (by decide +kernel) (by decide +kernel), ⟨by decide +kernel, by decide +kernel⟩, by decide +kernel, ⟨_, _, rfl⟩⟩
abbrev kk_L_begin : Kx := (RL, cL_begin, 4, some .int, [(0, 9, 12, 13)], false)
theorem c_L_begin (ω : Wd) (p1 : Int32) (m : Mm) : EvW ω true 10 1 6 yL_begin cL_begin 4 (some .int) [(0, 9, 12, 13)] [.ref (zad ω 16), .int p1, .ref (zad ω 229)] m fI (hB hO kA (f_Loo_begin p1 m)) := by
  refine EvW.of (ls := [some (.ref (zad ω 16)), some (.int p1), some (.ref (zad ω 229)), none]) (by decide +kernel) rfl (Nat.le_of_ble_eq_true rfl) rfl ?_
  change Sx ω true 10 1 6 kk_L_begin fI 0 0 m 0 _ _ _
  refine x_aload_n dL_begin_0 rfl ?_
  refine x_iconst (v := 0) dL_begin_1 rfl ?_
  refine x_aload_n dL_begin_2 rfl ?_
  refine x_iload_n dL_begin_3 rfl ?_
  refine x_callVE (hp := fun e => if e = 0 then 12 else 0) (As := [.int p1]) (rest := [.int 0, .ref (zad ω 229)]) (c_Loo_begin ω p1 m) mv_RL_7 rfl (Or.inl rfl) rfl (Nat.le_of_ble_eq_true rfl) (Nat.le_of_ble_eq_true rfl) (Nat.le_of_ble_eq_true rfl) ⟨(Nat.le_of_ble_eq_true rfl), (Nat.le_of_ble_eq_true rfl)⟩ dL_begin_4 ?_ ?_ ?_
  · intro e9 m9 r h
    by_cases h0 : e9 = 0
    · subst h0; exact ⟨[], ⟨0, 9, 12, 13⟩, [], rfl, rfl, fun z hz => absurd hz List.not_mem_nil, rfl, (show 13 ≠ 0 by decide), by decide, cl_L13, ca_x0⟩
    · unfold kA at h; rw [if_neg h0] at h; cases h
  · intro v m1
    unfold hO
    refine x_i2l dL_begin_7 ?_
    refine x_last rfl (Or.inl rfl) dL_begin_8 (fun _ => ?_)
    refine x_goto (tgt := 15) dL_begin_9 rfl ?_
    refine x_iconst (v := 0) dL_begin_15 rfl ?_
    exact x_iret rfl rfl ⟨(Nat.le_of_ble_eq_true rfl), (Nat.le_of_ble_eq_true rfl)⟩ dL_begin_16
  · intro e9 m1 q9
    by_cases h0 : e9 = 0
    · subst h0; show Sx ω true 10 1 6 kk_L_begin fI _ _ m1 12 _ _ (some ((1 : Int32), m1)); refine x_astore_n dL_begin_12 (Nat.le_of_ble_eq_true rfl) rfl ?_; refine x_iconst (v := 1) dL_begin_13 rfl ?_; exact x_iret rfl rfl ⟨(Nat.le_of_ble_eq_true rfl), (Nat.le_of_ble_eq_true rfl)⟩ dL_begin_14
    · rw [show kA e9 m1 = none from by unfold kA; rw [if_neg h0]]; exact x_none
theorem mv_RL_15 : zMv RL 15 10 yX11_date cX11_date 3 (some .int) 2 := ⟨zG_in 676 (by decide +kernel) (by decide +kernel), zG_in 677 (by decide +kernel) (by decide +kernel), zG_in 678 (by decide +kernel) (by decide +kernel), zG_in 87 (by decide +kernel) (by decide +kernel), zG_in 679 (by decide +kernel) (by decide +kernel), ⟨by decide +kernel, by decide +kernel⟩, by decide +kernel, ⟨_, _, rfl⟩⟩
abbrev kk_L_date : Kx := (RL, cL_date, 5, some .int, [(0, 10, 13, 13)], false)
theorem c_L_date (ω : Wd) (p1 : Int32) (p2 : Int32) (m : Mm) : EvW ω true 10 2 12 yL_date cL_date 5 (some .int) [(0, 10, 13, 13)] [.ref (zad ω 16), .int p1, .int p2, .ref (zad ω 229)] m fI (hB hO kA (f_Loo_date p1 p2 m)) := by
  refine EvW.of (ls := [some (.ref (zad ω 16)), some (.int p1), some (.int p2), some (.ref (zad ω 229)), none]) (by decide +kernel) rfl (Nat.le_of_ble_eq_true rfl) rfl ?_
  change Sx ω true 10 2 12 kk_L_date fI 0 0 m 0 _ _ _
  refine x_aload_n dL_date_0 rfl ?_
  refine x_iconst (v := 0) dL_date_1 rfl ?_
  refine x_aload_n dL_date_2 rfl ?_
  refine x_iload_n dL_date_3 rfl ?_
  refine x_iload_n dL_date_4 rfl ?_
  refine x_callVE (hp := fun e => if e = 0 then 13 else 0) (As := [.int p1, .int p2]) (rest := [.int 0, .ref (zad ω 229)]) (c_Loo_date ω p1 p2 m) mv_RL_15 rfl (Or.inl rfl) rfl (Nat.le_of_ble_eq_true rfl) (Nat.le_of_ble_eq_true rfl) (Nat.le_of_ble_eq_true rfl) ⟨(Nat.le_of_ble_eq_true rfl), (Nat.le_of_ble_eq_true rfl)⟩ dL_date_5 ?_ ?_ ?_
  · intro e9 m9 r h
    by_cases h0 : e9 = 0
    · subst h0; exact ⟨[], ⟨0, 10, 13, 13⟩, [], rfl, rfl, fun z hz => absurd hz List.not_mem_nil, rfl, (show 13 ≠ 0 by decide), by decide, cl_L13, ca_x0⟩
    · unfold kA at h; rw [if_neg h0] at h; cases h
  · intro v m1
    unfold hO
    refine x_i2l dL_date_8 ?_
    refine x_last rfl (Or.inl rfl) dL_date_9 (fun _ => ?_)
    refine x_goto (tgt := 17) dL_date_10 rfl ?_
    refine x_iconst (v := 0) dL_date_17 rfl ?_
    exact x_iret rfl rfl ⟨(Nat.le_of_ble_eq_true rfl), (Nat.le_of_ble_eq_true rfl)⟩ dL_date_18
  · intro e9 m1 q9
    by_cases h0 : e9 = 0
    · subst h0; show Sx ω true 10 2 12 kk_L_date fI _ _ m1 13 _ _ (some ((1 : Int32), m1)); refine x_astore dL_date_13 (Nat.le_of_ble_eq_true rfl) rfl ?_; refine x_iconst (v := 1) dL_date_15 rfl ?_; exact x_iret rfl rfl ⟨(Nat.le_of_ble_eq_true rfl), (Nat.le_of_ble_eq_true rfl)⟩ dL_date_16
    · rw [show kA e9 m1 = none from by unfold kA; rw [if_neg h0]]; exact x_none
theorem mv_RL_19 : zMv RL 19 10 yX11_age cX11_age 3 (some .int) 2 := ⟨zG_in 690 (by decide +kernel) (by decide +kernel), zG_in 691 (by decide +kernel) (by decide +kernel), zG_in 692 (by decide +kernel) (by decide +kernel), zG_in 87 (by decide +kernel) (by decide +kernel), zG_in 693 (by decide +kernel) (by decide +kernel), ⟨by decide +kernel, by decide +kernel⟩, by decide +kernel, ⟨_, _, rfl⟩⟩
abbrev kk_L_age : Kx := (RL, cL_age, 5, some .int, [(0, 10, 13, 13)], false)
theorem c_L_age (ω : Wd) (p1 : Int32) (p2 : Int32) (m : Mm) : EvW ω true 10 2 12 yL_age cL_age 5 (some .int) [(0, 10, 13, 13)] [.ref (zad ω 16), .int p1, .int p2, .ref (zad ω 229)] m fI (hB hO kA (f_Loo_age p1 p2 m)) := by
  refine EvW.of (ls := [some (.ref (zad ω 16)), some (.int p1), some (.int p2), some (.ref (zad ω 229)), none]) (by decide +kernel) rfl (Nat.le_of_ble_eq_true rfl) rfl ?_
  change Sx ω true 10 2 12 kk_L_age fI 0 0 m 0 _ _ _
  refine x_aload_n dL_age_0 rfl ?_
  refine x_iconst (v := 0) dL_age_1 rfl ?_
  refine x_aload_n dL_age_2 rfl ?_
  refine x_iload_n dL_age_3 rfl ?_
  refine x_iload_n dL_age_4 rfl ?_
  refine x_callVE (hp := fun e => if e = 0 then 13 else 0) (As := [.int p1, .int p2]) (rest := [.int 0, .ref (zad ω 229)]) (c_Loo_age ω p1 p2 m) mv_RL_19 rfl (Or.inl rfl) rfl (Nat.le_of_ble_eq_true rfl) (Nat.le_of_ble_eq_true rfl) (Nat.le_of_ble_eq_true rfl) ⟨(Nat.le_of_ble_eq_true rfl), (Nat.le_of_ble_eq_true rfl)⟩ dL_age_5 ?_ ?_ ?_
  · intro e9 m9 r h
    by_cases h0 : e9 = 0
    · subst h0; exact ⟨[], ⟨0, 10, 13, 13⟩, [], rfl, rfl, fun z hz => absurd hz List.not_mem_nil, rfl, (show 13 ≠ 0 by decide), by decide, cl_L13, ca_x0⟩
    · unfold kA at h; rw [if_neg h0] at h; cases h
  · intro v m1
    unfold hO
    refine x_i2l dL_age_8 ?_
    refine x_last rfl (Or.inl rfl) dL_age_9 (fun _ => ?_)
    refine x_goto (tgt := 17) dL_age_10 rfl ?_
    refine x_iconst (v := 0) dL_age_17 rfl ?_
    exact x_iret rfl rfl ⟨(Nat.le_of_ble_eq_true rfl), (Nat.le_of_ble_eq_true rfl)⟩ dL_age_18
  · intro e9 m1 q9
    by_cases h0 : e9 = 0
    · subst h0; show Sx ω true 10 2 12 kk_L_age fI _ _ m1 13 _ _ (some ((1 : Int32), m1)); refine x_astore dL_age_13 (Nat.le_of_ble_eq_true rfl) rfl ?_; refine x_iconst (v := 1) dL_age_15 rfl ?_; exact x_iret rfl rfl ⟨(Nat.le_of_ble_eq_true rfl), (Nat.le_of_ble_eq_true rfl)⟩ dL_age_16
    · rw [show kA e9 m1 = none from by unfold kA; rw [if_neg h0]]; exact x_none
theorem mv_RL_22 : zMv RL 22 10 yX11_table cX11_table 3 (some .int) 1 := ⟨zG_in 715 (by decide +kernel) (by decide +kernel), zG_in 716 (by decide +kernel) (by decide +kernel), zG_in 717 (by decide +kernel) (by decide +kernel), zG_in 87 (by decide +kernel) (by decide +kernel), zG_in 718 (by decide +kernel) (by decide +kernel), ⟨by decide +kernel, by decide +kernel⟩, by decide +kernel, ⟨_, _, rfl⟩⟩
abbrev kk_L_table : Kx := (RL, cL_table, 4, some .int, [(0, 9, 12, 13)], false)
theorem c_L_table (ω : Wd) (p1 : Int32) (m : Mm) : EvW ω true 10 1 6 yL_table cL_table 4 (some .int) [(0, 9, 12, 13)] [.ref (zad ω 16), .int p1, .ref (zad ω 229)] m fI (hB hO kA (f_Loo_table p1 m)) := by
  refine EvW.of (ls := [some (.ref (zad ω 16)), some (.int p1), some (.ref (zad ω 229)), none]) (by decide +kernel) rfl (Nat.le_of_ble_eq_true rfl) rfl ?_
  change Sx ω true 10 1 6 kk_L_table fI 0 0 m 0 _ _ _
  refine x_aload_n dL_table_0 rfl ?_
  refine x_iconst (v := 0) dL_table_1 rfl ?_
  refine x_aload_n dL_table_2 rfl ?_
  refine x_iload_n dL_table_3 rfl ?_
  refine x_callVE (hp := fun e => if e = 0 then 12 else 0) (As := [.int p1]) (rest := [.int 0, .ref (zad ω 229)]) (c_Loo_table ω p1 m) mv_RL_22 rfl (Or.inl rfl) rfl (Nat.le_of_ble_eq_true rfl) (Nat.le_of_ble_eq_true rfl) (Nat.le_of_ble_eq_true rfl) ⟨(Nat.le_of_ble_eq_true rfl), (Nat.le_of_ble_eq_true rfl)⟩ dL_table_4 ?_ ?_ ?_
  · intro e9 m9 r h
    by_cases h0 : e9 = 0
    · subst h0; exact ⟨[], ⟨0, 9, 12, 13⟩, [], rfl, rfl, fun z hz => absurd hz List.not_mem_nil, rfl, (show 13 ≠ 0 by decide), by decide, cl_L13, ca_x0⟩
    · unfold kA at h; rw [if_neg h0] at h; cases h
  · intro v m1
    unfold hO
    refine x_i2l dL_table_7 ?_
    refine x_last rfl (Or.inl rfl) dL_table_8 (fun _ => ?_)
    refine x_goto (tgt := 15) dL_table_9 rfl ?_
    refine x_iconst (v := 0) dL_table_15 rfl ?_
    exact x_iret rfl rfl ⟨(Nat.le_of_ble_eq_true rfl), (Nat.le_of_ble_eq_true rfl)⟩ dL_table_16
  · intro e9 m1 q9
    by_cases h0 : e9 = 0
    · subst h0; show Sx ω true 10 1 6 kk_L_table fI _ _ m1 12 _ _ (some ((1 : Int32), m1)); refine x_astore_n dL_table_12 (Nat.le_of_ble_eq_true rfl) rfl ?_; refine x_iconst (v := 1) dL_table_13 rfl ?_; exact x_iret rfl rfl ⟨(Nat.le_of_ble_eq_true rfl), (Nat.le_of_ble_eq_true rfl)⟩ dL_table_14
    · rw [show kA e9 m1 = none from by unfold kA; rw [if_neg h0]]; exact x_none
theorem mv_RL_25 : zMv RL 25 10 yX11_type cX11_type 2 (some .int) 1 := ⟨zG_in 723 (by decide +kernel) (by decide +kernel), zG_in 724 (by decide +kernel) (by decide +kernel), zG_in 725 (by decide +kernel) (by decide +kernel), zG_in 87 (by decide +kernel) (by decide +kernel), zG_in 726 (by decide +kernel) (by decide +kernel), ⟨by decide +kernel, by decide +kernel⟩, by decide +kernel, ⟨_, _, rfl⟩⟩
abbrev kk_L_type : Kx := (RL, cL_type, 4, some .int, [(0, 9, 12, 13), (0, 9, 15, 29)], false)
theorem c_L_type (ω : Wd) (p1 : Int32) (m : Mm) : EvW ω true 9 1 6 yL_type cL_type 4 (some .int) [(0, 9, 12, 13), (0, 9, 15, 29)] [.ref (zad ω 16), .int p1, .ref (zad ω 229)] m fI (hB hO kAS (f_Loo_type p1 m)) := by
  refine EvW.of (ls := [some (.ref (zad ω 16)), some (.int p1), some (.ref (zad ω 229)), none]) (by decide +kernel) rfl (Nat.le_of_ble_eq_true rfl) rfl ?_
  change Sx ω true 9 1 6 kk_L_type fI 0 0 m 0 _ _ _
  refine x_aload_n dL_type_0 rfl ?_
  refine x_iconst (v := 0) dL_type_1 rfl ?_
  refine x_aload_n dL_type_2 rfl ?_
  refine x_iload_n dL_type_3 rfl ?_
  refine x_callVE (hp := fun e => if e = 0 then 12 else if e = 1 then 15 else 0) (As := [.int p1]) (rest := [.int 0, .ref (zad ω 229)]) (c_Loo_type ω p1 m) mv_RL_25 rfl (Or.inl rfl) rfl (Nat.le_of_ble_eq_true rfl) (Nat.le_of_ble_eq_true rfl) (Nat.le_of_ble_eq_true rfl) ⟨(Nat.le_of_ble_eq_true rfl), (Nat.le_of_ble_eq_true rfl)⟩ dL_type_4 ?_ ?_ ?_
  · intro e9 m9 r h
    by_cases h0 : e9 = 0
    · subst h0; exact ⟨[], ⟨0, 9, 12, 13⟩, [⟨0, 9, 15, 29⟩], rfl, rfl, fun z hz => absurd hz List.not_mem_nil, rfl, (show 13 ≠ 0 by decide), by decide, cl_L13, ca_x0⟩
    ·
      by_cases h1 : e9 = 1
      · subst h1; exact ⟨[⟨0, 9, 12, 13⟩], ⟨0, 9, 15, 29⟩, [], rfl, rfl, fun z hz => by rcases List.mem_cons.mp hz with rfl | hz; exact ⟨(show 13 ≠ 0 by decide), 0, by decide, by decide, cl_L13⟩; exact absurd hz List.not_mem_nil, rfl, (show 29 ≠ 0 by decide), by decide, cl_L29, ca_x1⟩
      · unfold kAS at h; rw [if_neg h0, if_neg h1] at h; cases h
  · intro v m1
    unfold hO
    refine x_i2l dL_type_7 ?_
    refine x_last rfl (Or.inl rfl) dL_type_8 (fun _ => ?_)
    refine x_goto (tgt := 18) dL_type_9 rfl ?_
    refine x_iconst (v := 0) dL_type_18 rfl ?_
    exact x_iret rfl rfl ⟨(Nat.le_of_ble_eq_true rfl), (Nat.le_of_ble_eq_true rfl)⟩ dL_type_19
  · intro e9 m1 q9
    by_cases h0 : e9 = 0
    · subst h0; show Sx ω true 9 1 6 kk_L_type fI _ _ m1 12 _ _ (some ((1 : Int32), m1)); refine x_astore_n dL_type_12 (Nat.le_of_ble_eq_true rfl) rfl ?_; refine x_iconst (v := 1) dL_type_13 rfl ?_; exact x_iret rfl rfl ⟨(Nat.le_of_ble_eq_true rfl), (Nat.le_of_ble_eq_true rfl)⟩ dL_type_14
    ·
      by_cases h1 : e9 = 1
      · subst h1; show Sx ω true 9 1 6 kk_L_type fI _ _ m1 15 _ _ (some ((2 : Int32), m1)); refine x_astore_n dL_type_15 (Nat.le_of_ble_eq_true rfl) rfl ?_; refine x_iconst (v := 2) dL_type_16 rfl ?_; exact x_iret rfl rfl ⟨(Nat.le_of_ble_eq_true rfl), (Nat.le_of_ble_eq_true rfl)⟩ dL_type_17
      · rw [show kAS e9 m1 = none from by unfold kAS; rw [if_neg h0, if_neg h1]]; exact x_none
theorem mv_RL_31 : zMv RL 31 10 yX11_feast cX11_feast 4 (some .int) 2 := ⟨zG_in 751 (by decide +kernel) (by decide +kernel), zG_in 752 (by decide +kernel) (by decide +kernel), zG_in 753 (by decide +kernel) (by decide +kernel), zG_in 87 (by decide +kernel) (by decide +kernel), zG_in 754 (by decide +kernel) (by decide +kernel), ⟨by decide +kernel, by decide +kernel⟩, by decide +kernel, ⟨_, _, rfl⟩⟩
abbrev kk_L_feast : Kx := (RL, cL_feast, 5, some .int, [(0, 10, 13, 13), (0, 10, 17, 29)], false)
theorem c_L_feast (ω : Wd) (p1 : Int32) (p2 : Int32) (m : Mm) : EvW ω true 111 3 18 yL_feast cL_feast 5 (some .int) [(0, 10, 13, 13), (0, 10, 17, 29)] [.ref (zad ω 16), .int p1, .int p2, .ref (zad ω 229)] m fI (hB hO kAS (f_Loo_feast p1 p2 m)) := by
  refine EvW.of (ls := [some (.ref (zad ω 16)), some (.int p1), some (.int p2), some (.ref (zad ω 229)), none]) (by decide +kernel) rfl (Nat.le_of_ble_eq_true rfl) rfl ?_
  change Sx ω true 111 3 18 kk_L_feast fI 0 0 m 0 _ _ _
  refine x_aload_n dL_feast_0 rfl ?_
  refine x_iconst (v := 0) dL_feast_1 rfl ?_
  refine x_aload_n dL_feast_2 rfl ?_
  refine x_iload_n dL_feast_3 rfl ?_
  refine x_iload_n dL_feast_4 rfl ?_
  refine x_callVE (hp := fun e => if e = 0 then 13 else if e = 1 then 17 else 0) (As := [.int p1, .int p2]) (rest := [.int 0, .ref (zad ω 229)]) (c_Loo_feast ω p1 p2 m) mv_RL_31 rfl (Or.inl rfl) rfl (Nat.le_of_ble_eq_true rfl) (Nat.le_of_ble_eq_true rfl) (Nat.le_of_ble_eq_true rfl) ⟨(Nat.le_of_ble_eq_true rfl), (Nat.le_of_ble_eq_true rfl)⟩ dL_feast_5 ?_ ?_ ?_
  · intro e9 m9 r h
    by_cases h0 : e9 = 0
    · subst h0; exact ⟨[], ⟨0, 10, 13, 13⟩, [⟨0, 10, 17, 29⟩], rfl, rfl, fun z hz => absurd hz List.not_mem_nil, rfl, (show 13 ≠ 0 by decide), by decide, cl_L13, ca_x0⟩
    ·
      by_cases h1 : e9 = 1
      · subst h1; exact ⟨[⟨0, 10, 13, 13⟩], ⟨0, 10, 17, 29⟩, [], rfl, rfl, fun z hz => by rcases List.mem_cons.mp hz with rfl | hz; exact ⟨(show 13 ≠ 0 by decide), 0, by decide, by decide, cl_L13⟩; exact absurd hz List.not_mem_nil, rfl, (show 29 ≠ 0 by decide), by decide, cl_L29, ca_x1⟩
      · unfold kAS at h; rw [if_neg h0, if_neg h1] at h; cases h
  · intro v m1
    unfold hO
    refine x_i2l dL_feast_8 ?_
    refine x_last rfl (Or.inl rfl) dL_feast_9 (fun _ => ?_)
    refine x_goto (tgt := 21) dL_feast_10 rfl ?_
    refine x_iconst (v := 0) dL_feast_21 rfl ?_
    exact x_iret rfl rfl ⟨(Nat.le_of_ble_eq_true rfl), (Nat.le_of_ble_eq_true rfl)⟩ dL_feast_22
  · intro e9 m1 q9
    by_cases h0 : e9 = 0
    · subst h0; show Sx ω true 111 3 18 kk_L_feast fI _ _ m1 13 _ _ (some ((1 : Int32), m1)); refine x_astore dL_feast_13 (Nat.le_of_ble_eq_true rfl) rfl ?_; refine x_iconst (v := 1) dL_feast_15 rfl ?_; exact x_iret rfl rfl ⟨(Nat.le_of_ble_eq_true rfl), (Nat.le_of_ble_eq_true rfl)⟩ dL_feast_16
    ·
      by_cases h1 : e9 = 1
      · subst h1; show Sx ω true 111 3 18 kk_L_feast fI _ _ m1 17 _ _ (some ((2 : Int32), m1)); refine x_astore dL_feast_17 (Nat.le_of_ble_eq_true rfl) rfl ?_; refine x_iconst (v := 2) dL_feast_19 rfl ?_; exact x_iret rfl rfl ⟨(Nat.le_of_ble_eq_true rfl), (Nat.le_of_ble_eq_true rfl)⟩ dL_feast_20
      · rw [show kAS e9 m1 = none from by unfold kAS; rw [if_neg h0, if_neg h1]]; exact x_none
theorem mv_RL_35 : zMv RL 35 10 yX11_mend cX11_mend 2 (some .int) 1 := ⟨zG_in 802 (by decide +kernel) (by decide +kernel), zG_in 803 (by decide +kernel) (by decide +kernel), zG_in 804 (by decide +kernel) (by decide +kernel), zG_in 87 (by decide +kernel) (by decide +kernel), zG_in 805 (by decide +kernel) (by decide +kernel), ⟨by decide +kernel, by decide +kernel⟩, by decide +kernel, ⟨_, _, rfl⟩⟩
abbrev kk_L_mend : Kx := (RL, cL_mend, 4, some .int, [(0, 9, 12, 38), (0, 9, 15, 13), (0, 9, 18, 29)], false)
theorem c_L_mend (ω : Wd) (p1 : Int32) (m : Mm) : EvW ω true 111 3 18 yL_mend cL_mend 4 (some .int) [(0, 9, 12, 38), (0, 9, 15, 13), (0, 9, 18, 29)] [.ref (zad ω 16), .int p1, .ref (zad ω 229)] m fI (hB hO kIAS (f_Loo_mend p1 m)) := by
  refine EvW.of (ls := [some (.ref (zad ω 16)), some (.int p1), some (.ref (zad ω 229)), none]) (by decide +kernel) rfl (Nat.le_of_ble_eq_true rfl) rfl ?_
  change Sx ω true 111 3 18 kk_L_mend fI 0 0 m 0 _ _ _
  refine x_aload_n dL_mend_0 rfl ?_
  refine x_iconst (v := 0) dL_mend_1 rfl ?_
  refine x_aload_n dL_mend_2 rfl ?_
  refine x_iload_n dL_mend_3 rfl ?_
  refine x_callVE (hp := fun e => if e = 2 then 12 else if e = 0 then 15 else if e = 1 then 18 else 0) (As := [.int p1]) (rest := [.int 0, .ref (zad ω 229)]) (c_Loo_mend ω p1 m) mv_RL_35 rfl (Or.inl rfl) rfl (Nat.le_of_ble_eq_true rfl) (Nat.le_of_ble_eq_true rfl) (Nat.le_of_ble_eq_true rfl) ⟨(Nat.le_of_ble_eq_true rfl), (Nat.le_of_ble_eq_true rfl)⟩ dL_mend_4 ?_ ?_ ?_
  · intro e9 m9 r h
    by_cases h2 : e9 = 2
    · subst h2; exact ⟨[], ⟨0, 9, 12, 38⟩, [⟨0, 9, 15, 13⟩, ⟨0, 9, 18, 29⟩], rfl, rfl, fun z hz => absurd hz List.not_mem_nil, rfl, (show 38 ≠ 0 by decide), by decide, cl_L38, ca_x2⟩
    ·
      by_cases h0 : e9 = 0
      · subst h0; exact ⟨[⟨0, 9, 12, 38⟩], ⟨0, 9, 15, 13⟩, [⟨0, 9, 18, 29⟩], rfl, rfl, fun z hz => by rcases List.mem_cons.mp hz with rfl | hz; exact ⟨(show 38 ≠ 0 by decide), 2, by decide, by decide, cl_L38⟩; exact absurd hz List.not_mem_nil, rfl, (show 13 ≠ 0 by decide), by decide, cl_L13, ca_x0⟩
      ·
        by_cases h1 : e9 = 1
        · subst h1; exact ⟨[⟨0, 9, 12, 38⟩, ⟨0, 9, 15, 13⟩], ⟨0, 9, 18, 29⟩, [], rfl, rfl, fun z hz => by rcases List.mem_cons.mp hz with rfl | hz; exact ⟨(show 38 ≠ 0 by decide), 2, by decide, by decide, cl_L38⟩; rcases List.mem_cons.mp hz with rfl | hz; exact ⟨(show 13 ≠ 0 by decide), 0, by decide, by decide, cl_L13⟩; exact absurd hz List.not_mem_nil, rfl, (show 29 ≠ 0 by decide), by decide, cl_L29, ca_x1⟩
        · unfold kIAS at h; rw [if_neg h2, if_neg h0, if_neg h1] at h; cases h
  · intro v m1
    unfold hO
    refine x_i2l dL_mend_7 ?_
    refine x_last rfl (Or.inl rfl) dL_mend_8 (fun _ => ?_)
    refine x_goto (tgt := 21) dL_mend_9 rfl ?_
    refine x_iconst (v := 0) dL_mend_21 rfl ?_
    exact x_iret rfl rfl ⟨(Nat.le_of_ble_eq_true rfl), (Nat.le_of_ble_eq_true rfl)⟩ dL_mend_22
  · intro e9 m1 q9
    by_cases h2 : e9 = 2
    · subst h2; show Sx ω true 111 3 18 kk_L_mend fI _ _ m1 12 _ _ (some ((1 : Int32), m1)); refine x_astore_n dL_mend_12 (Nat.le_of_ble_eq_true rfl) rfl ?_; refine x_iconst (v := 1) dL_mend_13 rfl ?_; exact x_iret rfl rfl ⟨(Nat.le_of_ble_eq_true rfl), (Nat.le_of_ble_eq_true rfl)⟩ dL_mend_14
    ·
      by_cases h0 : e9 = 0
      · subst h0; show Sx ω true 111 3 18 kk_L_mend fI _ _ m1 15 _ _ (some ((2 : Int32), m1)); refine x_astore_n dL_mend_15 (Nat.le_of_ble_eq_true rfl) rfl ?_; refine x_iconst (v := 2) dL_mend_16 rfl ?_; exact x_iret rfl rfl ⟨(Nat.le_of_ble_eq_true rfl), (Nat.le_of_ble_eq_true rfl)⟩ dL_mend_17
      ·
        by_cases h1 : e9 = 1
        · subst h1; show Sx ω true 111 3 18 kk_L_mend fI _ _ m1 18 _ _ (some ((3 : Int32), m1)); refine x_astore_n dL_mend_18 (Nat.le_of_ble_eq_true rfl) rfl ?_; refine x_iconst (v := 3) dL_mend_19 rfl ?_; exact x_iret rfl rfl ⟨(Nat.le_of_ble_eq_true rfl), (Nat.le_of_ble_eq_true rfl)⟩ dL_mend_20
        · rw [show kIAS e9 m1 = none from by unfold kIAS; rw [if_neg h2, if_neg h0, if_neg h1]]; exact x_none
theorem mv_RL_40 : zMv RL 40 10 yX11_rank cX11_rank 5 (some .int) 3 := ⟨zG_in 852 (by decide +kernel) (by decide +kernel), zG_in 853 (by decide +kernel) (by decide +kernel), zG_in 854 (by decide +kernel) (by decide +kernel), zG_in 87 (by decide +kernel) (by decide +kernel), zG_in 855 (by decide +kernel) (by decide +kernel), ⟨by decide +kernel, by decide +kernel⟩, by decide +kernel, ⟨_, _, rfl⟩⟩
abbrev kk_L_rank : Kx := (RL, cL_rank, 6, some .int, [(0, 12, 15, 38), (0, 12, 19, 13)], false)
theorem c_L_rank (ω : Wd) (p1 : Int32) (p2 : Int32) (p3 : Int32) (m : Mm) : EvW ω true 10 2 12 yL_rank cL_rank 6 (some .int) [(0, 12, 15, 38), (0, 12, 19, 13)] [.ref (zad ω 16), .int p1, .int p2, .int p3, .ref (zad ω 229)] m fI (hB hO kIA (f_Loo_rank p1 p2 p3 m)) := by
  refine EvW.of (ls := [some (.ref (zad ω 16)), some (.int p1), some (.int p2), some (.int p3), some (.ref (zad ω 229)), none]) (by decide +kernel) rfl (Nat.le_of_ble_eq_true rfl) rfl ?_
  change Sx ω true 10 2 12 kk_L_rank fI 0 0 m 0 _ _ _
  refine x_aload dL_rank_0 rfl ?_
  refine x_iconst (v := 0) dL_rank_2 rfl ?_
  refine x_aload_n dL_rank_3 rfl ?_
  refine x_iload_n dL_rank_4 rfl ?_
  refine x_iload_n dL_rank_5 rfl ?_
  refine x_iload_n dL_rank_6 rfl ?_
  refine x_callVE (hp := fun e => if e = 2 then 15 else if e = 0 then 19 else 0) (As := [.int p1, .int p2, .int p3]) (rest := [.int 0, .ref (zad ω 229)]) (c_Loo_rank ω p1 p2 p3 m) mv_RL_40 rfl (Or.inl rfl) rfl (Nat.le_of_ble_eq_true rfl) (Nat.le_of_ble_eq_true rfl) (Nat.le_of_ble_eq_true rfl) ⟨(Nat.le_of_ble_eq_true rfl), (Nat.le_of_ble_eq_true rfl)⟩ dL_rank_7 ?_ ?_ ?_
  · intro e9 m9 r h
    by_cases h2 : e9 = 2
    · subst h2; exact ⟨[], ⟨0, 12, 15, 38⟩, [⟨0, 12, 19, 13⟩], rfl, rfl, fun z hz => absurd hz List.not_mem_nil, rfl, (show 38 ≠ 0 by decide), by decide, cl_L38, ca_x2⟩
    ·
      by_cases h0 : e9 = 0
      · subst h0; exact ⟨[⟨0, 12, 15, 38⟩], ⟨0, 12, 19, 13⟩, [], rfl, rfl, fun z hz => by rcases List.mem_cons.mp hz with rfl | hz; exact ⟨(show 38 ≠ 0 by decide), 2, by decide, by decide, cl_L38⟩; exact absurd hz List.not_mem_nil, rfl, (show 13 ≠ 0 by decide), by decide, cl_L13, ca_x0⟩
      · unfold kIA at h; rw [if_neg h2, if_neg h0] at h; cases h
  · intro v m1
    unfold hO
    refine x_i2l dL_rank_10 ?_
    refine x_last rfl (Or.inl rfl) dL_rank_11 (fun _ => ?_)
    refine x_goto (tgt := 23) dL_rank_12 rfl ?_
    refine x_iconst (v := 0) dL_rank_23 rfl ?_
    exact x_iret rfl rfl ⟨(Nat.le_of_ble_eq_true rfl), (Nat.le_of_ble_eq_true rfl)⟩ dL_rank_24
  · intro e9 m1 q9
    by_cases h2 : e9 = 2
    · subst h2; show Sx ω true 10 2 12 kk_L_rank fI _ _ m1 15 _ _ (some ((1 : Int32), m1)); refine x_astore dL_rank_15 (Nat.le_of_ble_eq_true rfl) rfl ?_; refine x_iconst (v := 1) dL_rank_17 rfl ?_; exact x_iret rfl rfl ⟨(Nat.le_of_ble_eq_true rfl), (Nat.le_of_ble_eq_true rfl)⟩ dL_rank_18
    ·
      by_cases h0 : e9 = 0
      · subst h0; show Sx ω true 10 2 12 kk_L_rank fI _ _ m1 19 _ _ (some ((2 : Int32), m1)); refine x_astore dL_rank_19 (Nat.le_of_ble_eq_true rfl) rfl ?_; refine x_iconst (v := 2) dL_rank_21 rfl ?_; exact x_iret rfl rfl ⟨(Nat.le_of_ble_eq_true rfl), (Nat.le_of_ble_eq_true rfl)⟩ dL_rank_22
      · rw [show kIA e9 m1 = none from by unfold kIA; rw [if_neg h2, if_neg h0]]; exact x_none
theorem mv_RL_44 : zMv RL 44 10 yX11_dispense cX11_dispense 4 (some .int) 3 := ⟨zG_in 863 (by decide +kernel) (by decide +kernel), zG_in 864 (by decide +kernel) (by decide +kernel), zG_in 865 (by decide +kernel) (by decide +kernel), zG_in 87 (by decide +kernel) (by decide +kernel), zG_in 866 (by decide +kernel) (by decide +kernel), ⟨by decide +kernel, by decide +kernel⟩, by decide +kernel, ⟨_, _, rfl⟩⟩
abbrev kk_L_dispense : Kx := (RL, cL_dispense, 6, some .int, [(0, 12, 15, 38), (0, 12, 19, 13), (0, 12, 23, 29)], false)
theorem c_L_dispense (ω : Wd) (p1 : Int32) (p2 : Int32) (p3 : Int32) (m : Mm) : EvW ω true 10 3 18 yL_dispense cL_dispense 6 (some .int) [(0, 12, 15, 38), (0, 12, 19, 13), (0, 12, 23, 29)] [.ref (zad ω 16), .int p1, .int p2, .int p3, .ref (zad ω 229)] m fI (hB hO kIAS (f_Loo_dispense p1 p2 p3 m)) := by
  refine EvW.of (ls := [some (.ref (zad ω 16)), some (.int p1), some (.int p2), some (.int p3), some (.ref (zad ω 229)), none]) (by decide +kernel) rfl (Nat.le_of_ble_eq_true rfl) rfl ?_
  change Sx ω true 10 3 18 kk_L_dispense fI 0 0 m 0 _ _ _
  refine x_aload dL_dispense_0 rfl ?_
  refine x_iconst (v := 0) dL_dispense_2 rfl ?_
  refine x_aload_n dL_dispense_3 rfl ?_
  refine x_iload_n dL_dispense_4 rfl ?_
  refine x_iload_n dL_dispense_5 rfl ?_
  refine x_iload_n dL_dispense_6 rfl ?_
  refine x_callVE (hp := fun e => if e = 2 then 15 else if e = 0 then 19 else if e = 1 then 23 else 0) (As := [.int p1, .int p2, .int p3]) (rest := [.int 0, .ref (zad ω 229)]) (c_Loo_dispense ω p1 p2 p3 m) mv_RL_44 rfl (Or.inl rfl) rfl (Nat.le_of_ble_eq_true rfl) (Nat.le_of_ble_eq_true rfl) (Nat.le_of_ble_eq_true rfl) ⟨(Nat.le_of_ble_eq_true rfl), (Nat.le_of_ble_eq_true rfl)⟩ dL_dispense_7 ?_ ?_ ?_
  · intro e9 m9 r h
    by_cases h2 : e9 = 2
    · subst h2; exact ⟨[], ⟨0, 12, 15, 38⟩, [⟨0, 12, 19, 13⟩, ⟨0, 12, 23, 29⟩], rfl, rfl, fun z hz => absurd hz List.not_mem_nil, rfl, (show 38 ≠ 0 by decide), by decide, cl_L38, ca_x2⟩
    ·
      by_cases h0 : e9 = 0
      · subst h0; exact ⟨[⟨0, 12, 15, 38⟩], ⟨0, 12, 19, 13⟩, [⟨0, 12, 23, 29⟩], rfl, rfl, fun z hz => by rcases List.mem_cons.mp hz with rfl | hz; exact ⟨(show 38 ≠ 0 by decide), 2, by decide, by decide, cl_L38⟩; exact absurd hz List.not_mem_nil, rfl, (show 13 ≠ 0 by decide), by decide, cl_L13, ca_x0⟩
      ·
        by_cases h1 : e9 = 1
        · subst h1; exact ⟨[⟨0, 12, 15, 38⟩, ⟨0, 12, 19, 13⟩], ⟨0, 12, 23, 29⟩, [], rfl, rfl, fun z hz => by rcases List.mem_cons.mp hz with rfl | hz; exact ⟨(show 38 ≠ 0 by decide), 2, by decide, by decide, cl_L38⟩; rcases List.mem_cons.mp hz with rfl | hz; exact ⟨(show 13 ≠ 0 by decide), 0, by decide, by decide, cl_L13⟩; exact absurd hz List.not_mem_nil, rfl, (show 29 ≠ 0 by decide), by decide, cl_L29, ca_x1⟩
        · unfold kIAS at h; rw [if_neg h2, if_neg h0, if_neg h1] at h; cases h
  · intro v m1
    unfold hO
    refine x_i2l dL_dispense_10 ?_
    refine x_last rfl (Or.inl rfl) dL_dispense_11 (fun _ => ?_)
    refine x_goto (tgt := 27) dL_dispense_12 rfl ?_
    refine x_iconst (v := 0) dL_dispense_27 rfl ?_
    exact x_iret rfl rfl ⟨(Nat.le_of_ble_eq_true rfl), (Nat.le_of_ble_eq_true rfl)⟩ dL_dispense_28
  · intro e9 m1 q9
    by_cases h2 : e9 = 2
    · subst h2; show Sx ω true 10 3 18 kk_L_dispense fI _ _ m1 15 _ _ (some ((1 : Int32), m1)); refine x_astore dL_dispense_15 (Nat.le_of_ble_eq_true rfl) rfl ?_; refine x_iconst (v := 1) dL_dispense_17 rfl ?_; exact x_iret rfl rfl ⟨(Nat.le_of_ble_eq_true rfl), (Nat.le_of_ble_eq_true rfl)⟩ dL_dispense_18
    ·
      by_cases h0 : e9 = 0
      · subst h0; show Sx ω true 10 3 18 kk_L_dispense fI _ _ m1 19 _ _ (some ((2 : Int32), m1)); refine x_astore dL_dispense_19 (Nat.le_of_ble_eq_true rfl) rfl ?_; refine x_iconst (v := 2) dL_dispense_21 rfl ?_; exact x_iret rfl rfl ⟨(Nat.le_of_ble_eq_true rfl), (Nat.le_of_ble_eq_true rfl)⟩ dL_dispense_22
      ·
        by_cases h1 : e9 = 1
        · subst h1; show Sx ω true 10 3 18 kk_L_dispense fI _ _ m1 23 _ _ (some ((3 : Int32), m1)); refine x_astore dL_dispense_23 (Nat.le_of_ble_eq_true rfl) rfl ?_; refine x_iconst (v := 3) dL_dispense_25 rfl ?_; exact x_iret rfl rfl ⟨(Nat.le_of_ble_eq_true rfl), (Nat.le_of_ble_eq_true rfl)⟩ dL_dispense_26
        · rw [show kIAS e9 m1 = none from by unfold kIAS; rw [if_neg h2, if_neg h0, if_neg h1]]; exact x_none
theorem mv_RL_48 : zMv RL 48 10 yX11_takeBack cX11_takeBack 4 (some .int) 2 := ⟨zG_in 887 (by decide +kernel) (by decide +kernel), zG_in 888 (by decide +kernel) (by decide +kernel), zG_in 889 (by decide +kernel) (by decide +kernel), zG_in 87 (by decide +kernel) (by decide +kernel), zG_in 890 (by decide +kernel) (by decide +kernel), ⟨by decide +kernel, by decide +kernel⟩, by decide +kernel, ⟨_, _, rfl⟩⟩
abbrev kk_L_takeBack : Kx := (RL, cL_takeBack, 5, some .int, [(0, 10, 13, 38), (0, 10, 17, 13), (0, 10, 21, 29)], false)
theorem c_L_takeBack (ω : Wd) (p1 : Int32) (p2 : Int32) (m : Mm) : EvW ω true 10 3 18 yL_takeBack cL_takeBack 5 (some .int) [(0, 10, 13, 38), (0, 10, 17, 13), (0, 10, 21, 29)] [.ref (zad ω 16), .int p1, .int p2, .ref (zad ω 229)] m fI (hB hO kIAS (f_Loo_takeBack p1 p2 m)) := by
  refine EvW.of (ls := [some (.ref (zad ω 16)), some (.int p1), some (.int p2), some (.ref (zad ω 229)), none]) (by decide +kernel) rfl (Nat.le_of_ble_eq_true rfl) rfl ?_
  change Sx ω true 10 3 18 kk_L_takeBack fI 0 0 m 0 _ _ _
  refine x_aload_n dL_takeBack_0 rfl ?_
  refine x_iconst (v := 0) dL_takeBack_1 rfl ?_
  refine x_aload_n dL_takeBack_2 rfl ?_
  refine x_iload_n dL_takeBack_3 rfl ?_
  refine x_iload_n dL_takeBack_4 rfl ?_
  refine x_callVE (hp := fun e => if e = 2 then 13 else if e = 0 then 17 else if e = 1 then 21 else 0) (As := [.int p1, .int p2]) (rest := [.int 0, .ref (zad ω 229)]) (c_Loo_takeBack ω p1 p2 m) mv_RL_48 rfl (Or.inl rfl) rfl (Nat.le_of_ble_eq_true rfl) (Nat.le_of_ble_eq_true rfl) (Nat.le_of_ble_eq_true rfl) ⟨(Nat.le_of_ble_eq_true rfl), (Nat.le_of_ble_eq_true rfl)⟩ dL_takeBack_5 ?_ ?_ ?_
  · intro e9 m9 r h
    by_cases h2 : e9 = 2
    · subst h2; exact ⟨[], ⟨0, 10, 13, 38⟩, [⟨0, 10, 17, 13⟩, ⟨0, 10, 21, 29⟩], rfl, rfl, fun z hz => absurd hz List.not_mem_nil, rfl, (show 38 ≠ 0 by decide), by decide, cl_L38, ca_x2⟩
    ·
      by_cases h0 : e9 = 0
      · subst h0; exact ⟨[⟨0, 10, 13, 38⟩], ⟨0, 10, 17, 13⟩, [⟨0, 10, 21, 29⟩], rfl, rfl, fun z hz => by rcases List.mem_cons.mp hz with rfl | hz; exact ⟨(show 38 ≠ 0 by decide), 2, by decide, by decide, cl_L38⟩; exact absurd hz List.not_mem_nil, rfl, (show 13 ≠ 0 by decide), by decide, cl_L13, ca_x0⟩
      ·
        by_cases h1 : e9 = 1
        · subst h1; exact ⟨[⟨0, 10, 13, 38⟩, ⟨0, 10, 17, 13⟩], ⟨0, 10, 21, 29⟩, [], rfl, rfl, fun z hz => by rcases List.mem_cons.mp hz with rfl | hz; exact ⟨(show 38 ≠ 0 by decide), 2, by decide, by decide, cl_L38⟩; rcases List.mem_cons.mp hz with rfl | hz; exact ⟨(show 13 ≠ 0 by decide), 0, by decide, by decide, cl_L13⟩; exact absurd hz List.not_mem_nil, rfl, (show 29 ≠ 0 by decide), by decide, cl_L29, ca_x1⟩
        · unfold kIAS at h; rw [if_neg h2, if_neg h0, if_neg h1] at h; cases h
  · intro v m1
    unfold hO
    refine x_i2l dL_takeBack_8 ?_
    refine x_last rfl (Or.inl rfl) dL_takeBack_9 (fun _ => ?_)
    refine x_goto (tgt := 25) dL_takeBack_10 rfl ?_
    refine x_iconst (v := 0) dL_takeBack_25 rfl ?_
    exact x_iret rfl rfl ⟨(Nat.le_of_ble_eq_true rfl), (Nat.le_of_ble_eq_true rfl)⟩ dL_takeBack_26
  · intro e9 m1 q9
    by_cases h2 : e9 = 2
    · subst h2; show Sx ω true 10 3 18 kk_L_takeBack fI _ _ m1 13 _ _ (some ((1 : Int32), m1)); refine x_astore dL_takeBack_13 (Nat.le_of_ble_eq_true rfl) rfl ?_; refine x_iconst (v := 1) dL_takeBack_15 rfl ?_; exact x_iret rfl rfl ⟨(Nat.le_of_ble_eq_true rfl), (Nat.le_of_ble_eq_true rfl)⟩ dL_takeBack_16
    ·
      by_cases h0 : e9 = 0
      · subst h0; show Sx ω true 10 3 18 kk_L_takeBack fI _ _ m1 17 _ _ (some ((2 : Int32), m1)); refine x_astore dL_takeBack_17 (Nat.le_of_ble_eq_true rfl) rfl ?_; refine x_iconst (v := 2) dL_takeBack_19 rfl ?_; exact x_iret rfl rfl ⟨(Nat.le_of_ble_eq_true rfl), (Nat.le_of_ble_eq_true rfl)⟩ dL_takeBack_20
      ·
        by_cases h1 : e9 = 1
        · subst h1; show Sx ω true 10 3 18 kk_L_takeBack fI _ _ m1 21 _ _ (some ((3 : Int32), m1)); refine x_astore dL_takeBack_21 (Nat.le_of_ble_eq_true rfl) rfl ?_; refine x_iconst (v := 3) dL_takeBack_23 rfl ?_; exact x_iret rfl rfl ⟨(Nat.le_of_ble_eq_true rfl), (Nat.le_of_ble_eq_true rfl)⟩ dL_takeBack_24
        · rw [show kIAS e9 m1 = none from by unfold kIAS; rw [if_neg h2, if_neg h0, if_neg h1]]; exact x_none
theorem mv_RL_51 : zMv RL 51 10 yX11_bent cX11_bent 3 (some .int) 2 := ⟨zG_in 903 (by decide +kernel) (by decide +kernel), zG_in 904 (by decide +kernel) (by decide +kernel), zG_in 905 (by decide +kernel) (by decide +kernel), zG_in 87 (by decide +kernel) (by decide +kernel), zG_in 906 (by decide +kernel) (by decide +kernel), ⟨by decide +kernel, by decide +kernel⟩, by decide +kernel, ⟨_, _, rfl⟩⟩
abbrev kk_L_bent : Kx := (RL, cL_bent, 5, some .int, [(0, 10, 13, 38), (0, 10, 17, 13)], false)
theorem c_L_bent (ω : Wd) (p1 : Int32) (p2 : Int32) (m : Mm) : EvW ω true 10 2 12 yL_bent cL_bent 5 (some .int) [(0, 10, 13, 38), (0, 10, 17, 13)] [.ref (zad ω 16), .int p1, .int p2, .ref (zad ω 229)] m fI (hB hO kIA (f_Loo_bent p1 p2 m)) := by
  refine EvW.of (ls := [some (.ref (zad ω 16)), some (.int p1), some (.int p2), some (.ref (zad ω 229)), none]) (by decide +kernel) rfl (Nat.le_of_ble_eq_true rfl) rfl ?_
  change Sx ω true 10 2 12 kk_L_bent fI 0 0 m 0 _ _ _
  refine x_aload_n dL_bent_0 rfl ?_
  refine x_iconst (v := 0) dL_bent_1 rfl ?_
  refine x_aload_n dL_bent_2 rfl ?_
  refine x_iload_n dL_bent_3 rfl ?_
  refine x_iload_n dL_bent_4 rfl ?_
  refine x_callVE (hp := fun e => if e = 2 then 13 else if e = 0 then 17 else 0) (As := [.int p1, .int p2]) (rest := [.int 0, .ref (zad ω 229)]) (c_Loo_bent ω p1 p2 m) mv_RL_51 rfl (Or.inl rfl) rfl (Nat.le_of_ble_eq_true rfl) (Nat.le_of_ble_eq_true rfl) (Nat.le_of_ble_eq_true rfl) ⟨(Nat.le_of_ble_eq_true rfl), (Nat.le_of_ble_eq_true rfl)⟩ dL_bent_5 ?_ ?_ ?_
  · intro e9 m9 r h
    by_cases h2 : e9 = 2
    · subst h2; exact ⟨[], ⟨0, 10, 13, 38⟩, [⟨0, 10, 17, 13⟩], rfl, rfl, fun z hz => absurd hz List.not_mem_nil, rfl, (show 38 ≠ 0 by decide), by decide, cl_L38, ca_x2⟩
    ·
      by_cases h0 : e9 = 0
      · subst h0; exact ⟨[⟨0, 10, 13, 38⟩], ⟨0, 10, 17, 13⟩, [], rfl, rfl, fun z hz => by rcases List.mem_cons.mp hz with rfl | hz; exact ⟨(show 38 ≠ 0 by decide), 2, by decide, by decide, cl_L38⟩; exact absurd hz List.not_mem_nil, rfl, (show 13 ≠ 0 by decide), by decide, cl_L13, ca_x0⟩
      · unfold kIA at h; rw [if_neg h2, if_neg h0] at h; cases h
  · intro v m1
    unfold hO
    refine x_i2l dL_bent_8 ?_
    refine x_last rfl (Or.inl rfl) dL_bent_9 (fun _ => ?_)
    refine x_goto (tgt := 21) dL_bent_10 rfl ?_
    refine x_iconst (v := 0) dL_bent_21 rfl ?_
    exact x_iret rfl rfl ⟨(Nat.le_of_ble_eq_true rfl), (Nat.le_of_ble_eq_true rfl)⟩ dL_bent_22
  · intro e9 m1 q9
    by_cases h2 : e9 = 2
    · subst h2; show Sx ω true 10 2 12 kk_L_bent fI _ _ m1 13 _ _ (some ((1 : Int32), m1)); refine x_astore dL_bent_13 (Nat.le_of_ble_eq_true rfl) rfl ?_; refine x_iconst (v := 1) dL_bent_15 rfl ?_; exact x_iret rfl rfl ⟨(Nat.le_of_ble_eq_true rfl), (Nat.le_of_ble_eq_true rfl)⟩ dL_bent_16
    ·
      by_cases h0 : e9 = 0
      · subst h0; show Sx ω true 10 2 12 kk_L_bent fI _ _ m1 17 _ _ (some ((2 : Int32), m1)); refine x_astore dL_bent_17 (Nat.le_of_ble_eq_true rfl) rfl ?_; refine x_iconst (v := 2) dL_bent_19 rfl ?_; exact x_iret rfl rfl ⟨(Nat.le_of_ble_eq_true rfl), (Nat.le_of_ble_eq_true rfl)⟩ dL_bent_20
      · rw [show kIA e9 m1 = none from by unfold kIA; rw [if_neg h2, if_neg h0]]; exact x_none
theorem mv_RL_54 : zMv RL 54 10 yX11_day cX11_day 3 (some .int) 2 := ⟨zG_in 1061 (by decide +kernel) (by decide +kernel), zG_in 1062 (by decide +kernel) (by decide +kernel), zG_in 1063 (by decide +kernel) (by decide +kernel), zG_in 87 (by decide +kernel) (by decide +kernel), zG_in 1064 (by decide +kernel) (by decide +kernel), ⟨by decide +kernel, by decide +kernel⟩, by decide +kernel, ⟨_, _, rfl⟩⟩
abbrev kk_L_day : Kx := (RL, cL_day, 5, some .int, [(0, 10, 13, 38), (0, 10, 17, 13)], false)
theorem c_L_day (ω : Wd) (p1 : Int32) (p2 : Int32) (m : Mm) : EvW ω true 10 2 12 yL_day cL_day 5 (some .int) [(0, 10, 13, 38), (0, 10, 17, 13)] [.ref (zad ω 16), .int p1, .int p2, .ref (zad ω 229)] m fI (hB hO kIA (f_Loo_day p1 p2 m)) := by
  refine EvW.of (ls := [some (.ref (zad ω 16)), some (.int p1), some (.int p2), some (.ref (zad ω 229)), none]) (by decide +kernel) rfl (Nat.le_of_ble_eq_true rfl) rfl ?_
  change Sx ω true 10 2 12 kk_L_day fI 0 0 m 0 _ _ _
  refine x_aload_n dL_day_0 rfl ?_
  refine x_iconst (v := 0) dL_day_1 rfl ?_
  refine x_aload_n dL_day_2 rfl ?_
  refine x_iload_n dL_day_3 rfl ?_
  refine x_iload_n dL_day_4 rfl ?_
  refine x_callVE (hp := fun e => if e = 2 then 13 else if e = 0 then 17 else 0) (As := [.int p1, .int p2]) (rest := [.int 0, .ref (zad ω 229)]) (c_Loo_day ω p1 p2 m) mv_RL_54 rfl (Or.inl rfl) rfl (Nat.le_of_ble_eq_true rfl) (Nat.le_of_ble_eq_true rfl) (Nat.le_of_ble_eq_true rfl) ⟨(Nat.le_of_ble_eq_true rfl), (Nat.le_of_ble_eq_true rfl)⟩ dL_day_5 ?_ ?_ ?_
  · intro e9 m9 r h
    by_cases h2 : e9 = 2
    · subst h2; exact ⟨[], ⟨0, 10, 13, 38⟩, [⟨0, 10, 17, 13⟩], rfl, rfl, fun z hz => absurd hz List.not_mem_nil, rfl, (show 38 ≠ 0 by decide), by decide, cl_L38, ca_x2⟩
    ·
      by_cases h0 : e9 = 0
      · subst h0; exact ⟨[⟨0, 10, 13, 38⟩], ⟨0, 10, 17, 13⟩, [], rfl, rfl, fun z hz => by rcases List.mem_cons.mp hz with rfl | hz; exact ⟨(show 38 ≠ 0 by decide), 2, by decide, by decide, cl_L38⟩; exact absurd hz List.not_mem_nil, rfl, (show 13 ≠ 0 by decide), by decide, cl_L13, ca_x0⟩
      · unfold kIA at h; rw [if_neg h2, if_neg h0] at h; cases h
  · intro v m1
    unfold hO
    refine x_i2l dL_day_8 ?_
    refine x_last rfl (Or.inl rfl) dL_day_9 (fun _ => ?_)
    refine x_goto (tgt := 21) dL_day_10 rfl ?_
    refine x_iconst (v := 0) dL_day_21 rfl ?_
    exact x_iret rfl rfl ⟨(Nat.le_of_ble_eq_true rfl), (Nat.le_of_ble_eq_true rfl)⟩ dL_day_22
  · intro e9 m1 q9
    by_cases h2 : e9 = 2
    · subst h2; show Sx ω true 10 2 12 kk_L_day fI _ _ m1 13 _ _ (some ((1 : Int32), m1)); refine x_astore dL_day_13 (Nat.le_of_ble_eq_true rfl) rfl ?_; refine x_iconst (v := 1) dL_day_15 rfl ?_; exact x_iret rfl rfl ⟨(Nat.le_of_ble_eq_true rfl), (Nat.le_of_ble_eq_true rfl)⟩ dL_day_16
    ·
      by_cases h0 : e9 = 0
      · subst h0; show Sx ω true 10 2 12 kk_L_day fI _ _ m1 17 _ _ (some ((2 : Int32), m1)); refine x_astore dL_day_17 (Nat.le_of_ble_eq_true rfl) rfl ?_; refine x_iconst (v := 2) dL_day_19 rfl ?_; exact x_iret rfl rfl ⟨(Nat.le_of_ble_eq_true rfl), (Nat.le_of_ble_eq_true rfl)⟩ dL_day_20
      · rw [show kIA e9 m1 = none from by unfold kIA; rw [if_neg h2, if_neg h0]]; exact x_none
theorem mv_RL_57 : zMv RL 57 10 yX11_dayByDays cX11_dayByDays 3 (some .int) 2 := ⟨zG_in 1085 (by decide +kernel) (by decide +kernel), zG_in 1086 (by decide +kernel) (by decide +kernel), zG_in 1087 (by decide +kernel) (by decide +kernel), zG_in 87 (by decide +kernel) (by decide +kernel), zG_in 1088 (by decide +kernel) (by decide +kernel), ⟨by decide +kernel, by decide +kernel⟩, by decide +kernel, ⟨_, _, rfl⟩⟩
abbrev kk_L_dayByDays : Kx := (RL, cL_dayByDays, 5, some .int, [(0, 10, 13, 38), (0, 10, 17, 13)], false)
theorem c_L_dayByDays (ω : Wd) (p1 : Int32) (p2 : Int32) (m : Mm) : EvW ω true 108 2 12 yL_dayByDays cL_dayByDays 5 (some .int) [(0, 10, 13, 38), (0, 10, 17, 13)] [.ref (zad ω 16), .int p1, .int p2, .ref (zad ω 229)] m fI (hB hO kIA (f_Loo_dayByDays p1 p2 m)) := by
  refine EvW.of (ls := [some (.ref (zad ω 16)), some (.int p1), some (.int p2), some (.ref (zad ω 229)), none]) (by decide +kernel) rfl (Nat.le_of_ble_eq_true rfl) rfl ?_
  change Sx ω true 108 2 12 kk_L_dayByDays fI 0 0 m 0 _ _ _
  refine x_aload_n dL_dayByDays_0 rfl ?_
  refine x_iconst (v := 0) dL_dayByDays_1 rfl ?_
  refine x_aload_n dL_dayByDays_2 rfl ?_
  refine x_iload_n dL_dayByDays_3 rfl ?_
  refine x_iload_n dL_dayByDays_4 rfl ?_
  refine x_callVE (hp := fun e => if e = 2 then 13 else if e = 0 then 17 else 0) (As := [.int p1, .int p2]) (rest := [.int 0, .ref (zad ω 229)]) (c_Loo_dayByDays ω p1 p2 m) mv_RL_57 rfl (Or.inl rfl) rfl (Nat.le_of_ble_eq_true rfl) (Nat.le_of_ble_eq_true rfl) (Nat.le_of_ble_eq_true rfl) ⟨(Nat.le_of_ble_eq_true rfl), (Nat.le_of_ble_eq_true rfl)⟩ dL_dayByDays_5 ?_ ?_ ?_
  · intro e9 m9 r h
    by_cases h2 : e9 = 2
    · subst h2; exact ⟨[], ⟨0, 10, 13, 38⟩, [⟨0, 10, 17, 13⟩], rfl, rfl, fun z hz => absurd hz List.not_mem_nil, rfl, (show 38 ≠ 0 by decide), by decide, cl_L38, ca_x2⟩
    ·
      by_cases h0 : e9 = 0
      · subst h0; exact ⟨[⟨0, 10, 13, 38⟩], ⟨0, 10, 17, 13⟩, [], rfl, rfl, fun z hz => by rcases List.mem_cons.mp hz with rfl | hz; exact ⟨(show 38 ≠ 0 by decide), 2, by decide, by decide, cl_L38⟩; exact absurd hz List.not_mem_nil, rfl, (show 13 ≠ 0 by decide), by decide, cl_L13, ca_x0⟩
      · unfold kIA at h; rw [if_neg h2, if_neg h0] at h; cases h
  · intro v m1
    unfold hO
    refine x_i2l dL_dayByDays_8 ?_
    refine x_last rfl (Or.inl rfl) dL_dayByDays_9 (fun _ => ?_)
    refine x_goto (tgt := 21) dL_dayByDays_10 rfl ?_
    refine x_iconst (v := 0) dL_dayByDays_21 rfl ?_
    exact x_iret rfl rfl ⟨(Nat.le_of_ble_eq_true rfl), (Nat.le_of_ble_eq_true rfl)⟩ dL_dayByDays_22
  · intro e9 m1 q9
    by_cases h2 : e9 = 2
    · subst h2; show Sx ω true 108 2 12 kk_L_dayByDays fI _ _ m1 13 _ _ (some ((1 : Int32), m1)); refine x_astore dL_dayByDays_13 (Nat.le_of_ble_eq_true rfl) rfl ?_; refine x_iconst (v := 1) dL_dayByDays_15 rfl ?_; exact x_iret rfl rfl ⟨(Nat.le_of_ble_eq_true rfl), (Nat.le_of_ble_eq_true rfl)⟩ dL_dayByDays_16
    ·
      by_cases h0 : e9 = 0
      · subst h0; show Sx ω true 108 2 12 kk_L_dayByDays fI _ _ m1 17 _ _ (some ((2 : Int32), m1)); refine x_astore dL_dayByDays_17 (Nat.le_of_ble_eq_true rfl) rfl ?_; refine x_iconst (v := 2) dL_dayByDays_19 rfl ?_; exact x_iret rfl rfl ⟨(Nat.le_of_ble_eq_true rfl), (Nat.le_of_ble_eq_true rfl)⟩ dL_dayByDays_20
      · rw [show kIA e9 m1 = none from by unfold kIA; rw [if_neg h2, if_neg h0]]; exact x_none
theorem mv_RL_60 : zMv RL 60 10 yX11_clashes cX11_clashes 2 (some .int) 1 := ⟨zG_in 1176 (by decide +kernel) (by decide +kernel), zG_in 1177 (by decide +kernel) (by decide +kernel), zG_in 1178 (by decide +kernel) (by decide +kernel), zG_in 87 (by decide +kernel) (by decide +kernel), zG_in 1179 (by decide +kernel) (by decide +kernel), ⟨by decide +kernel, by decide +kernel⟩, by decide +kernel, ⟨_, _, rfl⟩⟩
abbrev kk_L_clashes : Kx := (RL, cL_clashes, 4, some .int, [(0, 9, 12, 13)], false)
theorem c_L_clashes (ω : Wd) (p1 : Int32) (m : Mm) : EvW ω true 10 1 6 yL_clashes cL_clashes 4 (some .int) [(0, 9, 12, 13)] [.ref (zad ω 16), .int p1, .ref (zad ω 229)] m fI (hB hO kA (f_Loo_clashes p1 m)) := by
  refine EvW.of (ls := [some (.ref (zad ω 16)), some (.int p1), some (.ref (zad ω 229)), none]) (by decide +kernel) rfl (Nat.le_of_ble_eq_true rfl) rfl ?_
  change Sx ω true 10 1 6 kk_L_clashes fI 0 0 m 0 _ _ _
  refine x_aload_n dL_clashes_0 rfl ?_
  refine x_iconst (v := 0) dL_clashes_1 rfl ?_
  refine x_aload_n dL_clashes_2 rfl ?_
  refine x_iload_n dL_clashes_3 rfl ?_
  refine x_callVE (hp := fun e => if e = 0 then 12 else 0) (As := [.int p1]) (rest := [.int 0, .ref (zad ω 229)]) (c_Loo_clashes ω p1 m) mv_RL_60 rfl (Or.inl rfl) rfl (Nat.le_of_ble_eq_true rfl) (Nat.le_of_ble_eq_true rfl) (Nat.le_of_ble_eq_true rfl) ⟨(Nat.le_of_ble_eq_true rfl), (Nat.le_of_ble_eq_true rfl)⟩ dL_clashes_4 ?_ ?_ ?_
  · intro e9 m9 r h
    by_cases h0 : e9 = 0
    · subst h0; exact ⟨[], ⟨0, 9, 12, 13⟩, [], rfl, rfl, fun z hz => absurd hz List.not_mem_nil, rfl, (show 13 ≠ 0 by decide), by decide, cl_L13, ca_x0⟩
    · unfold kA at h; rw [if_neg h0] at h; cases h
  · intro v m1
    unfold hO
    refine x_i2l dL_clashes_7 ?_
    refine x_last rfl (Or.inl rfl) dL_clashes_8 (fun _ => ?_)
    refine x_goto (tgt := 15) dL_clashes_9 rfl ?_
    refine x_iconst (v := 0) dL_clashes_15 rfl ?_
    exact x_iret rfl rfl ⟨(Nat.le_of_ble_eq_true rfl), (Nat.le_of_ble_eq_true rfl)⟩ dL_clashes_16
  · intro e9 m1 q9
    by_cases h0 : e9 = 0
    · subst h0; show Sx ω true 10 1 6 kk_L_clashes fI _ _ m1 12 _ _ (some ((1 : Int32), m1)); refine x_astore_n dL_clashes_12 (Nat.le_of_ble_eq_true rfl) rfl ?_; refine x_iconst (v := 1) dL_clashes_13 rfl ?_; exact x_iret rfl rfl ⟨(Nat.le_of_ble_eq_true rfl), (Nat.le_of_ble_eq_true rfl)⟩ dL_clashes_14
    · rw [show kA e9 m1 = none from by unfold kA; rw [if_neg h0]]; exact x_none
theorem mv_RL_63 : zMv RL 63 10 yX11_isMidnight cX11_isMidnight 3 (some .boolean) 2 := ⟨zG_in 1187 (by decide +kernel) (by decide +kernel), zG_in 1188 (by decide +kernel) (by decide +kernel), zG_in 1189 (by decide +kernel) (by decide +kernel), zG_in 87 (by decide +kernel) (by decide +kernel), zG_in 1190 (by decide +kernel) (by decide +kernel), ⟨by decide +kernel, by decide +kernel⟩, by decide +kernel, ⟨_, _, rfl⟩⟩
abbrev kk_L_isMidnight : Kx := (RL, cL_isMidnight, 5, some .int, [(0, 17, 20, 38), (0, 17, 24, 13)], false)
theorem c_L_isMidnight (ω : Wd) (p1 : Int32) (p2 : Int32) (m : Mm) : EvW ω true 10 2 12 yL_isMidnight cL_isMidnight 5 (some .int) [(0, 17, 20, 38), (0, 17, 24, 13)] [.ref (zad ω 16), .int p1, .int p2, .ref (zad ω 229)] m fI (hB hZ kIA (f_Loo_isMidnight p1 p2 m)) := by
  refine EvW.of (ls := [some (.ref (zad ω 16)), some (.int p1), some (.int p2), some (.ref (zad ω 229)), none]) (by decide +kernel) rfl (Nat.le_of_ble_eq_true rfl) rfl ?_
  change Sx ω true 10 2 12 kk_L_isMidnight fI 0 0 m 0 _ _ _
  refine x_aload_n dL_isMidnight_0 rfl ?_
  refine x_iconst (v := 0) dL_isMidnight_1 rfl ?_
  refine x_aload_n dL_isMidnight_2 rfl ?_
  refine x_iload_n dL_isMidnight_3 rfl ?_
  refine x_iload_n dL_isMidnight_4 rfl ?_
  refine x_callVE (hp := fun e => if e = 2 then 20 else if e = 0 then 24 else 0) (As := [.int p1, .int p2]) (rest := [.int 0, .ref (zad ω 229)]) (c_Loo_isMidnight ω p1 p2 m) mv_RL_63 rfl (Or.inl rfl) rfl (Nat.le_of_ble_eq_true rfl) (Nat.le_of_ble_eq_true rfl) (Nat.le_of_ble_eq_true rfl) ⟨(Nat.le_of_ble_eq_true rfl), (Nat.le_of_ble_eq_true rfl)⟩ dL_isMidnight_5 ?_ ?_ ?_
  · intro e9 m9 r h
    by_cases h2 : e9 = 2
    · subst h2; exact ⟨[], ⟨0, 17, 20, 38⟩, [⟨0, 17, 24, 13⟩], rfl, rfl, fun z hz => absurd hz List.not_mem_nil, rfl, (show 38 ≠ 0 by decide), by decide, cl_L38, ca_x2⟩
    ·
      by_cases h0 : e9 = 0
      · subst h0; exact ⟨[⟨0, 17, 20, 38⟩], ⟨0, 17, 24, 13⟩, [], rfl, rfl, fun z hz => by rcases List.mem_cons.mp hz with rfl | hz; exact ⟨(show 38 ≠ 0 by decide), 2, by decide, by decide, cl_L38⟩; exact absurd hz List.not_mem_nil, rfl, (show 13 ≠ 0 by decide), by decide, cl_L13, ca_x0⟩
      · unfold kIA at h; rw [if_neg h2, if_neg h0] at h; cases h
  · intro v m1
    unfold hZ
    refine x_if_eq (tgt := 15) dL_isMidnight_8 rfl (fun _ => ?_) (fun _ => ?_)
    · refine x_lconst (v := 0) dL_isMidnight_15 rfl ?_
      refine x_last rfl (Or.inl rfl) dL_isMidnight_16 (fun _ => ?_)
      refine x_goto (tgt := 28) dL_isMidnight_17 rfl ?_
      refine x_iconst (v := 0) dL_isMidnight_28 rfl ?_
      exact x_iret rfl rfl ⟨(Nat.le_of_ble_eq_true rfl), (Nat.le_of_ble_eq_true rfl)⟩ dL_isMidnight_29
    · refine x_lconst (v := 1) dL_isMidnight_11 rfl ?_
      refine x_goto (tgt := 16) dL_isMidnight_12 rfl ?_
      refine x_last rfl (Or.inl rfl) dL_isMidnight_16 (fun _ => ?_)
      refine x_goto (tgt := 28) dL_isMidnight_17 rfl ?_
      refine x_iconst (v := 0) dL_isMidnight_28 rfl ?_
      exact x_iret rfl rfl ⟨(Nat.le_of_ble_eq_true rfl), (Nat.le_of_ble_eq_true rfl)⟩ dL_isMidnight_29
  · intro e9 m1 q9
    by_cases h2 : e9 = 2
    · subst h2; show Sx ω true 10 2 12 kk_L_isMidnight fI _ _ m1 20 _ _ (some ((1 : Int32), m1)); refine x_astore dL_isMidnight_20 (Nat.le_of_ble_eq_true rfl) rfl ?_; refine x_iconst (v := 1) dL_isMidnight_22 rfl ?_; exact x_iret rfl rfl ⟨(Nat.le_of_ble_eq_true rfl), (Nat.le_of_ble_eq_true rfl)⟩ dL_isMidnight_23
    ·
      by_cases h0 : e9 = 0
      · subst h0; show Sx ω true 10 2 12 kk_L_isMidnight fI _ _ m1 24 _ _ (some ((2 : Int32), m1)); refine x_astore dL_isMidnight_24 (Nat.le_of_ble_eq_true rfl) rfl ?_; refine x_iconst (v := 2) dL_isMidnight_26 rfl ?_; exact x_iret rfl rfl ⟨(Nat.le_of_ble_eq_true rfl), (Nat.le_of_ble_eq_true rfl)⟩ dL_isMidnight_27
      · rw [show kIA e9 m1 = none from by unfold kIA; rw [if_neg h2, if_neg h0]]; exact x_none
theorem mv_RL_67 : zMv RL 67 10 yX11_steps cX11_steps 2 (some .int) 1 := ⟨zG_in 1203 (by decide +kernel) (by decide +kernel), zG_in 1204 (by decide +kernel) (by decide +kernel), zG_in 1205 (by decide +kernel) (by decide +kernel), zG_in 87 (by decide +kernel) (by decide +kernel), zG_in 1206 (by decide +kernel) (by decide +kernel), ⟨by decide +kernel, by decide +kernel⟩, by decide +kernel, ⟨_, _, rfl⟩⟩
abbrev kk_L_steps : Kx := (RL, cL_steps, 4, some .int, [(0, 9, 12, 38)], false)
theorem c_L_steps (ω : Wd) (p1 : Int32) (m : Mm) : EvW ω true 10 1 6 yL_steps cL_steps 4 (some .int) [(0, 9, 12, 38)] [.ref (zad ω 16), .int p1, .ref (zad ω 229)] m fI (hB hO kI (f_Loo_steps p1 m)) := by
  refine EvW.of (ls := [some (.ref (zad ω 16)), some (.int p1), some (.ref (zad ω 229)), none]) (by decide +kernel) rfl (Nat.le_of_ble_eq_true rfl) rfl ?_
  change Sx ω true 10 1 6 kk_L_steps fI 0 0 m 0 _ _ _
  refine x_aload_n dL_steps_0 rfl ?_
  refine x_iconst (v := 0) dL_steps_1 rfl ?_
  refine x_aload_n dL_steps_2 rfl ?_
  refine x_iload_n dL_steps_3 rfl ?_
  refine x_callVE (hp := fun e => if e = 2 then 12 else 0) (As := [.int p1]) (rest := [.int 0, .ref (zad ω 229)]) (c_Loo_steps ω p1 m) mv_RL_67 rfl (Or.inl rfl) rfl (Nat.le_of_ble_eq_true rfl) (Nat.le_of_ble_eq_true rfl) (Nat.le_of_ble_eq_true rfl) ⟨(Nat.le_of_ble_eq_true rfl), (Nat.le_of_ble_eq_true rfl)⟩ dL_steps_4 ?_ ?_ ?_
  · intro e9 m9 r h
    by_cases h2 : e9 = 2
    · subst h2; exact ⟨[], ⟨0, 9, 12, 38⟩, [], rfl, rfl, fun z hz => absurd hz List.not_mem_nil, rfl, (show 38 ≠ 0 by decide), by decide, cl_L38, ca_x2⟩
    · unfold kI at h; rw [if_neg h2] at h; cases h
  · intro v m1
    unfold hO
    refine x_i2l dL_steps_7 ?_
    refine x_last rfl (Or.inl rfl) dL_steps_8 (fun _ => ?_)
    refine x_goto (tgt := 15) dL_steps_9 rfl ?_
    refine x_iconst (v := 0) dL_steps_15 rfl ?_
    exact x_iret rfl rfl ⟨(Nat.le_of_ble_eq_true rfl), (Nat.le_of_ble_eq_true rfl)⟩ dL_steps_16
  · intro e9 m1 q9
    by_cases h2 : e9 = 2
    · subst h2; show Sx ω true 10 1 6 kk_L_steps fI _ _ m1 12 _ _ (some ((1 : Int32), m1)); refine x_astore_n dL_steps_12 (Nat.le_of_ble_eq_true rfl) rfl ?_; refine x_iconst (v := 1) dL_steps_13 rfl ?_; exact x_iret rfl rfl ⟨(Nat.le_of_ble_eq_true rfl), (Nat.le_of_ble_eq_true rfl)⟩ dL_steps_14
    · rw [show kI e9 m1 = none from by unfold kI; rw [if_neg h2]]; exact x_none
theorem mv_RL_70 : zMv RL 70 10 yX11_step cX11_step 4 (some .int) 2 := ⟨zG_in 1210 (by decide +kernel) (by decide +kernel), zG_in 1211 (by decide +kernel) (by decide +kernel), zG_in 1212 (by decide +kernel) (by decide +kernel), zG_in 87 (by decide +kernel) (by decide +kernel), zG_in 1213 (by decide +kernel) (by decide +kernel), ⟨by decide +kernel, by decide +kernel⟩, by decide +kernel, ⟨_, _, rfl⟩⟩
abbrev kk_L_step : Kx := (RL, cL_step, 5, some .int, [(0, 10, 13, 38)], false)
theorem c_L_step (ω : Wd) (p1 : Int32) (p2 : Int32) (m : Mm) : EvW ω true 10 2 12 yL_step cL_step 5 (some .int) [(0, 10, 13, 38)] [.ref (zad ω 16), .int p1, .int p2, .ref (zad ω 229)] m fI (hB hO kI (f_Loo_step p1 p2 m)) := by
  refine EvW.of (ls := [some (.ref (zad ω 16)), some (.int p1), some (.int p2), some (.ref (zad ω 229)), none]) (by decide +kernel) rfl (Nat.le_of_ble_eq_true rfl) rfl ?_
  change Sx ω true 10 2 12 kk_L_step fI 0 0 m 0 _ _ _
  refine x_aload_n dL_step_0 rfl ?_
  refine x_iconst (v := 0) dL_step_1 rfl ?_
  refine x_aload_n dL_step_2 rfl ?_
  refine x_iload_n dL_step_3 rfl ?_
  refine x_iload_n dL_step_4 rfl ?_
  refine x_callVE (hp := fun e => if e = 2 then 13 else 0) (As := [.int p1, .int p2]) (rest := [.int 0, .ref (zad ω 229)]) (c_Loo_step ω p1 p2 m) mv_RL_70 rfl (Or.inl rfl) rfl (Nat.le_of_ble_eq_true rfl) (Nat.le_of_ble_eq_true rfl) (Nat.le_of_ble_eq_true rfl) ⟨(Nat.le_of_ble_eq_true rfl), (Nat.le_of_ble_eq_true rfl)⟩ dL_step_5 ?_ ?_ ?_
  · intro e9 m9 r h
    by_cases h2 : e9 = 2
    · subst h2; exact ⟨[], ⟨0, 10, 13, 38⟩, [], rfl, rfl, fun z hz => absurd hz List.not_mem_nil, rfl, (show 38 ≠ 0 by decide), by decide, cl_L38, ca_x2⟩
    · unfold kI at h; rw [if_neg h2] at h; cases h
  · intro v m1
    unfold hO
    refine x_i2l dL_step_8 ?_
    refine x_last rfl (Or.inl rfl) dL_step_9 (fun _ => ?_)
    refine x_goto (tgt := 17) dL_step_10 rfl ?_
    refine x_iconst (v := 0) dL_step_17 rfl ?_
    exact x_iret rfl rfl ⟨(Nat.le_of_ble_eq_true rfl), (Nat.le_of_ble_eq_true rfl)⟩ dL_step_18
  · intro e9 m1 q9
    by_cases h2 : e9 = 2
    · subst h2; show Sx ω true 10 2 12 kk_L_step fI _ _ m1 13 _ _ (some ((1 : Int32), m1)); refine x_astore dL_step_13 (Nat.le_of_ble_eq_true rfl) rfl ?_; refine x_iconst (v := 1) dL_step_15 rfl ?_; exact x_iret rfl rfl ⟨(Nat.le_of_ble_eq_true rfl), (Nat.le_of_ble_eq_true rfl)⟩ dL_step_16
    · rw [show kI e9 m1 = none from by unfold kI; rw [if_neg h2]]; exact x_none
theorem mv_RL_73 : zMv RL 73 10 yX11_cost cX11_cost 3 (some .int) 2 := ⟨zG_in 1220 (by decide +kernel) (by decide +kernel), zG_in 1221 (by decide +kernel) (by decide +kernel), zG_in 1222 (by decide +kernel) (by decide +kernel), zG_in 87 (by decide +kernel) (by decide +kernel), zG_in 1223 (by decide +kernel) (by decide +kernel), ⟨by decide +kernel, by decide +kernel⟩, by decide +kernel, ⟨_, _, rfl⟩⟩
abbrev kk_L_cost : Kx := (RL, cL_cost, 5, some .int, [(0, 10, 13, 38), (0, 10, 17, 13)], false)
theorem c_L_cost (ω : Wd) (p1 : Int32) (p2 : Int32) (m : Mm) : EvW ω true 10 2 12 yL_cost cL_cost 5 (some .int) [(0, 10, 13, 38), (0, 10, 17, 13)] [.ref (zad ω 16), .int p1, .int p2, .ref (zad ω 229)] m fI (hB hO kIA (f_Loo_cost p1 p2 m)) := by
  refine EvW.of (ls := [some (.ref (zad ω 16)), some (.int p1), some (.int p2), some (.ref (zad ω 229)), none]) (by decide +kernel) rfl (Nat.le_of_ble_eq_true rfl) rfl ?_
  change Sx ω true 10 2 12 kk_L_cost fI 0 0 m 0 _ _ _
  refine x_aload_n dL_cost_0 rfl ?_
  refine x_iconst (v := 0) dL_cost_1 rfl ?_
  refine x_aload_n dL_cost_2 rfl ?_
  refine x_iload_n dL_cost_3 rfl ?_
  refine x_iload_n dL_cost_4 rfl ?_
  refine x_callVE (hp := fun e => if e = 2 then 13 else if e = 0 then 17 else 0) (As := [.int p1, .int p2]) (rest := [.int 0, .ref (zad ω 229)]) (c_Loo_cost ω p1 p2 m) mv_RL_73 rfl (Or.inl rfl) rfl (Nat.le_of_ble_eq_true rfl) (Nat.le_of_ble_eq_true rfl) (Nat.le_of_ble_eq_true rfl) ⟨(Nat.le_of_ble_eq_true rfl), (Nat.le_of_ble_eq_true rfl)⟩ dL_cost_5 ?_ ?_ ?_
  · intro e9 m9 r h
    by_cases h2 : e9 = 2
    · subst h2; exact ⟨[], ⟨0, 10, 13, 38⟩, [⟨0, 10, 17, 13⟩], rfl, rfl, fun z hz => absurd hz List.not_mem_nil, rfl, (show 38 ≠ 0 by decide), by decide, cl_L38, ca_x2⟩
    ·
      by_cases h0 : e9 = 0
      · subst h0; exact ⟨[⟨0, 10, 13, 38⟩], ⟨0, 10, 17, 13⟩, [], rfl, rfl, fun z hz => by rcases List.mem_cons.mp hz with rfl | hz; exact ⟨(show 38 ≠ 0 by decide), 2, by decide, by decide, cl_L38⟩; exact absurd hz List.not_mem_nil, rfl, (show 13 ≠ 0 by decide), by decide, cl_L13, ca_x0⟩
      · unfold kIA at h; rw [if_neg h2, if_neg h0] at h; cases h
  · intro v m1
    unfold hO
    refine x_i2l dL_cost_8 ?_
    refine x_last rfl (Or.inl rfl) dL_cost_9 (fun _ => ?_)
    refine x_goto (tgt := 21) dL_cost_10 rfl ?_
    refine x_iconst (v := 0) dL_cost_21 rfl ?_
    exact x_iret rfl rfl ⟨(Nat.le_of_ble_eq_true rfl), (Nat.le_of_ble_eq_true rfl)⟩ dL_cost_22
  · intro e9 m1 q9
    by_cases h2 : e9 = 2
    · subst h2; show Sx ω true 10 2 12 kk_L_cost fI _ _ m1 13 _ _ (some ((1 : Int32), m1)); refine x_astore dL_cost_13 (Nat.le_of_ble_eq_true rfl) rfl ?_; refine x_iconst (v := 1) dL_cost_15 rfl ?_; exact x_iret rfl rfl ⟨(Nat.le_of_ble_eq_true rfl), (Nat.le_of_ble_eq_true rfl)⟩ dL_cost_16
    ·
      by_cases h0 : e9 = 0
      · subst h0; show Sx ω true 10 2 12 kk_L_cost fI _ _ m1 17 _ _ (some ((2 : Int32), m1)); refine x_astore dL_cost_17 (Nat.le_of_ble_eq_true rfl) rfl ?_; refine x_iconst (v := 2) dL_cost_19 rfl ?_; exact x_iret rfl rfl ⟨(Nat.le_of_ble_eq_true rfl), (Nat.le_of_ble_eq_true rfl)⟩ dL_cost_20
      · rw [show kIA e9 m1 = none from by unfold kIA; rw [if_neg h2, if_neg h0]]; exact x_none
theorem mv_RL_76 : zMv RL 76 10 yX11_yearCost cX11_yearCost 2 (some .int) 1 := ⟨zG_in 1231 (by decide +kernel) (by decide +kernel), zG_in 1232 (by decide +kernel) (by decide +kernel), zG_in 1233 (by decide +kernel) (by decide +kernel), zG_in 87 (by decide +kernel) (by decide +kernel), zG_in 1234 (by decide +kernel) (by decide +kernel), ⟨by decide +kernel, by decide +kernel⟩, by decide +kernel, ⟨_, _, rfl⟩⟩
abbrev kk_L_yearCost : Kx := (RL, cL_yearCost, 4, some .int, [(0, 9, 12, 13)], false)
theorem c_L_yearCost (ω : Wd) (p1 : Int32) (m : Mm) : EvW ω true 10 1 6 yL_yearCost cL_yearCost 4 (some .int) [(0, 9, 12, 13)] [.ref (zad ω 16), .int p1, .ref (zad ω 229)] m fI (hB hO kA (f_Loo_yearCost p1 m)) := by
  refine EvW.of (ls := [some (.ref (zad ω 16)), some (.int p1), some (.ref (zad ω 229)), none]) (by decide +kernel) rfl (Nat.le_of_ble_eq_true rfl) rfl ?_
  change Sx ω true 10 1 6 kk_L_yearCost fI 0 0 m 0 _ _ _
  refine x_aload_n dL_yearCost_0 rfl ?_
  refine x_iconst (v := 0) dL_yearCost_1 rfl ?_
  refine x_aload_n dL_yearCost_2 rfl ?_
  refine x_iload_n dL_yearCost_3 rfl ?_
  refine x_callVE (hp := fun e => if e = 0 then 12 else 0) (As := [.int p1]) (rest := [.int 0, .ref (zad ω 229)]) (c_Loo_yearCost ω p1 m) mv_RL_76 rfl (Or.inl rfl) rfl (Nat.le_of_ble_eq_true rfl) (Nat.le_of_ble_eq_true rfl) (Nat.le_of_ble_eq_true rfl) ⟨(Nat.le_of_ble_eq_true rfl), (Nat.le_of_ble_eq_true rfl)⟩ dL_yearCost_4 ?_ ?_ ?_
  · intro e9 m9 r h
    by_cases h0 : e9 = 0
    · subst h0; exact ⟨[], ⟨0, 9, 12, 13⟩, [], rfl, rfl, fun z hz => absurd hz List.not_mem_nil, rfl, (show 13 ≠ 0 by decide), by decide, cl_L13, ca_x0⟩
    · unfold kA at h; rw [if_neg h0] at h; cases h
  · intro v m1
    unfold hO
    refine x_i2l dL_yearCost_7 ?_
    refine x_last rfl (Or.inl rfl) dL_yearCost_8 (fun _ => ?_)
    refine x_goto (tgt := 15) dL_yearCost_9 rfl ?_
    refine x_iconst (v := 0) dL_yearCost_15 rfl ?_
    exact x_iret rfl rfl ⟨(Nat.le_of_ble_eq_true rfl), (Nat.le_of_ble_eq_true rfl)⟩ dL_yearCost_16
  · intro e9 m1 q9
    by_cases h0 : e9 = 0
    · subst h0; show Sx ω true 10 1 6 kk_L_yearCost fI _ _ m1 12 _ _ (some ((1 : Int32), m1)); refine x_astore_n dL_yearCost_12 (Nat.le_of_ble_eq_true rfl) rfl ?_; refine x_iconst (v := 1) dL_yearCost_13 rfl ?_; exact x_iret rfl rfl ⟨(Nat.le_of_ble_eq_true rfl), (Nat.le_of_ble_eq_true rfl)⟩ dL_yearCost_14
    · rw [show kA e9 m1 = none from by unfold kA; rw [if_neg h0]]; exact x_none
theorem mv_RL_79 : zMv RL 79 10 yX11_search cX11_search 2 (some .int) 1 := ⟨zG_in 1242 (by decide +kernel) (by decide +kernel), zG_in 1243 (by decide +kernel) (by decide +kernel), zG_in 1244 (by decide +kernel) (by decide +kernel), zG_in 87 (by decide +kernel) (by decide +kernel), zG_in 1245 (by decide +kernel) (by decide +kernel), ⟨by decide +kernel, by decide +kernel⟩, by decide +kernel, ⟨_, _, rfl⟩⟩
abbrev kk_L_search : Kx := (RL, cL_search, 4, some .int, [(0, 9, 12, 13), (0, 9, 15, 29)], false)
theorem c_L_search (ω : Wd) (p1 : Int32) (m : Mm) : EvW ω true 111 3 18 yL_search cL_search 4 (some .int) [(0, 9, 12, 13), (0, 9, 15, 29)] [.ref (zad ω 16), .int p1, .ref (zad ω 229)] m fI (hB hO kAS (f_Loo_search p1 m)) := by
  refine EvW.of (ls := [some (.ref (zad ω 16)), some (.int p1), some (.ref (zad ω 229)), none]) (by decide +kernel) rfl (Nat.le_of_ble_eq_true rfl) rfl ?_
  change Sx ω true 111 3 18 kk_L_search fI 0 0 m 0 _ _ _
  refine x_aload_n dL_search_0 rfl ?_
  refine x_iconst (v := 0) dL_search_1 rfl ?_
  refine x_aload_n dL_search_2 rfl ?_
  refine x_iload_n dL_search_3 rfl ?_
  refine x_callVE (hp := fun e => if e = 0 then 12 else if e = 1 then 15 else 0) (As := [.int p1]) (rest := [.int 0, .ref (zad ω 229)]) (c_Loo_search ω p1 m) mv_RL_79 rfl (Or.inl rfl) rfl (Nat.le_of_ble_eq_true rfl) (Nat.le_of_ble_eq_true rfl) (Nat.le_of_ble_eq_true rfl) ⟨(Nat.le_of_ble_eq_true rfl), (Nat.le_of_ble_eq_true rfl)⟩ dL_search_4 ?_ ?_ ?_
  · intro e9 m9 r h
    by_cases h0 : e9 = 0
    · subst h0; exact ⟨[], ⟨0, 9, 12, 13⟩, [⟨0, 9, 15, 29⟩], rfl, rfl, fun z hz => absurd hz List.not_mem_nil, rfl, (show 13 ≠ 0 by decide), by decide, cl_L13, ca_x0⟩
    ·
      by_cases h1 : e9 = 1
      · subst h1; exact ⟨[⟨0, 9, 12, 13⟩], ⟨0, 9, 15, 29⟩, [], rfl, rfl, fun z hz => by rcases List.mem_cons.mp hz with rfl | hz; exact ⟨(show 13 ≠ 0 by decide), 0, by decide, by decide, cl_L13⟩; exact absurd hz List.not_mem_nil, rfl, (show 29 ≠ 0 by decide), by decide, cl_L29, ca_x1⟩
      · unfold kAS at h; rw [if_neg h0, if_neg h1] at h; cases h
  · intro v m1
    unfold hO
    refine x_i2l dL_search_7 ?_
    refine x_last rfl (Or.inl rfl) dL_search_8 (fun _ => ?_)
    refine x_goto (tgt := 18) dL_search_9 rfl ?_
    refine x_iconst (v := 0) dL_search_18 rfl ?_
    exact x_iret rfl rfl ⟨(Nat.le_of_ble_eq_true rfl), (Nat.le_of_ble_eq_true rfl)⟩ dL_search_19
  · intro e9 m1 q9
    by_cases h0 : e9 = 0
    · subst h0; show Sx ω true 111 3 18 kk_L_search fI _ _ m1 12 _ _ (some ((1 : Int32), m1)); refine x_astore_n dL_search_12 (Nat.le_of_ble_eq_true rfl) rfl ?_; refine x_iconst (v := 1) dL_search_13 rfl ?_; exact x_iret rfl rfl ⟨(Nat.le_of_ble_eq_true rfl), (Nat.le_of_ble_eq_true rfl)⟩ dL_search_14
    ·
      by_cases h1 : e9 = 1
      · subst h1; show Sx ω true 111 3 18 kk_L_search fI _ _ m1 15 _ _ (some ((2 : Int32), m1)); refine x_astore_n dL_search_15 (Nat.le_of_ble_eq_true rfl) rfl ?_; refine x_iconst (v := 2) dL_search_16 rfl ?_; exact x_iret rfl rfl ⟨(Nat.le_of_ble_eq_true rfl), (Nat.le_of_ble_eq_true rfl)⟩ dL_search_17
      · rw [show kAS e9 m1 = none from by unfold kAS; rw [if_neg h0, if_neg h1]]; exact x_none
theorem mv_RL_82 : zMv RL 82 10 yX11_goOn cX11_goOn 2 (some .int) 1 := ⟨zG_in 1255 (by decide +kernel) (by decide +kernel), zG_in 1256 (by decide +kernel) (by decide +kernel), zG_in 1257 (by decide +kernel) (by decide +kernel), zG_in 87 (by decide +kernel) (by decide +kernel), zG_in 1258 (by decide +kernel) (by decide +kernel), ⟨by decide +kernel, by decide +kernel⟩, by decide +kernel, ⟨_, _, rfl⟩⟩
abbrev kk_L_goOn : Kx := (RL, cL_goOn, 4, some .int, [(0, 9, 12, 13), (0, 9, 15, 29)], false)
theorem c_L_goOn (ω : Wd) (p1 : Int32) (m : Mm) : EvW ω true 9 1 6 yL_goOn cL_goOn 4 (some .int) [(0, 9, 12, 13), (0, 9, 15, 29)] [.ref (zad ω 16), .int p1, .ref (zad ω 229)] m fI (hB hO kAS (f_Loo_goOn p1 m)) := by
  refine EvW.of (ls := [some (.ref (zad ω 16)), some (.int p1), some (.ref (zad ω 229)), none]) (by decide +kernel) rfl (Nat.le_of_ble_eq_true rfl) rfl ?_
  change Sx ω true 9 1 6 kk_L_goOn fI 0 0 m 0 _ _ _
  refine x_aload_n dL_goOn_0 rfl ?_
  refine x_iconst (v := 0) dL_goOn_1 rfl ?_
  refine x_aload_n dL_goOn_2 rfl ?_
  refine x_iload_n dL_goOn_3 rfl ?_
  refine x_callVE (hp := fun e => if e = 0 then 12 else if e = 1 then 15 else 0) (As := [.int p1]) (rest := [.int 0, .ref (zad ω 229)]) (c_Loo_goOn ω p1 m) mv_RL_82 rfl (Or.inl rfl) rfl (Nat.le_of_ble_eq_true rfl) (Nat.le_of_ble_eq_true rfl) (Nat.le_of_ble_eq_true rfl) ⟨(Nat.le_of_ble_eq_true rfl), (Nat.le_of_ble_eq_true rfl)⟩ dL_goOn_4 ?_ ?_ ?_
  · intro e9 m9 r h
    by_cases h0 : e9 = 0
    · subst h0; exact ⟨[], ⟨0, 9, 12, 13⟩, [⟨0, 9, 15, 29⟩], rfl, rfl, fun z hz => absurd hz List.not_mem_nil, rfl, (show 13 ≠ 0 by decide), by decide, cl_L13, ca_x0⟩
    ·
      by_cases h1 : e9 = 1
      · subst h1; exact ⟨[⟨0, 9, 12, 13⟩], ⟨0, 9, 15, 29⟩, [], rfl, rfl, fun z hz => by rcases List.mem_cons.mp hz with rfl | hz; exact ⟨(show 13 ≠ 0 by decide), 0, by decide, by decide, cl_L13⟩; exact absurd hz List.not_mem_nil, rfl, (show 29 ≠ 0 by decide), by decide, cl_L29, ca_x1⟩
      · unfold kAS at h; rw [if_neg h0, if_neg h1] at h; cases h
  · intro v m1
    unfold hO
    refine x_i2l dL_goOn_7 ?_
    refine x_last rfl (Or.inl rfl) dL_goOn_8 (fun _ => ?_)
    refine x_goto (tgt := 18) dL_goOn_9 rfl ?_
    refine x_iconst (v := 0) dL_goOn_18 rfl ?_
    exact x_iret rfl rfl ⟨(Nat.le_of_ble_eq_true rfl), (Nat.le_of_ble_eq_true rfl)⟩ dL_goOn_19
  · intro e9 m1 q9
    by_cases h0 : e9 = 0
    · subst h0; show Sx ω true 9 1 6 kk_L_goOn fI _ _ m1 12 _ _ (some ((1 : Int32), m1)); refine x_astore_n dL_goOn_12 (Nat.le_of_ble_eq_true rfl) rfl ?_; refine x_iconst (v := 1) dL_goOn_13 rfl ?_; exact x_iret rfl rfl ⟨(Nat.le_of_ble_eq_true rfl), (Nat.le_of_ble_eq_true rfl)⟩ dL_goOn_14
    ·
      by_cases h1 : e9 = 1
      · subst h1; show Sx ω true 9 1 6 kk_L_goOn fI _ _ m1 15 _ _ (some ((2 : Int32), m1)); refine x_astore_n dL_goOn_15 (Nat.le_of_ble_eq_true rfl) rfl ?_; refine x_iconst (v := 2) dL_goOn_16 rfl ?_; exact x_iret rfl rfl ⟨(Nat.le_of_ble_eq_true rfl), (Nat.le_of_ble_eq_true rfl)⟩ dL_goOn_17
      · rw [show kAS e9 m1 = none from by unfold kAS; rw [if_neg h0, if_neg h1]]; exact x_none
theorem mv_RL_85 : zMv RL 85 10 yX11_bells cX11_bells 3 (some .int) 2 := ⟨zG_in 1291 (by decide +kernel) (by decide +kernel), zG_in 1292 (by decide +kernel) (by decide +kernel), zG_in 1293 (by decide +kernel) (by decide +kernel), zG_in 87 (by decide +kernel) (by decide +kernel), zG_in 1294 (by decide +kernel) (by decide +kernel), ⟨by decide +kernel, by decide +kernel⟩, by decide +kernel, ⟨_, _, rfl⟩⟩
abbrev kk_L_bells : Kx := (RL, cL_bells, 5, some .int, [(0, 10, 13, 38), (0, 10, 17, 13)], false)
theorem c_L_bells (ω : Wd) (p1 : Int32) (p2 : Int32) (m : Mm) : EvW ω true 10 2 12 yL_bells cL_bells 5 (some .int) [(0, 10, 13, 38), (0, 10, 17, 13)] [.ref (zad ω 16), .int p1, .int p2, .ref (zad ω 229)] m fI (hB hO kIA (f_Loo_bells p1 p2 m)) := by
  refine EvW.of (ls := [some (.ref (zad ω 16)), some (.int p1), some (.int p2), some (.ref (zad ω 229)), none]) (by decide +kernel) rfl (Nat.le_of_ble_eq_true rfl) rfl ?_
  change Sx ω true 10 2 12 kk_L_bells fI 0 0 m 0 _ _ _
  refine x_aload_n dL_bells_0 rfl ?_
  refine x_iconst (v := 0) dL_bells_1 rfl ?_
  refine x_aload_n dL_bells_2 rfl ?_
  refine x_iload_n dL_bells_3 rfl ?_
  refine x_iload_n dL_bells_4 rfl ?_
  refine x_callVE (hp := fun e => if e = 2 then 13 else if e = 0 then 17 else 0) (As := [.int p1, .int p2]) (rest := [.int 0, .ref (zad ω 229)]) (c_Loo_bells ω p1 p2 m) mv_RL_85 rfl (Or.inl rfl) rfl (Nat.le_of_ble_eq_true rfl) (Nat.le_of_ble_eq_true rfl) (Nat.le_of_ble_eq_true rfl) ⟨(Nat.le_of_ble_eq_true rfl), (Nat.le_of_ble_eq_true rfl)⟩ dL_bells_5 ?_ ?_ ?_
  · intro e9 m9 r h
    by_cases h2 : e9 = 2
    · subst h2; exact ⟨[], ⟨0, 10, 13, 38⟩, [⟨0, 10, 17, 13⟩], rfl, rfl, fun z hz => absurd hz List.not_mem_nil, rfl, (show 38 ≠ 0 by decide), by decide, cl_L38, ca_x2⟩
    ·
      by_cases h0 : e9 = 0
      · subst h0; exact ⟨[⟨0, 10, 13, 38⟩], ⟨0, 10, 17, 13⟩, [], rfl, rfl, fun z hz => by rcases List.mem_cons.mp hz with rfl | hz; exact ⟨(show 38 ≠ 0 by decide), 2, by decide, by decide, cl_L38⟩; exact absurd hz List.not_mem_nil, rfl, (show 13 ≠ 0 by decide), by decide, cl_L13, ca_x0⟩
      · unfold kIA at h; rw [if_neg h2, if_neg h0] at h; cases h
  · intro v m1
    unfold hO
    refine x_i2l dL_bells_8 ?_
    refine x_last rfl (Or.inl rfl) dL_bells_9 (fun _ => ?_)
    refine x_goto (tgt := 21) dL_bells_10 rfl ?_
    refine x_iconst (v := 0) dL_bells_21 rfl ?_
    exact x_iret rfl rfl ⟨(Nat.le_of_ble_eq_true rfl), (Nat.le_of_ble_eq_true rfl)⟩ dL_bells_22
  · intro e9 m1 q9
    by_cases h2 : e9 = 2
    · subst h2; show Sx ω true 10 2 12 kk_L_bells fI _ _ m1 13 _ _ (some ((1 : Int32), m1)); refine x_astore dL_bells_13 (Nat.le_of_ble_eq_true rfl) rfl ?_; refine x_iconst (v := 1) dL_bells_15 rfl ?_; exact x_iret rfl rfl ⟨(Nat.le_of_ble_eq_true rfl), (Nat.le_of_ble_eq_true rfl)⟩ dL_bells_16
    ·
      by_cases h0 : e9 = 0
      · subst h0; show Sx ω true 10 2 12 kk_L_bells fI _ _ m1 17 _ _ (some ((2 : Int32), m1)); refine x_astore dL_bells_17 (Nat.le_of_ble_eq_true rfl) rfl ?_; refine x_iconst (v := 2) dL_bells_19 rfl ?_; exact x_iret rfl rfl ⟨(Nat.le_of_ble_eq_true rfl), (Nat.le_of_ble_eq_true rfl)⟩ dL_bells_20
      · rw [show kIA e9 m1 = none from by unfold kIA; rw [if_neg h2, if_neg h0]]; exact x_none
theorem mv_RL_88 : zMv RL 88 10 yX11_ringer cX11_ringer 4 (some .int) 2 := ⟨zG_in 1307 (by decide +kernel) (by decide +kernel), zG_in 1308 (by decide +kernel) (by decide +kernel), zG_in 1309 (by decide +kernel) (by decide +kernel), zG_in 87 (by decide +kernel) (by decide +kernel), zG_in 1310 (by decide +kernel) (by decide +kernel), ⟨by decide +kernel, by decide +kernel⟩, by decide +kernel, ⟨_, _, rfl⟩⟩
abbrev kk_L_ringer : Kx := (RL, cL_ringer, 5, some .int, [(0, 10, 13, 38), (0, 10, 17, 13), (0, 10, 21, 29)], false)
theorem c_L_ringer (ω : Wd) (p1 : Int32) (p2 : Int32) (m : Mm) : EvW ω true 10 2 12 yL_ringer cL_ringer 5 (some .int) [(0, 10, 13, 38), (0, 10, 17, 13), (0, 10, 21, 29)] [.ref (zad ω 16), .int p1, .int p2, .ref (zad ω 229)] m fI (hB hO kIAS (f_Loo_ringer p1 p2 m)) := by
  refine EvW.of (ls := [some (.ref (zad ω 16)), some (.int p1), some (.int p2), some (.ref (zad ω 229)), none]) (by decide +kernel) rfl (Nat.le_of_ble_eq_true rfl) rfl ?_
  change Sx ω true 10 2 12 kk_L_ringer fI 0 0 m 0 _ _ _
  refine x_aload_n dL_ringer_0 rfl ?_
  refine x_iconst (v := 0) dL_ringer_1 rfl ?_
  refine x_aload_n dL_ringer_2 rfl ?_
  refine x_iload_n dL_ringer_3 rfl ?_
  refine x_iload_n dL_ringer_4 rfl ?_
  refine x_callVE (hp := fun e => if e = 2 then 13 else if e = 0 then 17 else if e = 1 then 21 else 0) (As := [.int p1, .int p2]) (rest := [.int 0, .ref (zad ω 229)]) (c_Loo_ringer ω p1 p2 m) mv_RL_88 rfl (Or.inl rfl) rfl (Nat.le_of_ble_eq_true rfl) (Nat.le_of_ble_eq_true rfl) (Nat.le_of_ble_eq_true rfl) ⟨(Nat.le_of_ble_eq_true rfl), (Nat.le_of_ble_eq_true rfl)⟩ dL_ringer_5 ?_ ?_ ?_
  · intro e9 m9 r h
    by_cases h2 : e9 = 2
    · subst h2; exact ⟨[], ⟨0, 10, 13, 38⟩, [⟨0, 10, 17, 13⟩, ⟨0, 10, 21, 29⟩], rfl, rfl, fun z hz => absurd hz List.not_mem_nil, rfl, (show 38 ≠ 0 by decide), by decide, cl_L38, ca_x2⟩
    ·
      by_cases h0 : e9 = 0
      · subst h0; exact ⟨[⟨0, 10, 13, 38⟩], ⟨0, 10, 17, 13⟩, [⟨0, 10, 21, 29⟩], rfl, rfl, fun z hz => by rcases List.mem_cons.mp hz with rfl | hz; exact ⟨(show 38 ≠ 0 by decide), 2, by decide, by decide, cl_L38⟩; exact absurd hz List.not_mem_nil, rfl, (show 13 ≠ 0 by decide), by decide, cl_L13, ca_x0⟩
      ·
        by_cases h1 : e9 = 1
        · subst h1; exact ⟨[⟨0, 10, 13, 38⟩, ⟨0, 10, 17, 13⟩], ⟨0, 10, 21, 29⟩, [], rfl, rfl, fun z hz => by rcases List.mem_cons.mp hz with rfl | hz; exact ⟨(show 38 ≠ 0 by decide), 2, by decide, by decide, cl_L38⟩; rcases List.mem_cons.mp hz with rfl | hz; exact ⟨(show 13 ≠ 0 by decide), 0, by decide, by decide, cl_L13⟩; exact absurd hz List.not_mem_nil, rfl, (show 29 ≠ 0 by decide), by decide, cl_L29, ca_x1⟩
        · unfold kIAS at h; rw [if_neg h2, if_neg h0, if_neg h1] at h; cases h
  · intro v m1
    unfold hO
    refine x_i2l dL_ringer_8 ?_
    refine x_last rfl (Or.inl rfl) dL_ringer_9 (fun _ => ?_)
    refine x_goto (tgt := 25) dL_ringer_10 rfl ?_
    refine x_iconst (v := 0) dL_ringer_25 rfl ?_
    exact x_iret rfl rfl ⟨(Nat.le_of_ble_eq_true rfl), (Nat.le_of_ble_eq_true rfl)⟩ dL_ringer_26
  · intro e9 m1 q9
    by_cases h2 : e9 = 2
    · subst h2; show Sx ω true 10 2 12 kk_L_ringer fI _ _ m1 13 _ _ (some ((1 : Int32), m1)); refine x_astore dL_ringer_13 (Nat.le_of_ble_eq_true rfl) rfl ?_; refine x_iconst (v := 1) dL_ringer_15 rfl ?_; exact x_iret rfl rfl ⟨(Nat.le_of_ble_eq_true rfl), (Nat.le_of_ble_eq_true rfl)⟩ dL_ringer_16
    ·
      by_cases h0 : e9 = 0
      · subst h0; show Sx ω true 10 2 12 kk_L_ringer fI _ _ m1 17 _ _ (some ((2 : Int32), m1)); refine x_astore dL_ringer_17 (Nat.le_of_ble_eq_true rfl) rfl ?_; refine x_iconst (v := 2) dL_ringer_19 rfl ?_; exact x_iret rfl rfl ⟨(Nat.le_of_ble_eq_true rfl), (Nat.le_of_ble_eq_true rfl)⟩ dL_ringer_20
      ·
        by_cases h1 : e9 = 1
        · subst h1; show Sx ω true 10 2 12 kk_L_ringer fI _ _ m1 21 _ _ (some ((3 : Int32), m1)); refine x_astore dL_ringer_21 (Nat.le_of_ble_eq_true rfl) rfl ?_; refine x_iconst (v := 3) dL_ringer_23 rfl ?_; exact x_iret rfl rfl ⟨(Nat.le_of_ble_eq_true rfl), (Nat.le_of_ble_eq_true rfl)⟩ dL_ringer_24
        · rw [show kIAS e9 m1 = none from by unfold kIAS; rw [if_neg h2, if_neg h0, if_neg h1]]; exact x_none
theorem mv_RL_91 : zMv RL 91 10 yX11_rings cX11_rings 5 (some .int) 4 := ⟨zG_in 1320 (by decide +kernel) (by decide +kernel), zG_in 1321 (by decide +kernel) (by decide +kernel), zG_in 1322 (by decide +kernel) (by decide +kernel), zG_in 87 (by decide +kernel) (by decide +kernel), zG_in 1323 (by decide +kernel) (by decide +kernel), ⟨by decide +kernel, by decide +kernel⟩, by decide +kernel, ⟨_, _, rfl⟩⟩
abbrev kk_L_rings : Kx := (RL, cL_rings, 7, some .int, [(0, 14, 17, 38), (0, 14, 21, 13)], false)
theorem c_L_rings (ω : Wd) (p1 : Int32) (p2 : Int32) (p3 : Int32) (p4 : Int32) (m : Mm) : EvW ω true 10 4 24 yL_rings cL_rings 7 (some .int) [(0, 14, 17, 38), (0, 14, 21, 13)] [.ref (zad ω 16), .int p1, .int p2, .int p3, .int p4, .ref (zad ω 229)] m fI (hB hO kIA (f_Loo_rings p1 p2 p3 p4 m)) := by
  refine EvW.of (ls := [some (.ref (zad ω 16)), some (.int p1), some (.int p2), some (.int p3), some (.int p4), some (.ref (zad ω 229)), none]) (by decide +kernel) rfl (Nat.le_of_ble_eq_true rfl) rfl ?_
  change Sx ω true 10 4 24 kk_L_rings fI 0 0 m 0 _ _ _
  refine x_aload dL_rings_0 rfl ?_
  refine x_iconst (v := 0) dL_rings_2 rfl ?_
  refine x_aload_n dL_rings_3 rfl ?_
  refine x_iload_n dL_rings_4 rfl ?_
  refine x_iload_n dL_rings_5 rfl ?_
  refine x_iload_n dL_rings_6 rfl ?_
  refine x_iload dL_rings_7 rfl ?_
  refine x_callVE (hp := fun e => if e = 2 then 17 else if e = 0 then 21 else 0) (As := [.int p1, .int p2, .int p3, .int p4]) (rest := [.int 0, .ref (zad ω 229)]) (c_Loo_rings ω p1 p2 p3 p4 m) mv_RL_91 rfl (Or.inl rfl) rfl (Nat.le_of_ble_eq_true rfl) (Nat.le_of_ble_eq_true rfl) (Nat.le_of_ble_eq_true rfl) ⟨(Nat.le_of_ble_eq_true rfl), (Nat.le_of_ble_eq_true rfl)⟩ dL_rings_9 ?_ ?_ ?_
  · intro e9 m9 r h
    by_cases h2 : e9 = 2
    · subst h2; exact ⟨[], ⟨0, 14, 17, 38⟩, [⟨0, 14, 21, 13⟩], rfl, rfl, fun z hz => absurd hz List.not_mem_nil, rfl, (show 38 ≠ 0 by decide), by decide, cl_L38, ca_x2⟩
    ·
      by_cases h0 : e9 = 0
      · subst h0; exact ⟨[⟨0, 14, 17, 38⟩], ⟨0, 14, 21, 13⟩, [], rfl, rfl, fun z hz => by rcases List.mem_cons.mp hz with rfl | hz; exact ⟨(show 38 ≠ 0 by decide), 2, by decide, by decide, cl_L38⟩; exact absurd hz List.not_mem_nil, rfl, (show 13 ≠ 0 by decide), by decide, cl_L13, ca_x0⟩
      · unfold kIA at h; rw [if_neg h2, if_neg h0] at h; cases h
  · intro v m1
    unfold hO
    refine x_i2l dL_rings_12 ?_
    refine x_last rfl (Or.inl rfl) dL_rings_13 (fun _ => ?_)
    refine x_goto (tgt := 25) dL_rings_14 rfl ?_
    refine x_iconst (v := 0) dL_rings_25 rfl ?_
    exact x_iret rfl rfl ⟨(Nat.le_of_ble_eq_true rfl), (Nat.le_of_ble_eq_true rfl)⟩ dL_rings_26
  · intro e9 m1 q9
    by_cases h2 : e9 = 2
    · subst h2; show Sx ω true 10 4 24 kk_L_rings fI _ _ m1 17 _ _ (some ((1 : Int32), m1)); refine x_astore dL_rings_17 (Nat.le_of_ble_eq_true rfl) rfl ?_; refine x_iconst (v := 1) dL_rings_19 rfl ?_; exact x_iret rfl rfl ⟨(Nat.le_of_ble_eq_true rfl), (Nat.le_of_ble_eq_true rfl)⟩ dL_rings_20
    ·
      by_cases h0 : e9 = 0
      · subst h0; show Sx ω true 10 4 24 kk_L_rings fI _ _ m1 21 _ _ (some ((2 : Int32), m1)); refine x_astore dL_rings_21 (Nat.le_of_ble_eq_true rfl) rfl ?_; refine x_iconst (v := 2) dL_rings_23 rfl ?_; exact x_iret rfl rfl ⟨(Nat.le_of_ble_eq_true rfl), (Nat.le_of_ble_eq_true rfl)⟩ dL_rings_24
      · rw [show kIA e9 m1 = none from by unfold kIA; rw [if_neg h2, if_neg h0]]; exact x_none
theorem mv_RL_95 : zMv RL 95 10 yX11_silent cX11_silent 2 (some .int) 1 := ⟨zG_in 1362 (by decide +kernel) (by decide +kernel), zG_in 1363 (by decide +kernel) (by decide +kernel), zG_in 1364 (by decide +kernel) (by decide +kernel), zG_in 87 (by decide +kernel) (by decide +kernel), zG_in 1365 (by decide +kernel) (by decide +kernel), ⟨by decide +kernel, by decide +kernel⟩, by decide +kernel, ⟨_, _, rfl⟩⟩
abbrev kk_L_silent : Kx := (RL, cL_silent, 4, some .int, [(0, 9, 12, 13)], false)
theorem c_L_silent (ω : Wd) (p1 : Int32) (m : Mm) : EvW ω true 10 1 6 yL_silent cL_silent 4 (some .int) [(0, 9, 12, 13)] [.ref (zad ω 16), .int p1, .ref (zad ω 229)] m fI (hB hO kA (f_Loo_silent p1 m)) := by
  refine EvW.of (ls := [some (.ref (zad ω 16)), some (.int p1), some (.ref (zad ω 229)), none]) (by decide +kernel) rfl (Nat.le_of_ble_eq_true rfl) rfl ?_
  change Sx ω true 10 1 6 kk_L_silent fI 0 0 m 0 _ _ _
  refine x_aload_n dL_silent_0 rfl ?_
  refine x_iconst (v := 0) dL_silent_1 rfl ?_
  refine x_aload_n dL_silent_2 rfl ?_
  refine x_iload_n dL_silent_3 rfl ?_
  refine x_callVE (hp := fun e => if e = 0 then 12 else 0) (As := [.int p1]) (rest := [.int 0, .ref (zad ω 229)]) (c_Loo_silent ω p1 m) mv_RL_95 rfl (Or.inl rfl) rfl (Nat.le_of_ble_eq_true rfl) (Nat.le_of_ble_eq_true rfl) (Nat.le_of_ble_eq_true rfl) ⟨(Nat.le_of_ble_eq_true rfl), (Nat.le_of_ble_eq_true rfl)⟩ dL_silent_4 ?_ ?_ ?_
  · intro e9 m9 r h
    by_cases h0 : e9 = 0
    · subst h0; exact ⟨[], ⟨0, 9, 12, 13⟩, [], rfl, rfl, fun z hz => absurd hz List.not_mem_nil, rfl, (show 13 ≠ 0 by decide), by decide, cl_L13, ca_x0⟩
    · unfold kA at h; rw [if_neg h0] at h; cases h
  · intro v m1
    unfold hO
    refine x_i2l dL_silent_7 ?_
    refine x_last rfl (Or.inl rfl) dL_silent_8 (fun _ => ?_)
    refine x_goto (tgt := 15) dL_silent_9 rfl ?_
    refine x_iconst (v := 0) dL_silent_15 rfl ?_
    exact x_iret rfl rfl ⟨(Nat.le_of_ble_eq_true rfl), (Nat.le_of_ble_eq_true rfl)⟩ dL_silent_16
  · intro e9 m1 q9
    by_cases h0 : e9 = 0
    · subst h0; show Sx ω true 10 1 6 kk_L_silent fI _ _ m1 12 _ _ (some ((1 : Int32), m1)); refine x_astore_n dL_silent_12 (Nat.le_of_ble_eq_true rfl) rfl ?_; refine x_iconst (v := 1) dL_silent_13 rfl ?_; exact x_iret rfl rfl ⟨(Nat.le_of_ble_eq_true rfl), (Nat.le_of_ble_eq_true rfl)⟩ dL_silent_14
    · rw [show kA e9 m1 = none from by unfold kA; rw [if_neg h0]]; exact x_none
theorem mv_RL_98 : zMv RL 98 10 yX11_peals cX11_peals 3 (some .int) 2 := ⟨zG_in 1373 (by decide +kernel) (by decide +kernel), zG_in 1374 (by decide +kernel) (by decide +kernel), zG_in 1375 (by decide +kernel) (by decide +kernel), zG_in 87 (by decide +kernel) (by decide +kernel), zG_in 1376 (by decide +kernel) (by decide +kernel), ⟨by decide +kernel, by decide +kernel⟩, by decide +kernel, ⟨_, _, rfl⟩⟩
abbrev kk_L_peals : Kx := (RL, cL_peals, 5, some .int, [(0, 10, 13, 38), (0, 10, 17, 13)], false)
theorem c_L_peals (ω : Wd) (p1 : Int32) (p2 : Int32) (m : Mm) : EvW ω true 10 2 12 yL_peals cL_peals 5 (some .int) [(0, 10, 13, 38), (0, 10, 17, 13)] [.ref (zad ω 16), .int p1, .int p2, .ref (zad ω 229)] m fI (hB hO kIA (f_Loo_peals p1 p2 m)) := by
  refine EvW.of (ls := [some (.ref (zad ω 16)), some (.int p1), some (.int p2), some (.ref (zad ω 229)), none]) (by decide +kernel) rfl (Nat.le_of_ble_eq_true rfl) rfl ?_
  change Sx ω true 10 2 12 kk_L_peals fI 0 0 m 0 _ _ _
  refine x_aload_n dL_peals_0 rfl ?_
  refine x_iconst (v := 0) dL_peals_1 rfl ?_
  refine x_aload_n dL_peals_2 rfl ?_
  refine x_iload_n dL_peals_3 rfl ?_
  refine x_iload_n dL_peals_4 rfl ?_
  refine x_callVE (hp := fun e => if e = 2 then 13 else if e = 0 then 17 else 0) (As := [.int p1, .int p2]) (rest := [.int 0, .ref (zad ω 229)]) (c_Loo_peals ω p1 p2 m) mv_RL_98 rfl (Or.inl rfl) rfl (Nat.le_of_ble_eq_true rfl) (Nat.le_of_ble_eq_true rfl) (Nat.le_of_ble_eq_true rfl) ⟨(Nat.le_of_ble_eq_true rfl), (Nat.le_of_ble_eq_true rfl)⟩ dL_peals_5 ?_ ?_ ?_
  · intro e9 m9 r h
    by_cases h2 : e9 = 2
    · subst h2; exact ⟨[], ⟨0, 10, 13, 38⟩, [⟨0, 10, 17, 13⟩], rfl, rfl, fun z hz => absurd hz List.not_mem_nil, rfl, (show 38 ≠ 0 by decide), by decide, cl_L38, ca_x2⟩
    ·
      by_cases h0 : e9 = 0
      · subst h0; exact ⟨[⟨0, 10, 13, 38⟩], ⟨0, 10, 17, 13⟩, [], rfl, rfl, fun z hz => by rcases List.mem_cons.mp hz with rfl | hz; exact ⟨(show 38 ≠ 0 by decide), 2, by decide, by decide, cl_L38⟩; exact absurd hz List.not_mem_nil, rfl, (show 13 ≠ 0 by decide), by decide, cl_L13, ca_x0⟩
      · unfold kIA at h; rw [if_neg h2, if_neg h0] at h; cases h
  · intro v m1
    unfold hO
    refine x_i2l dL_peals_8 ?_
    refine x_last rfl (Or.inl rfl) dL_peals_9 (fun _ => ?_)
    refine x_goto (tgt := 21) dL_peals_10 rfl ?_
    refine x_iconst (v := 0) dL_peals_21 rfl ?_
    exact x_iret rfl rfl ⟨(Nat.le_of_ble_eq_true rfl), (Nat.le_of_ble_eq_true rfl)⟩ dL_peals_22
  · intro e9 m1 q9
    by_cases h2 : e9 = 2
    · subst h2; show Sx ω true 10 2 12 kk_L_peals fI _ _ m1 13 _ _ (some ((1 : Int32), m1)); refine x_astore dL_peals_13 (Nat.le_of_ble_eq_true rfl) rfl ?_; refine x_iconst (v := 1) dL_peals_15 rfl ?_; exact x_iret rfl rfl ⟨(Nat.le_of_ble_eq_true rfl), (Nat.le_of_ble_eq_true rfl)⟩ dL_peals_16
    ·
      by_cases h0 : e9 = 0
      · subst h0; show Sx ω true 10 2 12 kk_L_peals fI _ _ m1 17 _ _ (some ((2 : Int32), m1)); refine x_astore dL_peals_17 (Nat.le_of_ble_eq_true rfl) rfl ?_; refine x_iconst (v := 2) dL_peals_19 rfl ?_; exact x_iret rfl rfl ⟨(Nat.le_of_ble_eq_true rfl), (Nat.le_of_ble_eq_true rfl)⟩ dL_peals_20
      · rw [show kIA e9 m1 = none from by unfold kIA; rw [if_neg h2, if_neg h0]]; exact x_none
