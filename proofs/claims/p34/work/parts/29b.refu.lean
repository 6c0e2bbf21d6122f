def EvW (ω : Wd) (ph : Bool) (D mc ms : Nat) (y : MethodName) (cc : ByteArray) (nL : Nat) (ret : Option FieldType) (hh : List (Nat × Nat × Nat × Nat)) (av : List Value) (m : Mm) {α : Type} (φ : α → Zo) (t : Option α) : Prop :=
  ∀ r, t = some r → ∀ l : Launch, l.stackTraces = false → vx_Met l y (Cond.codeWith y cc nL ret hh :: zG) (zRm D mc ms) (zPc ω ph m av) (zQc ω ph (φ r)) (zXc ω ph (φ r)) mc ms (zA ω)
section LWR
variable {ω0 ω : Wd} {ph : Bool} {D mc ms : Nat} {κ : Kx} {α : Type} {φ : α → Zo} {c0 s0 : Nat} {m : Mm} {pc : Nat} {ls : List (Option Value)} {st rest As : List Value} {t : Option α}
variable {D' mc' ms' nL' idx : Nat} {y : MethodName} {cc' : ByteArray} {ret' : Option FieldType}
theorem EvW.of {cc : ByteArray} {nL : Nat} {ret : Option FieldType} {hh : List (Nat × Nat × Nat × Nat)} {av : List Value} (hy : plainName y.cls = true) (hav0 : av.all (fun v => v.category == 1) = true) (hlen : av.length ≤ nL) (hls : av.map some ++ List.replicate (nL - av.length) none = ls)
    (k : Sx ω ω ph D mc ms (y.cls, cc, nL, ret, hh, false) φ 0 0 m 0 ls [] t) : EvW ω ph D mc ms y cc nL ret hh av m φ t := by
  subst hls
  have hav : ∀ v ∈ av, v.category = 1 := fun v hv => by simpa using List.all_eq_true.mp hav0 v hv
  intro r hr l hl
  refine vx_ofWH hy rfl ?_
  intro p e s mid args below meth c s₁ B hml hP
  obtain ⟨rfl, hH, hC⟩ := hP
  rw [entry_eq mid av hav nL]
  have hts := atoms_spec (ws := Cond.codeWith y cc nL ret hh :: zG) B.pre
  have htab : c.exceptionTable.toList = tableOf hh := vx_table (x := y) B (hts _ List.mem_cons_self)
  exact k r hr p l e s mid _ below meth c s.heap [] _ ⟨B.exec, B.bytes, B.returns, hml, findClass_of_methodNamed B.named, fun w hw => hts w (List.mem_cons_of_mem _ hw), B.notSynchronized, hl, hC, htab, fun hb => by cases hb⟩ (zEntry hav hlen) hH va_S.rf
/-- a row of the handlers takes exception e9 at pc, and leads to hp -/
def zCt (κ : Kx) (pc e9 hp : Nat) : Prop := ∃ (pre : List ExceptionTableEntry) (x : ExceptionTableEntry) (suf : List ExceptionTableEntry), tableOf κ.2.2.2.2.1 = pre ++ x :: suf ∧ x.handlerPc = hp ∧ (∀ z ∈ pre, z.catchType ≠ 0 ∧ ∃ e', e' < 3 ∧ e' ≠ e9 ∧ Cond.classLink κ.1 z.catchType (zEx e') ∈ zG) ∧ covers x pc = true ∧ x.catchType ≠ 0 ∧ e9 < 3 ∧ Cond.classLink κ.1 x.catchType (zEx e9) ∈ zG ∧ Cond.castable (zEx e9) (zEx e9) ∈ zG
theorem x_callVE {a ci : Nat} {f : Option ((Int32 ⊕ Nat) × Mm)} {K : Int32 → Mm → Option α} {KX : Nat → Mm → Option α} {hp : Nat → Nat} (hE : Ev ω ph D' mc' ms' y cc' nL' ret' (.ref (zad ω a) :: As) m fXI f) (hM : zMv κ.1 idx ci y cc' nL' ret' As.length) (hT : zT a = ci + 1) (hi : ph = true ∨ a < zN m) (hst : st = As.reverse ++ .ref (zad ω a) :: rest) (hw : (rest.map fun v => v.category).sum ≤ 8) (hD : D' + 1 ≤ D) (hL : nL' ≤ 21) (hcs : c0 + mc' ≤ mc ∧ s0 + ms' ≤ ms) (d : decode κ.2.1 pc = .ok (.invokevirtual idx, 3))
    (hx : ∀ e9 m9 r, KX e9 m9 = some r → zCt κ pc e9 (hp e9))
    (k : ∀ v m', Sx ω0 ω ph D mc ms κ φ (c0 + mc') (s0 + ms') m' (pc + 3) ls (.int v :: rest) (K v m'))
    (kx : ∀ e9 m' q, Sx ω0 ω ph D mc ms κ φ (c0 + mc') (s0 + ms') m' (hp e9) ls [.ref q] (KX e9 m')) :
    Sx ω0 ω ph D mc ms κ φ c0 s0 m pc ls st (hB K KX f) := by
  intro r hr p l e s mid args below meth c H locs la C L hH hS
  obtain ⟨⟨r1, r2⟩, hf, hr⟩ := Option.bind_eq_some_iff.mp hr
  cases r1 with
  | inl u =>
    exact zW_cont (zW_runV C L hH hS hE hf hM hT hi hst hw hD hL hcs d) hS
      (fun v m' ho H' locs' hH' hS' => by cases ho; exact k u r2 r hr p l e s mid args below meth c H' locs' la C L hH' hS')
      (fun e9 m' ho => by cases ho)
  | inr e0 =>
    refine zW_cont (zW_runV C L hH hS hE hf hM hT hi hst hw hD hL hcs d) hS (fun v m' ho => by cases ho) (fun e9 m' ho H' locs' q ce hH' hS' hce hcv hcl => ?_)
    cases ho
    obtain ⟨pre, x, suf, h1, h2, h3, h4, h5, h6, h7, h8⟩ := hx e0 r2 r hr
    have hts := C.2.2.2.2.2.1
    refine vx_catch C.2.2.2.2.1 pre x suf (C.2.2.2.2.2.2.2.2.2.1.trans h1) (fun z hz => ?_) h4 h5 (hts _ h7) (hts _ h8) hce hcv hcl ?_
    · obtain ⟨g1, e', g2, g3, g4⟩ := h3 z hz
      exact Or.inr ⟨g1, zEx e', hts _ g4, C.2.2.2.2.2.2.2.2.1.2.2.2.2.2.1.2 e0 e' h6 g2 (Ne.symm g3)⟩
    · rw [h2]
      exact kx e0 r2 q r hr p l e s mid args below meth c H' locs' la C L hH' hS'
end LWR
section LWS
variable {ω0 ω : Wd} {ph : Bool} {D mc ms : Nat} {κ : Kx} {α : Type} {φ : α → Zo} {c0 s0 : Nat} {m : Mm} {pc : Nat} {ls : List (Option Value)} {st rest As : List Value} {t : Option α}
variable {D' mc' ms' nL' idx : Nat} {y : MethodName} {cc' : ByteArray} {ret' : Option FieldType} {hh : List (Nat × Nat × Nat × Nat)}
def zMh (own : String) (idx : Nat) (y : MethodName) (cc : ByteArray) (nL : Nat) (ret : Option FieldType) (hh : List (Nat × Nat × Nat × Nat)) (n : Nat) : Prop :=
  Cond.methodLink own idx y ∈ zG ∧ Cond.static y ∈ zG ∧ Cond.initialized y.cls ∈ zG ∧ Cond.codeWith y cc nL ret hh ∈ zG ∧ (y.cls ≠ "java/lang/invoke/MethodHandle" ∧ y.cls ≠ "java/lang/invoke/VarHandle") ∧ (parseMethodDescriptor y.desc).map (fun d => d.parameters.length) = some n
theorem x_callSH {f : Option (Int32 × Mm)} {K : Int32 → Mm → Option α} (hE : EvW ω ph D' mc' ms' y cc' nL' ret' hh As m fI f) (hM : zMh κ.1 idx y cc' nL' ret' hh As.length) (hst : st = As.reverse ++ rest) (hw : (rest.map fun v => v.category).sum ≤ 8) (hD : D' + 1 ≤ D) (hL : nL' ≤ 21) (hcs : c0 + mc' ≤ mc ∧ s0 + ms' ≤ ms) (d : decode κ.2.1 pc = .ok (.invokestatic idx, 3)) (k : ∀ v m', Sx ω0 ω ph D mc ms κ φ (c0 + mc') (s0 + ms') m' (pc + 3) ls (.int v :: rest) (K v m')) : Sx ω0 ω ph D mc ms κ φ c0 s0 m pc ls st (zBI f K) := by
  intro r hr p l e s mid args below meth c H locs la C L hH hS
  obtain ⟨⟨r1, r2⟩, hf, hr⟩ := Option.bind_eq_some_iff.mp hr
  have hts := C.2.2.2.2.2.1
  obtain ⟨h1, h2, h3, h4, h5, h6⟩ := hM
  have hwarm : ∀ w ∈ (Cond.codeWith y cc' nL' ret' hh :: zG), ∀ (a' : Array Value) (U : State), s.WarmedH U.vm → w.before a' U = true := by
    intro w hw a' U hW
    have hg : w ∈ zG := (List.mem_cons.mp hw).elim (fun e => e ▸ h4) id
    exact zst_warm (List.mem_filter.mp hg).2 hW (hts w hg)
  have hsig : ∀ sig, parseMethodDescriptor y.desc = some sig → As.length = sig.parameters.length := fun sig h => by
    rw [h] at h6
    exact (Option.some.inj h6).symm
  have run : vx_Run p l e (zRm D mc ms) s mid args below meth c H locs c0 s0 mc' ms' (F0 mid pc la st) rest (zQc ω ph (fI (r1, r2)) As.toArray) (zXc ω ph (fI (r1, r2))) (zA ω) :=
    vx_runSX (n := As.length) (hh := hh) ⟨C.1, C.2.1, C.2.2.2.1, C.2.2.2.2.1, hts⟩ (hE _ hf l C.2.2.2.2.2.2.2.1)
      ⟨⟨rfl, rfl, hD, show 8 + (nL' + 11) + (40 * D' + 200) ≤ 40 * D + 200 by omega, hwarm, List.mem_cons_self⟩, hts _ h4, hts _ h3, h5, hsig, hts _ h1, hts _ h2⟩
      ⟨zPc_blind, fun U hU hW => ⟨rfl, (zWo_of hH C.2.2.2.2.2.2.2.2.1 hS hU hW).1⟩⟩ rfl rfl L.1 hst (lv_room hw) d hcs
  exact zW_cont run hS (fun v m' ho H' locs' hH' hS' => by cases ho; exact k r1 r2 r hr p l e s mid args below meth c H' locs' la C L hH' hS') (fun e9 m' ho => by cases ho)
theorem y_callSH {c1 s1 : Nat} {f : Option (Int32 × Mm)} {K : Int32 → Mm → Option α} (hE : EvW ω ph D' mc' ms' y cc' nL' ret' hh As m fI f) (hM : zMh κ.1 idx y cc' nL' ret' hh As.length) (hst : st = As.reverse ++ rest) (hw : (rest.map fun v => v.category).sum ≤ 8) (hD : D' + 1 ≤ D) (hL : nL' ≤ 21) (hc : c0 + mc' = c1 ∧ s0 + ms' = s1) (hcs : c1 ≤ mc ∧ s1 ≤ ms) (d : decode κ.2.1 pc = .ok (.invokestatic idx, 3)) (k : ∀ v m', Sx ω0 ω ph D mc ms κ φ c1 s1 m' (pc + 3) ls (.int v :: rest) (K v m')) : Sx ω0 ω ph D mc ms κ φ c0 s0 m pc ls st (zBI f K) := by
  obtain ⟨g1, g2⟩ := hc
  subst g1 g2
  exact x_callSH hE hM hst hw hD hL hcs d k
end LWS
theorem cl_L93 : Cond.classLink RL 93 (zEx 2) ∈ zG := zG_in 1091 (by decide +kernel) (by decide +kernel)
theorem cl_L95 : Cond.classLink RL 95 (zEx 0) ∈ zG := zG_in 1092 (by decide +kernel) (by decide +kernel)
theorem cl_L97 : Cond.classLink RL 97 (zEx 1) ∈ zG := zG_in 1093 (by decide +kernel) (by decide +kernel)
theorem ca_x0 : Cond.castable (zEx 0) (zEx 0) ∈ zG := zG_in 366 (by decide +kernel) (by decide +kernel)
theorem ca_x1 : Cond.castable (zEx 1) (zEx 1) ∈ zG := zG_in 443 (by decide +kernel) (by decide +kernel)
theorem ca_x2 : Cond.castable (zEx 2) (zEx 2) ∈ zG := zG_in 691 (by decide +kernel) (by decide +kernel)
theorem mh_RL_169 : zMh RL 169 yL_refused cL_refused 6 (some .int) [(0, 50, 51, 93), (0, 50, 55, 95), (0, 50, 59, 97)] 5 := ⟨zG_in 1088 (by decide +kernel) (by decide +kernel), zG_in 1089 (by decide +kernel) (by decide +kernel), zG_in 42 (by decide +kernel) (by decide +kernel), zG_in 1090 (by decide +kernel) (by decide +kernel), ⟨by decide +kernel, by decide +kernel⟩, by decide +kernel⟩
abbrev kk_L_refused : Kx := (RL, cL_refused, 6, some .int, [(0, 50, 51, 93), (0, 50, 55, 95), (0, 50, 59, 97)], false)
set_option maxHeartbeats 4000000 in
set_option maxRecDepth 100000 in
theorem c_Law_refused (ω : Wd) (p2 p3 p4 p5 : Int32) (m : Mm) : EvW ω true 111 3 18 yL_refused cL_refused 6 (some .int) [(0, 50, 51, 93), (0, 50, 55, 95), (0, 50, 59, 97)] [.ref (zad ω 16), .int p2, .int p3, .int p4, .int p5] m fI (f_Law_refused p2 p3 p4 p5 m) := by
  refine EvW.of (ls := [some (.ref (zad ω 16)), some (.int p2), some (.int p3), some (.int p4), some (.int p5), none]) (by decide +kernel) rfl (Nat.le_of_ble_eq_true rfl) rfl ?_
  change Sx ω ω true 111 3 18 kk_L_refused fI 0 0 m 0 _ _ _
  unfold f_Law_refused
  refine x_iload_n dL_refused_0 rfl ?_
  refine x_if_ne (tgt := 15) dL_refused_1 (by decide) (fun _ => ?_) (fun _ => ?_)
  · refine x_aload_n dL_refused_4 rfl ?_
    refine x_iload_n dL_refused_5 rfl ?_
    refine x_iload_n dL_refused_6 rfl ?_
    refine x_iload dL_refused_7 rfl ?_
    refine x_callVE (hp := fun e => if e = 2 then 51 else if e = 0 then 55 else if e = 1 then 59 else 0) (As := [.int p3, .int p4, .int p5]) (rest := []) (c_Loo_dispense ω p3 p4 p5 m) mv_RL_79 hz_16 (Or.inl rfl) rfl (Nat.le_of_ble_eq_true rfl) (Nat.le_of_ble_eq_true rfl) (Nat.le_of_ble_eq_true rfl) ⟨(Nat.le_of_ble_eq_true rfl), (Nat.le_of_ble_eq_true rfl)⟩ dL_refused_9 ?_ ?_ ?_
    · intro e9 m9 r h
      by_cases h2 : e9 = 2
      · subst h2; exact ⟨[], ⟨0, 50, 51, 93⟩, [⟨0, 50, 55, 95⟩, ⟨0, 50, 59, 97⟩], rfl, rfl, fun z hz => absurd hz List.not_mem_nil, rfl, (show 93 ≠ 0 by decide), by decide, cl_L93, ca_x2⟩
      ·
        by_cases h0 : e9 = 0
        · subst h0; exact ⟨[⟨0, 50, 51, 93⟩], ⟨0, 50, 55, 95⟩, [⟨0, 50, 59, 97⟩], rfl, rfl, fun z hz => by rcases List.mem_cons.mp hz with rfl | hz; exact ⟨(show 93 ≠ 0 by decide), 2, by decide, by decide, cl_L93⟩; exact absurd hz List.not_mem_nil, rfl, (show 95 ≠ 0 by decide), by decide, cl_L95, ca_x0⟩
        ·
          by_cases h1 : e9 = 1
          · subst h1; exact ⟨[⟨0, 50, 51, 93⟩, ⟨0, 50, 55, 95⟩], ⟨0, 50, 59, 97⟩, [], rfl, rfl, fun z hz => by rcases List.mem_cons.mp hz with rfl | hz; exact ⟨(show 93 ≠ 0 by decide), 2, by decide, by decide, cl_L93⟩; rcases List.mem_cons.mp hz with rfl | hz; exact ⟨(show 95 ≠ 0 by decide), 0, by decide, by decide, cl_L95⟩; exact absurd hz List.not_mem_nil, rfl, (show 97 ≠ 0 by decide), by decide, cl_L97, ca_x1⟩
          · unfold kRef at h; rw [if_neg h2, if_neg h0, if_neg h1] at h; cases h
    · intro v m1
      unfold hR0
      refine x_goto (tgt := 48) dL_refused_12 (by decide) ?_
      refine x_iconst (v := 0) dL_refused_48 (by decide) ?_
      refine x_imul dL_refused_49 ?_
      exact x_iret rfl rfl ⟨(Nat.le_of_ble_eq_true rfl), (Nat.le_of_ble_eq_true rfl)⟩ dL_refused_50
    · intro e9 m1 q9
      by_cases h2 : e9 = 2
      · subst h2; show Sx ω ω true 111 3 18 kk_L_refused fI _ _ m1 51 _ _ (some ((1 : Int32), m1)); refine x_astore dL_refused_51 (Nat.le_of_ble_eq_true rfl) rfl ?_; refine x_iconst (v := 1) dL_refused_53 rfl ?_; exact x_iret rfl rfl ⟨(Nat.le_of_ble_eq_true rfl), (Nat.le_of_ble_eq_true rfl)⟩ dL_refused_54
      ·
        by_cases h0 : e9 = 0
        · subst h0; show Sx ω ω true 111 3 18 kk_L_refused fI _ _ m1 55 _ _ (some ((2 : Int32), m1)); refine x_astore dL_refused_55 (Nat.le_of_ble_eq_true rfl) rfl ?_; refine x_iconst (v := 2) dL_refused_57 rfl ?_; exact x_iret rfl rfl ⟨(Nat.le_of_ble_eq_true rfl), (Nat.le_of_ble_eq_true rfl)⟩ dL_refused_58
        ·
          by_cases h1 : e9 = 1
          · subst h1; show Sx ω ω true 111 3 18 kk_L_refused fI _ _ m1 59 _ _ (some ((3 : Int32), m1)); refine x_astore dL_refused_59 (Nat.le_of_ble_eq_true rfl) rfl ?_; refine x_iconst (v := 3) dL_refused_61 rfl ?_; exact x_iret rfl rfl ⟨(Nat.le_of_ble_eq_true rfl), (Nat.le_of_ble_eq_true rfl)⟩ dL_refused_62
          · rw [show kRef e9 m1 = none from by unfold kRef; rw [if_neg h2, if_neg h0, if_neg h1]]; exact x_none
  · refine x_iload_n dL_refused_15 rfl ?_
    refine x_iconst (v := 1) dL_refused_16 (by decide) ?_
    refine x_icmp_ne (tgt := 29) dL_refused_17 (by decide) (fun _ => ?_) (fun _ => ?_)
    · refine x_aload_n dL_refused_20 rfl ?_
      refine x_iload_n dL_refused_21 rfl ?_
      refine x_iload_n dL_refused_22 rfl ?_
      refine x_callVE (hp := fun e => if e = 2 then 51 else if e = 0 then 55 else if e = 1 then 59 else 0) (As := [.int p3, .int p4]) (rest := []) (c_Loo_takeBack ω p3 p4 m) mv_RL_83 hz_16 (Or.inl rfl) rfl (Nat.le_of_ble_eq_true rfl) (Nat.le_of_ble_eq_true rfl) (Nat.le_of_ble_eq_true rfl) ⟨(Nat.le_of_ble_eq_true rfl), (Nat.le_of_ble_eq_true rfl)⟩ dL_refused_23 ?_ ?_ ?_
      · intro e9 m9 r h
        by_cases h2 : e9 = 2
        · subst h2; exact ⟨[], ⟨0, 50, 51, 93⟩, [⟨0, 50, 55, 95⟩, ⟨0, 50, 59, 97⟩], rfl, rfl, fun z hz => absurd hz List.not_mem_nil, rfl, (show 93 ≠ 0 by decide), by decide, cl_L93, ca_x2⟩
        ·
          by_cases h0 : e9 = 0
          · subst h0; exact ⟨[⟨0, 50, 51, 93⟩], ⟨0, 50, 55, 95⟩, [⟨0, 50, 59, 97⟩], rfl, rfl, fun z hz => by rcases List.mem_cons.mp hz with rfl | hz; exact ⟨(show 93 ≠ 0 by decide), 2, by decide, by decide, cl_L93⟩; exact absurd hz List.not_mem_nil, rfl, (show 95 ≠ 0 by decide), by decide, cl_L95, ca_x0⟩
          ·
            by_cases h1 : e9 = 1
            · subst h1; exact ⟨[⟨0, 50, 51, 93⟩, ⟨0, 50, 55, 95⟩], ⟨0, 50, 59, 97⟩, [], rfl, rfl, fun z hz => by rcases List.mem_cons.mp hz with rfl | hz; exact ⟨(show 93 ≠ 0 by decide), 2, by decide, by decide, cl_L93⟩; rcases List.mem_cons.mp hz with rfl | hz; exact ⟨(show 95 ≠ 0 by decide), 0, by decide, by decide, cl_L95⟩; exact absurd hz List.not_mem_nil, rfl, (show 97 ≠ 0 by decide), by decide, cl_L97, ca_x1⟩
            · unfold kRef at h; rw [if_neg h2, if_neg h0, if_neg h1] at h; cases h
      · intro v m1
        unfold hR0
        refine x_goto (tgt := 48) dL_refused_26 (by decide) ?_
        refine x_iconst (v := 0) dL_refused_48 (by decide) ?_
        refine x_imul dL_refused_49 ?_
        exact x_iret rfl rfl ⟨(Nat.le_of_ble_eq_true rfl), (Nat.le_of_ble_eq_true rfl)⟩ dL_refused_50
      · intro e9 m1 q9
        by_cases h2 : e9 = 2
        · subst h2; show Sx ω ω true 111 3 18 kk_L_refused fI _ _ m1 51 _ _ (some ((1 : Int32), m1)); refine x_astore dL_refused_51 (Nat.le_of_ble_eq_true rfl) rfl ?_; refine x_iconst (v := 1) dL_refused_53 rfl ?_; exact x_iret rfl rfl ⟨(Nat.le_of_ble_eq_true rfl), (Nat.le_of_ble_eq_true rfl)⟩ dL_refused_54
        ·
          by_cases h0 : e9 = 0
          · subst h0; show Sx ω ω true 111 3 18 kk_L_refused fI _ _ m1 55 _ _ (some ((2 : Int32), m1)); refine x_astore dL_refused_55 (Nat.le_of_ble_eq_true rfl) rfl ?_; refine x_iconst (v := 2) dL_refused_57 rfl ?_; exact x_iret rfl rfl ⟨(Nat.le_of_ble_eq_true rfl), (Nat.le_of_ble_eq_true rfl)⟩ dL_refused_58
          ·
            by_cases h1 : e9 = 1
            · subst h1; show Sx ω ω true 111 3 18 kk_L_refused fI _ _ m1 59 _ _ (some ((3 : Int32), m1)); refine x_astore dL_refused_59 (Nat.le_of_ble_eq_true rfl) rfl ?_; refine x_iconst (v := 3) dL_refused_61 rfl ?_; exact x_iret rfl rfl ⟨(Nat.le_of_ble_eq_true rfl), (Nat.le_of_ble_eq_true rfl)⟩ dL_refused_62
            · rw [show kRef e9 m1 = none from by unfold kRef; rw [if_neg h2, if_neg h0, if_neg h1]]; exact x_none
    · refine x_iload_n dL_refused_29 rfl ?_
      refine x_iconst (v := 2) dL_refused_30 (by decide) ?_
      refine x_icmp_ne (tgt := 42) dL_refused_31 (by decide) (fun _ => ?_) (fun _ => ?_)
      · refine x_aload_n dL_refused_34 rfl ?_
        refine x_iload_n dL_refused_35 rfl ?_
        refine x_callVE (hp := fun e => if e = 2 then 51 else if e = 0 then 55 else if e = 1 then 59 else 0) (As := [.int p3]) (rest := []) (c_Loo_goOn ω p3 m) mv_RL_86 hz_16 (Or.inl rfl) rfl (Nat.le_of_ble_eq_true rfl) (Nat.le_of_ble_eq_true rfl) (Nat.le_of_ble_eq_true rfl) ⟨(Nat.le_of_ble_eq_true rfl), (Nat.le_of_ble_eq_true rfl)⟩ dL_refused_36 ?_ ?_ ?_
        · intro e9 m9 r h
          by_cases h2 : e9 = 2
          · subst h2; exact ⟨[], ⟨0, 50, 51, 93⟩, [⟨0, 50, 55, 95⟩, ⟨0, 50, 59, 97⟩], rfl, rfl, fun z hz => absurd hz List.not_mem_nil, rfl, (show 93 ≠ 0 by decide), by decide, cl_L93, ca_x2⟩
          ·
            by_cases h0 : e9 = 0
            · subst h0; exact ⟨[⟨0, 50, 51, 93⟩], ⟨0, 50, 55, 95⟩, [⟨0, 50, 59, 97⟩], rfl, rfl, fun z hz => by rcases List.mem_cons.mp hz with rfl | hz; exact ⟨(show 93 ≠ 0 by decide), 2, by decide, by decide, cl_L93⟩; exact absurd hz List.not_mem_nil, rfl, (show 95 ≠ 0 by decide), by decide, cl_L95, ca_x0⟩
            ·
              by_cases h1 : e9 = 1
              · subst h1; exact ⟨[⟨0, 50, 51, 93⟩, ⟨0, 50, 55, 95⟩], ⟨0, 50, 59, 97⟩, [], rfl, rfl, fun z hz => by rcases List.mem_cons.mp hz with rfl | hz; exact ⟨(show 93 ≠ 0 by decide), 2, by decide, by decide, cl_L93⟩; rcases List.mem_cons.mp hz with rfl | hz; exact ⟨(show 95 ≠ 0 by decide), 0, by decide, by decide, cl_L95⟩; exact absurd hz List.not_mem_nil, rfl, (show 97 ≠ 0 by decide), by decide, cl_L97, ca_x1⟩
              · unfold kRef at h; rw [if_neg h2, if_neg h0, if_neg h1] at h; cases h
        · intro v m1
          unfold hR0
          refine x_goto (tgt := 48) dL_refused_39 (by decide) ?_
          refine x_iconst (v := 0) dL_refused_48 (by decide) ?_
          refine x_imul dL_refused_49 ?_
          exact x_iret rfl rfl ⟨(Nat.le_of_ble_eq_true rfl), (Nat.le_of_ble_eq_true rfl)⟩ dL_refused_50
        · intro e9 m1 q9
          by_cases h2 : e9 = 2
          · subst h2; show Sx ω ω true 111 3 18 kk_L_refused fI _ _ m1 51 _ _ (some ((1 : Int32), m1)); refine x_astore dL_refused_51 (Nat.le_of_ble_eq_true rfl) rfl ?_; refine x_iconst (v := 1) dL_refused_53 rfl ?_; exact x_iret rfl rfl ⟨(Nat.le_of_ble_eq_true rfl), (Nat.le_of_ble_eq_true rfl)⟩ dL_refused_54
          ·
            by_cases h0 : e9 = 0
            · subst h0; show Sx ω ω true 111 3 18 kk_L_refused fI _ _ m1 55 _ _ (some ((2 : Int32), m1)); refine x_astore dL_refused_55 (Nat.le_of_ble_eq_true rfl) rfl ?_; refine x_iconst (v := 2) dL_refused_57 rfl ?_; exact x_iret rfl rfl ⟨(Nat.le_of_ble_eq_true rfl), (Nat.le_of_ble_eq_true rfl)⟩ dL_refused_58
            ·
              by_cases h1 : e9 = 1
              · subst h1; show Sx ω ω true 111 3 18 kk_L_refused fI _ _ m1 59 _ _ (some ((3 : Int32), m1)); refine x_astore dL_refused_59 (Nat.le_of_ble_eq_true rfl) rfl ?_; refine x_iconst (v := 3) dL_refused_61 rfl ?_; exact x_iret rfl rfl ⟨(Nat.le_of_ble_eq_true rfl), (Nat.le_of_ble_eq_true rfl)⟩ dL_refused_62
              · rw [show kRef e9 m1 = none from by unfold kRef; rw [if_neg h2, if_neg h0, if_neg h1]]; exact x_none
      · refine x_aload_n dL_refused_42 rfl ?_
        refine x_iload_n dL_refused_43 rfl ?_
        refine x_iconst (v := 0) dL_refused_44 (by decide) ?_
        refine x_callVE (hp := fun e => if e = 2 then 51 else if e = 0 then 55 else if e = 1 then 59 else 0) (As := [.int p3, .int 0]) (rest := []) (c_Loo_feast ω p3 0 m) mv_RL_89 hz_16 (Or.inl rfl) rfl (Nat.le_of_ble_eq_true rfl) (Nat.le_of_ble_eq_true rfl) (Nat.le_of_ble_eq_true rfl) ⟨(Nat.le_of_ble_eq_true rfl), (Nat.le_of_ble_eq_true rfl)⟩ dL_refused_45 ?_ ?_ ?_
        · intro e9 m9 r h
          by_cases h2 : e9 = 2
          · subst h2; exact ⟨[], ⟨0, 50, 51, 93⟩, [⟨0, 50, 55, 95⟩, ⟨0, 50, 59, 97⟩], rfl, rfl, fun z hz => absurd hz List.not_mem_nil, rfl, (show 93 ≠ 0 by decide), by decide, cl_L93, ca_x2⟩
          ·
            by_cases h0 : e9 = 0
            · subst h0; exact ⟨[⟨0, 50, 51, 93⟩], ⟨0, 50, 55, 95⟩, [⟨0, 50, 59, 97⟩], rfl, rfl, fun z hz => by rcases List.mem_cons.mp hz with rfl | hz; exact ⟨(show 93 ≠ 0 by decide), 2, by decide, by decide, cl_L93⟩; exact absurd hz List.not_mem_nil, rfl, (show 95 ≠ 0 by decide), by decide, cl_L95, ca_x0⟩
            ·
              by_cases h1 : e9 = 1
              · subst h1; exact ⟨[⟨0, 50, 51, 93⟩, ⟨0, 50, 55, 95⟩], ⟨0, 50, 59, 97⟩, [], rfl, rfl, fun z hz => by rcases List.mem_cons.mp hz with rfl | hz; exact ⟨(show 93 ≠ 0 by decide), 2, by decide, by decide, cl_L93⟩; rcases List.mem_cons.mp hz with rfl | hz; exact ⟨(show 95 ≠ 0 by decide), 0, by decide, by decide, cl_L95⟩; exact absurd hz List.not_mem_nil, rfl, (show 97 ≠ 0 by decide), by decide, cl_L97, ca_x1⟩
              · unfold kRef at h; rw [if_neg h2, if_neg h0, if_neg h1] at h; cases h
        · intro v m1
          unfold hR0
          refine x_iconst (v := 0) dL_refused_48 (by decide) ?_
          refine x_imul dL_refused_49 ?_
          exact x_iret rfl rfl ⟨(Nat.le_of_ble_eq_true rfl), (Nat.le_of_ble_eq_true rfl)⟩ dL_refused_50
        · intro e9 m1 q9
          by_cases h2 : e9 = 2
          · subst h2; show Sx ω ω true 111 3 18 kk_L_refused fI _ _ m1 51 _ _ (some ((1 : Int32), m1)); refine x_astore dL_refused_51 (Nat.le_of_ble_eq_true rfl) rfl ?_; refine x_iconst (v := 1) dL_refused_53 rfl ?_; exact x_iret rfl rfl ⟨(Nat.le_of_ble_eq_true rfl), (Nat.le_of_ble_eq_true rfl)⟩ dL_refused_54
          ·
            by_cases h0 : e9 = 0
            · subst h0; show Sx ω ω true 111 3 18 kk_L_refused fI _ _ m1 55 _ _ (some ((2 : Int32), m1)); refine x_astore dL_refused_55 (Nat.le_of_ble_eq_true rfl) rfl ?_; refine x_iconst (v := 2) dL_refused_57 rfl ?_; exact x_iret rfl rfl ⟨(Nat.le_of_ble_eq_true rfl), (Nat.le_of_ble_eq_true rfl)⟩ dL_refused_58
            ·
              by_cases h1 : e9 = 1
              · subst h1; show Sx ω ω true 111 3 18 kk_L_refused fI _ _ m1 59 _ _ (some ((3 : Int32), m1)); refine x_astore dL_refused_59 (Nat.le_of_ble_eq_true rfl) rfl ?_; refine x_iconst (v := 3) dL_refused_61 rfl ?_; exact x_iret rfl rfl ⟨(Nat.le_of_ble_eq_true rfl), (Nat.le_of_ble_eq_true rfl)⟩ dL_refused_62
              · rw [show kRef e9 m1 = none from by unfold kRef; rw [if_neg h2, if_neg h0, if_neg h1]]; exact x_none
