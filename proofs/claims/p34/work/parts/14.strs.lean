def zSl (i : Nat) : Int32 := Int32.ofNat (zSLn.getD i 0)
def zSc (i : Nat) (x : Int32) : Int32 := (zSBy.getD i []).getD (zIx x) 0
def zMt (own : String) (idx : Nat) (y : MethodName) (cc : ByteArray) (nL : Nat) (ret : Option FieldType) (n : Nat) : Prop :=
  Cond.methodLink own idx y ∈ zG ∧ Cond.instanceMethod y ∈ zG ∧ Cond.selects y.cls y y ∈ zG ∧ Cond.initialized y.cls ∈ zG ∧ Cond.code y cc nL ret ∈ zG ∧ (y.cls ≠ "java/lang/invoke/MethodHandle" ∧ y.cls ≠ "java/lang/invoke/VarHandle") ∧ (parseMethodDescriptor y.desc).map (fun d => d.parameters.length) = some n ∧ y.cls = "java/lang/String"
section ROWS
variable {ω0 ω : Wd} {ph : Bool} {D mc ms : Nat} {κ : Kx} {α β : Type} {φ : α → Zo} {ψ : β → Zo} {c0 s0 c1 s1 : Nat} {m : Mm} {pc : Nat} {ls : List (Option Value)} {st : List Value} {t t1 t2 : Option α}
variable {D' mc' ms' idx nL' : Nat} {y : MethodName} {cc' : ByteArray} {ret' : Option FieldType} {As rest : List Value}
theorem x_none : Sx ω0 ω true D mc ms κ φ c0 s0 m pc ls st none := fun r hr => nomatch hr
theorem x_pop {va : Value} (d : decode κ.2.1 pc = .ok (.pop, 1)) (hva : va.category = 1) (k : Sx ω0 ω true D mc ms κ φ c0 s0 m (pc + 1) ls st t) : Sx ω0 ω true D mc ms κ φ c0 s0 m pc ls (va :: st) t :=
  Sx.go (fun C L k => lv_pop C.1 C.2.1 d hva (k _ L)) k
theorem x_getSV {i : Nat} (hl : Cond.fieldLink κ.1 idx "java/lang/String" "value" "[B" ∈ zG) (hi : i < 9) (d : decode κ.2.1 pc = .ok (.getfield idx, 3)) (k : Sx ω0 ω ph D mc ms κ φ c0 s0 m (pc + 3) ls (.ref (oX ω (20 + i)) :: st) t) : Sx ω0 ω ph D mc ms κ φ c0 s0 m pc ls (.ref (oX ω (4 + i)) :: st) t :=
  fun r hr p l e s mid args below meth c H locs la C L hH hS => vk_getf C.1 C.2.1 (C.2.2.2.2.2.2.2.2.1.2.2.2.2.2.2.2.2.2.2.1.1 i hi).2.2.1 hS C.2.2.2.2.1 (C.2.2.2.2.2.1 _ hl) (fun _ h => h) d (k r hr p l e s mid args below meth c H locs la C L hH hS)
theorem x_getSC {i : Nat} (hl : Cond.fieldLink κ.1 idx "java/lang/String" "coder" "B" ∈ zG) (hi : i < 9) (d : decode κ.2.1 pc = .ok (.getfield idx, 3)) (k : Sx ω0 ω ph D mc ms κ φ c0 s0 m (pc + 3) ls (.int 0 :: st) t) : Sx ω0 ω ph D mc ms κ φ c0 s0 m pc ls (.ref (oX ω (4 + i)) :: st) t :=
  fun r hr p l e s mid args below meth c H locs la C L hH hS => vk_getf C.1 C.2.1 (C.2.2.2.2.2.2.2.2.1.2.2.2.2.2.2.2.2.2.2.1.1 i hi).2.1 hS C.2.2.2.2.1 (C.2.2.2.2.2.1 _ hl) (fun _ h => h) d (k r hr p l e s mid args below meth c H locs la C L hH hS)
theorem x_lenSB {i : Nat} (hi : i < 9) (d : decode κ.2.1 pc = .ok (.arraylength, 1)) (k : Sx ω0 ω ph D mc ms κ φ c0 s0 m (pc + 1) ls (.int (zSl i) :: st) t) : Sx ω0 ω ph D mc ms κ φ c0 s0 m pc ls (.ref (oX ω (20 + i)) :: st) t :=
  fun r hr p l e s mid args below meth c H locs la C L hH hS => va_tlen C.1 C.2.1 (C.2.2.2.2.2.2.2.2.1.2.2.2.2.2.2.2.2.2.2.1.1 i hi).2.2.2 hS rfl d (k r hr p l e s mid args below meth c H locs la C L hH hS)
theorem x_baldS {i : Nat} {x : Int32} (hi : i < 9) (hin : zIn x (zSLn.getD i 0)) (d : decode κ.2.1 pc = .ok (.baload, 1)) (k : Sx ω0 ω ph D mc ms κ φ c0 s0 m (pc + 1) ls (.int (zSc i x) :: st) t) : Sx ω0 ω ph D mc ms κ φ c0 s0 m pc ls (.int x :: .ref (oX ω (20 + i)) :: st) t :=
  fun r hr p l e s mid args below meth c H locs la C L hH hS => va_tb (v := .int (zSc i x)) C.1 C.2.1 (C.2.2.2.2.2.2.2.2.1.2.2.2.2.2.2.2.2.2.2.1.1 i hi).2.2.2 hS (zIn_vp hin) rfl d (k r hr p l e s mid args below meth c H locs la C L hH hS)
theorem x_getCS (hl : Cond.fieldLink κ.1 idx "java/lang/String" "COMPACT_STRINGS" "Z" ∈ zG) (d : decode κ.2.1 pc = .ok (.getstatic idx, 3)) (k : Sx ω0 ω ph D mc ms κ φ c0 s0 m (pc + 3) ls (.int 1 :: st) t) : Sx ω0 ω ph D mc ms κ φ c0 s0 m pc ls st t :=
  fun r hr p l e s mid args below meth c H locs la C L hH hS => va_gets C.1 C.2.1 C.2.2.2.2.2.2.2.2.1.2.2.2.2.2.2.2.2.1 hS C.2.2.2.2.1 (C.2.2.2.2.2.1 _ hl) (fun _ h => h) d (k r hr p l e s mid args below meth c H locs la C L hH hS)
theorem x_getSI (hl : Cond.fieldLink κ.1 idx "jdk/internal/util/Preconditions" "SIOOBE_FORMATTER" "Ljava/util/function/BiFunction;" ∈ zG) (d : decode κ.2.1 pc = .ok (.getstatic idx, 3)) (k : ∀ v : Value, v = .null ∨ (∃ q, v = .ref q) → Sx ω0 ω ph D mc ms κ φ c0 s0 m (pc + 3) ls (v :: st) t) : Sx ω0 ω ph D mc ms κ φ c0 s0 m pc ls st t := by
  intro r hr p l e s mid args below meth c H locs la C L hH hS
  rcases C.2.2.2.2.2.2.2.2.1.2.2.2.2.2.2.2.2.2.1 with hZ | ⟨q, hZ⟩
  · exact va_gets C.1 C.2.1 hZ hS C.2.2.2.2.1 (C.2.2.2.2.2.1 _ hl) (fun _ h => h) d (k _ (Or.inl rfl) r hr p l e s mid args below meth c H locs la C L hH hS)
  · exact va_gets C.1 C.2.1 hZ hS C.2.2.2.2.1 (C.2.2.2.2.2.1 _ hl) (fun _ h => h) d (k _ (Or.inr ⟨q, rfl⟩) r hr p l e s mid args below meth c H locs la C L hH hS)
theorem zW_runT {p : Program} {l : Launch} {e : Env} {s : State} {mid : MethodId} {args : Array Value} {below : List Frame} {meth : Method} {c : Code} {H : Heap} {locs : List Loc} {la : Array Slot} {f : Option β} {r0 : β} {i : Nat} (C : zCx ω κ p l s mid args meth c) (L : zLv la κ.2.2.1 ls) (hH : zH ω ph m H) (hS : va_S (zA ω) s.heap H locs) (hE : Ev ω ph D' mc' ms' y cc' nL' ret' (.ref (oX ω (4 + i)) :: As) m ψ f) (hf : f = some r0) (hM : zMt κ.1 idx y cc' nL' ret' As.length) (hi : i < 9)
    (hst : st = As.reverse ++ .ref (oX ω (4 + i)) :: rest) (hw : (rest.map fun v => v.category).sum ≤ 8) (hD : D' + 1 ≤ D) (hL : nL' ≤ 21) (hcs : c0 + mc' ≤ mc ∧ s0 + ms' ≤ ms) (d : decode κ.2.1 pc = .ok (.invokevirtual idx, 3)) :
    vx_Run p l e (zRm D mc ms) s mid args below meth c H locs c0 s0 mc' ms' (F0 mid pc la st) rest (zQc ω ph (ψ r0) (Value.ref (oX ω (4 + i)) :: As).toArray) (zXc ω ph (ψ r0)) (zA ω) := by
  obtain ⟨h1, h2, h2b, h3, h4, h5, h6, h7⟩ := hM
  have hts := C.2.2.2.2.2.1
  have hC := C.2.2.2.2.2.2.2.2.1
  refine vx_runV (C := y.cls) (b := oX ω (4 + i)) (n := As.length) ⟨C.1, C.2.1, C.2.2.2.1, C.2.2.2.2.1, hts⟩ (hE r0 hf l C.2.2.2.2.2.2.2.1) ⟨zCB hts h1 h3 h4 h5 h6 hD hL, hts _ h2, hts _ h2b⟩
    ⟨zPc_blind, ?_, fun U hU hW => ⟨rfl, (zWo_of hH hC hS hU hW).1⟩⟩ rfl rfl L.1 hst (lv_room hw) d hcs
  rw [h7]
  exact vk_recv (adK := fun i => oX ω (4 + i)) (i := i) hC.2.2.2.2.2.2.2.2.2.2.1 hi hS
theorem y_callTP {i : Nat} {f : Option Int32} {K : Int32 → Option α} (hE : Ev ω true D' 0 0 y cc' nL' ret' (.ref (oX ω (4 + i)) :: As) m (fP m) f) (hM : zMt κ.1 idx y cc' nL' ret' As.length) (hi : i < 9) (hst : st = As.reverse ++ .ref (oX ω (4 + i)) :: rest) (hw : (rest.map fun v => v.category).sum ≤ 8) (hD : D' + 1 ≤ D) (hL : nL' ≤ 21) (hcs : c0 ≤ mc ∧ s0 ≤ ms) (d : decode κ.2.1 pc = .ok (.invokevirtual idx, 3)) (k : ∀ v, Sx ω0 ω true D mc ms κ φ c0 s0 m (pc + 3) ls (.int v :: rest) (K v)) : Sx ω0 ω true D mc ms κ φ c0 s0 m pc ls st (zBP f K) := by
  intro r hr p l e s mid args below meth c H locs la C L hH hS
  obtain ⟨r0, hf, hr⟩ := Option.bind_eq_some_iff.mp (show f.bind K = some r from hr)
  exact zW_cont (zW_runT C L hH hS hE hf hM hi hst hw hD hL hcs d) hS
    (fun v m' ho H' locs' hH' hS' => by cases ho; exact k r0 r hr p l e s mid args below meth c H' locs' la C L hH' hS')
    (fun e9 m' ho => by cases ho)
end ROWS
theorem zwSV : Cond.fieldLink RJ0 9 "java/lang/String" "value" "[B" ∈ zG := zG_in 1314 (by decide +kernel) (by decide +kernel)
theorem zwSC : Cond.fieldLink RJ0 15 "java/lang/String" "coder" "B" ∈ zG := zG_in 1315 (by decide +kernel) (by decide +kernel)
theorem zwCS : Cond.fieldLink RJ0 38 "java/lang/String" "COMPACT_STRINGS" "Z" ∈ zG := zG_in 506 (by decide +kernel) (by decide +kernel)
theorem zwSI : Cond.fieldLink RJ0 1053 "jdk/internal/util/Preconditions" "SIOOBE_FORMATTER" "Ljava/util/function/BiFunction;" ∈ zG := zG_in 522 (by decide +kernel) (by decide +kernel)
theorem zm_len_coder : zMt RJ0 335 yJ0_coder_7d493 cJ0_coder_7d493 1 (some .byte) 0 := ⟨zG_in 502 (by decide +kernel) (by decide +kernel), zG_in 503 (by decide +kernel) (by decide +kernel), zG_in 504 (by decide +kernel) (by decide +kernel), zG_in 59 (by decide +kernel) (by decide +kernel), zG_in 505 (by decide +kernel) (by decide +kernel), ⟨by decide +kernel, by decide +kernel⟩, by decide +kernel, rfl⟩
theorem zm_at_isL : zMt RJ0 492 yJ0_isLatin1_aae02 cJ0_isLatin1_aae02 1 (some .boolean) 0 := ⟨zG_in 512 (by decide +kernel) (by decide +kernel), zG_in 513 (by decide +kernel) (by decide +kernel), zG_in 514 (by decide +kernel) (by decide +kernel), zG_in 59 (by decide +kernel) (by decide +kernel), zG_in 515 (by decide +kernel) (by decide +kernel), ⟨by decide +kernel, by decide +kernel⟩, by decide +kernel, rfl⟩
theorem sl_RX5_119 : zMt RX5 119 yJ0_length_8abf5 cJ0_length_8abf5 1 (some .int) 0 := ⟨zG_in 498 (by decide +kernel) (by decide +kernel), zG_in 499 (by decide +kernel) (by decide +kernel), zG_in 500 (by decide +kernel) (by decide +kernel), zG_in 59 (by decide +kernel) (by decide +kernel), zG_in 501 (by decide +kernel) (by decide +kernel), ⟨by decide +kernel, by decide +kernel⟩, by decide +kernel, rfl⟩
theorem sa_RX5_122 : zMt RX5 122 yJ0_charAt_5068e cJ0_charAt_5068e 2 (some .char) 1 := ⟨zG_in 508 (by decide +kernel) (by decide +kernel), zG_in 509 (by decide +kernel) (by decide +kernel), zG_in 510 (by decide +kernel) (by decide +kernel), zG_in 59 (by decide +kernel) (by decide +kernel), zG_in 511 (by decide +kernel) (by decide +kernel), ⟨by decide +kernel, by decide +kernel⟩, by decide +kernel, rfl⟩
theorem zm_at_lat : zMs RJ0 495 yJ1_charAt_3b067 cJ1_charAt_3b067 2 (some .char) 2 := ⟨zG_in 516 (by decide +kernel) (by decide +kernel), zG_in 517 (by decide +kernel) (by decide +kernel), zG_in 60 (by decide +kernel) (by decide +kernel), zG_in 518 (by decide +kernel) (by decide +kernel), ⟨by decide +kernel, by decide +kernel⟩, by decide +kernel⟩
theorem zm_lat_chk : zMs RJ1 9 yJ0_checkIndex_df160 cJ0_checkIndex_df160 2 none 2 := ⟨zG_in 519 (by decide +kernel) (by decide +kernel), zG_in 520 (by decide +kernel) (by decide +kernel), zG_in 59 (by decide +kernel) (by decide +kernel), zG_in 521 (by decide +kernel) (by decide +kernel), ⟨by decide +kernel, by decide +kernel⟩, by decide +kernel⟩
theorem zm_chk_pre : zMs RJ0 1059 yJ3_checkIndex_8e157 cJ3_checkIndex_8e157 3 (some .int) 3 := ⟨zG_in 524 (by decide +kernel) (by decide +kernel), zG_in 525 (by decide +kernel) (by decide +kernel), zG_in 61 (by decide +kernel) (by decide +kernel), zG_in 526 (by decide +kernel) (by decide +kernel), ⟨by decide +kernel, by decide +kernel⟩, by decide +kernel⟩
abbrev kk_zs_coder : Kx := (yJ0_coder_7d493.cls, cJ0_coder_7d493, 1, (some .byte), [], false)
set_option maxHeartbeats 4000000 in
set_option maxRecDepth 100000 in
theorem zs_coder (ω : Wd) (i : Nat) (hi : i < 9) (m : Mm) : Ev ω true 1 0 0 yJ0_coder_7d493 cJ0_coder_7d493 1 (some .byte) [.ref (oX ω (4 + i))] m (fP m) (some 0) := by
  refine Ev.of (b := false) (ls := [some (.ref (oX ω (4 + i)))]) (plainFor_of_name (by decide +kernel)) (fun h => by cases h) rfl (Nat.le_of_ble_eq_true rfl) rfl ?_
  change Sx ω ω true 1 0 0 kk_zs_coder (fP m) 0 0 m 0 _ _ _
  refine x_getCS zwCS dJ0_coder_7d493_0 ?_
  refine (show Sx ω ω true 1 0 0 kk_zs_coder (fP m) 0 0 m 3 [some (.ref (oX ω (4 + i)))] [.int 1] (if (1 : Int32) = 0 then some 0 else some 0) from ?_)
  refine x_if_eq (tgt := 13) dJ0_coder_7d493_3 (by decide) (fun h => absurd h (by decide)) (fun h => ?_)
  refine x_aload_n dJ0_coder_7d493_6 rfl ?_
  refine x_getSC zwSC hi dJ0_coder_7d493_7 ?_
  refine x_goto (tgt := 14) dJ0_coder_7d493_10 (by decide) ?_
  exact x_zret rfl rfl rfl ⟨(Nat.le_of_ble_eq_true rfl), (Nat.le_of_ble_eq_true rfl)⟩ dJ0_coder_7d493_14
abbrev kk_zs_isL : Kx := (yJ0_isLatin1_aae02.cls, cJ0_isLatin1_aae02, 1, (some .boolean), [], false)
set_option maxHeartbeats 4000000 in
set_option maxRecDepth 100000 in
theorem zs_isL (ω : Wd) (i : Nat) (hi : i < 9) (m : Mm) : Ev ω true 1 0 0 yJ0_isLatin1_aae02 cJ0_isLatin1_aae02 1 (some .boolean) [.ref (oX ω (4 + i))] m (fP m) (some 1) := by
  refine Ev.of (b := false) (ls := [some (.ref (oX ω (4 + i)))]) (plainFor_of_name (by decide +kernel)) (fun h => by cases h) rfl (Nat.le_of_ble_eq_true rfl) rfl ?_
  change Sx ω ω true 1 0 0 kk_zs_isL (fP m) 0 0 m 0 _ _ _
  refine x_getCS zwCS dJ0_isLatin1_aae02_0 ?_
  refine (show Sx ω ω true 1 0 0 kk_zs_isL (fP m) 0 0 m 3 [some (.ref (oX ω (4 + i)))] [.int 1] (if (1 : Int32) = 0 then some 1 else (if (0 : Int32) = 0 then some 1 else some 1)) from ?_)
  refine x_if_eq (tgt := 17) dJ0_isLatin1_aae02_3 (by decide) (fun h => absurd h (by decide)) (fun h => ?_)
  refine x_aload_n dJ0_isLatin1_aae02_6 rfl ?_
  refine x_getSC zwSC hi dJ0_isLatin1_aae02_7 ?_
  refine x_if_ne (tgt := 17) dJ0_isLatin1_aae02_10 (by decide) (fun h => ?_) (fun h => absurd rfl h)
  refine x_iconst (v := 1) dJ0_isLatin1_aae02_13 (by decide) ?_
  refine x_goto (tgt := 18) dJ0_isLatin1_aae02_14 (by decide) ?_
  exact x_zret rfl rfl (zBo_nar (by decide)) ⟨(Nat.le_of_ble_eq_true rfl), (Nat.le_of_ble_eq_true rfl)⟩ dJ0_isLatin1_aae02_18
abbrev kk_zs_len : Kx := (yJ0_length_8abf5.cls, cJ0_length_8abf5, 1, (some .int), [], false)
set_option maxHeartbeats 4000000 in
set_option maxRecDepth 100000 in
theorem zs_len (ω : Wd) (i : Nat) (hi : i < 9) (m : Mm) : Ev ω true 2 0 0 yJ0_length_8abf5 cJ0_length_8abf5 1 (some .int) [.ref (oX ω (4 + i))] m (fP m) (zBP (some 0) fun v => some (zSl i >>> (v &&& 31))) := by
  refine Ev.of (b := false) (ls := [some (.ref (oX ω (4 + i)))]) (plainFor_of_name (by decide +kernel)) (fun h => by cases h) rfl (Nat.le_of_ble_eq_true rfl) rfl ?_
  change Sx ω ω true 2 0 0 kk_zs_len (fP m) 0 0 m 0 _ _ _
  refine x_aload_n dJ0_length_8abf5_0 rfl ?_
  refine x_getSV zwSV hi dJ0_length_8abf5_1 ?_
  refine x_lenSB hi dJ0_length_8abf5_4 ?_
  refine x_aload_n dJ0_length_8abf5_5 rfl ?_
  refine y_callTP (As := []) (rest := [.int (zSl i)]) (zs_coder ω i hi m) zm_len_coder hi rfl (Nat.le_of_ble_eq_true rfl) (Nat.le_of_ble_eq_true rfl) (Nat.le_of_ble_eq_true rfl) ⟨(Nat.le_of_ble_eq_true rfl), (Nat.le_of_ble_eq_true rfl)⟩ dJ0_length_8abf5_6 (fun v => ?_)
  refine x_ishr dJ0_length_8abf5_9 ?_
  exact x_iret rfl rfl ⟨(Nat.le_of_ble_eq_true rfl), (Nat.le_of_ble_eq_true rfl)⟩ dJ0_length_8abf5_10
abbrev kk_zs_pre : Kx := (yJ3_checkIndex_8e157.cls, cJ3_checkIndex_8e157, 3, (some .int), [], false)
set_option maxHeartbeats 4000000 in
set_option maxRecDepth 100000 in
theorem zs_pre (ω : Wd) (x1 x2 : Int32) (v : Value) (hv : v = .null ∨ ∃ q, v = .ref q) (m : Mm) : Ev ω true 1 0 0 yJ3_checkIndex_8e157 cJ3_checkIndex_8e157 3 (some .int) [.int x1, .int x2, v] m (fP m) (if x1 < 0 then none else if x1 < x2 then some x1 else none) := by
  refine Ev.of (b := false) (ls := [some (.int x1), some (.int x2), some v]) (plainFor_of_name (by decide +kernel)) (fun h => by cases h) (by rcases hv with rfl | ⟨q, rfl⟩ <;> rfl) (Nat.le_of_ble_eq_true rfl) rfl ?_
  change Sx ω ω true 1 0 0 kk_zs_pre (fP m) 0 0 m 0 _ _ _
  refine x_iload_n dJ3_checkIndex_8e157_0 rfl ?_
  refine x_if_lt (tgt := 9) dJ3_checkIndex_8e157_1 (by decide) (fun h => x_none) (fun h => ?_)
  refine x_iload_n dJ3_checkIndex_8e157_4 rfl ?_
  refine x_iload_n dJ3_checkIndex_8e157_5 rfl ?_
  refine x_icmp_lt (tgt := 16) dJ3_checkIndex_8e157_6 (by decide) (fun h => ?_) (fun h => x_none)
  refine x_iload_n dJ3_checkIndex_8e157_16 rfl ?_
  exact x_iret rfl rfl ⟨(Nat.le_of_ble_eq_true rfl), (Nat.le_of_ble_eq_true rfl)⟩ dJ3_checkIndex_8e157_17
abbrev kk_zs_chk : Kx := (yJ0_checkIndex_df160.cls, cJ0_checkIndex_df160, 2, none, [], false)
set_option maxHeartbeats 4000000 in
set_option maxRecDepth 100000 in
theorem zs_chk (ω : Wd) (x1 x2 : Int32) (m : Mm) : Ev ω true 2 0 0 yJ0_checkIndex_df160 cJ0_checkIndex_df160 2 none [.int x1, .int x2] m fV (zBP (if x1 < 0 then none else if x1 < x2 then some x1 else none) fun _ => some m) := by
  refine Ev.of (b := false) (ls := [some (.int x1), some (.int x2)]) (plainFor_of_name (by decide +kernel)) (fun h => by cases h) rfl (Nat.le_of_ble_eq_true rfl) rfl ?_
  change Sx ω ω true 2 0 0 kk_zs_chk fV 0 0 m 0 _ _ _
  refine x_iload_n dJ0_checkIndex_df160_0 rfl ?_
  refine x_iload_n dJ0_checkIndex_df160_1 rfl ?_
  refine x_getSI zwSI dJ0_checkIndex_df160_2 (fun v hv => ?_)
  refine y_callSP (As := [.int x1, .int x2, v]) (rest := []) (c1 := 0) (s1 := 0) (zs_pre ω x1 x2 v hv m) zm_chk_pre rfl (Nat.le_of_ble_eq_true rfl) (Nat.le_of_ble_eq_true rfl) (Nat.le_of_ble_eq_true rfl) ⟨rfl, rfl⟩ ⟨(Nat.le_of_ble_eq_true rfl), (Nat.le_of_ble_eq_true rfl)⟩ dJ0_checkIndex_df160_5 (fun _ => ?_)
  refine x_pop dJ0_checkIndex_df160_8 rfl ?_
  exact x_vret rfl rfl ⟨(Nat.le_of_ble_eq_true rfl), (Nat.le_of_ble_eq_true rfl)⟩ dJ0_checkIndex_df160_9
theorem zSc_ok {i : Nat} (hi : i < 9) {x : Int32} (hx : zIn x (zSLn.getD i 0)) : ((zSc i x &&& 255).toUInt32 % 65536).toInt32 = zSc i x ∧ zCh (zSc i x) := by
  have h : ∀ i, i < 9 → ∀ j, j < zSLn.getD i 0 → (((zSBy.getD i []).getD j 0 &&& 255).toUInt32 % 65536).toInt32 = (zSBy.getD i []).getD j 0 ∧ zCh ((zSBy.getD i []).getD j 0) := by decide +kernel
  exact h i hi _ hx.2
theorem zIn_lt {i : Nat} (hi : i < 9) {x : Int32} (h0 : ¬ x < 0) (h1 : x < zSl i) : zIn x (zSLn.getD i 0) := by
  have h : ∀ i, i < 9 → (zSl i).toInt = (zSLn.getD i 0 : Int) := by decide +kernel
  refine ⟨Int32.not_lt.mp h0, ?_⟩
  have h2 := Int32.lt_iff_toInt_lt.mp h1
  rw [h i hi] at h2
  show x.toInt.toNat < _
  have h3 := Int32.le_iff_toInt_le.mp (Int32.not_lt.mp h0)
  rw [show (0 : Int32).toInt = 0 from by decide] at h3
  omega
abbrev kk_zs_lat : Kx := (yJ1_charAt_3b067.cls, cJ1_charAt_3b067, 2, (some .char), [], false)
set_option maxHeartbeats 4000000 in
set_option maxRecDepth 100000 in
theorem zs_lat (ω : Wd) (i : Nat) (hi : i < 9) (x : Int32) (hin : zIn x (zSLn.getD i 0)) (m : Mm) : Ev ω true 3 0 0 yJ1_charAt_3b067 cJ1_charAt_3b067 2 (some .char) [.ref (oX ω (20 + i)), .int x] m fI (zBV (zBP (if x < 0 then none else if x < zSl i then some x else none) fun _ => some m) fun m1 => some (zSc i x, m1)) := by
  refine Ev.of (b := false) (ls := [some (.ref (oX ω (20 + i))), some (.int x)]) (plainFor_of_name (by decide +kernel)) (fun h => by cases h) rfl (Nat.le_of_ble_eq_true rfl) rfl ?_
  change Sx ω ω true 3 0 0 kk_zs_lat fI 0 0 m 0 _ _ _
  refine x_iload_n dJ1_charAt_3b067_0 rfl ?_
  refine x_aload_n dJ1_charAt_3b067_1 rfl ?_
  refine x_lenSB hi dJ1_charAt_3b067_2 ?_
  refine y_callSV (rest := []) (c1 := 0) (s1 := 0) (zs_chk ω x (zSl i) m) zm_lat_chk rfl (Nat.le_of_ble_eq_true rfl) (Nat.le_of_ble_eq_true rfl) (Nat.le_of_ble_eq_true rfl) ⟨rfl, rfl⟩ ⟨(Nat.le_of_ble_eq_true rfl), (Nat.le_of_ble_eq_true rfl)⟩ dJ1_charAt_3b067_3 (fun m1 => ?_)
  refine x_aload_n dJ1_charAt_3b067_6 rfl ?_
  refine x_iload_n dJ1_charAt_3b067_7 rfl ?_
  refine x_baldS hi hin dJ1_charAt_3b067_8 ?_
  refine x_sipush (v := 255) dJ1_charAt_3b067_9 (by decide) ?_
  refine x_iand dJ1_charAt_3b067_12 ?_
  refine x_i2c dJ1_charAt_3b067_13 ?_
  rw [(zSc_ok hi hin).1]
  exact x_zret rfl rfl (zCh_nar (zSc_ok hi hin).2) ⟨(Nat.le_of_ble_eq_true rfl), (Nat.le_of_ble_eq_true rfl)⟩ dJ1_charAt_3b067_14
abbrev kk_zs_at : Kx := (yJ0_charAt_5068e.cls, cJ0_charAt_5068e, 2, (some .char), [], false)
set_option maxHeartbeats 4000000 in
set_option maxRecDepth 100000 in
theorem zs_at0 (ω : Wd) (i : Nat) (hi : i < 9) (x : Int32) (hin : zIn x (zSLn.getD i 0)) (m : Mm) : Ev ω true 4 0 0 yJ0_charAt_5068e cJ0_charAt_5068e 2 (some .char) [.ref (oX ω (4 + i)), .int x] m fI (zBP (some (1 : Int32)) fun v => if v = 0 then none else zBI (zBV (zBP (if x < 0 then none else if x < zSl i then some x else none) fun _ => some m) fun m1 => some (zSc i x, m1)) fun v m1 => if zCh v then some (v, m1) else none) := by
  refine Ev.of (b := false) (ls := [some (.ref (oX ω (4 + i))), some (.int x)]) (plainFor_of_name (by decide +kernel)) (fun h => by cases h) rfl (Nat.le_of_ble_eq_true rfl) rfl ?_
  change Sx ω ω true 4 0 0 kk_zs_at fI 0 0 m 0 _ _ _
  refine x_aload_n dJ0_charAt_5068e_0 rfl ?_
  refine y_callTP (κ := kk_zs_at) (D := 4) (As := []) (rest := []) (zs_isL ω i hi m) zm_at_isL hi rfl (Nat.le_of_ble_eq_true rfl) (Nat.le_of_ble_eq_true rfl) (Nat.le_of_ble_eq_true rfl) ⟨(Nat.le_of_ble_eq_true rfl), (Nat.le_of_ble_eq_true rfl)⟩ dJ0_charAt_5068e_1 (fun v => ?_)
  refine x_if_eq (tgt := 16) dJ0_charAt_5068e_4 (by decide) (fun h => x_none) (fun h => ?_)
  refine x_aload_n dJ0_charAt_5068e_7 rfl ?_
  refine x_getSV zwSV hi dJ0_charAt_5068e_8 ?_
  refine x_iload_n dJ0_charAt_5068e_11 rfl ?_
  refine y_callSI (rest := []) (c1 := 0) (s1 := 0) (zs_lat ω i hi x hin m) zm_at_lat rfl (Nat.le_of_ble_eq_true rfl) (Nat.le_of_ble_eq_true rfl) (Nat.le_of_ble_eq_true rfl) ⟨rfl, rfl⟩ ⟨(Nat.le_of_ble_eq_true rfl), (Nat.le_of_ble_eq_true rfl)⟩ dJ0_charAt_5068e_12 (fun v1 m1 => ?_)
  refine x_guard (fun hv => ?_)
  exact x_zret rfl rfl (zCh_nar hv) ⟨(Nat.le_of_ble_eq_true rfl), (Nat.le_of_ble_eq_true rfl)⟩ dJ0_charAt_5068e_15
theorem zs_at (ω : Wd) (i : Nat) (hi : i < 9) (x : Int32) (hin : zIn x (zSLn.getD i 0)) (m : Mm) : Ev ω true 4 0 0 yJ0_charAt_5068e cJ0_charAt_5068e 2 (some .char) [.ref (oX ω (4 + i)), .int x] m (fP m) (some (zSc i x)) := by
  intro r hr
  cases hr
  refine zs_at0 ω i hi x hin m (zSc i x, m) ?_
  have h0 : ¬ x < 0 := Int32.not_lt.mpr hin.1
  have h1 : x < zSl i := by
    have h : ∀ i, i < 9 → (zSl i).toInt = (zSLn.getD i 0 : Int) := by decide +kernel
    apply Int32.lt_iff_toInt_lt.mpr
    rw [h i hi]
    have h2 := hin.2
    have h3 := Int32.le_iff_toInt_le.mp hin.1
    rw [show (0 : Int32).toInt = 0 from by decide] at h3
    have h4 : x.toNatClampNeg = x.toInt.toNat := rfl
    omega
  have h2 := (zSc_ok hi hin).2
  simp only [zBP, zBV, zBI, Option.bind_some, if_neg h0, if_pos h1, if_pos h2]
  rfl
theorem zs_len' (ω : Wd) (i : Nat) (hi : i < 9) (m : Mm) : Ev ω true 2 0 0 yJ0_length_8abf5 cJ0_length_8abf5 1 (some .int) [.ref (oX ω (4 + i))] m (fP m) (some (zSl i)) := by
  intro r hr
  cases hr
  refine zs_len ω i hi m (zSl i) ?_
  have h : ∀ i, i < 9 → zSl i >>> ((0 : Int32) &&& 31) = zSl i := by decide +kernel
  simp only [zBP, Option.bind_some]
  rw [h i hi]
section ROWT
variable {ω0 ω : Wd} {D mc ms : Nat} {κ : Kx} {α β : Type} {φ : α → Zo} {c0 s0 idx : Nat} {m : Mm} {pc : Nat} {ls : List (Option Value)} {st : List Value} {t : Option α}
theorem y_strLen {i : Nat} (hM : zMt κ.1 idx yJ0_length_8abf5 cJ0_length_8abf5 1 (some .int) 0) (hi : i < 9) (hw : (st.map fun v => v.category).sum ≤ 8) (hD : 3 ≤ D) (hcs : c0 ≤ mc ∧ s0 ≤ ms) (d : decode κ.2.1 pc = .ok (.invokevirtual idx, 3)) (k : Sx ω0 ω true D mc ms κ φ c0 s0 m (pc + 3) ls (.int (zSl i) :: st) t) : Sx ω0 ω true D mc ms κ φ c0 s0 m pc ls (.ref (oX ω (4 + i)) :: st) t := by
  intro r hr
  have h := y_callTP (As := []) (rest := st) (K := fun v => if v = zSl i then t else none) (zs_len' ω i hi m) hM hi rfl hw hD (by decide) hcs d (ls := ls) (φ := φ) (fun v => x_guard fun hv => by rw [hv]; exact k)
  exact h r (by simp [zBP, hr])
theorem y_strAt {i : Nat} {x : Int32} (hM : zMt κ.1 idx yJ0_charAt_5068e cJ0_charAt_5068e 2 (some .char) 1) (hi : i < 9) (hw : (st.map fun v => v.category).sum ≤ 8) (hD : 5 ≤ D) (hcs : c0 ≤ mc ∧ s0 ≤ ms) (d : decode κ.2.1 pc = .ok (.invokevirtual idx, 3)) (k : zIn x (zSLn.getD i 0) → Sx ω0 ω true D mc ms κ φ c0 s0 m (pc + 3) ls (.int (zSc i x) :: st) t) : Sx ω0 ω true D mc ms κ φ c0 s0 m pc ls (.int x :: .ref (oX ω (4 + i)) :: st) (if zIn x (zSLn.getD i 0) then t else none) :=
  x_guard fun hin r hr => by
    have h := y_callTP (As := [.int x]) (rest := st) (K := fun v => if v = zSc i x then t else none) (zs_at ω i hi x hin m) hM hi rfl hw hD (by decide) hcs d (ls := ls) (φ := φ) (fun v => x_guard fun hv => by rw [hv]; exact k hin)
    exact h r (by simp [zBP, hr])
end ROWT
