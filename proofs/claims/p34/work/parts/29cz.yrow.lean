/-! A CALL OF A METHOD WITH MORE LOCALS -/
theorem zCB2 {own : String} {idx D D' mc ms mc' ms' n : Nat} {y : MethodName} {cc : ByteArray} {nL : Nat} {ret : Option FieldType} {args : Array Value} {s : State} (hts : ∀ w ∈ zG, w.before args s = true) (h1 : Cond.methodLink own idx y ∈ zG) (h3 : Cond.initialized y.cls ∈ zG) (h4 : Cond.code y cc nL ret ∈ zG) (h5 : y.cls ≠ "java/lang/invoke/MethodHandle" ∧ y.cls ≠ "java/lang/invoke/VarHandle") (h6 : (parseMethodDescriptor y.desc).map (fun d => d.parameters.length) = some n) (hD : D' + 2 ≤ D) (hL : nL ≤ 61) :
    CallB (zRm D mc ms) s args own idx y cc nL ret (zWS y cc nL ret) (zRm D' mc' ms') mc' ms' n := by
  refine ⟨rfl, rfl, Nat.le_of_succ_le hD, ?_, zWS_warm h4 hts, List.mem_cons_self, hts _ h4, hts _ h3, h5, fun sig h => ?_, hts _ h1⟩
  · show 8 + (nL + 11) + (40 * D' + 200) ≤ 40 * D + 200
    omega
  · rw [h] at h6
    exact (Option.some.inj h6).symm
section ROWE2
variable {ω0 ω : Wd} {ph : Bool} {D mc ms : Nat} {κ : Kx} {α β : Type} {φ : α → Zo} {ψ : β → Zo} {c0 s0 : Nat} {m : Mm} {pc : Nat} {ls : List (Option Value)} {st : List Value} {t t1 t2 : Option α}
variable {D' mc' ms' idx nL' : Nat} {y : MethodName} {cc' : ByteArray} {ret' : Option FieldType} {As rest : List Value}
variable {p : Program} {l : Launch} {e : Env} {R : Room} {s : State} {mid : MethodId} {args : Array Value} {below : List Frame} {meth : Method} {c : Code} {H : Heap} {locs : List Loc} {Q : State → Prop} {la : Array Slot}
variable {c1 s1 : Nat}
theorem zW_runS2 {f : Option β} {r0 : β} (C : zCx ω κ p l s mid args meth c) (L : zLv la κ.2.2.1 ls) (hH : zH ω ph m H) (hS : va_S (zA ω) s.heap H locs) (hE : Ev ω ph D' mc' ms' y cc' nL' ret' As m ψ f) (hf : f = some r0) (hM : zMs κ.1 idx y cc' nL' ret' As.length)
    (hst : st = As.reverse ++ rest) (hw : (rest.map fun v => v.category).sum ≤ 8) (hD : D' + 2 ≤ D) (hL : nL' ≤ 61) (hcs : c0 + mc' ≤ mc ∧ s0 + ms' ≤ ms) (d : decode κ.2.1 pc = .ok (.invokestatic idx, 3)) :
    vx_Run p l e (zRm D mc ms) s mid args below meth c H locs c0 s0 mc' ms' (F0 mid pc la st) rest (zQc ω ph (ψ r0) As.toArray) (zXc ω ph (ψ r0)) (zA ω) := by
  obtain ⟨h1, h2, h3, h4, h5, h6⟩ := hM
  have hts := C.2.2.2.2.2.1
  exact vx_runS (n := As.length) ⟨C.1, C.2.1, C.2.2.2.1, C.2.2.2.2.1, hts⟩ (hE r0 hf l C.2.2.2.2.2.2.2.1) ⟨zCB2 hts h1 h3 h4 h5 h6 hD hL, hts _ h2⟩
    ⟨zPc_blind, fun U hU hW => ⟨rfl, (zWo_of hH C.2.2.2.2.2.2.2.2.1 hS hU hW).1⟩⟩ rfl rfl L.1 hst (lv_room hw) d hcs
theorem x_callSI2 {f : Option (Int32 × Mm)} {K : Int32 → Mm → Option α} (hE : Ev ω ph D' mc' ms' y cc' nL' ret' As m fI f) (hM : zMs κ.1 idx y cc' nL' ret' As.length) (hst : st = As.reverse ++ rest) (hw : (rest.map fun v => v.category).sum ≤ 8) (hD : D' + 2 ≤ D) (hL : nL' ≤ 61) (hcs : c0 + mc' ≤ mc ∧ s0 + ms' ≤ ms) (d : decode κ.2.1 pc = .ok (.invokestatic idx, 3)) (k : ∀ v m', Sx ω0 ω ph D mc ms κ φ (c0 + mc') (s0 + ms') m' (pc + 3) ls (.int v :: rest) (K v m')) : Sx ω0 ω ph D mc ms κ φ c0 s0 m pc ls st (zBI f K) := by
  intro r hr p l e s mid args below meth c H locs la C L hH hS
  obtain ⟨r0, hf, hr⟩ := Option.bind_eq_some_iff.mp (show f.bind (fun r => K r.1 r.2) = some r from hr)
  exact zW_cont (zW_runS2 C L hH hS hE hf hM hst hw hD hL hcs d) hS
    (fun v m' ho H' locs' hH' hS' => by cases ho; exact k r0.1 r0.2 r hr p l e s mid args below meth c H' locs' la C L hH' hS')
    (fun e9 m' ho => by cases ho)
theorem y_callSI2 {f : Option (Int32 × Mm)} {K : Int32 → Mm → Option α} (hE : Ev ω true D' mc' ms' y cc' nL' ret' As m fI f) (hM : zMs κ.1 idx y cc' nL' ret' As.length) (hst : st = As.reverse ++ rest) (hw : (rest.map fun v => v.category).sum ≤ 8) (hD : D' + 2 ≤ D) (hL : nL' ≤ 61) (hc : c0 + mc' = c1 ∧ s0 + ms' = s1) (hcs : c1 ≤ mc ∧ s1 ≤ ms) (d : decode κ.2.1 pc = .ok (.invokestatic idx, 3)) (k : ∀ v m', Sx ω0 ω true D mc ms κ φ c1 s1 m' (pc + 3) ls (.int v :: rest) (K v m')) : Sx ω0 ω true D mc ms κ φ c0 s0 m pc ls st (zBI f K) := x_callSI2 hE hM hst hw hD hL ⟨by rw [hc.1]; exact hcs.1, by rw [hc.2]; exact hcs.2⟩ d (by rw [hc.1, hc.2]; exact k)
end ROWE2
