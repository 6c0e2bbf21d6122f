def zMs (own : String) (idx : Nat) (y : MethodName) (cc : ByteArray) (nL : Nat) (ret : Option FieldType) (n : Nat) : Prop :=
  Cond.methodLink own idx y ∈ zG ∧ Cond.static y ∈ zG ∧ Cond.initialized y.cls ∈ zG ∧ Cond.code y cc nL ret ∈ zG ∧ (y.cls ≠ "java/lang/invoke/MethodHandle" ∧ y.cls ≠ "java/lang/invoke/VarHandle") ∧ (parseMethodDescriptor y.desc).map (fun d => d.parameters.length) = some n
def zMv (own : String) (idx : Nat) (ci : Nat) (y : MethodName) (cc : ByteArray) (nL : Nat) (ret : Option FieldType) (n : Nat) : Prop :=
  Cond.methodLink own idx y ∈ zG ∧ Cond.instanceMethod y ∈ zG ∧ Cond.selects y.cls y y ∈ zG ∧ Cond.initialized y.cls ∈ zG ∧ Cond.code y cc nL ret ∈ zG ∧ (y.cls ≠ "java/lang/invoke/MethodHandle" ∧ y.cls ≠ "java/lang/invoke/VarHandle") ∧ (parseMethodDescriptor y.desc).map (fun d => d.parameters.length) = some n ∧ ∃ (T : u_T) (N : Nat), vwCl[ci]? = some (y.cls, T, N)
theorem zWS_warm {y : MethodName} {cc : ByteArray} {nL : Nat} {ret : Option FieldType} {args : Array Value} {s : State} (hc : Cond.code y cc nL ret ∈ zG) (hts : ∀ w ∈ zG, w.before args s = true) : ∀ w ∈ zWS y cc nL ret, ∀ (a' : Array Value) (U : State), s.WarmedH U.vm → w.before a' U = true := by
  intro w hw a' U hW
  have hg : w ∈ zG := (List.mem_cons.mp hw).elim (fun e => e ▸ hc) id
  exact zst_warm (List.mem_filter.mp hg).2 hW (hts w hg)
theorem zCB {own : String} {idx D D' mc ms mc' ms' n : Nat} {y : MethodName} {cc : ByteArray} {nL : Nat} {ret : Option FieldType} {args : Array Value} {s : State} (hts : ∀ w ∈ zG, w.before args s = true) (h1 : Cond.methodLink own idx y ∈ zG) (h3 : Cond.initialized y.cls ∈ zG) (h4 : Cond.code y cc nL ret ∈ zG) (h5 : y.cls ≠ "java/lang/invoke/MethodHandle" ∧ y.cls ≠ "java/lang/invoke/VarHandle") (h6 : (parseMethodDescriptor y.desc).map (fun d => d.parameters.length) = some n) (hD : D' + 1 ≤ D) (hL : nL ≤ 21) :
    CallB (zRm D mc ms) s args own idx y cc nL ret (zWS y cc nL ret) (zRm D' mc' ms') mc' ms' n := by
  refine ⟨rfl, rfl, hD, ?_, zWS_warm h4 hts, List.mem_cons_self, hts _ h4, hts _ h3, h5, fun sig h => ?_, hts _ h1⟩
  · show 8 + (nL + 11) + (40 * D' + 200) ≤ 40 * D + 200
    omega
  · rw [h] at h6
    exact (Option.some.inj h6).symm
theorem zPc_blind {ω : Wd} {ph : Bool} {m : Mm} {av : List Value} : FrameBlind (zPc ω ph m av) := fun a U g mk h => ⟨h.1, h.2.1, zC_same h.2.2 rfl⟩
section ROWE
variable {ω0 ω : Wd} {ph : Bool} {D mc ms : Nat} {κ : Kx} {α β : Type} {φ : α → Zo} {ψ : β → Zo} {c0 s0 : Nat} {m : Mm} {pc : Nat} {ls : List (Option Value)} {st : List Value} {t t1 t2 : Option α}
variable {D' mc' ms' idx nL' : Nat} {y : MethodName} {cc' : ByteArray} {ret' : Option FieldType} {As rest : List Value}
section INNER
variable {p : Program} {l : Launch} {e : Env} {R : Room} {s : State} {mid : MethodId} {args : Array Value} {below : List Frame} {meth : Method} {c : Code} {H : Heap} {locs : List Loc} {Q : State → Prop} {la : Array Slot}
theorem zW_runS {f : Option β} {r0 : β} (C : zCx ω κ p l s mid args meth c) (L : zLv la κ.2.2.1 ls) (hH : zH ω ph m H) (hS : va_S (zA ω) s.heap H locs) (hE : Ev ω ph D' mc' ms' y cc' nL' ret' As m ψ f) (hf : f = some r0) (hM : zMs κ.1 idx y cc' nL' ret' As.length)
    (hst : st = As.reverse ++ rest) (hw : (rest.map fun v => v.category).sum ≤ 8) (hD : D' + 1 ≤ D) (hL : nL' ≤ 21) (hcs : c0 + mc' ≤ mc ∧ s0 + ms' ≤ ms) (d : decode κ.2.1 pc = .ok (.invokestatic idx, 3)) :
    vx_Run p l e (zRm D mc ms) s mid args below meth c H locs c0 s0 mc' ms' (F0 mid pc la st) rest (zQc ω ph (ψ r0) As.toArray) (zXc ω ph (ψ r0)) (zA ω) := by
  obtain ⟨h1, h2, h3, h4, h5, h6⟩ := hM
  have hts := C.2.2.2.2.2.1
  exact vx_runS (n := As.length) ⟨C.1, C.2.1, C.2.2.2.1, C.2.2.2.2.1, hts⟩ (hE r0 hf l C.2.2.2.2.2.2.2.1) ⟨zCB hts h1 h3 h4 h5 h6 hD hL, hts _ h2⟩
    ⟨zPc_blind, fun U hU hW => ⟨rfl, (zWo_of hH C.2.2.2.2.2.2.2.2.1 hS hU hW).1⟩⟩ rfl rfl L.1 hst (lv_room hw) d hcs
theorem zW_runV {f : Option β} {r0 : β} {a ci : Nat} (C : zCx ω κ p l s mid args meth c) (L : zLv la κ.2.2.1 ls) (hH : zH ω ph m H) (hS : va_S (zA ω) s.heap H locs) (hE : Ev ω ph D' mc' ms' y cc' nL' ret' (.ref (zad ω a) :: As) m ψ f) (hf : f = some r0) (hM : zMv κ.1 idx ci y cc' nL' ret' As.length) (hT : zT a = ci + 1) (hi : ph = true ∨ a < zN m)
    (hst : st = As.reverse ++ .ref (zad ω a) :: rest) (hw : (rest.map fun v => v.category).sum ≤ 8) (hD : D' + 1 ≤ D) (hL : nL' ≤ 21) (hcs : c0 + mc' ≤ mc ∧ s0 + ms' ≤ ms) (d : decode κ.2.1 pc = .ok (.invokevirtual idx, 3)) :
    vx_Run p l e (zRm D mc ms) s mid args below meth c H locs c0 s0 mc' ms' (F0 mid pc la st) rest (zQc ω ph (ψ r0) (Value.ref (zad ω a) :: As).toArray) (zXc ω ph (ψ r0)) (zA ω) := by
  obtain ⟨h1, h2, h2b, h3, h4, h5, h6, T, N, h7⟩ := hM
  have hts := C.2.2.2.2.2.1
  have hC := C.2.2.2.2.2.2.2.2.1
  refine vx_runV (C := y.cls) (b := zad ω a) (n := As.length) ⟨C.1, C.2.1, C.2.2.2.1, C.2.2.2.2.1, hts⟩ (hE r0 hf l C.2.2.2.2.2.2.2.1) ⟨zCB hts h1 h3 h4 h5 h6 hD hL, hts _ h2, hts _ h2b⟩
    ⟨zPc_blind, ?_, fun U hU hW => ⟨rfl, (zWo_of hH hC hS hU hW).1⟩⟩ rfl rfl L.1 hst (lv_room hw) d hcs
  obtain ⟨cell, q1, q2, q3, -⟩ := (zH_at hH (a := a) (by rw [hT]; omega) hi).1 ci _ hT h7
  exact ⟨cell, q1, by rw [q3]; rfl, by rw [q2]; exact (hC.1.1 ci _ h7).2.1⟩
theorem zW_cont {out : Zo} {a0 : Array Value} {st0 : List Value} (hr : vx_Run p l e R s mid args below meth c H locs c0 s0 mc' ms' (F0 mid pc la st0) rest (zQc ω ph out a0) (zXc ω ph out) (zA ω)) (hS : va_S (zA ω) s.heap H locs)
    (kk : ∀ (v : Option Value) (m' : Mm), out = (.inl v, m') → ∀ (H' : Heap) (locs' : List Loc), zH ω ph m' H' → va_S (zA ω) s.heap H' locs' → W p l e R s mid args below meth c H' locs' (c0 + mc') (s0 + ms') Q (F0 mid (pc + 3) la (v.toList ++ rest)))
    (kx : ∀ (e9 : Nat) (m' : Mm), out = (.inr e9, m') → ∀ (H' : Heap) (locs' : List Loc) (q : Nat) (ce : Cell), zH ω ph m' H' → va_S (zA ω) s.heap H' locs' → H'[q]? = some ce → ce.vm = .none → s.vm.findClass (zEx e9) = some ce.cls → vx_W p l e R s mid args below meth c H' locs' (c0 + mc') (s0 + ms') Q (F0 mid pc la rest) q) :
    W p l e R s mid args below meth c H locs c0 s0 Q (F0 mid pc la st0) := by
  intro T hT X
  rcases hr T hT X with ⟨v, st₀, t, T', L, h0, X', hL, e1, e2, ⟨v9, m', ho, hv, hwo, hF⟩, stp⟩ | ⟨q, st₀, t, T', L, E, ce, h0, X', hL, e1, e2, ⟨e9, m', ho, hE9, hwo, hF⟩, hce, hcv, hcl, stp⟩
  · cases hv
    obtain ⟨k1, k2, k3⟩ := vx_keep h0 e1 hS (fun _ _ h => h) (fun _ h => h) hL hF
    obtain ⟨t2, a1, b1⟩ := kk v m' ho T'.heap (locs ++ L) (by rw [e1]; exact hwo) k3 T' rfl X'
    exact ⟨t2, stp t2 a1, b1⟩
  · obtain ⟨k1, k2, k3⟩ := vx_keep h0 e1 hS (fun _ _ h => h) (fun _ h => h) hL hF
    subst hE9
    obtain ⟨t2, a1, b1⟩ := kx e9 m' ho T'.heap (locs ++ L) q ce (by rw [e1]; exact hwo) k3 (by rw [e1]; exact hce) hcv hcl T' rfl X'
    exact ⟨t2, stp.trans a1, b1⟩
end INNER
theorem x_callSI {f : Option (Int32 × Mm)} {K : Int32 → Mm → Option α} (hE : Ev ω ph D' mc' ms' y cc' nL' ret' As m fI f) (hM : zMs κ.1 idx y cc' nL' ret' As.length) (hst : st = As.reverse ++ rest) (hw : (rest.map fun v => v.category).sum ≤ 8) (hD : D' + 1 ≤ D) (hL : nL' ≤ 21) (hcs : c0 + mc' ≤ mc ∧ s0 + ms' ≤ ms) (d : decode κ.2.1 pc = .ok (.invokestatic idx, 3)) (k : ∀ v m', Sx ω0 ω ph D mc ms κ φ (c0 + mc') (s0 + ms') m' (pc + 3) ls (.int v :: rest) (K v m')) : Sx ω0 ω ph D mc ms κ φ c0 s0 m pc ls st (zBI f K) := by
  intro r hr p l e s mid args below meth c H locs la C L hH hS
  obtain ⟨r0, hf, hr⟩ := Option.bind_eq_some_iff.mp (show f.bind (fun r => K r.1 r.2) = some r from hr)
  exact zW_cont (zW_runS C L hH hS hE hf hM hst hw hD hL hcs d) hS
    (fun v m' ho H' locs' hH' hS' => by cases ho; exact k r0.1 r0.2 r hr p l e s mid args below meth c H' locs' la C L hH' hS')
    (fun e9 m' ho => by cases ho)
theorem x_callSL {f : Option (Int64 × Mm)} {K : Int64 → Mm → Option α} (hE : Ev ω ph D' mc' ms' y cc' nL' ret' As m fL f) (hM : zMs κ.1 idx y cc' nL' ret' As.length) (hst : st = As.reverse ++ rest) (hw : (rest.map fun v => v.category).sum ≤ 8) (hD : D' + 1 ≤ D) (hL : nL' ≤ 21) (hcs : c0 + mc' ≤ mc ∧ s0 + ms' ≤ ms) (d : decode κ.2.1 pc = .ok (.invokestatic idx, 3)) (k : ∀ v m', Sx ω0 ω ph D mc ms κ φ (c0 + mc') (s0 + ms') m' (pc + 3) ls (.long v :: rest) (K v m')) : Sx ω0 ω ph D mc ms κ φ c0 s0 m pc ls st (zBL f K) := by
  intro r hr p l e s mid args below meth c H locs la C L hH hS
  obtain ⟨r0, hf, hr⟩ := Option.bind_eq_some_iff.mp (show f.bind (fun r => K r.1 r.2) = some r from hr)
  exact zW_cont (zW_runS C L hH hS hE hf hM hst hw hD hL hcs d) hS
    (fun v m' ho H' locs' hH' hS' => by cases ho; exact k r0.1 r0.2 r hr p l e s mid args below meth c H' locs' la C L hH' hS')
    (fun e9 m' ho => by cases ho)
theorem x_callSR {f : Option (Nat × Mm)} {K : Nat → Mm → Option α} (hE : Ev ω ph D' mc' ms' y cc' nL' ret' As m (fR ω) f) (hM : zMs κ.1 idx y cc' nL' ret' As.length) (hst : st = As.reverse ++ rest) (hw : (rest.map fun v => v.category).sum ≤ 8) (hD : D' + 1 ≤ D) (hL : nL' ≤ 21) (hcs : c0 + mc' ≤ mc ∧ s0 + ms' ≤ ms) (d : decode κ.2.1 pc = .ok (.invokestatic idx, 3)) (k : ∀ v m', Sx ω0 ω ph D mc ms κ φ (c0 + mc') (s0 + ms') m' (pc + 3) ls (.ref (zad ω v) :: rest) (K v m')) : Sx ω0 ω ph D mc ms κ φ c0 s0 m pc ls st (zBR f K) := by
  intro r hr p l e s mid args below meth c H locs la C L hH hS
  obtain ⟨r0, hf, hr⟩ := Option.bind_eq_some_iff.mp (show f.bind (fun r => K r.1 r.2) = some r from hr)
  exact zW_cont (zW_runS C L hH hS hE hf hM hst hw hD hL hcs d) hS
    (fun v m' ho H' locs' hH' hS' => by cases ho; exact k r0.1 r0.2 r hr p l e s mid args below meth c H' locs' la C L hH' hS')
    (fun e9 m' ho => by cases ho)
theorem x_callSV {f : Option (Mm)} {K : Mm → Option α} (hE : Ev ω ph D' mc' ms' y cc' nL' ret' As m fV f) (hM : zMs κ.1 idx y cc' nL' ret' As.length) (hst : st = As.reverse ++ rest) (hw : (rest.map fun v => v.category).sum ≤ 8) (hD : D' + 1 ≤ D) (hL : nL' ≤ 21) (hcs : c0 + mc' ≤ mc ∧ s0 + ms' ≤ ms) (d : decode κ.2.1 pc = .ok (.invokestatic idx, 3)) (k : ∀ m', Sx ω0 ω ph D mc ms κ φ (c0 + mc') (s0 + ms') m' (pc + 3) ls rest (K m')) : Sx ω0 ω ph D mc ms κ φ c0 s0 m pc ls st (zBV f K) := by
  intro r hr p l e s mid args below meth c H locs la C L hH hS
  obtain ⟨r0, hf, hr⟩ := Option.bind_eq_some_iff.mp (show f.bind K = some r from hr)
  exact zW_cont (zW_runS C L hH hS hE hf hM hst hw hD hL hcs d) hS
    (fun v m' ho H' locs' hH' hS' => by cases ho; exact k r0 r hr p l e s mid args below meth c H' locs' la C L hH' hS')
    (fun e9 m' ho => by cases ho)
theorem x_callVI {a ci : Nat} {f : Option (Int32 × Mm)} {K : Int32 → Mm → Option α} (hE : Ev ω ph D' mc' ms' y cc' nL' ret' (.ref (zad ω a) :: As) m fI f) (hM : zMv κ.1 idx ci y cc' nL' ret' As.length) (hT : zT a = ci + 1) (hi : ph = true ∨ a < zN m) (hst : st = As.reverse ++ .ref (zad ω a) :: rest) (hw : (rest.map fun v => v.category).sum ≤ 8) (hD : D' + 1 ≤ D) (hL : nL' ≤ 21) (hcs : c0 + mc' ≤ mc ∧ s0 + ms' ≤ ms) (d : decode κ.2.1 pc = .ok (.invokevirtual idx, 3)) (k : ∀ v m', Sx ω0 ω ph D mc ms κ φ (c0 + mc') (s0 + ms') m' (pc + 3) ls (.int v :: rest) (K v m')) : Sx ω0 ω ph D mc ms κ φ c0 s0 m pc ls st (zBI f K) := by
  intro r hr p l e s mid args below meth c H locs la C L hH hS
  obtain ⟨r0, hf, hr⟩ := Option.bind_eq_some_iff.mp (show f.bind (fun r => K r.1 r.2) = some r from hr)
  exact zW_cont (zW_runV C L hH hS hE hf hM hT hi hst hw hD hL hcs d) hS
    (fun v m' ho H' locs' hH' hS' => by cases ho; exact k r0.1 r0.2 r hr p l e s mid args below meth c H' locs' la C L hH' hS')
    (fun e9 m' ho => by cases ho)
theorem x_callVL {a ci : Nat} {f : Option (Int64 × Mm)} {K : Int64 → Mm → Option α} (hE : Ev ω ph D' mc' ms' y cc' nL' ret' (.ref (zad ω a) :: As) m fL f) (hM : zMv κ.1 idx ci y cc' nL' ret' As.length) (hT : zT a = ci + 1) (hi : ph = true ∨ a < zN m) (hst : st = As.reverse ++ .ref (zad ω a) :: rest) (hw : (rest.map fun v => v.category).sum ≤ 8) (hD : D' + 1 ≤ D) (hL : nL' ≤ 21) (hcs : c0 + mc' ≤ mc ∧ s0 + ms' ≤ ms) (d : decode κ.2.1 pc = .ok (.invokevirtual idx, 3)) (k : ∀ v m', Sx ω0 ω ph D mc ms κ φ (c0 + mc') (s0 + ms') m' (pc + 3) ls (.long v :: rest) (K v m')) : Sx ω0 ω ph D mc ms κ φ c0 s0 m pc ls st (zBL f K) := by
  intro r hr p l e s mid args below meth c H locs la C L hH hS
  obtain ⟨r0, hf, hr⟩ := Option.bind_eq_some_iff.mp (show f.bind (fun r => K r.1 r.2) = some r from hr)
  exact zW_cont (zW_runV C L hH hS hE hf hM hT hi hst hw hD hL hcs d) hS
    (fun v m' ho H' locs' hH' hS' => by cases ho; exact k r0.1 r0.2 r hr p l e s mid args below meth c H' locs' la C L hH' hS')
    (fun e9 m' ho => by cases ho)
theorem x_callVR {a ci : Nat} {f : Option (Nat × Mm)} {K : Nat → Mm → Option α} (hE : Ev ω ph D' mc' ms' y cc' nL' ret' (.ref (zad ω a) :: As) m (fR ω) f) (hM : zMv κ.1 idx ci y cc' nL' ret' As.length) (hT : zT a = ci + 1) (hi : ph = true ∨ a < zN m) (hst : st = As.reverse ++ .ref (zad ω a) :: rest) (hw : (rest.map fun v => v.category).sum ≤ 8) (hD : D' + 1 ≤ D) (hL : nL' ≤ 21) (hcs : c0 + mc' ≤ mc ∧ s0 + ms' ≤ ms) (d : decode κ.2.1 pc = .ok (.invokevirtual idx, 3)) (k : ∀ v m', Sx ω0 ω ph D mc ms κ φ (c0 + mc') (s0 + ms') m' (pc + 3) ls (.ref (zad ω v) :: rest) (K v m')) : Sx ω0 ω ph D mc ms κ φ c0 s0 m pc ls st (zBR f K) := by
  intro r hr p l e s mid args below meth c H locs la C L hH hS
  obtain ⟨r0, hf, hr⟩ := Option.bind_eq_some_iff.mp (show f.bind (fun r => K r.1 r.2) = some r from hr)
  exact zW_cont (zW_runV C L hH hS hE hf hM hT hi hst hw hD hL hcs d) hS
    (fun v m' ho H' locs' hH' hS' => by cases ho; exact k r0.1 r0.2 r hr p l e s mid args below meth c H' locs' la C L hH' hS')
    (fun e9 m' ho => by cases ho)
theorem x_callVV {a ci : Nat} {f : Option (Mm)} {K : Mm → Option α} (hE : Ev ω ph D' mc' ms' y cc' nL' ret' (.ref (zad ω a) :: As) m fV f) (hM : zMv κ.1 idx ci y cc' nL' ret' As.length) (hT : zT a = ci + 1) (hi : ph = true ∨ a < zN m) (hst : st = As.reverse ++ .ref (zad ω a) :: rest) (hw : (rest.map fun v => v.category).sum ≤ 8) (hD : D' + 1 ≤ D) (hL : nL' ≤ 21) (hcs : c0 + mc' ≤ mc ∧ s0 + ms' ≤ ms) (d : decode κ.2.1 pc = .ok (.invokevirtual idx, 3)) (k : ∀ m', Sx ω0 ω ph D mc ms κ φ (c0 + mc') (s0 + ms') m' (pc + 3) ls rest (K m')) : Sx ω0 ω ph D mc ms κ φ c0 s0 m pc ls st (zBV f K) := by
  intro r hr p l e s mid args below meth c H locs la C L hH hS
  obtain ⟨r0, hf, hr⟩ := Option.bind_eq_some_iff.mp (show f.bind K = some r from hr)
  exact zW_cont (zW_runV C L hH hS hE hf hM hT hi hst hw hD hL hcs d) hS
    (fun v m' ho H' locs' hH' hS' => by cases ho; exact k r0 r hr p l e s mid args below meth c H' locs' la C L hH' hS')
    (fun e9 m' ho => by cases ho)
theorem x_callSX {f : Option ((Unit ⊕ Nat) × Mm)} {φ : (β ⊕ Nat) × Mm → Zo} {K : Mm → Option ((β ⊕ Nat) × Mm)} (hE : Ev ω ph D' mc' ms' y cc' nL' ret' As m fXV f) (hM : zMs κ.1 idx y cc' nL' ret' As.length) (hst : st = As.reverse ++ rest) (hw : (rest.map fun v => v.category).sum ≤ 8) (hD : D' + 1 ≤ D) (hL : nL' ≤ 21) (hcs : c0 + mc' ≤ mc ∧ s0 + ms' ≤ ms) (d : decode κ.2.1 pc = .ok (.invokestatic idx, 3)) (hφ : ∀ (e9 : Nat) (m9 : Mm), φ (.inr e9, m9) = (.inr e9, m9)) (hx0 : κ.2.2.2.2.1 = []) (k : ∀ m', Sx ω ω ph D mc ms κ φ (c0 + mc') (s0 + ms') m' (pc + 3) ls rest (K m')) : Sx ω ω ph D mc ms κ φ c0 s0 m pc ls st (zBXV f K) := by
  intro r hr p l e s mid args below meth c H locs la C L hH hS
  obtain ⟨⟨r1, r2⟩, hf, hr⟩ := Option.bind_eq_some_iff.mp (show f.bind (fun r => match r.1 with | .inl _ => K r.2 | .inr e => some (.inr e, r.2)) = some r from hr)
  cases r1 with
  | inl u =>
    exact zW_cont (zW_runS C L hH hS hE hf hM hst hw hD hL hcs d) hS
      (fun v m' ho H' locs' hH' hS' => by cases ho; exact k r2 r hr p l e s mid args below meth c H' locs' la C L hH' hS')
      (fun e9 m' ho => by cases ho)
  | inr e0 =>
    cases hr
    refine zW_cont (zW_runS C L hH hS hE hf hM hst hw hD hL hcs d) hS (fun v m' ho => by cases ho) (fun e9 m' ho H' locs' q ce hH' hS' hce hcv hcl => ?_)
    cases ho
    refine vx_out (fun x hx => ?_) C.2.2.2.2.2.2.1 hce hcv hcl (fun t ht hvm => ?_) hS'.2.2 hcs.1 hcs.2
    · rw [C.2.2.2.2.2.2.2.2.2.1, hx0] at hx
      exact absurd hx (by simp [tableOf])
    · rw [hφ]
      exact ⟨e0, r2, rfl, rfl, by rw [ht]; exact hH', by rw [ht]; exact hS'.1, fun q' h1 h2 => by rw [ht]; exact hS'.2.1 q' h1 h2⟩
theorem x_callVX {a ci : Nat} {f : Option ((Unit ⊕ Nat) × Mm)} {φ : (β ⊕ Nat) × Mm → Zo} {K : Mm → Option ((β ⊕ Nat) × Mm)} (hE : Ev ω ph D' mc' ms' y cc' nL' ret' (.ref (zad ω a) :: As) m fXV f) (hM : zMv κ.1 idx ci y cc' nL' ret' As.length) (hT : zT a = ci + 1) (hi : ph = true ∨ a < zN m) (hst : st = As.reverse ++ .ref (zad ω a) :: rest) (hw : (rest.map fun v => v.category).sum ≤ 8) (hD : D' + 1 ≤ D) (hL : nL' ≤ 21) (hcs : c0 + mc' ≤ mc ∧ s0 + ms' ≤ ms) (d : decode κ.2.1 pc = .ok (.invokevirtual idx, 3)) (hφ : ∀ (e9 : Nat) (m9 : Mm), φ (.inr e9, m9) = (.inr e9, m9)) (hx0 : κ.2.2.2.2.1 = []) (k : ∀ m', Sx ω ω ph D mc ms κ φ (c0 + mc') (s0 + ms') m' (pc + 3) ls rest (K m')) : Sx ω ω ph D mc ms κ φ c0 s0 m pc ls st (zBXV f K) := by
  intro r hr p l e s mid args below meth c H locs la C L hH hS
  obtain ⟨⟨r1, r2⟩, hf, hr⟩ := Option.bind_eq_some_iff.mp (show f.bind (fun r => match r.1 with | .inl _ => K r.2 | .inr e => some (.inr e, r.2)) = some r from hr)
  cases r1 with
  | inl u =>
    exact zW_cont (zW_runV C L hH hS hE hf hM hT hi hst hw hD hL hcs d) hS
      (fun v m' ho H' locs' hH' hS' => by cases ho; exact k r2 r hr p l e s mid args below meth c H' locs' la C L hH' hS')
      (fun e9 m' ho => by cases ho)
  | inr e0 =>
    cases hr
    refine zW_cont (zW_runV C L hH hS hE hf hM hT hi hst hw hD hL hcs d) hS (fun v m' ho => by cases ho) (fun e9 m' ho H' locs' q ce hH' hS' hce hcv hcl => ?_)
    cases ho
    refine vx_out (fun x hx => ?_) C.2.2.2.2.2.2.1 hce hcv hcl (fun t ht hvm => ?_) hS'.2.2 hcs.1 hcs.2
    · rw [C.2.2.2.2.2.2.2.2.2.1, hx0] at hx
      exact absurd hx (by simp [tableOf])
    · rw [hφ]
      exact ⟨e0, r2, rfl, rfl, by rw [ht]; exact hH', by rw [ht]; exact hS'.1, fun q' h1 h2 => by rw [ht]; exact hS'.2.1 q' h1 h2⟩
end ROWE
