/-! the same rows for methods that stand in the finished layout, with what a program prints -/
def zFlk (own : String) (idx ci k kind : Nat) : Prop := zFl own idx ci k ∧ zfk ci k = kind
def zFpk (own : String) (idx ci k kind : Nat) (ty : FieldType) : Prop := zFp own idx ci k false ty ∧ zfk ci k = kind
def fP (m : Mm) (v : Int32) : Zo := (.inl (some (.int v)), m)
def fPJ (m : Mm) (v : Int64) : Zo := (.inl (some (.long v)), m)
def fPR (ω : Wd) (m : Mm) (q : Nat) : Zo := (.inl (some (.ref (zad ω q))), m)
def zBP {α β : Type} (o : Option β) (K : β → Option α) : Option α := o.bind K
def zBQ {α : Type} (c : Nat) (o : Option Nat) (K : Nat → Option α) : Option α := o.bind fun q => if zT q = c then K q else none
def zGR {α : Type} (c q : Nat) (K : Nat → Option α) : Option α := if zT q = c then K q else none
def zFu : Nat := 1000
section ROWG
variable {ω0 ω : Wd} {D mc ms : Nat} {κ : Kx} {α β : Type} {φ : α → Zo} {c0 s0 c1 s1 : Nat} {m : Mm} {pc : Nat} {ls : List (Option Value)} {st : List Value} {t t1 t2 : Option α}
variable {D' mc' ms' idx nL' : Nat} {y : MethodName} {cc' : ByteArray} {ret' : Option FieldType} {As rest : List Value}
theorem y_getI {a ci k : Nat} (hf : zFlk κ.1 idx ci k 0) (hT : zT a = ci + 1) (d : decode κ.2.1 pc = .ok (.getfield idx, 3)) (k1 : Sx ω0 ω true D mc ms κ φ c0 s0 m (pc + 3) ls (.int (zI m a k) :: st) t) : Sx ω0 ω true D mc ms κ φ c0 s0 m pc ls (.ref (zad ω a) :: st) t := x_getI hf.1 hf.2 hT (Or.inl rfl) d k1
theorem y_getL {a ci k : Nat} (hf : zFlk κ.1 idx ci k 2) (hT : zT a = ci + 1) (d : decode κ.2.1 pc = .ok (.getfield idx, 3)) (k1 : Sx ω0 ω true D mc ms κ φ c0 s0 m (pc + 3) ls (.long (zL m a k) :: st) t) : Sx ω0 ω true D mc ms κ φ c0 s0 m pc ls (.ref (zad ω a) :: st) t := x_getL hf.1 hf.2 hT (Or.inl rfl) d k1
theorem y_getF {a ci k q : Nat} (hf : zFlk κ.1 idx ci k 1) (hT : zT a = ci + 1) (hq : zRf a k = q) (hT' : zT q ≠ 0) (d : decode κ.2.1 pc = .ok (.getfield idx, 3)) (k1 : Sx ω0 ω true D mc ms κ φ c0 s0 m (pc + 3) ls (.ref (zad ω q) :: st) t) : Sx ω0 ω true D mc ms κ φ c0 s0 m pc ls (.ref (zad ω a) :: st) t :=
  x_getF hf.1 hf.2 hT hq (fun h => hT' (by rw [h]; rfl)) d k1
theorem y_getR {a ci k c : Nat} {f : Nat → Option α} (hf : zFlk κ.1 idx ci k 1) (hT : zT a = ci + 1) (hc : c ≠ 0) (d : decode κ.2.1 pc = .ok (.getfield idx, 3)) (k1 : ∀ q, zT q = c → Sx ω0 ω true D mc ms κ φ c0 s0 m (pc + 3) ls (.ref (zad ω q) :: st) (f q)) : Sx ω0 ω true D mc ms κ φ c0 s0 m pc ls (.ref (zad ω a) :: st) (zGR c (zR m a k) f) :=
  x_guard fun hq => x_getR hf.1 hf.2 hT (Or.inl rfl) (fun h => hc (by rw [← hq, h]; rfl)) d (k1 _ hq)
theorem y_putI {a ci k : Nat} {v : Int32} (hf : zFpk κ.1 idx ci k 0 .int) (hT : zT a = ci + 1) (d : decode κ.2.1 pc = .ok (.putfield idx, 3)) (k1 : Sx ω0 ω true D mc ms κ φ c0 s0 (wI m a k v) (pc + 3) ls st t) : Sx ω0 ω true D mc ms κ φ c0 s0 m pc ls (.int v :: .ref (zad ω a) :: st) t :=
  x_putI hf.1 hf.2 hT (Or.inl rfl) (fun h => by cases h) rfl rfl d k1
theorem y_putZ {a ci k : Nat} {v : Int32} (hf : zFpk κ.1 idx ci k 0 .boolean) (hT : zT a = ci + 1) (hv : zBo v) (d : decode κ.2.1 pc = .ok (.putfield idx, 3)) (k1 : Sx ω0 ω true D mc ms κ φ c0 s0 (wI m a k v) (pc + 3) ls st t) : Sx ω0 ω true D mc ms κ φ c0 s0 m pc ls (.int v :: .ref (zad ω a) :: st) t :=
  x_putI hf.1 hf.2 hT (Or.inl rfl) (fun h => by cases h) (zBo_nar hv) (by rcases hv with rfl | rfl <;> rfl) d k1
theorem y_putL {a ci k : Nat} {v : Int64} (hf : zFpk κ.1 idx ci k 2 .long) (hT : zT a = ci + 1) (d : decode κ.2.1 pc = .ok (.putfield idx, 3)) (k1 : Sx ω0 ω true D mc ms κ φ c0 s0 (wL m a k v) (pc + 3) ls st t) : Sx ω0 ω true D mc ms κ φ c0 s0 m pc ls (.long v :: .ref (zad ω a) :: st) t :=
  x_putL hf.1 hf.2 hT (Or.inl rfl) (fun h => by cases h) d k1
theorem y_putR {a ci k q : Nat} {n : String} (hf : zFpk κ.1 idx ci k 1 (.object n)) (hT : zT a = ci + 1) (hq : zT q ≠ 0) (h0 : zRf a k = 0) (d : decode κ.2.1 pc = .ok (.putfield idx, 3)) (k1 : Sx ω0 ω true D mc ms κ φ c0 s0 (wR m a k q) (pc + 3) ls st t) : Sx ω0 ω true D mc ms κ φ c0 s0 m pc ls (.ref (zad ω q) :: .ref (zad ω a) :: st) t :=
  x_putR hf.1 hf.2 hT (Or.inl rfl) (fun h => by cases h) (fun _ => ⟨rfl, rfl⟩) (fun h => hq (by rw [h]; rfl)) (fun _ => h0) d k1
theorem y_iald {a n : Nat} {i : Int32} (hT : zT a = 100) (hn : zLn a = n) (d : decode κ.2.1 pc = .ok (.iaload, 1)) (k1 : zIn i n → Sx ω0 ω true D mc ms κ φ c0 s0 m (pc + 1) ls (.int (zI m a (zIx i)) :: st) t) : Sx ω0 ω true D mc ms κ φ c0 s0 m pc ls (.int i :: .ref (zad ω a) :: st) (if zIn i n then t else none) := by subst hn; exact x_iald hT (Or.inl rfl) d k1
theorem y_cald {a n : Nat} {i : Int32} (hT : zT a = 101) (hn : zLn a = n) (d : decode κ.2.1 pc = .ok (.caload, 1)) (k1 : zIn i n → Sx ω0 ω true D mc ms κ φ c0 s0 m (pc + 1) ls (.int (zI m a (zIx i)) :: st) t) : Sx ω0 ω true D mc ms κ φ c0 s0 m pc ls (.int i :: .ref (zad ω a) :: st) (if zIn i n then t else none) := by subst hn; exact x_cald hT (Or.inl rfl) d k1
theorem y_iast {a n : Nat} {i v : Int32} (hT : zT a = 100) (hn : zLn a = n) (d : decode κ.2.1 pc = .ok (.iastore, 1)) (k1 : zIn i n → Sx ω0 ω true D mc ms κ φ c0 s0 (wI m a (zIx i) v) (pc + 1) ls st t) : Sx ω0 ω true D mc ms κ φ c0 s0 m pc ls (.int v :: .int i :: .ref (zad ω a) :: st) (if zIn i n then t else none) := by subst hn; exact x_iast hT (Or.inl rfl) d k1
theorem y_cast {a n : Nat} {i v : Int32} (hT : zT a = 101) (hn : zLn a = n) (hv : zCh v) (d : decode κ.2.1 pc = .ok (.castore, 1)) (k1 : zIn i n → Sx ω0 ω true D mc ms κ φ c0 s0 (wI m a (zIx i) v) (pc + 1) ls st t) : Sx ω0 ω true D mc ms κ φ c0 s0 m pc ls (.int v :: .int i :: .ref (zad ω a) :: st) (if zIn i n then t else none) := by
  subst hn
  exact x_cast hT (Or.inl rfl) d (fun h => by
    have e : vp_nar .char v = v := by unfold vp_nar; rw [zCh_nar hv]
    rw [e]
    exact k1 h)
theorem y_aald {a t0 n : Nat} {q : Nat → Nat} {i : Int32} (h45 : t0 = 4 ∨ t0 = 5) (hT : zT a = 100 + t0) (hn : zLn a = n) (hq : ∀ j, j < n → zRf a j = q j ∧ zT (q j) ≠ 0) (d : decode κ.2.1 pc = .ok (.aaload, 1)) (k1 : zIn i n → Sx ω0 ω true D mc ms κ φ c0 s0 m (pc + 1) ls (.ref (zad ω (q (zIx i))) :: st) t) : Sx ω0 ω true D mc ms κ φ c0 s0 m pc ls (.int i :: .ref (zad ω a) :: st) (if zIn i n then t else none) := by
  subst hn
  exact x_aald h45 hT d (fun h => ⟨(hq _ h.2).1, fun e => (hq _ h.2).2 (by rw [e]; rfl)⟩) k1
theorem y_alen {a t0 n : Nat} {v : Int32} (h6 : t0 < 6) (hT : zT a = 100 + t0) (hn : zLn a = n) (hv : Int32.ofNat n = v) (d : decode κ.2.1 pc = .ok (.arraylength, 1)) (k1 : Sx ω0 ω true D mc ms κ φ c0 s0 m (pc + 1) ls (.int v :: st) t) : Sx ω0 ω true D mc ms κ φ c0 s0 m pc ls (.ref (zad ω a) :: st) t := by subst hn; exact x_alen h6 hT (Or.inl rfl) hv d k1
theorem y_copy {a0 a t0 : Nat} {n : Int32} (h01 : t0 = 0 ∨ t0 = 1) (hw : Cond.methodLink κ.1 idx arraycopyName ∈ zG) (h0 : zT a0 = 100 + t0) (h1 : zT a = 100 + t0) (hwt : (st.map fun v => v.category).sum ≤ 8) (hD : 1 ≤ D) (d : decode κ.2.1 pc = .ok (.invokestatic idx, 3)) (k : zCpy m t0 a0 a n → Sx ω0 ω true D mc ms κ φ c0 s0 (wC m a0 a (zIx n)) (pc + 3) ls st t) : Sx ω0 ω true D mc ms κ φ c0 s0 m pc ls (.int n :: .int 0 :: .ref (zad ω a) :: .int 0 :: .ref (zad ω a0) :: st) (if zCpy m t0 a0 a n then t else none) := x_copy h01 hw h0 h1 hwt hD d k
theorem y_letI {e : Int32} {f : Int32 → Option α} (k : ∀ x, Sx ω0 ω true D mc ms κ φ c0 s0 m pc ls (.int x :: st) (f x)) : Sx ω0 ω true D mc ms κ φ c0 s0 m pc ls (.int e :: st) (zLet e f) := k e
theorem y_letM {e : Mm} {f : Mm → Option α} (k : ∀ x, Sx ω0 ω true D mc ms κ φ c0 s0 x pc ls st (f x)) : Sx ω0 ω true D mc ms κ φ c0 s0 e pc ls st (zLet e f) := k e
theorem y_iinc {i : Nat} {n : Int} {x w : Int32} {f : Int32 → Option α} (d : decode κ.2.1 pc = .ok (.iinc i n, 3)) (h0 : ls[i]? = some (some (.int x))) (hw : Int32.ofInt n = w) (hn : i < κ.2.2.1) (k : ∀ v, Sx ω0 ω true D mc ms κ φ c0 s0 m (pc + 3) (ls.set i (some (.int v))) st (f v)) : Sx ω0 ω true D mc ms κ φ c0 s0 m pc ls st (zLet (x + w) f) := by
  subst hw
  exact x_iinc d h0 rfl hn rfl (k _)
theorem y_join {γ : Type} {J : γ} {f : γ → Option α} (P : γ → Prop) (hJ : P J) (k : ∀ j, P j → Sx ω0 ω true D mc ms κ φ c0 s0 m pc ls st (f j)) : Sx ω0 ω true D mc ms κ φ c0 s0 m pc ls st (zLet J f) := k J hJ
/-! calls -/
theorem y_callSI {f : Option (Int32 × Mm)} {K : Int32 → Mm → Option α} (hE : Ev ω true D' mc' ms' y cc' nL' ret' As m fI f) (hM : zMs κ.1 idx y cc' nL' ret' As.length) (hst : st = As.reverse ++ rest) (hw : (rest.map fun v => v.category).sum ≤ 8) (hD : D' + 1 ≤ D) (hL : nL' ≤ 21) (hc : c0 + mc' = c1 ∧ s0 + ms' = s1) (hcs : c1 ≤ mc ∧ s1 ≤ ms) (d : decode κ.2.1 pc = .ok (.invokestatic idx, 3)) (k : ∀ v m', Sx ω0 ω true D mc ms κ φ c1 s1 m' (pc + 3) ls (.int v :: rest) (K v m')) : Sx ω0 ω true D mc ms κ φ c0 s0 m pc ls st (zBI f K) := x_callSI hE hM hst hw hD hL ⟨by rw [hc.1]; exact hcs.1, by rw [hc.2]; exact hcs.2⟩ d (by rw [hc.1, hc.2]; exact k)
theorem y_callSL {f : Option (Int64 × Mm)} {K : Int64 → Mm → Option α} (hE : Ev ω true D' mc' ms' y cc' nL' ret' As m fL f) (hM : zMs κ.1 idx y cc' nL' ret' As.length) (hst : st = As.reverse ++ rest) (hw : (rest.map fun v => v.category).sum ≤ 8) (hD : D' + 1 ≤ D) (hL : nL' ≤ 21) (hc : c0 + mc' = c1 ∧ s0 + ms' = s1) (hcs : c1 ≤ mc ∧ s1 ≤ ms) (d : decode κ.2.1 pc = .ok (.invokestatic idx, 3)) (k : ∀ v m', Sx ω0 ω true D mc ms κ φ c1 s1 m' (pc + 3) ls (.long v :: rest) (K v m')) : Sx ω0 ω true D mc ms κ φ c0 s0 m pc ls st (zBL f K) := x_callSL hE hM hst hw hD hL ⟨by rw [hc.1]; exact hcs.1, by rw [hc.2]; exact hcs.2⟩ d (by rw [hc.1, hc.2]; exact k)
theorem y_callSV {f : Option (Mm)} {K : Mm → Option α} (hE : Ev ω true D' mc' ms' y cc' nL' ret' As m fV f) (hM : zMs κ.1 idx y cc' nL' ret' As.length) (hst : st = As.reverse ++ rest) (hw : (rest.map fun v => v.category).sum ≤ 8) (hD : D' + 1 ≤ D) (hL : nL' ≤ 21) (hc : c0 + mc' = c1 ∧ s0 + ms' = s1) (hcs : c1 ≤ mc ∧ s1 ≤ ms) (d : decode κ.2.1 pc = .ok (.invokestatic idx, 3)) (k : ∀ m', Sx ω0 ω true D mc ms κ φ c1 s1 m' (pc + 3) ls rest (K m')) : Sx ω0 ω true D mc ms κ φ c0 s0 m pc ls st (zBV f K) := x_callSV hE hM hst hw hD hL ⟨by rw [hc.1]; exact hcs.1, by rw [hc.2]; exact hcs.2⟩ d (by rw [hc.1, hc.2]; exact k)
theorem y_callSP {f : Option Int32} {K : Int32 → Option α} (hE : Ev ω true D' mc' ms' y cc' nL' ret' As m (fP m) f) (hM : zMs κ.1 idx y cc' nL' ret' As.length) (hst : st = As.reverse ++ rest) (hw : (rest.map fun v => v.category).sum ≤ 8) (hD : D' + 1 ≤ D) (hL : nL' ≤ 21) (hc : c0 + mc' = c1 ∧ s0 + ms' = s1) (hcs : c1 ≤ mc ∧ s1 ≤ ms) (d : decode κ.2.1 pc = .ok (.invokestatic idx, 3)) (k : ∀ v, Sx ω0 ω true D mc ms κ φ c1 s1 m (pc + 3) ls (.int v :: rest) (K v)) : Sx ω0 ω true D mc ms κ φ c0 s0 m pc ls st (zBP f K) := by
  intro r hr p l e s mid args below meth c H locs la C L hH hS
  obtain ⟨r0, hf, hr⟩ := Option.bind_eq_some_iff.mp (show f.bind K = some r from hr)
  exact zW_cont (zW_runS C L hH hS hE hf hM hst hw hD hL ⟨by rw [hc.1]; exact hcs.1, by rw [hc.2]; exact hcs.2⟩ d) hS
    (fun v m' ho H' locs' hH' hS' => by rw [hc.1, hc.2]; cases ho; exact k r0 r hr p l e s mid args below meth c H' locs' la C L hH' hS')
    (fun e9 m' ho => by cases ho)
theorem y_callSJ {f : Option Int64} {K : Int64 → Option α} (hE : Ev ω true D' mc' ms' y cc' nL' ret' As m (fPJ m) f) (hM : zMs κ.1 idx y cc' nL' ret' As.length) (hst : st = As.reverse ++ rest) (hw : (rest.map fun v => v.category).sum ≤ 8) (hD : D' + 1 ≤ D) (hL : nL' ≤ 21) (hc : c0 + mc' = c1 ∧ s0 + ms' = s1) (hcs : c1 ≤ mc ∧ s1 ≤ ms) (d : decode κ.2.1 pc = .ok (.invokestatic idx, 3)) (k : ∀ v, Sx ω0 ω true D mc ms κ φ c1 s1 m (pc + 3) ls (.long v :: rest) (K v)) : Sx ω0 ω true D mc ms κ φ c0 s0 m pc ls st (zBP f K) := by
  intro r hr p l e s mid args below meth c H locs la C L hH hS
  obtain ⟨r0, hf, hr⟩ := Option.bind_eq_some_iff.mp (show f.bind K = some r from hr)
  exact zW_cont (zW_runS C L hH hS hE hf hM hst hw hD hL ⟨by rw [hc.1]; exact hcs.1, by rw [hc.2]; exact hcs.2⟩ d) hS
    (fun v m' ho H' locs' hH' hS' => by rw [hc.1, hc.2]; cases ho; exact k r0 r hr p l e s mid args below meth c H' locs' la C L hH' hS')
    (fun e9 m' ho => by cases ho)
theorem y_callSQ {c9 : Nat} {f : Option Nat} {K : Nat → Option α} (hE : Ev ω true D' mc' ms' y cc' nL' ret' As m (fPR ω m) f) (hM : zMs κ.1 idx y cc' nL' ret' As.length) (hst : st = As.reverse ++ rest) (hw : (rest.map fun v => v.category).sum ≤ 8) (hD : D' + 1 ≤ D) (hL : nL' ≤ 21) (hc : c0 + mc' = c1 ∧ s0 + ms' = s1) (hcs : c1 ≤ mc ∧ s1 ≤ ms) (d : decode κ.2.1 pc = .ok (.invokestatic idx, 3)) (k : ∀ q, zT q = c9 → Sx ω0 ω true D mc ms κ φ c1 s1 m (pc + 3) ls (.ref (zad ω q) :: rest) (K q)) : Sx ω0 ω true D mc ms κ φ c0 s0 m pc ls st (zBQ c9 f K) := by
  intro r hr p l e s mid args below meth c H locs la C L hH hS
  obtain ⟨r0, hf, hr⟩ := Option.bind_eq_some_iff.mp (show f.bind (fun q => if zT q = c9 then K q else none) = some r from hr)
  by_cases hq : zT r0 = c9
  · rw [if_pos hq] at hr
    exact zW_cont (zW_runS C L hH hS hE hf hM hst hw hD hL ⟨by rw [hc.1]; exact hcs.1, by rw [hc.2]; exact hcs.2⟩ d) hS
      (fun v m' ho H' locs' hH' hS' => by rw [hc.1, hc.2]; cases ho; exact k r0 hq r hr p l e s mid args below meth c H' locs' la C L hH' hS')
      (fun e9 m' ho => by cases ho)
  · rw [if_neg hq] at hr
    cases hr
theorem y_callSX {f : Option ((Unit ⊕ Nat) × Mm)} {φ : (β ⊕ Nat) × Mm → Zo} {K : Mm → Option ((β ⊕ Nat) × Mm)} (hE : Ev ω true D' mc' ms' y cc' nL' ret' As m fXV f) (hM : zMs κ.1 idx y cc' nL' ret' As.length) (hst : st = As.reverse ++ rest) (hw : (rest.map fun v => v.category).sum ≤ 8) (hD : D' + 1 ≤ D) (hL : nL' ≤ 21) (hc : c0 + mc' = c1 ∧ s0 + ms' = s1) (hcs : c1 ≤ mc ∧ s1 ≤ ms) (d : decode κ.2.1 pc = .ok (.invokestatic idx, 3)) (hφ : ∀ (e9 : Nat) (m9 : Mm), φ (.inr e9, m9) = (.inr e9, m9)) (hx0 : κ.2.2.2.2.1 = []) (k : ∀ m', Sx ω ω true D mc ms κ φ c1 s1 m' (pc + 3) ls rest (K m')) : Sx ω ω true D mc ms κ φ c0 s0 m pc ls st (zBXV f K) := x_callSX hE hM hst hw hD hL ⟨by rw [hc.1]; exact hcs.1, by rw [hc.2]; exact hcs.2⟩ d hφ hx0 (by rw [hc.1, hc.2]; exact k)
theorem y_callVI {a ci : Nat} {f : Option (Int32 × Mm)} {K : Int32 → Mm → Option α} (hE : Ev ω true D' mc' ms' y cc' nL' ret' (.ref (zad ω a) :: As) m fI f) (hM : zMv κ.1 idx ci y cc' nL' ret' As.length) (hT : zT a = ci + 1) (hst : st = As.reverse ++ .ref (zad ω a) :: rest) (hw : (rest.map fun v => v.category).sum ≤ 8) (hD : D' + 1 ≤ D) (hL : nL' ≤ 21) (hc : c0 + mc' = c1 ∧ s0 + ms' = s1) (hcs : c1 ≤ mc ∧ s1 ≤ ms) (d : decode κ.2.1 pc = .ok (.invokevirtual idx, 3)) (k : ∀ v m', Sx ω0 ω true D mc ms κ φ c1 s1 m' (pc + 3) ls (.int v :: rest) (K v m')) : Sx ω0 ω true D mc ms κ φ c0 s0 m pc ls st (zBI f K) := x_callVI hE hM hT (Or.inl rfl) hst hw hD hL ⟨by rw [hc.1]; exact hcs.1, by rw [hc.2]; exact hcs.2⟩ d (by rw [hc.1, hc.2]; exact k)
theorem y_callVL {a ci : Nat} {f : Option (Int64 × Mm)} {K : Int64 → Mm → Option α} (hE : Ev ω true D' mc' ms' y cc' nL' ret' (.ref (zad ω a) :: As) m fL f) (hM : zMv κ.1 idx ci y cc' nL' ret' As.length) (hT : zT a = ci + 1) (hst : st = As.reverse ++ .ref (zad ω a) :: rest) (hw : (rest.map fun v => v.category).sum ≤ 8) (hD : D' + 1 ≤ D) (hL : nL' ≤ 21) (hc : c0 + mc' = c1 ∧ s0 + ms' = s1) (hcs : c1 ≤ mc ∧ s1 ≤ ms) (d : decode κ.2.1 pc = .ok (.invokevirtual idx, 3)) (k : ∀ v m', Sx ω0 ω true D mc ms κ φ c1 s1 m' (pc + 3) ls (.long v :: rest) (K v m')) : Sx ω0 ω true D mc ms κ φ c0 s0 m pc ls st (zBL f K) := x_callVL hE hM hT (Or.inl rfl) hst hw hD hL ⟨by rw [hc.1]; exact hcs.1, by rw [hc.2]; exact hcs.2⟩ d (by rw [hc.1, hc.2]; exact k)
theorem y_callVV {a ci : Nat} {f : Option (Mm)} {K : Mm → Option α} (hE : Ev ω true D' mc' ms' y cc' nL' ret' (.ref (zad ω a) :: As) m fV f) (hM : zMv κ.1 idx ci y cc' nL' ret' As.length) (hT : zT a = ci + 1) (hst : st = As.reverse ++ .ref (zad ω a) :: rest) (hw : (rest.map fun v => v.category).sum ≤ 8) (hD : D' + 1 ≤ D) (hL : nL' ≤ 21) (hc : c0 + mc' = c1 ∧ s0 + ms' = s1) (hcs : c1 ≤ mc ∧ s1 ≤ ms) (d : decode κ.2.1 pc = .ok (.invokevirtual idx, 3)) (k : ∀ m', Sx ω0 ω true D mc ms κ φ c1 s1 m' (pc + 3) ls rest (K m')) : Sx ω0 ω true D mc ms κ φ c0 s0 m pc ls st (zBV f K) := x_callVV hE hM hT (Or.inl rfl) hst hw hD hL ⟨by rw [hc.1]; exact hcs.1, by rw [hc.2]; exact hcs.2⟩ d (by rw [hc.1, hc.2]; exact k)
theorem y_callVP {a ci : Nat} {f : Option Int32} {K : Int32 → Option α} (hE : Ev ω true D' mc' ms' y cc' nL' ret' (.ref (zad ω a) :: As) m (fP m) f) (hM : zMv κ.1 idx ci y cc' nL' ret' As.length) (hT : zT a = ci + 1) (hst : st = As.reverse ++ .ref (zad ω a) :: rest) (hw : (rest.map fun v => v.category).sum ≤ 8) (hD : D' + 1 ≤ D) (hL : nL' ≤ 21) (hc : c0 + mc' = c1 ∧ s0 + ms' = s1) (hcs : c1 ≤ mc ∧ s1 ≤ ms) (d : decode κ.2.1 pc = .ok (.invokevirtual idx, 3)) (k : ∀ v, Sx ω0 ω true D mc ms κ φ c1 s1 m (pc + 3) ls (.int v :: rest) (K v)) : Sx ω0 ω true D mc ms κ φ c0 s0 m pc ls st (zBP f K) := by
  intro r hr p l e s mid args below meth c H locs la C L hH hS
  obtain ⟨r0, hf, hr⟩ := Option.bind_eq_some_iff.mp (show f.bind K = some r from hr)
  exact zW_cont (zW_runV C L hH hS hE hf hM hT (Or.inl rfl) hst hw hD hL ⟨by rw [hc.1]; exact hcs.1, by rw [hc.2]; exact hcs.2⟩ d) hS
    (fun v m' ho H' locs' hH' hS' => by rw [hc.1, hc.2]; cases ho; exact k r0 r hr p l e s mid args below meth c H' locs' la C L hH' hS')
    (fun e9 m' ho => by cases ho)
theorem y_callVJ {a ci : Nat} {f : Option Int64} {K : Int64 → Option α} (hE : Ev ω true D' mc' ms' y cc' nL' ret' (.ref (zad ω a) :: As) m (fPJ m) f) (hM : zMv κ.1 idx ci y cc' nL' ret' As.length) (hT : zT a = ci + 1) (hst : st = As.reverse ++ .ref (zad ω a) :: rest) (hw : (rest.map fun v => v.category).sum ≤ 8) (hD : D' + 1 ≤ D) (hL : nL' ≤ 21) (hc : c0 + mc' = c1 ∧ s0 + ms' = s1) (hcs : c1 ≤ mc ∧ s1 ≤ ms) (d : decode κ.2.1 pc = .ok (.invokevirtual idx, 3)) (k : ∀ v, Sx ω0 ω true D mc ms κ φ c1 s1 m (pc + 3) ls (.long v :: rest) (K v)) : Sx ω0 ω true D mc ms κ φ c0 s0 m pc ls st (zBP f K) := by
  intro r hr p l e s mid args below meth c H locs la C L hH hS
  obtain ⟨r0, hf, hr⟩ := Option.bind_eq_some_iff.mp (show f.bind K = some r from hr)
  exact zW_cont (zW_runV C L hH hS hE hf hM hT (Or.inl rfl) hst hw hD hL ⟨by rw [hc.1]; exact hcs.1, by rw [hc.2]; exact hcs.2⟩ d) hS
    (fun v m' ho H' locs' hH' hS' => by rw [hc.1, hc.2]; cases ho; exact k r0 r hr p l e s mid args below meth c H' locs' la C L hH' hS')
    (fun e9 m' ho => by cases ho)
theorem y_callVQ {c9 : Nat} {a ci : Nat} {f : Option Nat} {K : Nat → Option α} (hE : Ev ω true D' mc' ms' y cc' nL' ret' (.ref (zad ω a) :: As) m (fPR ω m) f) (hM : zMv κ.1 idx ci y cc' nL' ret' As.length) (hT : zT a = ci + 1) (hst : st = As.reverse ++ .ref (zad ω a) :: rest) (hw : (rest.map fun v => v.category).sum ≤ 8) (hD : D' + 1 ≤ D) (hL : nL' ≤ 21) (hc : c0 + mc' = c1 ∧ s0 + ms' = s1) (hcs : c1 ≤ mc ∧ s1 ≤ ms) (d : decode κ.2.1 pc = .ok (.invokevirtual idx, 3)) (k : ∀ q, zT q = c9 → Sx ω0 ω true D mc ms κ φ c1 s1 m (pc + 3) ls (.ref (zad ω q) :: rest) (K q)) : Sx ω0 ω true D mc ms κ φ c0 s0 m pc ls st (zBQ c9 f K) := by
  intro r hr p l e s mid args below meth c H locs la C L hH hS
  obtain ⟨r0, hf, hr⟩ := Option.bind_eq_some_iff.mp (show f.bind (fun q => if zT q = c9 then K q else none) = some r from hr)
  by_cases hq : zT r0 = c9
  · rw [if_pos hq] at hr
    exact zW_cont (zW_runV C L hH hS hE hf hM hT (Or.inl rfl) hst hw hD hL ⟨by rw [hc.1]; exact hcs.1, by rw [hc.2]; exact hcs.2⟩ d) hS
      (fun v m' ho H' locs' hH' hS' => by rw [hc.1, hc.2]; cases ho; exact k r0 hq r hr p l e s mid args below meth c H' locs' la C L hH' hS')
      (fun e9 m' ho => by cases ho)
  · rw [if_neg hq] at hr
    cases hr
theorem y_callVX {a ci : Nat} {f : Option ((Unit ⊕ Nat) × Mm)} {φ : (β ⊕ Nat) × Mm → Zo} {K : Mm → Option ((β ⊕ Nat) × Mm)} (hE : Ev ω true D' mc' ms' y cc' nL' ret' (.ref (zad ω a) :: As) m fXV f) (hM : zMv κ.1 idx ci y cc' nL' ret' As.length) (hT : zT a = ci + 1) (hst : st = As.reverse ++ .ref (zad ω a) :: rest) (hw : (rest.map fun v => v.category).sum ≤ 8) (hD : D' + 1 ≤ D) (hL : nL' ≤ 21) (hc : c0 + mc' = c1 ∧ s0 + ms' = s1) (hcs : c1 ≤ mc ∧ s1 ≤ ms) (d : decode κ.2.1 pc = .ok (.invokevirtual idx, 3)) (hφ : ∀ (e9 : Nat) (m9 : Mm), φ (.inr e9, m9) = (.inr e9, m9)) (hx0 : κ.2.2.2.2.1 = []) (k : ∀ m', Sx ω ω true D mc ms κ φ c1 s1 m' (pc + 3) ls rest (K m')) : Sx ω ω true D mc ms κ φ c0 s0 m pc ls st (zBXV f K) := x_callVX hE hM hT (Or.inl rfl) hst hw hD hL ⟨by rw [hc.1]; exact hcs.1, by rw [hc.2]; exact hcs.2⟩ d hφ hx0 (by rw [hc.1, hc.2]; exact k)
def zLp0 {β : Type} (F : (Mm → Option β) → Mm → Option β) : Nat → Mm → Option β
  | 0, _ => none
  | n + 1, m => F (zLp0 F n) m
theorem y_Lp0 {F : (Mm → Option α) → Mm → Option α} (LS : List (Option Value)) (h : ∀ rec : Mm → Option α, (∀ (m : Mm), Sx ω0 ω true D mc ms κ φ c0 s0 m pc LS st (rec m)) → ∀ (m : Mm), Sx ω0 ω true D mc ms κ φ c0 s0 m pc LS st (F rec m)) : ∀ (n : Nat) (m : Mm), Sx ω0 ω true D mc ms κ φ c0 s0 m pc LS st (zLp0 F n m) := by
  intro n
  induction n with
  | zero => intro m r hr; cases hr
  | succ n ih => intro m; exact h _ ih m
def zLp1 {β : Type} (F : (Int32 → Mm → Option β) → Int32 → Mm → Option β) : Nat → Int32 → Mm → Option β
  | 0, _, _ => none
  | n + 1, x0, m => F (zLp1 F n) x0 m
theorem y_Lp1 {F : (Int32 → Mm → Option α) → Int32 → Mm → Option α} (LS : Int32 → List (Option Value)) (h : ∀ rec : Int32 → Mm → Option α, (∀ (x0 : Int32) (m : Mm), Sx ω0 ω true D mc ms κ φ c0 s0 m pc (LS x0) st (rec x0 m)) → ∀ (x0 : Int32) (m : Mm), Sx ω0 ω true D mc ms κ φ c0 s0 m pc (LS x0) st (F rec x0 m)) : ∀ (n : Nat) (x0 : Int32) (m : Mm), Sx ω0 ω true D mc ms κ φ c0 s0 m pc (LS x0) st (zLp1 F n x0 m) := by
  intro n
  induction n with
  | zero => intro x0 m r hr; cases hr
  | succ n ih => intro x0 m; exact h _ ih x0 m
def zLp2 {β : Type} (F : (Int32 → Int32 → Mm → Option β) → Int32 → Int32 → Mm → Option β) : Nat → Int32 → Int32 → Mm → Option β
  | 0, _, _, _ => none
  | n + 1, x0, x1, m => F (zLp2 F n) x0 x1 m
theorem y_Lp2 {F : (Int32 → Int32 → Mm → Option α) → Int32 → Int32 → Mm → Option α} (LS : Int32 → Int32 → List (Option Value)) (h : ∀ rec : Int32 → Int32 → Mm → Option α, (∀ (x0 x1 : Int32) (m : Mm), Sx ω0 ω true D mc ms κ φ c0 s0 m pc (LS x0 x1) st (rec x0 x1 m)) → ∀ (x0 x1 : Int32) (m : Mm), Sx ω0 ω true D mc ms κ φ c0 s0 m pc (LS x0 x1) st (F rec x0 x1 m)) : ∀ (n : Nat) (x0 x1 : Int32) (m : Mm), Sx ω0 ω true D mc ms κ φ c0 s0 m pc (LS x0 x1) st (zLp2 F n x0 x1 m) := by
  intro n
  induction n with
  | zero => intro x0 x1 m r hr; cases hr
  | succ n ih => intro x0 x1 m; exact h _ ih x0 x1 m
def zLp3 {β : Type} (F : (Int32 → Int32 → Int32 → Mm → Option β) → Int32 → Int32 → Int32 → Mm → Option β) : Nat → Int32 → Int32 → Int32 → Mm → Option β
  | 0, _, _, _, _ => none
  | n + 1, x0, x1, x2, m => F (zLp3 F n) x0 x1 x2 m
theorem y_Lp3 {F : (Int32 → Int32 → Int32 → Mm → Option α) → Int32 → Int32 → Int32 → Mm → Option α} (LS : Int32 → Int32 → Int32 → List (Option Value)) (h : ∀ rec : Int32 → Int32 → Int32 → Mm → Option α, (∀ (x0 x1 x2 : Int32) (m : Mm), Sx ω0 ω true D mc ms κ φ c0 s0 m pc (LS x0 x1 x2) st (rec x0 x1 x2 m)) → ∀ (x0 x1 x2 : Int32) (m : Mm), Sx ω0 ω true D mc ms κ φ c0 s0 m pc (LS x0 x1 x2) st (F rec x0 x1 x2 m)) : ∀ (n : Nat) (x0 x1 x2 : Int32) (m : Mm), Sx ω0 ω true D mc ms κ φ c0 s0 m pc (LS x0 x1 x2) st (zLp3 F n x0 x1 x2 m) := by
  intro n
  induction n with
  | zero => intro x0 x1 x2 m r hr; cases hr
  | succ n ih => intro x0 x1 x2 m; exact h _ ih x0 x1 x2 m
def zLp4 {β : Type} (F : (Int32 → Int32 → Int32 → Int32 → Mm → Option β) → Int32 → Int32 → Int32 → Int32 → Mm → Option β) : Nat → Int32 → Int32 → Int32 → Int32 → Mm → Option β
  | 0, _, _, _, _, _ => none
  | n + 1, x0, x1, x2, x3, m => F (zLp4 F n) x0 x1 x2 x3 m
theorem y_Lp4 {F : (Int32 → Int32 → Int32 → Int32 → Mm → Option α) → Int32 → Int32 → Int32 → Int32 → Mm → Option α} (LS : Int32 → Int32 → Int32 → Int32 → List (Option Value)) (h : ∀ rec : Int32 → Int32 → Int32 → Int32 → Mm → Option α, (∀ (x0 x1 x2 x3 : Int32) (m : Mm), Sx ω0 ω true D mc ms κ φ c0 s0 m pc (LS x0 x1 x2 x3) st (rec x0 x1 x2 x3 m)) → ∀ (x0 x1 x2 x3 : Int32) (m : Mm), Sx ω0 ω true D mc ms κ φ c0 s0 m pc (LS x0 x1 x2 x3) st (F rec x0 x1 x2 x3 m)) : ∀ (n : Nat) (x0 x1 x2 x3 : Int32) (m : Mm), Sx ω0 ω true D mc ms κ φ c0 s0 m pc (LS x0 x1 x2 x3) st (zLp4 F n x0 x1 x2 x3 m) := by
  intro n
  induction n with
  | zero => intro x0 x1 x2 x3 m r hr; cases hr
  | succ n ih => intro x0 x1 x2 x3 m; exact h _ ih x0 x1 x2 x3 m
def zLp5 {β : Type} (F : (Int32 → Int32 → Int32 → Int32 → Int32 → Mm → Option β) → Int32 → Int32 → Int32 → Int32 → Int32 → Mm → Option β) : Nat → Int32 → Int32 → Int32 → Int32 → Int32 → Mm → Option β
  | 0, _, _, _, _, _, _ => none
  | n + 1, x0, x1, x2, x3, x4, m => F (zLp5 F n) x0 x1 x2 x3 x4 m
theorem y_Lp5 {F : (Int32 → Int32 → Int32 → Int32 → Int32 → Mm → Option α) → Int32 → Int32 → Int32 → Int32 → Int32 → Mm → Option α} (LS : Int32 → Int32 → Int32 → Int32 → Int32 → List (Option Value)) (h : ∀ rec : Int32 → Int32 → Int32 → Int32 → Int32 → Mm → Option α, (∀ (x0 x1 x2 x3 x4 : Int32) (m : Mm), Sx ω0 ω true D mc ms κ φ c0 s0 m pc (LS x0 x1 x2 x3 x4) st (rec x0 x1 x2 x3 x4 m)) → ∀ (x0 x1 x2 x3 x4 : Int32) (m : Mm), Sx ω0 ω true D mc ms κ φ c0 s0 m pc (LS x0 x1 x2 x3 x4) st (F rec x0 x1 x2 x3 x4 m)) : ∀ (n : Nat) (x0 x1 x2 x3 x4 : Int32) (m : Mm), Sx ω0 ω true D mc ms κ φ c0 s0 m pc (LS x0 x1 x2 x3 x4) st (zLp5 F n x0 x1 x2 x3 x4 m) := by
  intro n
  induction n with
  | zero => intro x0 x1 x2 x3 x4 m r hr; cases hr
  | succ n ih => intro x0 x1 x2 x3 x4 m; exact h _ ih x0 x1 x2 x3 x4 m
def zLp6 {β : Type} (F : (Int32 → Int32 → Int32 → Int32 → Int32 → Int32 → Mm → Option β) → Int32 → Int32 → Int32 → Int32 → Int32 → Int32 → Mm → Option β) : Nat → Int32 → Int32 → Int32 → Int32 → Int32 → Int32 → Mm → Option β
  | 0, _, _, _, _, _, _, _ => none
  | n + 1, x0, x1, x2, x3, x4, x5, m => F (zLp6 F n) x0 x1 x2 x3 x4 x5 m
theorem y_Lp6 {F : (Int32 → Int32 → Int32 → Int32 → Int32 → Int32 → Mm → Option α) → Int32 → Int32 → Int32 → Int32 → Int32 → Int32 → Mm → Option α} (LS : Int32 → Int32 → Int32 → Int32 → Int32 → Int32 → List (Option Value)) (h : ∀ rec : Int32 → Int32 → Int32 → Int32 → Int32 → Int32 → Mm → Option α, (∀ (x0 x1 x2 x3 x4 x5 : Int32) (m : Mm), Sx ω0 ω true D mc ms κ φ c0 s0 m pc (LS x0 x1 x2 x3 x4 x5) st (rec x0 x1 x2 x3 x4 x5 m)) → ∀ (x0 x1 x2 x3 x4 x5 : Int32) (m : Mm), Sx ω0 ω true D mc ms κ φ c0 s0 m pc (LS x0 x1 x2 x3 x4 x5) st (F rec x0 x1 x2 x3 x4 x5 m)) : ∀ (n : Nat) (x0 x1 x2 x3 x4 x5 : Int32) (m : Mm), Sx ω0 ω true D mc ms κ φ c0 s0 m pc (LS x0 x1 x2 x3 x4 x5) st (zLp6 F n x0 x1 x2 x3 x4 x5 m) := by
  intro n
  induction n with
  | zero => intro x0 x1 x2 x3 x4 x5 m r hr; cases hr
  | succ n ih => intro x0 x1 x2 x3 x4 x5 m; exact h _ ih x0 x1 x2 x3 x4 x5 m
def zLp7 {β : Type} (F : (Int32 → Int32 → Int32 → Int32 → Int32 → Int32 → Int32 → Mm → Option β) → Int32 → Int32 → Int32 → Int32 → Int32 → Int32 → Int32 → Mm → Option β) : Nat → Int32 → Int32 → Int32 → Int32 → Int32 → Int32 → Int32 → Mm → Option β
  | 0, _, _, _, _, _, _, _, _ => none
  | n + 1, x0, x1, x2, x3, x4, x5, x6, m => F (zLp7 F n) x0 x1 x2 x3 x4 x5 x6 m
theorem y_Lp7 {F : (Int32 → Int32 → Int32 → Int32 → Int32 → Int32 → Int32 → Mm → Option α) → Int32 → Int32 → Int32 → Int32 → Int32 → Int32 → Int32 → Mm → Option α} (LS : Int32 → Int32 → Int32 → Int32 → Int32 → Int32 → Int32 → List (Option Value)) (h : ∀ rec : Int32 → Int32 → Int32 → Int32 → Int32 → Int32 → Int32 → Mm → Option α, (∀ (x0 x1 x2 x3 x4 x5 x6 : Int32) (m : Mm), Sx ω0 ω true D mc ms κ φ c0 s0 m pc (LS x0 x1 x2 x3 x4 x5 x6) st (rec x0 x1 x2 x3 x4 x5 x6 m)) → ∀ (x0 x1 x2 x3 x4 x5 x6 : Int32) (m : Mm), Sx ω0 ω true D mc ms κ φ c0 s0 m pc (LS x0 x1 x2 x3 x4 x5 x6) st (F rec x0 x1 x2 x3 x4 x5 x6 m)) : ∀ (n : Nat) (x0 x1 x2 x3 x4 x5 x6 : Int32) (m : Mm), Sx ω0 ω true D mc ms κ φ c0 s0 m pc (LS x0 x1 x2 x3 x4 x5 x6) st (zLp7 F n x0 x1 x2 x3 x4 x5 x6 m) := by
  intro n
  induction n with
  | zero => intro x0 x1 x2 x3 x4 x5 x6 m r hr; cases hr
  | succ n ih => intro x0 x1 x2 x3 x4 x5 x6 m; exact h _ ih x0 x1 x2 x3 x4 x5 x6 m
def zLp8 {β : Type} (F : (Int32 → Int32 → Int32 → Int32 → Int32 → Int32 → Int32 → Int32 → Mm → Option β) → Int32 → Int32 → Int32 → Int32 → Int32 → Int32 → Int32 → Int32 → Mm → Option β) : Nat → Int32 → Int32 → Int32 → Int32 → Int32 → Int32 → Int32 → Int32 → Mm → Option β
  | 0, _, _, _, _, _, _, _, _, _ => none
  | n + 1, x0, x1, x2, x3, x4, x5, x6, x7, m => F (zLp8 F n) x0 x1 x2 x3 x4 x5 x6 x7 m
theorem y_Lp8 {F : (Int32 → Int32 → Int32 → Int32 → Int32 → Int32 → Int32 → Int32 → Mm → Option α) → Int32 → Int32 → Int32 → Int32 → Int32 → Int32 → Int32 → Int32 → Mm → Option α} (LS : Int32 → Int32 → Int32 → Int32 → Int32 → Int32 → Int32 → Int32 → List (Option Value)) (h : ∀ rec : Int32 → Int32 → Int32 → Int32 → Int32 → Int32 → Int32 → Int32 → Mm → Option α, (∀ (x0 x1 x2 x3 x4 x5 x6 x7 : Int32) (m : Mm), Sx ω0 ω true D mc ms κ φ c0 s0 m pc (LS x0 x1 x2 x3 x4 x5 x6 x7) st (rec x0 x1 x2 x3 x4 x5 x6 x7 m)) → ∀ (x0 x1 x2 x3 x4 x5 x6 x7 : Int32) (m : Mm), Sx ω0 ω true D mc ms κ φ c0 s0 m pc (LS x0 x1 x2 x3 x4 x5 x6 x7) st (F rec x0 x1 x2 x3 x4 x5 x6 x7 m)) : ∀ (n : Nat) (x0 x1 x2 x3 x4 x5 x6 x7 : Int32) (m : Mm), Sx ω0 ω true D mc ms κ φ c0 s0 m pc (LS x0 x1 x2 x3 x4 x5 x6 x7) st (zLp8 F n x0 x1 x2 x3 x4 x5 x6 x7 m) := by
  intro n
  induction n with
  | zero => intro x0 x1 x2 x3 x4 x5 x6 x7 m r hr; cases hr
  | succ n ih => intro x0 x1 x2 x3 x4 x5 x6 x7 m; exact h _ ih x0 x1 x2 x3 x4 x5 x6 x7 m
def zLq1 {β : Type} (F : (Int32 → Option β) → Int32 → Option β) : Nat → Int32 → Option β
  | 0, _ => none
  | n + 1, x0 => F (zLq1 F n) x0
theorem y_Lq1 {F : (Int32 → Option α) → Int32 → Option α} (LS : Int32 → List (Option Value)) (h : ∀ rec : Int32 → Option α, (∀ (x0 : Int32) , Sx ω0 ω true D mc ms κ φ c0 s0 m pc (LS x0) st (rec x0)) → ∀ (x0 : Int32) , Sx ω0 ω true D mc ms κ φ c0 s0 m pc (LS x0) st (F rec x0)) : ∀ (n : Nat) (x0 : Int32) , Sx ω0 ω true D mc ms κ φ c0 s0 m pc (LS x0) st (zLq1 F n x0) := by
  intro n
  induction n with
  | zero => intro x0 r hr; cases hr
  | succ n ih => intro x0; exact h _ ih x0
def zLq2 {β : Type} (F : (Int32 → Int32 → Option β) → Int32 → Int32 → Option β) : Nat → Int32 → Int32 → Option β
  | 0, _, _ => none
  | n + 1, x0, x1 => F (zLq2 F n) x0 x1
theorem y_Lq2 {F : (Int32 → Int32 → Option α) → Int32 → Int32 → Option α} (LS : Int32 → Int32 → List (Option Value)) (h : ∀ rec : Int32 → Int32 → Option α, (∀ (x0 x1 : Int32) , Sx ω0 ω true D mc ms κ φ c0 s0 m pc (LS x0 x1) st (rec x0 x1)) → ∀ (x0 x1 : Int32) , Sx ω0 ω true D mc ms κ φ c0 s0 m pc (LS x0 x1) st (F rec x0 x1)) : ∀ (n : Nat) (x0 x1 : Int32) , Sx ω0 ω true D mc ms κ φ c0 s0 m pc (LS x0 x1) st (zLq2 F n x0 x1) := by
  intro n
  induction n with
  | zero => intro x0 x1 r hr; cases hr
  | succ n ih => intro x0 x1; exact h _ ih x0 x1
def zLq3 {β : Type} (F : (Int32 → Int32 → Int32 → Option β) → Int32 → Int32 → Int32 → Option β) : Nat → Int32 → Int32 → Int32 → Option β
  | 0, _, _, _ => none
  | n + 1, x0, x1, x2 => F (zLq3 F n) x0 x1 x2
theorem y_Lq3 {F : (Int32 → Int32 → Int32 → Option α) → Int32 → Int32 → Int32 → Option α} (LS : Int32 → Int32 → Int32 → List (Option Value)) (h : ∀ rec : Int32 → Int32 → Int32 → Option α, (∀ (x0 x1 x2 : Int32) , Sx ω0 ω true D mc ms κ φ c0 s0 m pc (LS x0 x1 x2) st (rec x0 x1 x2)) → ∀ (x0 x1 x2 : Int32) , Sx ω0 ω true D mc ms κ φ c0 s0 m pc (LS x0 x1 x2) st (F rec x0 x1 x2)) : ∀ (n : Nat) (x0 x1 x2 : Int32) , Sx ω0 ω true D mc ms κ φ c0 s0 m pc (LS x0 x1 x2) st (zLq3 F n x0 x1 x2) := by
  intro n
  induction n with
  | zero => intro x0 x1 x2 r hr; cases hr
  | succ n ih => intro x0 x1 x2; exact h _ ih x0 x1 x2
def zLq4 {β : Type} (F : (Int32 → Int32 → Int32 → Int32 → Option β) → Int32 → Int32 → Int32 → Int32 → Option β) : Nat → Int32 → Int32 → Int32 → Int32 → Option β
  | 0, _, _, _, _ => none
  | n + 1, x0, x1, x2, x3 => F (zLq4 F n) x0 x1 x2 x3
theorem y_Lq4 {F : (Int32 → Int32 → Int32 → Int32 → Option α) → Int32 → Int32 → Int32 → Int32 → Option α} (LS : Int32 → Int32 → Int32 → Int32 → List (Option Value)) (h : ∀ rec : Int32 → Int32 → Int32 → Int32 → Option α, (∀ (x0 x1 x2 x3 : Int32) , Sx ω0 ω true D mc ms κ φ c0 s0 m pc (LS x0 x1 x2 x3) st (rec x0 x1 x2 x3)) → ∀ (x0 x1 x2 x3 : Int32) , Sx ω0 ω true D mc ms κ φ c0 s0 m pc (LS x0 x1 x2 x3) st (F rec x0 x1 x2 x3)) : ∀ (n : Nat) (x0 x1 x2 x3 : Int32) , Sx ω0 ω true D mc ms κ φ c0 s0 m pc (LS x0 x1 x2 x3) st (zLq4 F n x0 x1 x2 x3) := by
  intro n
  induction n with
  | zero => intro x0 x1 x2 x3 r hr; cases hr
  | succ n ih => intro x0 x1 x2 x3; exact h _ ih x0 x1 x2 x3
def zLq5 {β : Type} (F : (Int32 → Int32 → Int32 → Int32 → Int32 → Option β) → Int32 → Int32 → Int32 → Int32 → Int32 → Option β) : Nat → Int32 → Int32 → Int32 → Int32 → Int32 → Option β
  | 0, _, _, _, _, _ => none
  | n + 1, x0, x1, x2, x3, x4 => F (zLq5 F n) x0 x1 x2 x3 x4
theorem y_Lq5 {F : (Int32 → Int32 → Int32 → Int32 → Int32 → Option α) → Int32 → Int32 → Int32 → Int32 → Int32 → Option α} (LS : Int32 → Int32 → Int32 → Int32 → Int32 → List (Option Value)) (h : ∀ rec : Int32 → Int32 → Int32 → Int32 → Int32 → Option α, (∀ (x0 x1 x2 x3 x4 : Int32) , Sx ω0 ω true D mc ms κ φ c0 s0 m pc (LS x0 x1 x2 x3 x4) st (rec x0 x1 x2 x3 x4)) → ∀ (x0 x1 x2 x3 x4 : Int32) , Sx ω0 ω true D mc ms κ φ c0 s0 m pc (LS x0 x1 x2 x3 x4) st (F rec x0 x1 x2 x3 x4)) : ∀ (n : Nat) (x0 x1 x2 x3 x4 : Int32) , Sx ω0 ω true D mc ms κ φ c0 s0 m pc (LS x0 x1 x2 x3 x4) st (zLq5 F n x0 x1 x2 x3 x4) := by
  intro n
  induction n with
  | zero => intro x0 x1 x2 x3 x4 r hr; cases hr
  | succ n ih => intro x0 x1 x2 x3 x4; exact h _ ih x0 x1 x2 x3 x4
def zLq6 {β : Type} (F : (Int32 → Int32 → Int32 → Int32 → Int32 → Int32 → Option β) → Int32 → Int32 → Int32 → Int32 → Int32 → Int32 → Option β) : Nat → Int32 → Int32 → Int32 → Int32 → Int32 → Int32 → Option β
  | 0, _, _, _, _, _, _ => none
  | n + 1, x0, x1, x2, x3, x4, x5 => F (zLq6 F n) x0 x1 x2 x3 x4 x5
theorem y_Lq6 {F : (Int32 → Int32 → Int32 → Int32 → Int32 → Int32 → Option α) → Int32 → Int32 → Int32 → Int32 → Int32 → Int32 → Option α} (LS : Int32 → Int32 → Int32 → Int32 → Int32 → Int32 → List (Option Value)) (h : ∀ rec : Int32 → Int32 → Int32 → Int32 → Int32 → Int32 → Option α, (∀ (x0 x1 x2 x3 x4 x5 : Int32) , Sx ω0 ω true D mc ms κ φ c0 s0 m pc (LS x0 x1 x2 x3 x4 x5) st (rec x0 x1 x2 x3 x4 x5)) → ∀ (x0 x1 x2 x3 x4 x5 : Int32) , Sx ω0 ω true D mc ms κ φ c0 s0 m pc (LS x0 x1 x2 x3 x4 x5) st (F rec x0 x1 x2 x3 x4 x5)) : ∀ (n : Nat) (x0 x1 x2 x3 x4 x5 : Int32) , Sx ω0 ω true D mc ms κ φ c0 s0 m pc (LS x0 x1 x2 x3 x4 x5) st (zLq6 F n x0 x1 x2 x3 x4 x5) := by
  intro n
  induction n with
  | zero => intro x0 x1 x2 x3 x4 x5 r hr; cases hr
  | succ n ih => intro x0 x1 x2 x3 x4 x5; exact h _ ih x0 x1 x2 x3 x4 x5
def zLq7 {β : Type} (F : (Int32 → Int32 → Int32 → Int32 → Int32 → Int32 → Int32 → Option β) → Int32 → Int32 → Int32 → Int32 → Int32 → Int32 → Int32 → Option β) : Nat → Int32 → Int32 → Int32 → Int32 → Int32 → Int32 → Int32 → Option β
  | 0, _, _, _, _, _, _, _ => none
  | n + 1, x0, x1, x2, x3, x4, x5, x6 => F (zLq7 F n) x0 x1 x2 x3 x4 x5 x6
theorem y_Lq7 {F : (Int32 → Int32 → Int32 → Int32 → Int32 → Int32 → Int32 → Option α) → Int32 → Int32 → Int32 → Int32 → Int32 → Int32 → Int32 → Option α} (LS : Int32 → Int32 → Int32 → Int32 → Int32 → Int32 → Int32 → List (Option Value)) (h : ∀ rec : Int32 → Int32 → Int32 → Int32 → Int32 → Int32 → Int32 → Option α, (∀ (x0 x1 x2 x3 x4 x5 x6 : Int32) , Sx ω0 ω true D mc ms κ φ c0 s0 m pc (LS x0 x1 x2 x3 x4 x5 x6) st (rec x0 x1 x2 x3 x4 x5 x6)) → ∀ (x0 x1 x2 x3 x4 x5 x6 : Int32) , Sx ω0 ω true D mc ms κ φ c0 s0 m pc (LS x0 x1 x2 x3 x4 x5 x6) st (F rec x0 x1 x2 x3 x4 x5 x6)) : ∀ (n : Nat) (x0 x1 x2 x3 x4 x5 x6 : Int32) , Sx ω0 ω true D mc ms κ φ c0 s0 m pc (LS x0 x1 x2 x3 x4 x5 x6) st (zLq7 F n x0 x1 x2 x3 x4 x5 x6) := by
  intro n
  induction n with
  | zero => intro x0 x1 x2 x3 x4 x5 x6 r hr; cases hr
  | succ n ih => intro x0 x1 x2 x3 x4 x5 x6; exact h _ ih x0 x1 x2 x3 x4 x5 x6
def zLq8 {β : Type} (F : (Int32 → Int32 → Int32 → Int32 → Int32 → Int32 → Int32 → Int32 → Option β) → Int32 → Int32 → Int32 → Int32 → Int32 → Int32 → Int32 → Int32 → Option β) : Nat → Int32 → Int32 → Int32 → Int32 → Int32 → Int32 → Int32 → Int32 → Option β
  | 0, _, _, _, _, _, _, _, _ => none
  | n + 1, x0, x1, x2, x3, x4, x5, x6, x7 => F (zLq8 F n) x0 x1 x2 x3 x4 x5 x6 x7
theorem y_Lq8 {F : (Int32 → Int32 → Int32 → Int32 → Int32 → Int32 → Int32 → Int32 → Option α) → Int32 → Int32 → Int32 → Int32 → Int32 → Int32 → Int32 → Int32 → Option α} (LS : Int32 → Int32 → Int32 → Int32 → Int32 → Int32 → Int32 → Int32 → List (Option Value)) (h : ∀ rec : Int32 → Int32 → Int32 → Int32 → Int32 → Int32 → Int32 → Int32 → Option α, (∀ (x0 x1 x2 x3 x4 x5 x6 x7 : Int32) , Sx ω0 ω true D mc ms κ φ c0 s0 m pc (LS x0 x1 x2 x3 x4 x5 x6 x7) st (rec x0 x1 x2 x3 x4 x5 x6 x7)) → ∀ (x0 x1 x2 x3 x4 x5 x6 x7 : Int32) , Sx ω0 ω true D mc ms κ φ c0 s0 m pc (LS x0 x1 x2 x3 x4 x5 x6 x7) st (F rec x0 x1 x2 x3 x4 x5 x6 x7)) : ∀ (n : Nat) (x0 x1 x2 x3 x4 x5 x6 x7 : Int32) , Sx ω0 ω true D mc ms κ φ c0 s0 m pc (LS x0 x1 x2 x3 x4 x5 x6 x7) st (zLq8 F n x0 x1 x2 x3 x4 x5 x6 x7) := by
  intro n
  induction n with
  | zero => intro x0 x1 x2 x3 x4 x5 x6 x7 r hr; cases hr
  | succ n ih => intro x0 x1 x2 x3 x4 x5 x6 x7; exact h _ ih x0 x1 x2 x3 x4 x5 x6 x7
end ROWG
