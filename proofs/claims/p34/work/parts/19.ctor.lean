/-! rows of constructors: while the layout is being made (ph = false) -/
def zNew (m : Mm) (n : Nat) : Mm := (fun b j => if b = n then 0 else m.1 b j, fun b j => if b = n then 0 else m.2.1 b j, fun b j => if b = n then 0 else m.2.2.1 b j, n + 1)
def zNewM (m : Mm) (n k : Nat) : Mm := (fun b j => if n ≤ b ∧ b ≤ n + k then 0 else m.1 b j, fun b j => if b = n then (if j < k then n + 1 + j else 0) else if n ≤ b ∧ b ≤ n + k then 0 else m.2.1 b j, fun b j => if n ≤ b ∧ b ≤ n + k then 0 else m.2.2.1 b j, n + 1 + k)
theorem zN_zNew (m : Mm) (n : Nat) : zN (zNew m n) = n + 1 := rfl
theorem zN_wI (m : Mm) (a k : Nat) (v : Int32) : zN (wI m a k v) = zN m := rfl
theorem zN_wR (m : Mm) (a k q : Nat) : zN (wR m a k q) = zN m := rfl
theorem zN_wL (m : Mm) (a k : Nat) (v : Int64) : zN (wL m a k v) = zN m := rfl
theorem zI_zNew (m : Mm) (n b j : Nat) : zI (zNew m n) b j = if b = n then 0 else zI m b j := rfl
theorem zR_zNew (m : Mm) (n b j : Nat) : zR (zNew m n) b j = if b = n then 0 else zR m b j := rfl
theorem zL_zNew (m : Mm) (n b j : Nat) : zL (zNew m n) b j = if b = n then 0 else zL m b j := rfl
/-- new cells behind the others -/
theorem zH_push {ω : Wd} {m m' : Mm} {H H' : Heap} {w : Nat} (h : zH ω false m H) (hz : H'.size = H.size + w) (ho : ∀ q, q < H.size → H'[q]? = H[q]?) (hN : zN m' = zN m + w)
    (h1 : ∀ b, b < zN m → ∀ k, zI m' b k = zI m b k ∧ zR m' b k = zR m b k ∧ zL m' b k = zL m b k) (hat : ∀ b, zN m ≤ b → b < zN m + w → zAt ω m' b H') : zH ω false m' H' := by
  have hs := h.2.2.2.2.1 rfl
  have h16 := h.2.2.1
  refine ⟨fun b hb16 hb => ?_, by rw [hN, hz, hs]; omega, by rw [hN]; omega, (fun hp => nomatch hp), fun _ => by rw [hN, hz, hs]; omega, (fun hp => nomatch hp)⟩
  by_cases hlt : b < zN m
  · exact zAt_kept (h.1 b hb16 hlt) (ho _ (by rw [zad_of hb16, hs]; omega)) (fun k => (h1 b hlt k).1) (fun k => (h1 b hlt k).2.1) (fun k => (h1 b hlt k).2.2)
  · exact hat b (by omega) (by rw [← hN]; exact hb)
def zNw (own : String) (idx ci N : Nat) : Prop := ∃ (C : String) (T : u_T) (ty : Nat → FieldType), vwCl[ci]? = some (C, T, N) ∧ (∀ k, k < N → parseFieldDescriptor (T k).2.2.1 = some (ty k)) ∧ (∀ w ∈ u_ws C T N, w ∈ zG) ∧ Cond.classLink own idx C ∈ zG ∧ Cond.instantiable C N ∈ zG ∧ Cond.initialized C ∈ zG ∧ ∀ k, k < N → defaultValue (ty k) = if zfk ci k = 0 then .int 0 else if zfk ci k = 1 then .null else .long 0
theorem Met_of {l : Launch} {y : MethodName} {ws : List Cond} {rm : Room} {Pc : Array Value → State → Prop} {Qc : Array Value → State → Outcome → State → Prop} {XC : String → State → State → Prop} {mc ms : Nat} {free : Addr → Prop} (h : vx_Met l y ws rm Pc Qc XC mc ms free) (hx : ∀ E s t, ¬ XC E s t) : Met l y ws rm Pc Qc mc ms free := by
  intro p e ha hc hk s m args below hf happ hP hK
  obtain ⟨n, o, h1, h2, h3, hQ⟩ := h p e ha hc hk s m args below hf happ hP hK
  refine ⟨n, o, h1, h2, h3, ?_⟩
  rcases hQ with hQ | ⟨q, -, E, ce, L, hx9, -⟩
  · exact hQ
  · exact absurd hx9 (hx E _ _)
def zMi (own : String) (idx : Nat) (y : MethodName) (cc : ByteArray) (nL n : Nat) : Prop :=
  (Cond.methodLink own idx y ∈ zG ∨ ∃ host, Cond.methodLinkNest own idx y host ∈ zG) ∧ Cond.instanceMethod y ∈ zG ∧ y.name = "<init>" ∧ Cond.initialized y.cls ∈ zG ∧ Cond.code y cc nL none ∈ zG ∧ (y.cls ≠ "java/lang/invoke/MethodHandle" ∧ y.cls ≠ "java/lang/invoke/VarHandle") ∧ (parseMethodDescriptor y.desc).map (fun d => d.parameters.length) = some n
section ROWI
variable {ω0 ω : Wd} {ph : Bool} {D mc ms : Nat} {κ : Kx} {α β : Type} {φ : α → Zo} {c0 s0 c1 s1 : Nat} {m : Mm} {pc : Nat} {ls : List (Option Value)} {st : List Value} {t t1 t2 : Option α}
variable {D' mc' ms' idx nL' : Nat} {y : MethodName} {cc' : ByteArray} {ret' : Option FieldType} {As rest : List Value}
theorem i_new {n ci N : Nat} (hw : zNw κ.1 idx ci N) (hT : zT n = ci + 1) (hc : c0 + 1 = c1 ∧ s0 + N = s1) (hcs : c1 ≤ mc ∧ s1 ≤ ms) (d : decode κ.2.1 pc = .ok (.new idx, 3)) (k : Sx ω0 ω false D mc ms κ φ c1 s1 (zNew m n) (pc + 3) ls (.ref (zad ω n) :: st) t) : Sx ω0 ω false D mc ms κ φ c0 s0 m pc ls st (if zN m = n then t else none) :=
  x_guard fun hn r hr p l e s mid args below meth c H locs la C L hH hS => by
    obtain ⟨C9, T, ty, w1, w2, w3, w4, w5, w6, w7⟩ := hw
    have hts := C.2.2.2.2.2.1
    have hC := C.2.2.2.2.2.2.2.2.1
    have hKn := hC.1.1 ci _ w1
    have hs := hH.2.2.2.2.1 rfl
    have h16 := hH.2.2.1
    obtain ⟨e1, e2⟩ := hc
    subst e1 e2
    have had : zad ω n = H.size := by rw [← hn, zad_of h16, hs]
    rw [had] at k
    refine W.newcK C.1 C.2.1 C.2.2.2.2.1 (hts _ w4) (hts _ w5) (hts _ w6) rfl d hcs.1 hcs.2 hKn.2.1 rfl fun H1 kC hkC e1 z1 o1 => ?_
    refine k r hr p l e s mid args below meth c H1 locs la C L ?_ ⟨Nat.le_trans hS.1 (by omega), fun x h1 h2 => (o1 x (Nat.lt_of_lt_of_le h1 hS.1)).trans (hS.2.1 x h1 h2), hS.2.2⟩
    refine zH_push (w := 1) hH z1 o1 (by rw [zN_zNew, hn]) (fun b hb k9 => ?_) (fun b hb1 hb2 => ?_)
    · have hne : b ≠ n := by omega
      rw [zI_zNew, zR_zNew, zL_zNew, if_neg hne, if_neg hne, if_neg hne]
      exact ⟨rfl, rfl, rfl⟩
    · have hbn : b = n := by omega
      subst hbn
      refine ⟨fun ci' q e4 e5 => ?_, fun t9 ht e4 => ?_⟩
      · have e6 : ci' = ci := by omega
        subst e6
        cases w1.symm.trans e5
        rw [had]
        refine (u_born ty hts w3 hKn hkC e1 w2).to fun k9 hk9 => ?_
        rw [w7 k9 hk9]
        unfold zfv
        rw [zI_zNew, zR_zNew, zL_zNew, if_pos rfl, if_pos rfl, if_pos rfl]
        rfl
      · have h9 : ci < vwCl.length := (List.getElem?_eq_some_iff.mp w1).1
        have : vwCl.length = 11 := rfl
        omega
theorem i_newa_int {n : Nat} {v : Int32} (hT : zT n = 100 + 0) (hv0 : ¬ v < 0) (hv : v.toNatClampNeg = zLn n) (hbig : zLn n ≤ 10000) (hc : c0 + 1 = c1 ∧ s0 + zLn n = s1) (hcs : c1 ≤ mc ∧ s1 ≤ ms) (harr : Cond.arrayClass .int ∈ zG) (d : decode κ.2.1 pc = .ok (.newarray .int, 2)) (k : Sx ω0 ω false D mc ms κ φ c1 s1 (zNew m n) (pc + 2) ls (.ref (zad ω n) :: st) t) : Sx ω0 ω false D mc ms κ φ c0 s0 m pc ls (.int v :: st) (if zN m = n then t else none) :=
  x_guard fun hn r hr p l e s mid args below meth c H locs la C L hH hS => by
    have hts := C.2.2.2.2.2.1
    have hC := C.2.2.2.2.2.2.2.2.1
    have hs := hH.2.2.2.2.1 rfl
    have h16 := hH.2.2.1
    obtain ⟨e1, e2⟩ := hc
    subst e1 e2
    have had : zad ω n = H.size := by rw [← hn, zad_of h16, hs]
    rw [had] at k
    refine va_newaK (atype := .int) C.1 C.2.1 (hts _ harr) rfl d rfl hv0 hv (by simp [newarray.typeOf, componentBytes]; omega) hcs.1 hcs.2 rfl fun H1 cA e1 z1 o1 hAr hNm => ?_
    have hcA : cA = oA ω 0 := Option.some.inj (hNm.symm.trans (hC.1.2 0 _ rfl).2)
    subst hcA
    refine k r hr p l e s mid args below meth c H1 locs la C L ?_ ⟨Nat.le_trans hS.1 (by omega), fun x h1 h2 => (o1 x (Nat.lt_of_lt_of_le h1 hS.1)).trans (hS.2.1 x h1 h2), hS.2.2⟩
    refine zH_push (w := 1) hH z1 o1 (by rw [zN_zNew, hn]) (fun b hb k9 => ?_) (fun b hb1 hb2 => ?_)
    · have hne : b ≠ n := by omega
      rw [zI_zNew, zR_zNew, zL_zNew, if_neg hne, if_neg hne, if_neg hne]
      exact ⟨rfl, rfl, rfl⟩
    · have hbn : b = n := by omega
      subst hbn
      refine ⟨fun ci' q e4 e5 => ?_, fun t9 ht e4 => ?_⟩
      · have : vwCl.length = 11 := rfl
        have h9 : ci' < vwCl.length := (List.getElem?_eq_some_iff.mp e5).1
        omega
      · have e6 : t9 = 0 := by omega
        subst e6
        rw [had, e1]
        refine congrArg some (congrArg (arrV _ _) (funext fun j => ?_))
        have e9 : zav ω (zNew m b) 0 b j = .int (zI (zNew m b) b j) := rfl
        rw [e9, zI_zNew, if_pos rfl]
        rfl
theorem i_newa_char {n : Nat} {v : Int32} (hT : zT n = 100 + 1) (hv0 : ¬ v < 0) (hv : v.toNatClampNeg = zLn n) (hbig : zLn n ≤ 10000) (hc : c0 + 1 = c1 ∧ s0 + zLn n = s1) (hcs : c1 ≤ mc ∧ s1 ≤ ms) (harr : Cond.arrayClass .char ∈ zG) (d : decode κ.2.1 pc = .ok (.newarray .char, 2)) (k : Sx ω0 ω false D mc ms κ φ c1 s1 (zNew m n) (pc + 2) ls (.ref (zad ω n) :: st) t) : Sx ω0 ω false D mc ms κ φ c0 s0 m pc ls (.int v :: st) (if zN m = n then t else none) :=
  x_guard fun hn r hr p l e s mid args below meth c H locs la C L hH hS => by
    have hts := C.2.2.2.2.2.1
    have hC := C.2.2.2.2.2.2.2.2.1
    have hs := hH.2.2.2.2.1 rfl
    have h16 := hH.2.2.1
    obtain ⟨e1, e2⟩ := hc
    subst e1 e2
    have had : zad ω n = H.size := by rw [← hn, zad_of h16, hs]
    rw [had] at k
    refine va_newaK (atype := .char) C.1 C.2.1 (hts _ harr) rfl d rfl hv0 hv (by simp [newarray.typeOf, componentBytes]; omega) hcs.1 hcs.2 rfl fun H1 cA e1 z1 o1 hAr hNm => ?_
    have hcA : cA = oA ω 1 := Option.some.inj (hNm.symm.trans (hC.1.2 1 _ rfl).2)
    subst hcA
    refine k r hr p l e s mid args below meth c H1 locs la C L ?_ ⟨Nat.le_trans hS.1 (by omega), fun x h1 h2 => (o1 x (Nat.lt_of_lt_of_le h1 hS.1)).trans (hS.2.1 x h1 h2), hS.2.2⟩
    refine zH_push (w := 1) hH z1 o1 (by rw [zN_zNew, hn]) (fun b hb k9 => ?_) (fun b hb1 hb2 => ?_)
    · have hne : b ≠ n := by omega
      rw [zI_zNew, zR_zNew, zL_zNew, if_neg hne, if_neg hne, if_neg hne]
      exact ⟨rfl, rfl, rfl⟩
    · have hbn : b = n := by omega
      subst hbn
      refine ⟨fun ci' q e4 e5 => ?_, fun t9 ht e4 => ?_⟩
      · have : vwCl.length = 11 := rfl
        have h9 : ci' < vwCl.length := (List.getElem?_eq_some_iff.mp e5).1
        omega
      · have e6 : t9 = 1 := by omega
        subst e6
        rw [had, e1]
        refine congrArg some (congrArg (arrV _ _) (funext fun j => ?_))
        have e9 : zav ω (zNew m b) 1 b j = .int (zI (zNew m b) b j) := rfl
        rw [e9, zI_zNew, if_pos rfl]
        rfl
theorem i_newF {n : Nat} {v : Int32} (hT : zT n = 100 + 4) (hv0 : ¬ v < 0) (hv : v.toNatClampNeg = zLn n) (hbig : zLn n ≤ 10000) (hc : c0 + 1 = c1 ∧ s0 + zLn n = s1) (hcs : c1 ≤ mc ∧ s1 ≤ ms) (hcl : Cond.classLink κ.1 idx "AlmanacLoom$Feast" ∈ zG) (hov : Cond.arrayOver (.object "AlmanacLoom$Feast") ∈ zG) (d : decode κ.2.1 pc = .ok (.anewarray idx, 3)) (k : Sx ω0 ω false D mc ms κ φ c1 s1 (zNew m n) (pc + 3) ls (.ref (zad ω n) :: st) t) : Sx ω0 ω false D mc ms κ φ c0 s0 m pc ls (.int v :: st) (if zN m = n then t else none) :=
  x_guard fun hn r hr p l e s mid args below meth c H locs la C L hH hS => by
    have hts := C.2.2.2.2.2.1
    have hC := C.2.2.2.2.2.2.2.2.1
    have hs := hH.2.2.2.2.1 rfl
    have h16 := hH.2.2.1
    obtain ⟨e1, e2⟩ := hc
    subst e1 e2
    have had : zad ω n = H.size := by rw [← hn, zad_of h16, hs]
    rw [had] at k
    refine W.anew C.1 C.2.1 C.2.2.2.2.1 (hts _ hcl) (hts _ hov) rfl d rfl hv0 (by rw [hv]; omega) hcs.1 (by rw [hv]; exact hcs.2) fun cA kA comp f1 f2 f3 f4 => ?_
    rw [hv]
    generalize hH1 : H.push ({ cls := cA, slots := Array.replicate (zLn n) .null, vm := .none } : Cell) = H1
    have z1 : H1.size = H.size + 1 := by rw [← hH1, Array.size_push]
    have e1 : H1[H.size]? = some (arrV cA (zLn n) (fun _ => .null)) := by rw [← hH1, Array.getElem?_push_size, ← arrV_new]
    have o1 : ∀ q : Nat, q < H.size → H1[q]? = H[q]? := fun q hq => by rw [← hH1, Array.getElem?_push, if_neg (Nat.ne_of_lt hq)]
    have hcA : cA = oA ω 4 := by
      obtain ⟨kA', comp', -, -, -, g4⟩ := (hC.1.2 4 _ rfl).2
      exact Option.some.inj (f1.symm.trans g4)
    subst hcA
    refine k r hr p l e s mid args below meth c H1 locs la C L ?_ ⟨Nat.le_trans hS.1 (by omega), fun x h1 h2 => (o1 x (Nat.lt_of_lt_of_le h1 hS.1)).trans (hS.2.1 x h1 h2), hS.2.2⟩
    refine zH_push (w := 1) hH z1 o1 (by rw [zN_zNew, hn]) (fun b hb k9 => ?_) (fun b hb1 hb2 => ?_)
    · have hne : b ≠ n := by omega
      rw [zI_zNew, zR_zNew, zL_zNew, if_neg hne, if_neg hne, if_neg hne]
      exact ⟨rfl, rfl, rfl⟩
    · have hbn : b = n := by omega
      subst hbn
      refine ⟨fun ci' q e4 e5 => ?_, fun t9 ht e4 => ?_⟩
      · have : vwCl.length = 11 := rfl
        have h9 : ci' < vwCl.length := (List.getElem?_eq_some_iff.mp e5).1
        omega
      · have e6 : t9 = 4 := by omega
        subst e6
        rw [had, e1]
        refine congrArg some (congrArg (arrV _ _) (funext fun j => ?_))
        unfold zav
        rw [zR_zNew, if_pos rfl]
        rfl
theorem zouter (c : ClassId) (N h0 : Nat) : ∀ i : Nat, Jvm.Free.Multi.outerC c N h0 i = arrV c N (fun j => if j < i then .ref (h0 + 1 + j) else .null)
  | 0 => by
    show ({ cls := c, slots := Array.replicate N .null, vm := .none } : Cell) = _
    rw [arrV_new]
    exact congrArg (arrV c N) (funext fun j => by simp)
  | i + 1 => by
    show (Jvm.Free.Multi.outerC c N h0 i).setSlot i (.ref (h0 + 1 + i)) = _
    rw [zouter c N h0 i, arrV_store]
    refine congrArg (arrV c N) (funext fun j => ?_)
    unfold updV
    by_cases e : j = i
    · subst e
      simp
    · by_cases h : j < i
      · simp [e, h, Nat.lt_succ_of_lt h]
      · simp [e, h, show ¬ j < i + 1 by omega]
theorem i_newM {n K : Nat} {v w : Int32} (hT : zT n = 100 + 5) (hv0 : ¬ v < 0) (hv : v.toNatClampNeg = zLn n) (hw0 : ¬ w < 0) (hw : w.toNatClampNeg = K) (hbig : zLn n ≤ 10000 ∧ K ≤ 10000) (hrow : ∀ j, j < zLn n → zT (n + 1 + j) = 100 ∧ zLn (n + 1 + j) = K) (hc : c0 + 1 + zLn n = c1 ∧ s0 + zLn n + zLn n * K = s1) (hcs : c1 ≤ mc ∧ s1 ≤ ms) (hcl : Cond.classLink κ.1 idx "[[I" ∈ zG) (hov : Cond.arrayOver (.array .int) ∈ zG) (harr : Cond.arrayClass .int ∈ zG) (d : decode κ.2.1 pc = .ok (.multianewarray idx 2, 4)) (k : Sx ω0 ω false D mc ms κ φ c1 s1 (zNewM m n (zLn n)) (pc + 4) ls (.ref (zad ω n) :: st) t) : Sx ω0 ω false D mc ms κ φ c0 s0 m pc ls (.int w :: .int v :: st) (if zN m = n then t else none) :=
  x_guard fun hn r hr p l e s mid args below meth c H locs la C L hH hS => by
    have hts := C.2.2.2.2.2.1
    have hC := C.2.2.2.2.2.2.2.2.1
    have hs := hH.2.2.2.2.1 rfl
    have h16 := hH.2.2.1
    obtain ⟨e1, e2⟩ := hc
    subst e1 e2 hw
    have had : zad ω n = H.size := by rw [← hn, zad_of h16, hs]
    rw [had] at k
    intro T hT2 X
    obtain ⟨vm₁, cA, comp, hW1, fA, fC, hO, hI, X', step⟩ := X.multianewarray2F C.1 C.2.2.2.2.1 (ty := .int) (hts _ hcl) (hts _ hov) (hts _ harr) (g := F0 mid pc la (.int w :: .int v :: st)) rfl (by rw [C.2.1]; exact d) rfl hv0 hw0 (by rw [hv]; omega) (by simp [componentBytes]; omega) (by omega) rfl rfl (by rw [hv]; show c0 + (1 + zLn n) ≤ mc; omega) (by rw [hv]; show s0 + (zLn n + zLn n * w.toNatClampNeg) ≤ ms; omega)
    rw [hv] at X' step
    have hcA : cA = oA ω 5 := Option.some.inj (fA.symm.trans (hC.1.2 5 _ rfl).2)
    have hcc : comp = oA ω 0 := Option.some.inj (fC.symm.trans (hC.1.2 0 _ rfl).2)
    subst hcA hcc
    generalize hF : Jvm.Free.Multi.fill (T.setVm vm₁) (oA ω 5) (oA ω 0) (zLn n) w.toNatClampNeg (defaultValue .int) (zLn n) = F at X' step
    have hTh : (T.setVm vm₁).heap = H := hT2
    obtain ⟨f1, f2, -, -⟩ := Jvm.Free.Multi.fill_facts (T.setVm vm₁) (oA ω 5) (oA ω 0) (zLn n) w.toNatClampNeg (defaultValue .int) (zLn n)
    rw [hF, hTh] at f1 f2
    have hold : ∀ x : Nat, x < H.size → F.heap[x]? = H[x]? := fun x hx => by
      have := Jvm.Free.Multi.fill_old (T.setVm vm₁) (oA ω 5) (oA ω 0) (zLn n) w.toNatClampNeg (defaultValue .int) (a := x) (by rw [hTh]; exact hx) (zLn n)
      rw [hF, hTh] at this
      exact this
    have hinner : ∀ j : Nat, j < zLn n → F.heap[H.size + 1 + j]? = some (arrV (oA ω 0) w.toNatClampNeg (fun _ => .int 0)) := fun j hj => by
      have := Jvm.Free.Multi.fill_inner (T.setVm vm₁) (oA ω 5) (oA ω 0) (zLn n) w.toNatClampNeg (defaultValue .int) (zLn n) j hj
      rw [hF, hTh] at this
      rw [this, ← arrV_new]
      rfl
    rw [zouter] at f2
    have hH' : zH ω false (zNewM m n (zLn n)) F.heap := by
      refine zH_push (w := 1 + zLn n) hH (by omega) hold (by show n + 1 + zLn n = _; omega) (fun b hb k9 => ?_) (fun b hb1 hb2 => ?_)
      · have hne : b ≠ n := by omega
        have hne2 : ¬ (n ≤ b ∧ b ≤ n + zLn n) := by omega
        refine ⟨if_neg hne2, ?_, if_neg hne2⟩
        show (if b = n then _ else if n ≤ b ∧ b ≤ n + zLn n then 0 else m.2.1 b k9) = _
        rw [if_neg hne, if_neg hne2]
        rfl
      · have hin : n ≤ b ∧ b ≤ n + zLn n := by omega
        by_cases hbn : b = n
        · subst hbn
          refine ⟨fun ci' q e4 e5 => ?_, fun t9 ht e4 => ?_⟩
          · have : vwCl.length = 11 := rfl
            have h9 : ci' < vwCl.length := (List.getElem?_eq_some_iff.mp e5).1
            omega
          · have e6 : t9 = 5 := by omega
            subst e6
            rw [had, f2]
            refine congrArg some (congrArg (arrV _ _) (funext fun j => ?_))
            have e9 : zav ω (zNewM m b (zLn b)) 5 b j = zrv ω (zR (zNewM m b (zLn b)) b j) := rfl
            rw [e9]
            unfold zrv
            have e7 : zR (zNewM m b (zLn b)) b j = if j < zLn b then b + 1 + j else 0 := if_pos rfl
            rw [e7]
            by_cases hj : j < zLn b
            · rw [if_pos hj, if_pos hj, if_neg (by omega), zad_of (by omega)]
              rw [zad_of (by omega)] at had
              have h9 : (H.size + 1 + j : Nat) = oS ω + (b + 1 + j - 16) := by omega
              exact congrArg (fun z : Nat => Value.ref z) h9
            · rw [if_neg hj, if_neg hj, if_pos rfl]
        · obtain ⟨j, hj⟩ : ∃ j, b = n + 1 + j := ⟨b - n - 1, by omega⟩
          have hjl : j < zLn n := by omega
          subst hj
          obtain ⟨hr1, hr2⟩ := hrow j hjl
          refine ⟨fun ci' q e4 e5 => ?_, fun t9 ht e4 => ?_⟩
          · have : vwCl.length = 11 := rfl
            have h9 : ci' < vwCl.length := (List.getElem?_eq_some_iff.mp e5).1
            omega
          · have e6 : t9 = 0 := by omega
            subst e6
            have e8 : zad ω (n + 1 + j) = H.size + 1 + j := by
              rw [zad_of (by omega)]
              rw [zad_of (by omega)] at had
              omega
            rw [e8, hinner j hjl, hr2]
            refine congrArg some (congrArg (arrV _ _) (funext fun i => ?_))
            unfold zav
            rw [if_pos (by decide)]
            have e7 : zI (zNewM m n (zLn n)) (n + 1 + j) i = 0 := if_pos (by omega)
            rw [e7]
    obtain ⟨t2, a1, b1⟩ := k r hr p l e s mid args below meth c F.heap locs la C L hH' ⟨by have := hS.1; omega, fun x h1 h2 => (hold x (Nat.lt_of_lt_of_le h1 hS.1)).trans (hS.2.1 x h1 h2), hS.2.2⟩ F rfl X'
    rw [hT2] at step
    exact ⟨t2, step t2 a1, b1⟩
theorem i_obj (hw : Cond.methodLink κ.1 idx objectInit ∈ zG) (h1 : Cond.instanceMethod objectInit ∈ zG) (h2 : Cond.code objectInit ⟨#[0xb1]⟩ 1 none ∈ zG) {q : Nat} (hwt : (st.map fun v => v.category).sum ≤ 8) (hD : 1 ≤ D) (d : decode κ.2.1 pc = .ok (.invokespecial idx, 3)) (k : Sx ω0 ω ph D mc ms κ φ c0 s0 m (pc + 3) ls st t) : Sx ω0 ω ph D mc ms κ φ c0 s0 m pc ls (.ref q :: st) t :=
  fun r hr p l e s mid args below meth c H locs la C L hH hS => by
    refine W.objInit C.1 C.2.1 C.2.2.2.2.1 (C.2.2.2.2.2.1 _ hw) (C.2.2.2.2.2.1 _ h1) (C.2.2.2.2.2.1 _ h2) rfl (L.1.trans C.2.2.2.1.symm) rfl d hD ?_ (k r hr p l e s mid args below meth c H locs la C L hH hS)
    show 2 * 0 + (st.map fun v => v.category).sum + 12 ≤ 40 * D + 200
    omega
theorem i_putR {a ci k q : Nat} {fin : Bool} {ty : FieldType} (hf : zFp κ.1 idx ci k fin ty) (h0 : zfk ci k = 1) (hT : zT a = ci + 1) (hg : True) (hfin : fin = true → κ.2.2.2.2.2 = true) (hn : ∀ b : Nat, narrow ty (.ref b) = .ref b ∧ fits ty (.ref b) = true) (hq : q ≠ 0) (d : decode κ.2.1 pc = .ok (.putfield idx, 3))
    (k1 : Sx ω0 ω false D mc ms κ φ c0 s0 (wR m a k q) (pc + 3) ls st t) : Sx ω0 ω false D mc ms κ φ c0 s0 m pc ls (.ref (zad ω q) :: .ref (zad ω a) :: st) (if a < zN m then t else none) :=
  x_guard fun ha => x_putR hf h0 hT (Or.inr ha) hfin hn hq (fun h => by cases h) d k1
theorem i_call {a : Nat} {f : Option Mm} {K : Mm → Option α} (hE : Ev ω false D' mc' ms' y cc' nL' none (.ref (zad ω a) :: As) m fV f) (hM : zMi κ.1 idx y cc' nL' As.length) (hst : st = As.reverse ++ .ref (zad ω a) :: rest) (hw : (rest.map fun v => v.category).sum ≤ 8) (hD : D' + 1 ≤ D) (hL : nL' ≤ 21) (hc : c0 + mc' = c1 ∧ s0 + ms' = s1) (hcs : c1 ≤ mc ∧ s1 ≤ ms) (d : decode κ.2.1 pc = .ok (.invokespecial idx, 3)) (k : ∀ m', Sx ω0 ω false D mc ms κ φ c1 s1 m' (pc + 3) ls rest (K m')) : Sx ω0 ω false D mc ms κ φ c0 s0 m pc ls st (zBV f K) := by
  intro r hr p l e s mid args below meth c H locs la C L hH hS
  obtain ⟨r0, hf, hr⟩ := Option.bind_eq_some_iff.mp (show f.bind K = some r from hr)
  obtain ⟨h1, h2, hy, h3, h4, h5, h6⟩ := hM
  obtain ⟨e1, e2⟩ := hc
  subst e1 e2
  have hts := C.2.2.2.2.2.1
  have hC := C.2.2.2.2.2.2.2.2.1
  have hMet := Met_of (hE r0 hf l C.2.2.2.2.2.2.2.1) (fun E s t h => by obtain ⟨e9, m9, h9, -⟩ := h; cases h9)
  have hPre : PreS s H (zPc ω false m (.ref (zad ω a) :: As)) (.ref (zad ω a) :: As) := ⟨zPc_blind, fun U hU hW => ⟨rfl, (zWo_of hH hC hS hU hW).1⟩⟩
  have hrun : va_Run p l e (zRm D mc ms) s mid args below meth c H locs c0 s0 mc' ms' (F0 mid pc la st) rest (zQc ω false (fV r0) (Value.ref (zad ω a) :: As).toArray) (zA ω) := by
    rcases h1 with h1 | ⟨host, h1⟩
    · exact va_runI (n := As.length) ⟨C.1, C.2.1, C.2.2.2.1, C.2.2.2.2.1, hts⟩ hMet ⟨zCB hts h1 h3 h4 h5 h6 hD hL, hy, hts _ h2⟩ hPre rfl rfl L.1 hst (lv_room hw) d hcs
    · refine va_runIN (n := As.length) (own := κ.1) (host := host) ⟨C.1, C.2.1, C.2.2.2.1, C.2.2.2.2.1, hts⟩ hMet ⟨⟨⟨rfl, rfl, hD, ?_, zWS_warm h4 hts, List.mem_cons_self⟩, hts _ h4, hts _ h3, h5, fun sig h => ?_, hts _ h1⟩, hy, hts _ h2⟩ hPre rfl rfl L.1 hst (lv_room hw) d hcs
      · show 8 + (nL' + 11) + (40 * D' + 200) ≤ 40 * D + 200
        omega
      · rw [h] at h6
        exact (Option.some.inj h6).symm
  intro T hT X
  obtain ⟨v, st₀, t9, T', L9, h0, X', hL9, g1, g2, ⟨v9, m', ho, hv, hwo, hF⟩, stp⟩ := hrun T hT X
  cases hv
  cases ho
  obtain ⟨k1, k2, k3⟩ := vx_keep h0 g1 hS (fun _ _ h => h) (fun _ h => h) hL9 hF
  obtain ⟨t2, a1, b1⟩ := k r0 r hr p l e s mid args below meth c T'.heap (locs ++ L9) la C L (by rw [g1]; exact hwo) k3 T' rfl X'
  exact ⟨t2, stp t2 a1, b1⟩
/-- a Feast into the rows -/
theorem i_aast {a q : Nat} {i : Int32} (hT : zT a = 100 + 4) (hTq : zT q = 3 + 1) (d : decode κ.2.1 pc = .ok (.aastore, 1)) (k1 : zIn i (zLn a) → Sx ω0 ω false D mc ms κ φ c0 s0 (wR m a (zIx i) q) (pc + 1) ls st t) : Sx ω0 ω false D mc ms κ φ c0 s0 m pc ls (.ref (zad ω q) :: .int i :: .ref (zad ω a) :: st) (if (a < zN m ∧ q < zN m) ∧ zIn i (zLn a) then t else none) :=
  x_guard fun hg r hr p l e s mid args below meth c H locs la C L hH hS => by
    obtain ⟨⟨hga, hgq⟩, hin⟩ := hg
    have hC := C.2.2.2.2.2.2.2.2.1
    have hat := (zH_at hH (a := a) (by rw [hT]; decide) (Or.inr hga)).2 4 (by decide) hT
    obtain ⟨cell, q1, q2, q3, q4⟩ := (zH_at hH (a := q) (by rw [hTq]; decide) (Or.inr hgq)).1 3 _ hTq rfl
    have hcls := (hC.1.1 3 _ rfl).2
    obtain ⟨kA, comp, k1', k2, k3, -⟩ := (hC.1.2 4 _ rfl).2
    have hcomp : comp = oC ω 3 := Option.some.inj (k3.symm.trans hcls.1)
    subst hcomp
    obtain ⟨kC, hkC, -⟩ := hcls.2
    have hq0 : q ≠ 0 := fun h => by rw [h] at hTq; exact absurd hTq (by decide)
    refine W.aast C.1 C.2.1 hat (fun q h => by cases h) (fun h => by cases h) k1' k2 rfl hkC ⟨Int32.not_lt.mpr hin.1, by show _ < (arrV _ _ _).slots.size; rw [arrV_size]; exact hin.2⟩ q1 (fun q h => by rw [q3] at h; cases h) (by rw [q2]; exact hkC) (by rw [q2]; exact va_assign hcls) rfl rfl d fun H' e1 e2 e3 => ?_
    obtain ⟨g1, g2⟩ := zH_arr (m' := wR m a (zIx i) q) hH hS (t0 := 4) (i := zIx i) (v := .ref (zad ω q)) (by decide) hT (Or.inr hga) rfl (fun b hb j => ⟨rfl, by rw [zR_wR, if_neg (fun q => hb q.1)], rfl⟩) (fun h => by cases h) (fun j => by
      show (if j = zIx i then Value.ref (zad ω q) else zrv ω (zR m a j)) = zrv ω (zR (wR m a (zIx i) q) a j)
      rw [zR_wR]
      by_cases e : j = zIx i
      · rw [if_pos e, if_pos ⟨rfl, e⟩]
        exact (if_neg hq0).symm
      · rw [if_neg e, if_neg (fun z => e z.2)]) e1 e2 e3
    exact k1 hin r hr p l e s mid args below meth c H' _ la C L g1 g2
end ROWI
