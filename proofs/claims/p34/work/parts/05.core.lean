/-! THE MEMORY: ints, references, longs by address and place; how many addresses are in use -/
abbrev Mm : Type := (Nat → Nat → Int32) × (Nat → Nat → Nat) × (Nat → Nat → Int64) × Nat
def zU {α : Type} (f : Nat → Nat → α) (a k : Nat) (v : α) : Nat → Nat → α := fun b j => if b = a ∧ j = k then v else f b j
def zI (m : Mm) (a k : Nat) : Int32 := m.1 a k
def zR (m : Mm) (a k : Nat) : Nat := m.2.1 a k
def zL (m : Mm) (a k : Nat) : Int64 := m.2.2.1 a k
def zN (m : Mm) : Nat := m.2.2.2
def wI (m : Mm) (a k : Nat) (v : Int32) : Mm := (zU m.1 a k v, m.2)
def wR (m : Mm) (a k : Nat) (v : Nat) : Mm := (m.1, zU m.2.1 a k v, m.2.2)
def wL (m : Mm) (a k : Nat) (v : Int64) : Mm := (m.1, m.2.1, zU m.2.2.1 a k v, m.2.2.2)
def wN (m : Mm) (n : Nat) : Mm := (m.1, m.2.1, m.2.2.1, n)
theorem zI_wI (m : Mm) (a k : Nat) (v : Int32) (b j : Nat) : zI (wI m a k v) b j = if b = a ∧ j = k then v else zI m b j := rfl
theorem zI_wR (m : Mm) (a k : Nat) (v : Nat) (b j : Nat) : zI (wR m a k v) b j = zI m b j := rfl
theorem zI_wL (m : Mm) (a k : Nat) (v : Int64) (b j : Nat) : zI (wL m a k v) b j = zI m b j := rfl
theorem zR_wI (m : Mm) (a k : Nat) (v : Int32) (b j : Nat) : zR (wI m a k v) b j = zR m b j := rfl
theorem zR_wR (m : Mm) (a k : Nat) (v : Nat) (b j : Nat) : zR (wR m a k v) b j = if b = a ∧ j = k then v else zR m b j := rfl
theorem zR_wL (m : Mm) (a k : Nat) (v : Int64) (b j : Nat) : zR (wL m a k v) b j = zR m b j := rfl
theorem zL_wI (m : Mm) (a k : Nat) (v : Int32) (b j : Nat) : zL (wI m a k v) b j = zL m b j := rfl
theorem zL_wR (m : Mm) (a k : Nat) (v : Nat) (b j : Nat) : zL (wR m a k v) b j = zL m b j := rfl
theorem zL_wL (m : Mm) (a k : Nat) (v : Int64) (b j : Nat) : zL (wL m a k v) b j = if b = a ∧ j = k then v else zL m b j := rfl
/-! THE LAYOUT, as the constructors make it: what lies at each address, how long the arrays are, where the references lead -/
def zTL : List Nat := [0, 0, 0, 0, 0, 0, 0, 0, 0, 0, 0, 0, 0, 0, 0, 0, 11, 8, 101, 5, 3, 100, 100, 8, 101, 1, 104, 100, 100, 100, 100, 100, 4, 8, 101, 3, 100, 100, 4, 8, 101, 3, 100, 100, 4, 8, 101, 3, 100, 100, 4, 8, 101, 3, 100, 100, 4, 8, 101, 3, 100, 100, 4, 8, 101, 3, 100, 100, 4, 8, 101, 3, 100, 100, 4, 8, 101, 3, 100, 100, 4, 8, 101, 3, 100, 100, 4, 8, 101, 3, 100, 100, 4, 8, 101, 3, 100, 100, 4, 8, 101, 3, 100, 100, 4, 8, 101, 3, 100, 100, 4, 8, 101, 3, 100, 100, 4, 8, 101, 3, 100, 100, 4, 8, 101, 3, 100, 100, 4, 8, 101, 3, 100, 100, 4, 8, 101, 3, 100, 100, 4, 8, 101, 3, 100, 100, 4, 8, 101, 3, 100, 100, 10, 9, 100, 100, 100, 100, 10, 9, 100, 100, 100, 100, 6, 9, 100, 100, 8, 101, 7, 3, 100, 100, 2, 100, 100, 100, 100, 100, 105, 100, 100, 100, 100, 100, 100, 100, 100, 100, 100, 100, 100, 100, 100, 100, 100, 100, 100, 100, 100, 100, 100, 100, 100, 100, 100]
def zLL : List Nat := [0, 0, 0, 0, 0, 0, 0, 0, 0, 0, 0, 0, 0, 0, 0, 0, 0, 0, 40, 0, 0, 40, 40, 0, 40, 0, 20, 20, 20, 30, 30, 30, 0, 0, 40, 0, 40, 40, 0, 0, 40, 0, 40, 40, 0, 0, 40, 0, 40, 40, 0, 0, 40, 0, 40, 40, 0, 0, 40, 0, 40, 40, 0, 0, 40, 0, 40, 40, 0, 0, 40, 0, 40, 40, 0, 0, 40, 0, 40, 40, 0, 0, 40, 0, 40, 40, 0, 0, 40, 0, 40, 40, 0, 0, 40, 0, 40, 40, 0, 0, 40, 0, 40, 40, 0, 0, 40, 0, 40, 40, 0, 0, 40, 0, 40, 40, 0, 0, 40, 0, 40, 40, 0, 0, 40, 0, 40, 40, 0, 0, 40, 0, 40, 40, 0, 0, 40, 0, 40, 40, 0, 0, 40, 0, 40, 40, 0, 0, 40, 0, 40, 40, 0, 0, 20, 20, 20, 366, 0, 0, 20, 20, 20, 366, 0, 0, 20, 20, 0, 40, 0, 0, 40, 40, 0, 6, 24, 24, 24, 24, 20, 36, 36, 36, 36, 36, 36, 36, 36, 36, 36, 36, 36, 36, 36, 36, 36, 36, 36, 36, 36, 60, 10, 30, 6, 9, 26]
def zRL : List (List Nat) := [[], [], [], [], [], [], [], [], [], [], [], [], [], [], [], [], [17, 19, 25, 152, 158, 164, 170, 174], [18], [], [20], [21, 22], [], [], [24], [], [26, 27, 28, 0, 29, 30, 31], [32, 38, 44, 50, 56, 62, 68, 74, 80, 86, 92, 98, 104, 110, 116, 122, 128, 134, 140, 146], [], [], [], [], [], [33, 35], [34], [], [36, 37], [], [], [39, 41], [40], [], [42, 43], [], [], [45, 47], [46], [], [48, 49], [], [], [51, 53], [52], [], [54, 55], [], [], [57, 59], [58], [], [60, 61], [], [], [63, 65], [64], [], [66, 67], [], [], [69, 71], [70], [], [72, 73], [], [], [75, 77], [76], [], [78, 79], [], [], [81, 83], [82], [], [84, 85], [], [], [87, 89], [88], [], [90, 91], [], [], [93, 95], [94], [], [96, 97], [], [], [99, 101], [100], [], [102, 103], [], [], [105, 107], [106], [], [108, 109], [], [], [111, 113], [112], [], [114, 115], [], [], [117, 119], [118], [], [120, 121], [], [], [123, 125], [124], [], [126, 127], [], [], [129, 131], [130], [], [132, 133], [], [], [135, 137], [136], [], [138, 139], [], [], [141, 143], [142], [], [144, 145], [], [], [147, 149], [148], [], [150, 151], [], [], [25, 153, 154, 155, 156, 157], [], [], [], [], [], [25, 159, 160, 161, 162, 163], [], [], [], [], [], [25, 165, 166, 167], [], [], [], [169], [], [171], [172, 173], [], [], [175, 176, 177, 0, 178, 179, 180], [], [], [], [], [], [181, 182, 183, 184, 185, 186, 187, 188, 189, 190, 191, 192, 193, 194, 195, 196, 197, 198, 199, 200], [], [], [], [], [], [], [], [], [], [], [], [], [], [], [], [], [], [], [], [], [], [], [], [], [], []]
def zFL : List (List Nat) := [[1, 1, 1, 0, 1, 1, 1, 0], [1, 1, 1, 0, 1, 1, 1, 0], [1, 1, 0, 0], [1, 1, 0, 0], [1, 1, 0, 0, 0], [1, 1, 1, 1, 1, 0], [1, 0, 0, 2], [1, 0], [0, 0, 0, 0, 0, 0], [1, 1, 1, 1, 1, 1, 0, 0], [1, 1, 1, 1, 1, 1, 1, 1, 0]]
def zT (a : Nat) : Nat := zTL.getD a 0
def zLn (a : Nat) : Nat := zLL.getD a 0
def zRf (a k : Nat) : Nat := (zRL.getD a []).getD k 0
def zfk (ci k : Nat) : Nat := (zFL.getD ci []).getD k 0
def zNE : Nat := 207
/-! THE WORLD: where the law's heap began, the cells outside, class numbers, slots, array classes, the script -/
abbrev Wd : Type := Nat × (Nat → Nat) × (Nat → ClassId) × (Nat → Nat → Nat) × (Nat → ClassId) × Nat × (Nat → Int32) × List Nat
def oS (ω : Wd) : Nat := ω.1
def oX (ω : Wd) : Nat → Nat := ω.2.1
def oC (ω : Wd) : Nat → ClassId := ω.2.2.1
def oD (ω : Wd) : Nat → Nat → Nat := ω.2.2.2.1
def oA (ω : Wd) : Nat → ClassId := ω.2.2.2.2.1
def oL (ω : Wd) : Nat := ω.2.2.2.2.2.1
def ox (ω : Wd) : Nat → Int32 := ω.2.2.2.2.2.2.1
def oT (ω : Wd) : List Nat := ω.2.2.2.2.2.2.2
/-- where the law's i-th short-lived array lies -/
def zTd (ω : Wd) (i : Nat) : Nat := (oT ω).getD i 0
def zTB : Nat := 207
def zad (ω : Wd) (a : Nat) : Nat := if a < 16 then oX ω a else oS ω + (a - 16)
def zrv (ω : Wd) (r : Nat) : Value := if r = 0 then .null else .ref (zad ω r)
def zfv (ω : Wd) (m : Mm) (ci a k : Nat) : Value := if zfk ci k = 0 then .int (zI m a k) else if zfk ci k = 1 then zrv ω (zR m a k) else .long (zL m a k)
def zav (ω : Wd) (m : Mm) (t a j : Nat) : Value := if t < 3 then .int (zI m a j) else if t = 3 then .long (zL m a j) else zrv ω (zR m a j)
def zAt (ω : Wd) (m : Mm) (a : Nat) (H : Heap) : Prop := (∀ (ci : Nat) (q : vw_C), zT a = ci + 1 → vwCl[ci]? = some q → t_OB (zad ω a) (oC ω ci) q.2.2 (oD ω ci) H (zfv ω m ci a)) ∧ ∀ t, t < 6 → zT a = 100 + t → H[zad ω a]? = some (arrV (oA ω t) (zLn a) (zav ω m t a))
def zLay (m : Mm) : Prop := ∀ a k, zRf a k ≠ 0 → zR m a k = zRf a k
/-- the law's short-lived arrays: ten ints each, kept at the places from 207 on, behind all that lasts -/
def zTm (ω : Wd) (m : Mm) (H : Heap) : Prop := ∀ i, i < (oT ω).length → H[zTd ω i]? = some (arrV (oA ω 0) 10 (fun j => .int (zI m (207 + i) j))) ∧ oS ω + 191 ≤ zTd ω i ∧ ∀ j, j < (oT ω).length → zTd ω i = zTd ω j → i = j
def zH (ω : Wd) (ph : Bool) (m : Mm) (H : Heap) : Prop := (∀ a, 16 ≤ a → a < zN m → zAt ω m a H) ∧ oS ω + (zN m - 16) ≤ H.size ∧ 16 ≤ zN m ∧ (ph = true → zLay m ∧ zN m = zNE) ∧ (ph = false → H.size = oS ω + (zN m - 16)) ∧ (ph = true → zTm ω m H)
def zA (ω : Wd) : Nat → Prop := fun q => oS ω ≤ q
abbrev ztys (ω : Wd) : List (ClassId × FieldType) := [(oA ω 0, .int), (oA ω 1, .char), (oA ω 2, .int), (oA ω 3, .int), (oA ω 4, .object "AlmanacLoom$Feast"), (oA ω 5, .array .int)]
def zst (w : Cond) : Bool := goodWord w || match w with
  | .fieldLinkNest .. => true
  | .methodLinkNest .. => true
  | .declares _ => true
  | .castable .. => true
  | .arrayOver _ => true
  | _ => false
theorem zst_warm {w : Cond} {args a' : Array Value} {s U : State} (h : zst w = true) (hW : s.WarmedH U.vm) (hb : w.before args s = true) : w.before a' U = true := by
  unfold zst at h
  by_cases hg : goodWord w = true
  · exact word_at hW (good_of_word hg) hb
  · rw [Bool.or_eq_true] at h
    rcases h with h | h
    · exact absurd h hg
    · cases w <;> first | cases h | skip
      · exact va_Nw.warmM hW hb
      · exact va_Nw.warmF hW hb
      · exact va_Nw.warmD hW hb
      · exact va_Nw.warmC hW hb
      · rename_i ty
        have e : (Cond.arrayOver ty).before a' U = (Cond.arrayOver ty).before args (s.setVm U.vm) := rfl
        rw [e, Cond.arrayOver_setVmC hW.alike]
        exact hb
def zG : List Cond := lw_tbl.filter zst
theorem zG_in {w : Cond} (i : Nat) (h : lw_tbl[i]? = some w) (hs : zst w = true) : w ∈ zG := List.mem_filter.mpr ⟨List.mem_of_getElem? h, hs⟩
def zIx (i : Int32) : Nat := i.toNatClampNeg
def zSt : List (String × Nat × String) := [("AlmanacLoom", 79, "the day is not 0 to 365"), ("AlmanacLoom", 89, "the day is not 0 to 146096"), ("AlmanacLoom", 97, "the character has no code of 33 to 126"), ("AlmanacLoom", 105, "the text has 40 characters"), ("AlmanacLoom", 125, "the text is no rule"), ("AlmanacLoom", 131, "there are 20 feasts"), ("AlmanacLoom", 168, "the days are not -30 to 30, and not 99"), ("AlmanacLoom", 174, "there are 30 dispensations, or one too near"), ("AlmanacLoom", 182, "there is no such dispensation"), ("AlmanacLoom", 235, "the text is no question"), ("AlmanacLoom", 242, "the cost is not 1 to 100000"), ("AlmanacLoom", 247, "no search was begun"), ("AlmanacLoom", 260, "the bells are not 0 to 6"), ("AlmanacLoom", 265, "the rest is not 0 to 6"), ("AlmanacLoom", 270, "there are 24 ringers"), ("AlmanacLoom", 272, "the bell is not 0 to 5"), ("AlmanacLoom", 285, "there is no such ringer"), ("AlmanacLoom", 293, "the year is not 0 to 399"), ("AlmanacLoom", 295, "there is no such table"), ("AlmanacLoom", 297, "the rank is not 0 to 9"), ("AlmanacLoom", 299, "there is no such parish"), ("AlmanacLoom", 301, "there is no such feast"), ("AlmanacLoom", 307, "a feast is named that there is not")]
def zSLn : List Nat := [2, 3, 2, 1, 1, 0, 2, 3, 2]
def zSBy : List (List Int32) := [[109, 100], [110, 119, 109], [119, 109], [102], [119], [], [102, 119], [102, 109, 100], [102, 102]]
def zSix : List (Nat × String) := [(59, "md"), (65, "nwm"), (67, "wm"), (69, "f"), (74, "w"), (76, ""), (113, "fw"), (115, "fmd"), (117, "ff")]
def zMonL : List Int32 := [0, 31, 59, 90, 120, 151, 181, 212, 243, 273, 304, 334, 365]
def zCstL : List Int32 := [0, 1, 3, 3, 2, 1, 2, 2, 2, 2, 6, 6, 1, 1, 1, 2, 1, 1, 1, 1, 1]
def zMon (i : Int32) : Int32 := zMonL.getD (zIx i) 0
def zCst (i : Int32) : Int32 := zCstL.getD (zIx i) 0
def zEx (e : Nat) : String := if e = 0 then "java/lang/IllegalArgumentException" else if e = 1 then "java/lang/IllegalStateException" else "java/lang/IndexOutOfBoundsException"
/-- what never changes: classes, the script, constant arrays, texts, Throwable's statics -/
def zC (ω : Wd) (U : State) (H : Heap) : Prop :=
  va_K (oC ω, oD ω) vwCl (ztys ω) U ∧ va_X (oX ω 1) (oL ω) (ox ω) U H ∧ (oX ω 1 < oS ω ∧ oS ω ≤ H.size) ∧
  vx_Zq Bundle.tN "UNASSIGNED_STACK" Bundle.steD (zA ω) U H ∧ vx_Zq Bundle.tN "SUPPRESSED_SENTINEL" Bundle.listD (zA ω) U H ∧
  ((∀ q ∈ zSt, ∃ sa : Nat, vk_R q.1 q.2.1 q.2.2 sa U) ∧ ∀ e f : Nat, e < 3 → f < 3 → e ≠ f → va_Nc (zEx e) (zEx f) U) ∧
  (va_Z "AlmanacLoom$Calendar" "MONTH_STARTS" "[I" (.ref (oX ω 2)) (zA ω) U H ∧ va_T .int (oX ω 2) 13 (fun j => .int (zMonL.getD j 0)) (zA ω) U H) ∧
  (va_Z "AlmanacLoom$YearBook" "STEP_COSTS" "[I" (.ref (oX ω 3)) (zA ω) U H ∧ va_T .int (oX ω 3) 21 (fun j => .int (zCstL.getD j 0)) (zA ω) U H) ∧
  va_Z "java/lang/String" "COMPACT_STRINGS" "Z" (.int 1) (zA ω) U H ∧ va_Zq "jdk/internal/util/Preconditions" "SIOOBE_FORMATTER" "Ljava/util/function/BiFunction;" (zA ω) U H ∧
  vk_S 9 zSLn zSBy (fun i => oX ω (4 + i)) (fun i => oX ω (20 + i)) (zA ω) U H ∧ ∀ (i : Nat) (q : Nat × String), zSix[i]? = some q → vk_R "AlmanacLoom$Parser" q.1 q.2 (oX ω (4 + i)) U
def zWo (ω : Wd) (ph : Bool) (m : Mm) (U : State) : Prop := zH ω ph m U.heap ∧ zC ω U U.heap
abbrev Zo : Type := (Option Value ⊕ Nat) × Mm
def zQc (ω : Wd) (ph : Bool) (out : Zo) : Array Value → State → Outcome → State → Prop := fun _ st o t => ∃ (v : Option Value) (m : Mm), out = (.inl v, m) ∧ o = .returned v ∧ zH ω ph m t.heap ∧ va_F (zA ω) st t
def zXc (ω : Wd) (ph : Bool) (out : Zo) : String → State → State → Prop := fun E st t => ∃ (e : Nat) (m : Mm), out = (.inr e, m) ∧ E = zEx e ∧ zH ω ph m t.heap ∧ va_F (zA ω) st t
def zRm (D mc ms : Nat) : Room := { frames := D, cells := mc, slots := ms, locals := 40 * D + 200 }
/-- a method: its class, code, locals, result, handlers, whether it is a constructor -/
abbrev Kx : Type := String × ByteArray × Nat × Option FieldType × List (Nat × Nat × Nat × Nat) × Bool
def zCx (ω : Wd) (κ : Kx) (p : Program) (l : Launch) (s : State) (mid : MethodId) (args : Array Value) (meth : Method) (c : Code) : Prop :=
  p.tables.exec = Jvm.exec ∧ c.code = κ.2.1 ∧ meth.sig.returnType = κ.2.2.2.1 ∧ c.maxLocals = κ.2.2.1 ∧ s.vm.findClass κ.1 = some mid.cls ∧ (∀ w ∈ zG, w.before args s = true) ∧ meth.locks = false ∧ l.stackTraces = false ∧ zC ω s s.heap ∧ c.exceptionTable.toList = tableOf κ.2.2.2.2.1 ∧ (κ.2.2.2.2.2 = true → meth.name = "<init>")
def zLv (la : Array Slot) (nL : Nat) (ls : List (Option Value)) : Prop := la.size = nL ∧ lv_wf la ∧ (∀ (i : Nat) (v : Value), ls[i]? = some (some v) → la[i]? = some (Slot.val v)) ∧ ∀ (i : Nat) (v : Value), ls[i]? = some (some v) → v.category = 1
def Sx (ω0 ω : Wd) (ph : Bool) (D mc ms : Nat) (κ : Kx) {α : Type} (φ : α → Zo) (c0 s0 : Nat) (m : Mm) (pc : Nat) (ls : List (Option Value)) (st : List Value) (t : Option α) : Prop :=
  ∀ r, t = some r → ∀ (p : Program) (l : Launch) (e : Env) (s : State) (mid : MethodId) (args : Array Value) (below : List Frame) (meth : Method) (c : Code) (H : Heap) (locs : List Loc) (la : Array Slot),
    zCx ω κ p l s mid args meth c → zLv la κ.2.2.1 ls → zH ω ph m H → va_S (zA ω) s.heap H locs →
    W p l e (zRm D mc ms) s mid args below meth c H locs c0 s0 (vx_MQ below (zQc ω0 ph (φ r)) (zXc ω0 ph (φ r)) args s mc ms (zA ω0)) (F0 mid pc la st)
def zWS (y : MethodName) (cc : ByteArray) (nL : Nat) (ret : Option FieldType) : List Cond := Cond.code y cc nL ret :: zG
def zPc (ω : Wd) (ph : Bool) (m : Mm) (av : List Value) : Array Value → State → Prop := fun v U => v = av.toArray ∧ zWo ω ph m U
/-- a method's contract: where its text has a result, the machine comes to it -/
def Ev (ω : Wd) (ph : Bool) (D mc ms : Nat) (y : MethodName) (cc : ByteArray) (nL : Nat) (ret : Option FieldType) (av : List Value) (m : Mm) {α : Type} (φ : α → Zo) (t : Option α) : Prop :=
  ∀ r, t = some r → ∀ l : Launch, l.stackTraces = false → vx_Met l y (zWS y cc nL ret) (zRm D mc ms) (zPc ω ph m av) (zQc ω ph (φ r)) (zXc ω ph (φ r)) mc ms (zA ω)
def fI (r : Int32 × Mm) : Zo := (.inl (some (.int r.1)), r.2)
def fV (m : Mm) : Zo := (.inl none, m)
def fL (r : Int64 × Mm) : Zo := (.inl (some (.long r.1)), r.2)
def fR (ω : Wd) (r : Nat × Mm) : Zo := (.inl (some (.ref (zad ω r.1))), r.2)
def fXI (r : (Int32 ⊕ Nat) × Mm) : Zo := (match r.1 with | .inl v => .inl (some (.int v)) | .inr e => .inr e, r.2)
def fXL (r : (Int64 ⊕ Nat) × Mm) : Zo := (match r.1 with | .inl v => .inl (some (.long v)) | .inr e => .inr e, r.2)
def fXV (r : (Unit ⊕ Nat) × Mm) : Zo := (match r.1 with | .inl _ => .inl none | .inr e => .inr e, r.2)
def zLet {α β : Type} (e : α) (f : α → β) : β := f e
def zBI {α : Type} (o : Option (Int32 × Mm)) (K : Int32 → Mm → Option α) : Option α := o.bind fun r => K r.1 r.2
def zBR {α : Type} (o : Option (Nat × Mm)) (K : Nat → Mm → Option α) : Option α := o.bind fun r => K r.1 r.2
def zBL {α : Type} (o : Option (Int64 × Mm)) (K : Int64 → Mm → Option α) : Option α := o.bind fun r => K r.1 r.2
def zBV {α : Type} (o : Option Mm) (K : Mm → Option α) : Option α := o.bind K
def zBXV {β : Type} (o : Option ((Unit ⊕ Nat) × Mm)) (K : Mm → Option ((β ⊕ Nat) × Mm)) : Option ((β ⊕ Nat) × Mm) := o.bind fun r => match r.1 with | .inl _ => K r.2 | .inr e => some (.inr e, r.2)
abbrev zBo (v : Int32) : Prop := v = 0 ∨ v = 1
abbrev zCh (v : Int32) : Prop := 0 ≤ v ∧ v < 65536
abbrev zIn (i : Int32) (n : Nat) : Prop := 0 ≤ i ∧ i.toNatClampNeg < n
theorem zIn_vp {i : Int32} {n : Nat} (h : zIn i n) : vp_in i n := fun q => q.elim (fun q => absurd h.1 (Int32.not_le.mpr q)) (fun q => absurd h.2 (Nat.not_lt.mpr q))
section ROWS
variable {ω0 ω : Wd} {ph : Bool} {D mc ms : Nat} {κ : Kx} {α : Type} {φ : α → Zo} {c0 s0 : Nat} {m : Mm} {pc : Nat} {ls : List (Option Value)} {st : List Value}
theorem Sx.go {pc' : Nat} {ls' : List (Option Value)} {st' : List Value} {t : Option α}
    (h : ∀ {p : Program} {l : Launch} {e : Env} {R : Room} {s : State} {mid : MethodId} {args : Array Value} {below : List Frame} {meth : Method} {c : Code} {H : Heap} {locs : List Loc} {cells slots : Nat} {Q : State → Prop} {la : Array Slot},
      zCx ω κ p l s mid args meth c → zLv la κ.2.2.1 ls → (∀ la', zLv la' κ.2.2.1 ls' → W p l e R s mid args below meth c H locs cells slots Q (F0 mid pc' la' st')) → W p l e R s mid args below meth c H locs cells slots Q (F0 mid pc la st))
    (k : Sx ω0 ω ph D mc ms κ φ c0 s0 m pc' ls' st' t) : Sx ω0 ω ph D mc ms κ φ c0 s0 m pc ls st t :=
  fun r hr p l e s mid args below meth c H locs la C L hH hS => h C L fun la' L' => k r hr p l e s mid args below meth c H locs la' C L' hH hS
theorem Sx.go2 {c : Prop} [Decidable c] {pc1 pc2 : Nat} {st1 st2 : List Value} {t1 t2 : Option α}
    (h : ∀ {p : Program} {l : Launch} {e : Env} {R : Room} {s : State} {mid : MethodId} {args : Array Value} {below : List Frame} {meth : Method} {c9 : Code} {H : Heap} {locs : List Loc} {cells slots : Nat} {Q : State → Prop} {la : Array Slot},
      zCx ω κ p l s mid args meth c9 → zLv la κ.2.2.1 ls → (c → W p l e R s mid args below meth c9 H locs cells slots Q (F0 mid pc1 la st1)) → (¬ c → W p l e R s mid args below meth c9 H locs cells slots Q (F0 mid pc2 la st2)) → W p l e R s mid args below meth c9 H locs cells slots Q (F0 mid pc la st))
    (k1 : c → Sx ω0 ω ph D mc ms κ φ c0 s0 m pc1 ls st1 t1) (k2 : ¬ c → Sx ω0 ω ph D mc ms κ φ c0 s0 m pc2 ls st2 t2) : Sx ω0 ω ph D mc ms κ φ c0 s0 m pc ls st (if c then t1 else t2) :=
  fun r hr p l e s mid args below meth c9 H locs la C L hH hS => h C L
    (fun hc => k1 hc r (by rw [if_pos hc] at hr; exact hr) p l e s mid args below meth c9 H locs la C L hH hS)
    (fun hc => k2 hc r (by rw [if_neg hc] at hr; exact hr) p l e s mid args below meth c9 H locs la C L hH hS)
/-- a guard of the text -/
theorem x_guard {c : Prop} [Decidable c] {t : Option α} (k : c → Sx ω0 ω ph D mc ms κ φ c0 s0 m pc ls st t) : Sx ω0 ω ph D mc ms κ φ c0 s0 m pc ls st (if c then t else none) := by
  intro r hr
  by_cases hc : c
  · rw [if_pos hc] at hr
    exact k hc r hr
  · rw [if_neg hc] at hr
    cases hr
theorem x_let {β : Type} {e : β} {f : β → Option α} (k : ∀ x, x = e → Sx ω0 ω ph D mc ms κ φ c0 s0 m pc ls st (f x)) : Sx ω0 ω ph D mc ms κ φ c0 s0 m pc ls st (zLet e f) := k e rfl
theorem zLv.at {la : Array Slot} {nL : Nat} (h : zLv la nL ls) {i : Nat} {v : Value} (hk : ls[i]? = some (some v)) : la[i]? = some (.val v) := h.2.2.1 i v hk
theorem zLv.sub {la : Array Slot} {nL : Nat} {ls' : List (Option Value)} (h : zLv la nL ls) (hs : ∀ (i : Nat) (v : Value), ls'[i]? = some (some v) → ls[i]? = some (some v)) : zLv la nL ls' :=
  ⟨h.1, h.2.1, fun i v q => h.2.2.1 i v (hs i v q), fun i v q => h.2.2.2 i v (hs i v q)⟩
def zas (ls : List (Option Value)) : List (Nat × Value) := (ls.zipIdx).filterMap fun q => q.1.map fun v => (q.2, v)
theorem zas_mem {ls : List (Option Value)} {q : Nat × Value} : q ∈ zas ls ↔ ls[q.1]? = some (some q.2) := by
  obtain ⟨i, v⟩ := q
  unfold zas
  rw [List.mem_filterMap]
  constructor
  · rintro ⟨⟨o, j⟩, h1, h2⟩
    have h3 := List.mem_zipIdx_iff_getElem?.mp h1
    cases o with
    | none => cases h2
    | some w => cases h2; exact h3
  · intro h
    exact ⟨(some v, i), List.mem_zipIdx_iff_getElem?.mpr h, rfl⟩
theorem zLv.has {la : Array Slot} {nL : Nat} (h : zLv la nL ls) : lv_has la nL (zas ls) := ⟨h.1, h.2.1, fun q hq => h.2.2.1 q.1 q.2 (zas_mem.mp hq)⟩
theorem zLv.store {la' : Array Slot} {nL i : Nat} {v : Value} {la : Array Slot} (h0 : zLv la nL ls) (hv : v.category = 1) (h : lv_has la' nL ((i, v) :: (zas ls).filter (fun q => !(q.1 == i) && !(q.1 + 1 == i && q.2.category == 2)))) : zLv la' nL (ls.set i (some v)) := by
  refine ⟨h.1, h.2.1, fun j w hj => ?_, fun j w hj => ?_⟩
  · rw [List.getElem?_set] at hj
    split at hj
    · next e =>
      subst e
      split at hj
      · cases hj; exact h.2.2 (i, v) List.mem_cons_self
      · cases hj
    · next e =>
      refine h.2.2 (j, w) (List.mem_cons_of_mem _ (List.mem_filter.mpr ⟨zas_mem.mpr hj, ?_⟩))
      have hc := h0.2.2.2 j w hj
      simp [hc, Ne.symm e]
  · rw [List.getElem?_set] at hj
    split at hj
    · split at hj
      · cases hj; exact hv
      · cases hj
    · exact h0.2.2.2 j w hj
theorem x_sub {ls' : List (Option Value)} {t : Option α} (hs : ∀ (i : Nat) (v : Value), ls'[i]? = some (some v) → ls[i]? = some (some v)) (k : Sx ω0 ω ph D mc ms κ φ c0 s0 m pc ls' st t) : Sx ω0 ω ph D mc ms κ φ c0 s0 m pc ls st t :=
  fun r hr p l e s mid args below meth c H locs la C L hH hS => k r hr p l e s mid args below meth c H locs la C (L.sub hs) hH hS
end ROWS
