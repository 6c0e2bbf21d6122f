def wC (m : Mm) (a0 a n : Nat) : Mm := (fun b j => if b = a ∧ j < n then m.1 a0 j else m.1 b j, m.2)
theorem zI_wC (m : Mm) (a0 a n : Nat) (b j : Nat) : zI (wC m a0 a n) b j = if b = a ∧ j < n then zI m a0 j else zI m b j := rfl
theorem zR_wC (m : Mm) (a0 a n : Nat) (b j : Nat) : zR (wC m a0 a n) b j = zR m b j := rfl
theorem zL_wC (m : Mm) (a0 a n : Nat) (b j : Nat) : zL (wC m a0 a n) b j = zL m b j := rfl
abbrev zCpy (m : Mm) (t0 a0 a : Nat) (n : Int32) : Prop := 0 ≤ n ∧ zIx n ≤ zLn a0 ∧ zIx n ≤ zLn a ∧ (t0 = 1 → ∀ i, i < zIx n → zCh (zI m a0 i))
def zThr (own : String) (ik is ic : Nat) (cls text : String) (names : List String) : Prop :=
  Bundle.fit cls = true ∧ (∀ n ∈ names, Bundle.fit n = true) ∧ Cond.classLink own ik cls ∈ zG ∧ Cond.initialized cls ∈ zG ∧ (own, is, text) ∈ zSt ∧ (∀ w ∈ vx_atS own ic cls names, w ∈ zG) ∧ ∀ w ∈ Cond.classLink own ik cls :: Cond.initialized cls :: vx_atS own ic cls names, vx_ot w = true
section ROWF
variable {ω0 ω : Wd} {ph : Bool} {D mc ms : Nat} {κ : Kx} {α : Type} {φ : α → Zo} {c0 s0 : Nat} {m : Mm} {pc : Nat} {ls : List (Option Value)} {st : List Value} {t t1 t2 : Option α}
theorem zEntry {av : List Value} {nL : Nat} (hav : ∀ v ∈ av, v.category = 1) (hlen : av.length ≤ nL) : zLv ((av.map Slot.val ++ List.replicate (nL - av.length) Slot.unset).toArray) nL (av.map some ++ List.replicate (nL - av.length) none) := by
  have hget : ∀ (i : Nat) (v : Value), (av.map some ++ List.replicate (nL - av.length) none)[i]? = some (some v) → av[i]? = some v := by
    intro i v h
    by_cases hi : i < av.length
    · rw [List.getElem?_append_left (by simpa using hi), List.getElem?_map] at h
      cases hq : av[i]? with
      | none => rw [hq] at h; cases h
      | some w => rw [hq] at h; simp at h; rw [h]
    · rw [List.getElem?_append_right (by simpa using hi)] at h
      rw [List.getElem?_replicate] at h
      split at h <;> cases h
  have hval : ∀ (i : Nat) (v : Value), (av.map Slot.val ++ List.replicate (nL - av.length) Slot.unset)[i]? = some (.val v) → av[i]? = some v := by
    intro i v h
    by_cases hi : i < av.length
    · rw [List.getElem?_append_left (by simpa using hi), List.getElem?_map] at h
      cases hq : av[i]? with
      | none => rw [hq] at h; cases h
      | some w => rw [hq] at h; simp at h; rw [h]
    · rw [List.getElem?_append_right (by simpa using hi)] at h
      rw [List.getElem?_replicate] at h
      split at h <;> cases h
  refine ⟨by simp; omega, ⟨fun i v h h2 => ?_, fun i h => ?_⟩, fun i v h => ?_, fun i v h => ?_⟩
  · have h3 := hval i v (by simpa using h)
    rw [hav v (List.mem_of_getElem? h3)] at h2
    cases h2
  · have h' : (av.map Slot.val ++ List.replicate (nL - av.length) Slot.unset)[i]? = some .second := by simpa using h
    by_cases hi : i < av.length
    · rw [List.getElem?_append_left (by simpa using hi), List.getElem?_map] at h'
      cases hq : av[i]? with
      | none => rw [hq] at h'; cases h'
      | some w => rw [hq] at h'; cases h'
    · rw [List.getElem?_append_right (by simpa using hi), List.getElem?_replicate] at h'
      split at h' <;> cases h'
  · have h3 := hget i v h
    have hi : i < av.length := (List.getElem?_eq_some_iff.mp h3).1
    have h4 : (av.map Slot.val ++ List.replicate (nL - av.length) Slot.unset)[i]? = some (.val v) := by
      rw [List.getElem?_append_left (by simpa using hi), List.getElem?_map, h3]
      rfl
    simpa using h4
  · exact hav v (List.mem_of_getElem? (hget i v h))
theorem zx_ofW {l : Launch} {y : MethodName} {ws ws' : List Cond} {rm : Room} {Pc : Array Value → State → Prop} {Qc : Array Value → State → Outcome → State → Prop} {XC : String → State → State → Prop} {mc ms : Nat} {free : Addr → Prop} {cc : ByteArray} {maxL : Nat} {ret : Option FieldType}
    (hy : plainFor y = true) (hw : ws = Cond.code y cc maxL ret :: ws')
    (body : ∀ p e s m args below meth c s₁, BodyLoose p l y (headSpec ws rm) cc maxL ret e s m args below meth c s₁ → c.maxLocals = maxL → (∀ x ∈ c.exceptionTable.toList, False) → Pc args s →
      W p l e (headSpec ws rm).room s m args below meth c s.heap [] 0 0 (vx_MQ below Qc XC args s mc ms free) (entryFrame m args maxL)) : vx_Met l y ws rm Pc Qc XC mc ms free := by
  refine MetFree.of_bodySF (code := cc) (maxLocals := maxL) (ret := ret) hy ?_ ?_
  · intro args s m h hn
    obtain ⟨meth, c, h1, h2, h3, h4, h5, h6, -, -⟩ := Cond.code_spec hn (atoms_spec (ws := ws) h _ (by rw [hw]; exact List.mem_cons_self))
    exact ⟨meth, c, h1, h2, h3, h4, h5, h6⟩
  · intro p e s m args below meth c s₁ B hml hP _
    have hh0 : s₁.heap = s.heap := by rw [B.state]; rfl
    have ht : ∀ x ∈ c.exceptionTable.toList, False := by
      obtain ⟨meth9, c9, h1, h2, -, -, -, -, h7, -⟩ := Cond.code_spec B.named (atoms_spec (ws := ws) B.pre _ (by rw [hw]; exact List.mem_cons_self))
      cases Option.some.inj (h1.symm.trans B.method)
      cases Option.some.inj (h2.symm.trans (Stand.of_body B).code)
      intro x hx
      rw [Array.isEmpty_iff.mp h7] at hx
      cases hx
    obtain ⟨t, a1, o, b1, b2, b3⟩ := body p e s m args below meth c s₁ B hml ht hP s₁ hh0 (Stand.of_body B)
    exact ⟨t, o, a1, b1, b2, b3⟩
theorem Ev.of {y : MethodName} {cc : ByteArray} {nL : Nat} {ret : Option FieldType} {av : List Value} {b : Bool} (hy : plainFor y = true) (hI : b = true → y.name = "<init>") (hav0 : av.all (fun v => v.category == 1) = true) (hlen : av.length ≤ nL) (hls : av.map some ++ List.replicate (nL - av.length) none = ls)
    (k : Sx ω ω ph D mc ms (y.cls, cc, nL, ret, [], b) φ 0 0 m 0 ls [] t) : Ev ω ph D mc ms y cc nL ret av m φ t := by
  subst hls
  have hav : ∀ v ∈ av, v.category = 1 := fun v hv => by simpa using List.all_eq_true.mp hav0 v hv
  intro r hr l hl
  refine zx_ofW hy rfl ?_
  intro p e s mid args below meth c s₁ B hml ht hP
  obtain ⟨rfl, hH, hC⟩ := hP
  rw [entry_eq mid av hav nL]
  have hts := atoms_spec (ws := zWS y cc nL ret) B.pre
  have htab : c.exceptionTable.toList = tableOf [] := by
    cases h : c.exceptionTable.toList with
    | nil => rfl
    | cons a b => exact absurd (ht a (by rw [h]; exact List.mem_cons_self)) id
  exact k r hr p l e s mid _ below meth c s.heap [] _ ⟨B.exec, B.bytes, B.returns, hml, findClass_of_methodNamed B.named, fun w hw => hts w (List.mem_cons_of_mem _ hw), B.notSynchronized, hl, hC, htab, fun hb => by rw [(name_of_methodNamed B.named B.method).1]; exact hI hb⟩ (zEntry hav hlen) hH va_S.rf
/-! throw new E(text) -/
theorem zH_more {ω : Wd} {m : Mm} {H H' : Heap} (h : zH ω true m H) (hs : H.size ≤ H'.size) (hq : ∀ q : Nat, q < H.size → H'[q]? = H[q]?) : zH ω true m H' := by
  refine ⟨fun b h16 hb => zAt_kept (h.1 b h16 hb) (hq _ ?_) (fun _ => rfl) (fun _ => rfl) (fun _ => rfl), Nat.le_trans h.2.1 hs, h.2.2.1, h.2.2.2.1, (fun hp => nomatch hp), fun hp => (h.2.2.2.2.2 hp).mv (fun i hi => hq _ (Array.getElem?_eq_some_iff.mp (h.2.2.2.2.2 hp i hi).1).1) (fun _ _ _ => rfl)⟩
  rw [zad_of h16]
  have := h.2.1
  omega
theorem x_throwS {e9 ik is ic : Nat} {text : String} {names : List String} {r0 : α} (hφ : φ r0 = (.inr e9, m)) (hw : zThr κ.1 ik is ic (zEx e9) text names) (hx0 : κ.2.2.2.2.1 = []) (hD : names.length + 3 < D) (hwt : (st.map fun v => v.category).sum ≤ 8) (hD2 : 13 * (names.length + 1) + 51 ≤ 40 * D + 200) (hc : c0 + 1 ≤ mc ∧ s0 + 6 ≤ ms)
    (d0 : decode κ.2.1 pc = .ok (.new ik, 3)) (d3 : decode κ.2.1 (pc + 3) = .ok (.dup, 1)) (d4 : decode κ.2.1 (pc + 4) = .ok (.ldc is, 2)) (d6 : decode κ.2.1 (pc + 6) = .ok (.invokespecial ic, 3)) (d9 : decode κ.2.1 (pc + 9) = .ok (.athrow, 1)) : Sx ω ω true D mc ms κ φ c0 s0 m pc ls st (some r0) := by
  intro r hr p l e s mid args below meth c H locs la C L hH hS
  cases hr
  obtain ⟨w1, w2, w3, w4, w5, w6, w7⟩ := hw
  have hts := C.2.2.2.2.2.1
  have hC := C.2.2.2.2.2.2.2.2.1
  obtain ⟨sa, hsa⟩ := hC.2.2.2.2.2.1.1 _ w5
  refine vx_throwS (names := names) (A := zA ω) (sa := sa) C.1 C.2.1 C.2.2.2.2.2.2.2.1 C.2.2.2.2.1 w1 w2 (hts _ w3) (hts _ w4) hsa (fun w h => hts w (w6 w h)) w7 hC.2.2.2.1 hC.2.2.2.2.1 hS (L.1.trans C.2.2.2.1.symm) d0 d3 d4 d6 d9 (fun x hx => ?_) hD ?_ ?_ ?_ C.2.2.2.2.2.2.1 (fun t hvm hs hq => ?_) hS.2.2 hc.1 hc.2
  · rw [C.2.2.2.2.2.2.2.2.2.1, hx0] at hx
    exact absurd hx (by simp [tableOf])
  · show (st.map fun v => v.category).sum + (13 * (names.length + 1) + 43) ≤ 40 * D + 200
    omega
  · exact hc.1
  · exact hc.2
  · rw [hφ]
    exact ⟨e9, m, rfl, rfl, zH_more hH hs hq, Nat.le_trans hS.1 hs, fun q h1 h2 => (hq q (Nat.lt_of_lt_of_le h1 hS.1)).trans (hS.2.1 q h1 h2)⟩
theorem x_throwSW {e9 ik is ic : Nat} {text : String} {names : List String} {r0 : α} (hφ : φ r0 = (.inr e9, m)) (hw : zThr κ.1 ik is ic (zEx e9) text names) (hx0 : κ.2.2.2.2.1 = []) (hD : names.length + 3 < D) (hwt : (st.map fun v => v.category).sum ≤ 8) (hD2 : 13 * (names.length + 1) + 51 ≤ 40 * D + 200) (hc : c0 + 1 ≤ mc ∧ s0 + 6 ≤ ms)
    (d0 : decode κ.2.1 pc = .ok (.new ik, 3)) (d3 : decode κ.2.1 (pc + 3) = .ok (.dup, 1)) (d4 : decode κ.2.1 (pc + 4) = .ok (.ldc_w is, 3)) (d6 : decode κ.2.1 (pc + 7) = .ok (.invokespecial ic, 3)) (d9 : decode κ.2.1 (pc + 10) = .ok (.athrow, 1)) : Sx ω ω true D mc ms κ φ c0 s0 m pc ls st (some r0) := by
  intro r hr p l e s mid args below meth c H locs la C L hH hS
  cases hr
  obtain ⟨w1, w2, w3, w4, w5, w6, w7⟩ := hw
  have hts := C.2.2.2.2.2.1
  have hC := C.2.2.2.2.2.2.2.2.1
  obtain ⟨sa, hsa⟩ := hC.2.2.2.2.2.1.1 _ w5
  refine vx_throwSW (names := names) (A := zA ω) (sa := sa) C.1 C.2.1 C.2.2.2.2.2.2.2.1 C.2.2.2.2.1 w1 w2 (hts _ w3) (hts _ w4) hsa (fun w h => hts w (w6 w h)) w7 hC.2.2.2.1 hC.2.2.2.2.1 hS (L.1.trans C.2.2.2.1.symm) d0 d3 d4 d6 d9 (fun x hx => ?_) hD ?_ ?_ ?_ C.2.2.2.2.2.2.1 (fun t hvm hs hq => ?_) hS.2.2 hc.1 hc.2
  · rw [C.2.2.2.2.2.2.2.2.2.1, hx0] at hx
    exact absurd hx (by simp [tableOf])
  · show (st.map fun v => v.category).sum + (13 * (names.length + 1) + 43) ≤ 40 * D + 200
    omega
  · exact hc.1
  · exact hc.2
  · rw [hφ]
    exact ⟨e9, m, rfl, rfl, zH_more hH hs hq, Nat.le_trans hS.1 hs, fun q h1 h2 => (hq q (Nat.lt_of_lt_of_le h1 hS.1)).trans (hS.2.1 q h1 h2)⟩
/-! the constant arrays, the script, the parser's texts -/
theorem x_getMon {idx : Nat} (hl : Cond.fieldLink κ.1 idx "AlmanacLoom$Calendar" "MONTH_STARTS" "[I" ∈ zG) (d : decode κ.2.1 pc = .ok (.getstatic idx, 3)) (k : Sx ω0 ω ph D mc ms κ φ c0 s0 m (pc + 3) ls (.ref (oX ω 2) :: st) t) : Sx ω0 ω ph D mc ms κ φ c0 s0 m pc ls st t :=
  fun r hr p l e s mid args below meth c H locs la C L hH hS => va_gets C.1 C.2.1 C.2.2.2.2.2.2.2.2.1.2.2.2.2.2.2.1.1 hS C.2.2.2.2.1 (C.2.2.2.2.2.1 _ hl) (fun _ h => h) d (k r hr p l e s mid args below meth c H locs la C L hH hS)
theorem x_getCst {idx : Nat} (hl : Cond.fieldLink κ.1 idx "AlmanacLoom$YearBook" "STEP_COSTS" "[I" ∈ zG) (d : decode κ.2.1 pc = .ok (.getstatic idx, 3)) (k : Sx ω0 ω ph D mc ms κ φ c0 s0 m (pc + 3) ls (.ref (oX ω 3) :: st) t) : Sx ω0 ω ph D mc ms κ φ c0 s0 m pc ls st t :=
  fun r hr p l e s mid args below meth c H locs la C L hH hS => va_gets C.1 C.2.1 C.2.2.2.2.2.2.2.2.1.2.2.2.2.2.2.2.1.1 hS C.2.2.2.2.1 (C.2.2.2.2.2.1 _ hl) (fun _ h => h) d (k r hr p l e s mid args below meth c H locs la C L hH hS)
theorem x_ialdMon {i : Int32} (d : decode κ.2.1 pc = .ok (.iaload, 1)) (k : zIn i 13 → Sx ω0 ω ph D mc ms κ φ c0 s0 m (pc + 1) ls (.int (zMon i) :: st) t) : Sx ω0 ω ph D mc ms κ φ c0 s0 m pc ls (.int i :: .ref (oX ω 2) :: st) (if zIn i 13 then t else none) :=
  x_guard fun hin r hr p l e s mid args below meth c H locs la C L hH hS => va_ti (v := .int (zMon i)) C.1 C.2.1 C.2.2.2.2.2.2.2.2.1.2.2.2.2.2.2.1.2 hS (zIn_vp hin) rfl d (k hin r hr p l e s mid args below meth c H locs la C L hH hS)
theorem x_ialdCst {i : Int32} (d : decode κ.2.1 pc = .ok (.iaload, 1)) (k : zIn i 21 → Sx ω0 ω ph D mc ms κ φ c0 s0 m (pc + 1) ls (.int (zCst i) :: st) t) : Sx ω0 ω ph D mc ms κ φ c0 s0 m pc ls (.int i :: .ref (oX ω 3) :: st) (if zIn i 21 then t else none) :=
  x_guard fun hin r hr p l e s mid args below meth c H locs la C L hH hS => va_ti (v := .int (zCst i)) C.1 C.2.1 C.2.2.2.2.2.2.2.2.1.2.2.2.2.2.2.2.1.2 hS (zIn_vp hin) rfl d (k hin r hr p l e s mid args below meth c H locs la C L hH hS)
theorem x_lenCst {v : Int32} (hv : Int32.ofNat 21 = v) (d : decode κ.2.1 pc = .ok (.arraylength, 1)) (k : Sx ω0 ω ph D mc ms κ φ c0 s0 m (pc + 1) ls (.int v :: st) t) : Sx ω0 ω ph D mc ms κ φ c0 s0 m pc ls (.ref (oX ω 3) :: st) t :=
  fun r hr p l e s mid args below meth c H locs la C L hH hS => va_tlen C.1 C.2.1 C.2.2.2.2.2.2.2.2.1.2.2.2.2.2.2.2.1.2 hS hv d (k r hr p l e s mid args below meth c H locs la C L hH hS)
theorem x_sld {i : Int32} (d : decode κ.2.1 pc = .ok (.iaload, 1)) (k : zIn i (oL ω) → Sx ω0 ω ph D mc ms κ φ c0 s0 m (pc + 1) ls (.int (ox ω (zIx i)) :: st) t) : Sx ω0 ω ph D mc ms κ φ c0 s0 m pc ls (.int i :: .ref (oX ω 1) :: st) (if zIn i (oL ω) then t else none) :=
  x_guard fun hin r hr p l e s mid args below meth c H locs la C L hH hS => va_sld C.1 C.2.1 C.2.2.2.2.2.2.2.2.1.2.1 (Nat.lt_of_lt_of_le C.2.2.2.2.2.2.2.2.1.2.2.1.1 C.2.2.2.2.2.2.2.2.1.2.2.1.2) (Nat.not_le.mpr C.2.2.2.2.2.2.2.2.1.2.2.1.1) hS (zIn_vp hin) d (k hin r hr p l e s mid args below meth c H locs la C L hH hS)
theorem x_slen (d : decode κ.2.1 pc = .ok (.arraylength, 1)) (k : Sx ω0 ω ph D mc ms κ φ c0 s0 m (pc + 1) ls (.int (Int32.ofNat (oL ω)) :: st) t) : Sx ω0 ω ph D mc ms κ φ c0 s0 m pc ls (.ref (oX ω 1) :: st) t :=
  fun r hr p l e s mid args below meth c H locs la C L hH hS => va_slen C.1 C.2.1 C.2.2.2.2.2.2.2.2.1.2.1 (Nat.lt_of_lt_of_le C.2.2.2.2.2.2.2.2.1.2.2.1.1 C.2.2.2.2.2.2.2.2.1.2.2.1.2) (Nat.not_le.mpr C.2.2.2.2.2.2.2.2.1.2.2.1.1) hS d (k r hr p l e s mid args below meth c H locs la C L hH hS)
theorem x_ldcS {idx i : Nat} {tx : String} (ho : κ.1 = "AlmanacLoom$Parser") (hi : zSix[i]? = some (idx, tx)) (d : decode κ.2.1 pc = .ok (.ldc idx, 2)) (k : Sx ω0 ω ph D mc ms κ φ c0 s0 m (pc + 2) ls (.ref (oX ω (4 + i)) :: st) t) : Sx ω0 ω ph D mc ms κ φ c0 s0 m pc ls st t :=
  fun r hr p l e s mid args below meth c H locs la C L hH hS => by
    obtain ⟨h1, h2⟩ := C.2.2.2.2.2.2.2.2.1.2.2.2.2.2.2.2.2.2.2
    exact va_ldcS C.1 C.2.1 (own := κ.1) C.2.2.2.2.1 (by rw [ho]; exact h2 i _ hi) d (k r hr p l e s mid args below meth c H locs la C L hH hS)
theorem x_ldcI {idx : Nat} {v : Int32} (hl : Cond.constant κ.1 idx v ∈ zG) (d : decode κ.2.1 pc = .ok (.ldc idx, 2)) (k : Sx ω0 ω ph D mc ms κ φ c0 s0 m (pc + 2) ls (.int v :: st) t) : Sx ω0 ω ph D mc ms κ φ c0 s0 m pc ls st t :=
  fun r hr p l e s mid args below meth c H locs la C L hH hS => W.ldc C.1 C.2.1 C.2.2.2.2.1 (C.2.2.2.2.2.1 _ hl) rfl d (k r hr p l e s mid args below meth c H locs la C L hH hS)
theorem x_dup2 {va vb : Value} (d : decode κ.2.1 pc = .ok (.dup2, 1)) (hva : va.category = 1) (hvb : vb.category = 1) (k : Sx ω0 ω ph D mc ms κ φ c0 s0 m (pc + 1) ls (va :: vb :: va :: vb :: st) t) : Sx ω0 ω ph D mc ms κ φ c0 s0 m pc ls (va :: vb :: st) t :=
  Sx.go (fun C L k => lv_dup2_11 C.1 C.2.1 d hva hvb (k _ L)) k
theorem x_copy {a0 a t0 idx : Nat} {n : Int32} (h01 : t0 = 0 ∨ t0 = 1) (hw : Cond.methodLink κ.1 idx arraycopyName ∈ zG) (h0 : zT a0 = 100 + t0) (h1 : zT a = 100 + t0) (hwt : (st.map fun v => v.category).sum ≤ 8) (hD : 1 ≤ D) (d : decode κ.2.1 pc = .ok (.invokestatic idx, 3)) (k : zCpy m t0 a0 a n → Sx ω0 ω true D mc ms κ φ c0 s0 (wC m a0 a (zIx n)) (pc + 3) ls st t) : Sx ω0 ω true D mc ms κ φ c0 s0 m pc ls (.int n :: .int 0 :: .ref (zad ω a) :: .int 0 :: .ref (zad ω a0) :: st) (if zCpy m t0 a0 a n then t else none) :=
  x_guard fun hin r hr p l e s mid args below meth c H locs la C L hH hS => by
    obtain ⟨g0, g1, g2, g3⟩ := id hin
    have hts := C.2.2.2.2.2.1
    have hC := C.2.2.2.2.2.2.2.2.1
    have hnat : Cond.native arraycopyName ∈ zG := List.mem_filter.mpr ⟨by decide +kernel, by decide +kernel⟩
    have hsta : Cond.static arraycopyName ∈ zG := List.mem_filter.mpr ⟨by decide +kernel, by decide +kernel⟩
    have hini : Cond.initialized "java/lang/System" ∈ zG := List.mem_filter.mpr ⟨by decide +kernel, by decide +kernel⟩
    have ha := (zH_at hH (a := a) (by rw [h1]; omega) (Or.inl rfl)).2 t0 (by omega) h1
    have ha0 := (zH_at hH (a := a0) (by rw [h0]; omega) (Or.inl rfl)).2 t0 (by omega) h0
    have h16 := (zT_lo (a := a) (by rw [h1]; omega)).1
    have h16' := (zT_lo (a := a0) (by rw [h0]; omega)).1
    have hzv : ∀ b, (zav ω m t0 b) = fun j => Value.int (zI m b j) := fun b => funext fun j => if_pos (by omega)
    rw [hzv] at ha ha0
    obtain ⟨ty, hty, hprim, hfit⟩ : ∃ ty, (ztys ω)[t0]? = some (oA ω t0, ty) ∧ refKind ty = false ∧ ∀ i, i < zIx n → fits ty (.int (zI m a0 ((0 : Int32).toNatClampNeg + i))) = true := by
      rcases h01 with rfl | rfl
      · exact ⟨_, rfl, rfl, fun _ _ => rfl⟩
      · refine ⟨_, rfl, rfl, fun i hi => ?_⟩
        have h9 := zCh_nar (g3 rfl i hi)
        obtain ⟨z1, z2⟩ := g3 rfl i hi
        have e9 : (0 : Int32).toNatClampNeg + i = i := by rw [show (0 : Int32).toNatClampNeg = 0 from by decide, Nat.zero_add]
        rw [e9]
        have a1 := Int32.le_iff_toInt_le.mp z1
        have a2 := Int32.lt_iff_toInt_lt.mp z2
        rw [show (0 : Int32).toInt = 0 from by decide] at a1
        rw [show (65536 : Int32).toInt = 65536 from by decide] at a2
        show (decide (0 ≤ zI m a0 i) && decide (zI m a0 i ≤ 65535)) = true
        rw [Bool.and_eq_true, decide_eq_true_eq, decide_eq_true_eq]
        refine ⟨z1, Int32.le_iff_toInt_le.mpr ?_⟩
        rw [show (65535 : Int32).toInt = 65535 from by decide]
        omega
    have e0 : (0 : Int32).toNatClampNeg = 0 := by decide
    have nn : n.toInt = (n.toNatClampNeg : Int) := by
      have := Int32.le_iff_toInt_le.mp g0
      rw [show (0 : Int32).toInt = 0 from by decide] at this
      show n.toInt = ((n.toInt.toNat : Nat) : Int)
      omega
    have hn0 : ¬ n < 0 := Int32.not_lt.mpr g0
    intro T hT X
    obtain ⟨-, k0, hk0, cm0, hkk0⟩ := ((hC.1.2 t0 _ hty).1 (zLn a0) (fun j => .int (zI m a0 j)))
    obtain ⟨-, k1, hk1, cm1, hkk1⟩ := ((hC.1.2 t0 _ hty).1 (zLn a) (fun j => .int (zI m a j)))
    obtain ⟨vm', X', step⟩ := X.arraycopy C.1 C.2.2.2.2.1 (hts _ hw) (hts _ hnat) (hts _ hsta) (hts _ hini) (src := zad ω a0) (dst := zad ω a) (cs := arrV (oA ω t0) (zLn a0) (fun j => .int (zI m a0 j))) (cd := arrV (oA ω t0) (zLn a) (fun j => .int (zI m a j))) (srcPos := 0) (destPos := 0) (n := n) (by rw [hT]; exact ha0) (by rw [hT]; exact ha)
      (fun _ h => by cases h) (fun _ h => by cases h) (fun h => by cases h) (fun h => by cases h) hk0 hk1 hkk0 hkk1 (by simp [hprim]) (by decide) (by decide) hn0
      (by rw [nn, arrV_size]; show ¬ (0 : Int) + _ > _; unfold zIx at g1; omega)
      (by rw [nn, arrV_size]; show ¬ (0 : Int) + _ > _; unfold zIx at g2; omega)
      (fun vm₁ _ i hi => by
        have hi2 : (0 : Int32).toNatClampNeg + i < zLn a0 := by rw [e0]; unfold zIx at g1; omega
        have e : (arrV (oA ω t0) (zLn a0) (fun j => Value.int (zI m a0 j))).slots.getD ((0 : Int32).toNatClampNeg + i) .null = .int (zI m a0 ((0 : Int32).toNatClampNeg + i)) := by
          rw [Array.getD_eq_getD_getElem?, arrV_read _ _ hi2]
          rfl
        refine ⟨?_, ?_⟩
        · rw [e]
          exact hfit i hi
        · rw [e]
          exact trivial)
      (g := F0 mid pc la _) rfl (by rw [C.2.2.2.1]; exact L.1) (rest := st) rfl (by rw [C.2.1]; exact d) hD (by
        show 2 * 0 + (st.map fun v => v.category).sum + (nativeFrameWords "java/lang/System" "arraycopy" 5 + 11) ≤ 40 * D + 200
        have : nativeFrameWords "java/lang/System" "arraycopy" 5 ≤ 100 := by decide +kernel
        omega)
    have e1 : copied (arrV (oA ω t0) (zLn a0) (fun j => Value.int (zI m a0 j))) (arrV (oA ω t0) (zLn a) (fun j => Value.int (zI m a j))) 0 0 n = arrV (oA ω t0) (zLn a) (zav ω (wC m a0 a (zIx n)) t0 a) := by
      refine (va_copied (fun z => Value.int z) (oA ω t0) (oA ω t0) (zI m a0) (zI m a) (sp := (0 : Int32).toNatClampNeg) (dp := (0 : Int32).toNatClampNeg) (n := n.toNatClampNeg) (by rw [e0]; unfold zIx at g1; omega)).trans ?_
      refine congrArg (arrV _ _) (funext fun j => ?_)
      have h3 : t0 < 3 := by omega
      simp [zav, va_cpy, h3, zI_wC, zIx]
    rw [e1] at X' step
    have hl : zad ω a < H.size := (Array.getElem?_eq_some_iff.mp ha).1
    have hheap : ((T.setVm vm').setCell (zad ω a) (arrV (oA ω t0) (zLn a) (zav ω (wC m a0 a (zIx n)) t0 a))).heap = H.setIfInBounds (zad ω a) (arrV (oA ω t0) (zLn a) (zav ω (wC m a0 a (zIx n)) t0 a)) := by rw [← hT]; rfl
    have oq : ∀ q : Nat, q ≠ zad ω a → (H.setIfInBounds (zad ω a) (arrV (oA ω t0) (zLn a) (zav ω (wC m a0 a (zIx n)) t0 a)))[q]? = H[q]? := fun q hq => by simp [Array.getElem?_setIfInBounds, Ne.symm hq]
    have hz : (H.setIfInBounds (zad ω a) (arrV (oA ω t0) (zLn a) (zav ω (wC m a0 a (zIx n)) t0 a))).size = H.size := by simp
    have hH' : zH ω true (wC m a0 a (zIx n)) (H.setIfInBounds (zad ω a) (arrV (oA ω t0) (zLn a) (zav ω (wC m a0 a (zIx n)) t0 a))) := by
      refine zH_set hH ⟨h16, (zT_lo (a := a) (by rw [h1]; omega)).2⟩ hz oq rfl (fun b hb j => ⟨by rw [zI_wC, if_neg (fun q => hb q.1)], rfl, rfl⟩) (fun _ _ _ => rfl) ⟨fun ci q e4 e5 => ?_, fun t9 ht9 e4 => ?_⟩
      · have : vwCl.length = 11 := rfl
        have h9 : ci < vwCl.length := (List.getElem?_eq_some_iff.mp e5).1
        omega
      · have e6 : t9 = t0 := by omega
        subst e6
        simp [Array.getElem?_setIfInBounds, hl]
    obtain ⟨t2, a1, b1⟩ := k hin r hr p l e s mid args below meth c _ _ la C L hH' ⟨by rw [hz]; exact hS.1, fun q g3 g4 => by
        rw [oq q (fun e => g4 (by rw [e]; exact zad_in h16))]
        exact hS.2.1 q g3 g4, fun q hq => by
        rcases List.mem_append.mp hq with h | h
        · exact hS.2.2 q h
        · obtain ⟨z, -, hz⟩ := List.mem_map.mp h
          rw [← hz]
          exact zad_in h16⟩ _ hheap X'
    exact ⟨t2, step t2 a1, b1⟩
end ROWF
