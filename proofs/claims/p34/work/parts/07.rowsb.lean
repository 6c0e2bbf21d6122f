theorem zT_lo {a : Nat} (h : zT a ≠ 0) : 16 ≤ a ∧ a < zNE := by
  by_cases h1 : a < 16
  · exfalso
    apply h
    have : ∀ b, b < 16 → zT b = 0 := by decide +kernel
    exact this a h1
  · refine ⟨Nat.le_of_not_lt h1, ?_⟩
    by_cases h2 : a < zNE
    · exact h2
    · exfalso
      apply h
      unfold zT
      rw [List.getD_eq_getElem?_getD, List.getElem?_eq_none (by have : zTL.length = zNE := by decide +kernel
                                                                omega)]
      rfl
theorem zad_of {ω : Wd} {a : Nat} (h : 16 ≤ a) : zad ω a = oS ω + (a - 16) := if_neg (Nat.not_lt.mpr h)
theorem zad_ne {ω : Wd} {a b : Nat} (ha : 16 ≤ a) (hb : 16 ≤ b) (h : a ≠ b) : zad ω a ≠ zad ω b := by
  rw [zad_of ha, zad_of hb]
  omega
theorem zad_in {ω : Wd} {a : Nat} (ha : 16 ≤ a) : zA ω (zad ω a) := by
  rw [zad_of ha]
  exact Nat.le_add_right _ _
/-- the cell at a is there -/
theorem zH_at {ω : Wd} {ph : Bool} {m : Mm} {H : Heap} (h : zH ω ph m H) {a : Nat} (hT : zT a ≠ 0) (hi : ph = true ∨ a < zN m) : zAt ω m a H := by
  refine h.1 a (zT_lo hT).1 ?_
  rcases hi with hi | hi
  · rw [(h.2.2.2.1 hi).2]
    exact (zT_lo hT).2
  · exact hi
theorem zAt_kept {ω : Wd} {m m' : Mm} {b : Nat} {H H' : Heap} (h : zAt ω m b H) (hq : H'[zad ω b]? = H[zad ω b]?) (h1 : ∀ k, zI m' b k = zI m b k) (h2 : ∀ k, zR m' b k = zR m b k) (h3 : ∀ k, zL m' b k = zL m b k) : zAt ω m' b H' := by
  refine ⟨fun ci q e1 e2 => ((h.1 ci q e1 e2).kept hq).to fun k hk => ?_, fun t ht e => ?_⟩
  · unfold zfv
    rw [h1, h2, h3]
  · rw [hq, h.2 t ht e]
    refine congrArg some (congrArg (arrV _ _) (funext fun j => ?_))
    unfold zav
    rw [h1, h2, h3]
theorem zTm.mv {ω : Wd} {m m' : Mm} {H H' : Heap} (h : zTm ω m H) (hq : ∀ i, i < (oT ω).length → H'[zTd ω i]? = H[zTd ω i]?) (h1 : ∀ i, i < (oT ω).length → ∀ j, zI m' (207 + i) j = zI m (207 + i) j) : zTm ω m' H' := by
  intro i hi
  obtain ⟨a1, a2, a3⟩ := h i hi
  refine ⟨?_, a2, a3⟩
  rw [hq i hi, a1]
  exact congrArg some (congrArg (arrV _ _) (funext fun j => by rw [h1 i hi j]))
theorem zTd_ne {ω : Wd} {m : Mm} {H : Heap} (h : zTm ω m H) {i a : Nat} (hi : i < (oT ω).length) (h16 : 16 ≤ a) (ha : a < zNE) : zTd ω i ≠ zad ω a := by
  have h2 := (h i hi).2.1
  rw [zad_of h16]
  have : zNE = 207 := rfl
  omega
/-- one cell changed -/
theorem zH_set {ω : Wd} {ph : Bool} {m m' : Mm} {H H' : Heap} (h : zH ω ph m H) {a : Nat} (ha : 16 ≤ a ∧ a < zNE) (hz : H'.size = H.size) (ho : ∀ q, q ≠ zad ω a → H'[q]? = H[q]?) (hN : zN m' = zN m)
    (h1 : ∀ b, b ≠ a → ∀ k, zI m' b k = zI m b k ∧ zR m' b k = zR m b k ∧ zL m' b k = zL m b k) (hL : ph = true → ∀ k, zRf a k ≠ 0 → zR m' a k = zR m a k) (hat : zAt ω m' a H') : zH ω ph m' H' := by
  refine ⟨fun b h16 hb => ?_, by rw [hN, hz]; exact h.2.1, by rw [hN]; exact h.2.2.1, fun hp => ⟨fun b k hk => ?_, by rw [hN]; exact (h.2.2.2.1 hp).2⟩, fun hp => by rw [hN, hz]; exact h.2.2.2.2.1 hp, fun hp => (h.2.2.2.2.2 hp).mv (fun i hi => ho _ (zTd_ne (h.2.2.2.2.2 hp) hi ha.1 ha.2)) (fun i hi j => (h1 _ (by have : zNE = 207 := rfl; omega) j).1)⟩
  · by_cases e : b = a
    · subst e; exact hat
    · exact zAt_kept (h.1 b h16 (by rw [← hN]; exact hb)) (ho _ (zad_ne h16 ha.1 e)) (fun k => (h1 b e k).1) (fun k => (h1 b e k).2.1) (fun k => (h1 b e k).2.2)
  · by_cases e : b = a
    · subst e
      rw [hL hp k hk]
      exact (h.2.2.2.1 hp).1 b k hk
    · rw [(h1 b e k).2.1]
      exact (h.2.2.2.1 hp).1 b k hk
/-- a field's link: of the method's class own, entry idx: field k of class ci -/
def zFl (own : String) (idx ci k : Nat) : Prop := ∃ (C : String) (T : u_T) (N : Nat), vwCl[ci]? = some (C, T, N) ∧ k < N ∧ (∀ w ∈ u_ws C T N, w ∈ zG) ∧ (Cond.fieldLink own idx (T k).1 (T k).2.1 (T k).2.2.1 ∈ zG ∨ ∃ host, Cond.fieldLinkNest own idx (T k).1 (T k).2.1 (T k).2.2.1 host ∈ zG)
/-- .. which can be written, of type ty -/
def zFp (own : String) (idx ci k : Nat) (fin : Bool) (ty : FieldType) : Prop := ∃ (C : String) (T : u_T) (N : Nat) (ty0 : Nat → FieldType), vwCl[ci]? = some (C, T, N) ∧ k < N ∧ (∀ w ∈ u_ws C T N, w ∈ zG) ∧ (Cond.fieldLink own idx (T k).1 (T k).2.1 (T k).2.2.1 ∈ zG ∨ (fin = false ∧ ∃ host, Cond.fieldLinkNest own idx (T k).1 (T k).2.1 (T k).2.2.1 host ∈ zG)) ∧ (∀ k, k < N → parseFieldDescriptor (T k).2.2.1 = some (ty0 k)) ∧ (∀ a, a < N → ∀ b, b < N → a ≠ b → (T a).2.1 ≠ (T b).2.1) ∧ (T k).2.2.2 = fin ∧ ty0 k = ty ∧ (fin = true → (T k).1 = own)
section ROWC
variable {ω0 ω : Wd} {ph : Bool} {D mc ms : Nat} {κ : Kx} {α : Type} {φ : α → Zo} {c0 s0 : Nat} {m : Mm} {pc : Nat} {ls : List (Option Value)} {st : List Value} {t t1 t2 : Option α}
section INNER
variable {p : Program} {l : Launch} {e : Env} {R : Room} {s : State} {mid : MethodId} {args : Array Value} {below : List Frame} {meth : Method} {c : Code} {H : Heap} {locs : List Loc} {cells slots : Nat} {Q : State → Prop} {la : Array Slot}
theorem zW_get {a idx ci k : Nat} (C : zCx ω κ p l s mid args meth c) (hH : zH ω ph m H) (hf : zFl κ.1 idx ci k) (hT : zT a = ci + 1) (hi : ph = true ∨ a < zN m) (d : decode κ.2.1 pc = .ok (.getfield idx, 3))
    (kk : W p l e R s mid args below meth c H locs cells slots Q (F0 mid (pc + 3) la (zfv ω m ci a k :: st))) : W p l e R s mid args below meth c H locs cells slots Q (F0 mid pc la (.ref (zad ω a) :: st)) := by
  obtain ⟨hx, hb, -, -, hown, hts, -, -, ⟨hK, -⟩, -⟩ := C
  obtain ⟨Cn, T, N, hc, hk, hin, hl⟩ := hf
  have hat := zH_at hH (a := a) (by rw [hT]; omega) hi
  obtain ⟨cell, q1, q2, q3, q4⟩ := hat.1 ci _ hT hc
  obtain ⟨hS, hfc, kC, hkC, hkind⟩ := hK.1 ci _ hc
  obtain ⟨cf, kf, fi, f, hi2, hsl⟩ := hS k hk
  rcases hl with hl | ⟨host, hl⟩
  · refine W.getf hx hb hown (hts _ hl) hi2 (u_facts hfc hkC (u_lays hts hin hk) hi2).1 q1 (by rw [q3]; exact fun h => by cases h) (v := zfv ω m ci a k) ?_ rfl rfl d kk
    rw [hsl, q4 k hk]
  · refine va_Wgetf hx hb hown (hts _ hl) hi2 (u_facts hfc hkC (u_lays hts hin hk) hi2).1 q1 (by rw [q3]; exact fun h => by cases h) (v := zfv ω m ci a k) ?_ rfl rfl d kk
    rw [hsl, q4 k hk]
theorem zW_put {a idx ci k : Nat} {fin : Bool} {ty : FieldType} {v : Value} {m' : Mm} (C : zCx ω κ p l s mid args meth c) (hH : zH ω ph m H) (hS0 : va_S (zA ω) s.heap H locs) (hf : zFp κ.1 idx ci k fin ty) (hT : zT a = ci + 1) (hi : ph = true ∨ a < zN m) (hfin : fin = true → κ.2.2.2.2.2 = true)
    (hn : narrow ty v = v) (hfit : fits ty v = true) (hN : zN m' = zN m) (h1 : ∀ b, b ≠ a → ∀ k, zI m' b k = zI m b k ∧ zR m' b k = zR m b k ∧ zL m' b k = zL m b k) (hL : ph = true → ∀ k, zRf a k ≠ 0 → zR m' a k = zR m a k)
    (hv : ∀ N, (∃ C T, vwCl[ci]? = some (C, T, N)) → ∀ j, j < N → updV (zfv ω m ci a) k v j = zfv ω m' ci a j) (d : decode κ.2.1 pc = .ok (.putfield idx, 3))
    (kk : ∀ (H' : Heap) (locs' : List Loc), zH ω ph m' H' → va_S (zA ω) s.heap H' locs' → W p l e R s mid args below meth c H' locs' cells slots Q (F0 mid (pc + 3) la st)) : W p l e R s mid args below meth c H locs cells slots Q (F0 mid pc la (v :: .ref (zad ω a) :: st)) := by
  obtain ⟨hx, hb, -, -, hown, hts, -, -, ⟨hK, -⟩, -, hini⟩ := C
  obtain ⟨Cn, T, N, ty0, hc, hk, hin, hl, hty, hnm, hfi, hty2, hdecl⟩ := hf
  have h16 := zT_lo (a := a) (by rw [hT]; omega)
  have hat := zH_at hH (a := a) (by rw [hT]; omega) hi
  obtain ⟨cell, q1, q2, q3, q4⟩ := hat.1 ci _ hT hc
  have hap := va_apart (own := κ.1) hts hin ty0 hty hnm hK hc
  obtain ⟨hS, hfc, kC, hkC, hkind⟩ := hK.1 ci _ hc
  obtain ⟨cf, kf, fi, f, hi2, hsl⟩ := hS k hk
  have hlay := hts _ (hin _ (u_in_lay hk))
  unfold u_lay at hlay
  have hst := (u_facts hfc hkC (u_lays hts hin hk) hi2).1
  have hd : parseFieldDescriptor (T k).2.2.1 = some ty := by rw [hty k hk, hty2]
  have done : ∀ H', H'[zad ω a]? = some (cell.setSlot f.slot v) → H'.size = H.size → (∀ q, q ≠ zad ω a → H'[q]? = H[q]?) → zH ω ph m' H' ∧ va_S (zA ω) s.heap H' (locs ++ [⟨zad ω a, f.slot⟩]) := by
    intro H' e1 e2 e3
    rw [hsl] at e1 ⊢
    refine ⟨zH_set hH h16 e2 e3 hN h1 hL ⟨fun ci' q' e4 e5 => ?_, fun t9 ht e4 => ?_⟩, hS0.put e2 e3 (zad_in h16.1)⟩
    · have e6 : ci' = ci := by omega
      subst e6
      cases hc.symm.trans e5
      exact t_OB.to (V := updV (zfv ω m ci' a) k v) ⟨_, e1, q2, q3, t_set q4 hap hk v⟩ (hv N ⟨Cn, T, hc⟩)
    · have : vwCl.length = 11 := rfl
      have h9 : ci < vwCl.length := (List.getElem?_eq_some_iff.mp hc).1
      omega
  cases fin with
  | false =>
    rw [if_neg (by rw [hfi]; decide)] at hlay
    have h6 := u_store hfc hkC hkind hlay hi2 hd hn hfit
    rcases hl with hl | ⟨-, host, hl⟩
    · refine W.putK hx hb (f := f) ⟨hown, hts _ hl, ⟨_, _, _, hi2⟩, hst⟩ (by rw [q2]; exact h6) q1 q3 (by rw [hsl]; exact k2_hasslot (q4 k hk)) rfl rfl d fun H' e1 e2 e3 => ?_
      obtain ⟨g1, g2⟩ := done H' e1 e2 e3
      exact kk H' _ g1 g2
    · refine va_WputK hx hb (f := f) hown (hts _ hl) hi2 hst (by rw [q2]; exact h6) q1 q3 (by rw [hsl]; exact k2_hasslot (q4 k hk)) rfl rfl d fun H' e1 e2 e3 => ?_
      obtain ⟨g1, g2⟩ := done H' e1 e2 e3
      exact kk H' _ g1 g2
  | true =>
    rw [if_pos hfi] at hlay
    have hcf : mid.cls = cf := by
      obtain ⟨_, _, c', _, _, _, -, -, hf', -, -, -, hown2, -⟩ := Cond.laysFinal_spec hlay
      have e1 : c' = cf := by have := hi2.symm.trans hf'; simp at this; exact this.1.symm
      rw [hdecl rfl] at hown2
      rw [← e1]; exact Option.some.inj (hown.symm.trans hown2)
    have h6 := u_fits hfc hkC hkind (Or.inr hlay) hi2 hd hn hfit
    rcases hl with hl | ⟨h, -⟩
    · refine W.putFinK hx hb hown (hts _ hl) hi2 hst hcf (hini (hfin rfl)) (by rw [q2]; exact h6) q1 q3 (by rw [hsl]; exact k2_hasslot (q4 k hk)) rfl rfl d fun H' e1 e2 e3 => ?_
      obtain ⟨g1, g2⟩ := done H' e1 e2 e3
      exact kk H' _ g1 g2
    · cases h
end INNER
theorem x_getI {a idx ci k : Nat} (hf : zFl κ.1 idx ci k) (h0 : zfk ci k = 0) (hT : zT a = ci + 1) (hi : ph = true ∨ a < zN m) (d : decode κ.2.1 pc = .ok (.getfield idx, 3)) (k1 : Sx ω0 ω ph D mc ms κ φ c0 s0 m (pc + 3) ls (.int (zI m a k) :: st) t) : Sx ω0 ω ph D mc ms κ φ c0 s0 m pc ls (.ref (zad ω a) :: st) t :=
  fun r hr p l e s mid args below meth c H locs la C L hH hS => zW_get C hH hf hT hi d (by rw [show zfv ω m ci a k = .int (zI m a k) from if_pos h0]; exact k1 r hr p l e s mid args below meth c H locs la C L hH hS)
theorem x_getL {a idx ci k : Nat} (hf : zFl κ.1 idx ci k) (h0 : zfk ci k = 2) (hT : zT a = ci + 1) (hi : ph = true ∨ a < zN m) (d : decode κ.2.1 pc = .ok (.getfield idx, 3)) (k1 : Sx ω0 ω ph D mc ms κ φ c0 s0 m (pc + 3) ls (.long (zL m a k) :: st) t) : Sx ω0 ω ph D mc ms κ φ c0 s0 m pc ls (.ref (zad ω a) :: st) t :=
  fun r hr p l e s mid args below meth c H locs la C L hH hS => zW_get C hH hf hT hi d (by rw [show zfv ω m ci a k = .long (zL m a k) from (if_neg (by rw [h0]; decide)).trans (if_neg (by rw [h0]; decide))]; exact k1 r hr p l e s mid args below meth c H locs la C L hH hS)
/-- a final reference, which leads where the layout says -/
theorem x_getF {a idx ci k q : Nat} (hf : zFl κ.1 idx ci k) (h0 : zfk ci k = 1) (hT : zT a = ci + 1) (hq : zRf a k = q) (hq0 : q ≠ 0) (d : decode κ.2.1 pc = .ok (.getfield idx, 3)) (k1 : Sx ω0 ω true D mc ms κ φ c0 s0 m (pc + 3) ls (.ref (zad ω q) :: st) t) : Sx ω0 ω true D mc ms κ φ c0 s0 m pc ls (.ref (zad ω a) :: st) t :=
  fun r hr p l e s mid args below meth c H locs la C L hH hS => zW_get C hH hf hT (Or.inl rfl) d (by
    rw [show zfv ω m ci a k = .ref (zad ω q) from by
      unfold zfv
      rw [if_neg (by rw [h0]; decide), if_pos h0, (hH.2.2.2.1 rfl).1 a k (by rw [hq]; exact hq0), hq]
      exact if_neg hq0]
    exact k1 r hr p l e s mid args below meth c H locs la C L hH hS)
/-- a reference that may change -/
theorem x_getR {a idx ci k : Nat} (hf : zFl κ.1 idx ci k) (h0 : zfk ci k = 1) (hT : zT a = ci + 1) (hi : ph = true ∨ a < zN m) (hq0 : zR m a k ≠ 0) (d : decode κ.2.1 pc = .ok (.getfield idx, 3)) (k1 : Sx ω0 ω ph D mc ms κ φ c0 s0 m (pc + 3) ls (.ref (zad ω (zR m a k)) :: st) t) : Sx ω0 ω ph D mc ms κ φ c0 s0 m pc ls (.ref (zad ω a) :: st) t :=
  fun r hr p l e s mid args below meth c H locs la C L hH hS => zW_get C hH hf hT hi d (by
    rw [show zfv ω m ci a k = .ref (zad ω (zR m a k)) from by
      unfold zfv
      rw [if_neg (by rw [h0]; decide), if_pos h0]
      exact if_neg hq0]
    exact k1 r hr p l e s mid args below meth c H locs la C L hH hS)
theorem x_putI {a idx ci k : Nat} {fin : Bool} {ty : FieldType} {v : Int32} (hf : zFp κ.1 idx ci k fin ty) (h0 : zfk ci k = 0) (hT : zT a = ci + 1) (hi : ph = true ∨ a < zN m) (hfin : fin = true → κ.2.2.2.2.2 = true) (hn : narrow ty (.int v) = .int v) (hfit : fits ty (.int v) = true) (d : decode κ.2.1 pc = .ok (.putfield idx, 3))
    (k1 : Sx ω0 ω ph D mc ms κ φ c0 s0 (wI m a k v) (pc + 3) ls st t) : Sx ω0 ω ph D mc ms κ φ c0 s0 m pc ls (.int v :: .ref (zad ω a) :: st) t :=
  fun r hr p l e s mid args below meth c H locs la C L hH hS => zW_put (m' := wI m a k v) C hH hS hf hT hi hfin hn hfit rfl
    (fun b hb j => ⟨by rw [zI_wI, if_neg (fun q => hb q.1)], rfl, rfl⟩) (fun _ j _ => rfl)
    (fun N _ j hj => by
      unfold updV zfv
      by_cases e : j = k
      · subst e
        rw [if_pos rfl, if_pos h0, zI_wI, if_pos ⟨rfl, rfl⟩]
      · simp [e, zI_wI, zR_wI, zL_wI]) d
    (fun H' locs' hH' hS' => k1 r hr p l e s mid args below meth c H' locs' la C L hH' hS')
theorem x_putL {a idx ci k : Nat} {fin : Bool} {v : Int64} (hf : zFp κ.1 idx ci k fin .long) (h0 : zfk ci k = 2) (hT : zT a = ci + 1) (hi : ph = true ∨ a < zN m) (hfin : fin = true → κ.2.2.2.2.2 = true) (d : decode κ.2.1 pc = .ok (.putfield idx, 3))
    (k1 : Sx ω0 ω ph D mc ms κ φ c0 s0 (wL m a k v) (pc + 3) ls st t) : Sx ω0 ω ph D mc ms κ φ c0 s0 m pc ls (.long v :: .ref (zad ω a) :: st) t :=
  fun r hr p l e s mid args below meth c H locs la C L hH hS => zW_put (m' := wL m a k v) C hH hS hf hT hi hfin rfl rfl rfl
    (fun b hb j => ⟨rfl, rfl, by rw [zL_wL, if_neg (fun q => hb q.1)]⟩) (fun _ j _ => rfl)
    (fun N _ j hj => by
      unfold updV zfv
      by_cases e : j = k
      · subst e
        rw [if_pos rfl, if_neg (by rw [h0]; decide), if_neg (by rw [h0]; decide), zL_wL, if_pos ⟨rfl, rfl⟩]
      · simp [e, zL_wL, zR_wL, zI_wL]) d
    (fun H' locs' hH' hS' => k1 r hr p l e s mid args below meth c H' locs' la C L hH' hS')
theorem x_putR {a idx ci k q : Nat} {fin : Bool} {ty : FieldType} (hf : zFp κ.1 idx ci k fin ty) (h0 : zfk ci k = 1) (hT : zT a = ci + 1) (hi : ph = true ∨ a < zN m) (hfin : fin = true → κ.2.2.2.2.2 = true) (hn : ∀ b : Nat, narrow ty (.ref b) = .ref b ∧ fits ty (.ref b) = true) (hq : q ≠ 0) (hL : ph = true → zRf a k = 0) (d : decode κ.2.1 pc = .ok (.putfield idx, 3))
    (k1 : Sx ω0 ω ph D mc ms κ φ c0 s0 (wR m a k q) (pc + 3) ls st t) : Sx ω0 ω ph D mc ms κ φ c0 s0 m pc ls (.ref (zad ω q) :: .ref (zad ω a) :: st) t :=
  fun r hr p l e s mid args below meth c H locs la C L hH hS => zW_put (m' := wR m a k q) C hH hS hf hT hi hfin (hn _).1 (hn _).2 rfl
    (fun b hb j => ⟨rfl, by rw [zR_wR, if_neg (fun q => hb q.1)], rfl⟩) (fun hp j hj => by rw [zR_wR, if_neg (fun z => hj (by rw [z.2]; exact hL hp))])
    (fun N _ j hj => by
      unfold updV zfv
      by_cases e : j = k
      · subst e
        rw [if_pos rfl, if_neg (by rw [h0]; decide), if_pos h0, zR_wR, if_pos ⟨rfl, rfl⟩]
        exact (if_neg hq).symm
      · simp [e, zR_wR, zI_wR, zL_wR]) d
    (fun H' locs' hH' hS' => k1 r hr p l e s mid args below meth c H' locs' la C L hH' hS')
end ROWC
