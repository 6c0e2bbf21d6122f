section ROWD
variable {ω0 ω : Wd} {ph : Bool} {D mc ms : Nat} {κ : Kx} {α : Type} {φ : α → Zo} {c0 s0 : Nat} {m : Mm} {pc : Nat} {ls : List (Option Value)} {st : List Value} {t t1 t2 : Option α}
section INNER
variable {p : Program} {l : Launch} {e : Env} {R : Room} {s : State} {mid : MethodId} {args : Array Value} {below : List Frame} {meth : Method} {c : Code} {H : Heap} {locs : List Loc} {cells slots : Nat} {Q : State → Prop} {la : Array Slot}
theorem zC_arr {ω : Wd} {s : State} {H : Heap} (h : zC ω s H) {t : Nat} {ty : FieldType} (ht : (ztys ω)[t]? = some (oA ω t, ty)) : ArrOfT s (oA ω t) ty := (h.1.2 t _ ht).1
/-- a store into the array at a -/
theorem zH_arr {a t0 i : Nat} {v : Value} {m' : Mm} {H' : Heap} (hH : zH ω ph m H) (hS : va_S (zA ω) s.heap H locs) (ht : t0 < 6) (hT : zT a = 100 + t0) (hi : ph = true ∨ a < zN m) (hN : zN m' = zN m)
    (h1 : ∀ b, b ≠ a → ∀ k, zI m' b k = zI m b k ∧ zR m' b k = zR m b k ∧ zL m' b k = zL m b k) (hL : ph = true → ∀ k, zRf a k ≠ 0 → zR m' a k = zR m a k) (hv : ∀ j, updV (zav ω m t0 a) i v j = zav ω m' t0 a j)
    (e1 : H'[zad ω a]? = some ((arrV (oA ω t0) (zLn a) (zav ω m t0 a)).setSlot i v)) (e2 : H'.size = H.size) (e3 : ∀ q, q ≠ zad ω a → H'[q]? = H[q]?) : zH ω ph m' H' ∧ va_S (zA ω) s.heap H' (locs ++ [⟨zad ω a, i⟩]) := by
  have h16 := zT_lo (a := a) (by rw [hT]; omega)
  refine ⟨zH_set hH h16 e2 e3 hN h1 hL ⟨fun ci q e4 e5 => ?_, fun t9 ht9 e4 => ?_⟩, hS.put e2 e3 (zad_in h16.1)⟩
  · have : vwCl.length = 11 := rfl
    have h9 : ci < vwCl.length := (List.getElem?_eq_some_iff.mp e5).1
    omega
  · have e6 : t9 = t0 := by omega
    subst e6
    rw [e1, arrV_store]
    exact congrArg some (congrArg (arrV _ _) (funext hv))
end INNER
theorem x_iald {a : Nat} {i : Int32} (hT : zT a = 100) (hi : ph = true ∨ a < zN m) (d : decode κ.2.1 pc = .ok (.iaload, 1)) (k1 : zIn i (zLn a) → Sx ω0 ω ph D mc ms κ φ c0 s0 m (pc + 1) ls (.int (zI m a (zIx i)) :: st) t) : Sx ω0 ω ph D mc ms κ φ c0 s0 m pc ls (.int i :: .ref (zad ω a) :: st) (if zIn i (zLn a) then t else none) :=
  x_guard fun hin r hr p l e s mid args below meth c H locs la C L hH hS =>
    W.iald (v := .int (zI m a (zIx i))) C.1 C.2.1 ((zH_at hH (by rw [hT]; decide) hi).2 0 (by decide) hT) (zC_arr C.2.2.2.2.2.2.2.2.1 (t := 0) rfl _ _) (fun q => by cases q) (by rw [arrV_size]; exact zIn_vp hin) (by rw [arrV_read _ _ hin.2]; rfl) rfl rfl d (k1 hin r hr p l e s mid args below meth c H locs la C L hH hS)
theorem x_cald {a : Nat} {i : Int32} (hT : zT a = 101) (hi : ph = true ∨ a < zN m) (d : decode κ.2.1 pc = .ok (.caload, 1)) (k1 : zIn i (zLn a) → Sx ω0 ω ph D mc ms κ φ c0 s0 m (pc + 1) ls (.int (zI m a (zIx i)) :: st) t) : Sx ω0 ω ph D mc ms κ φ c0 s0 m pc ls (.int i :: .ref (zad ω a) :: st) (if zIn i (zLn a) then t else none) :=
  x_guard fun hin r hr p l e s mid args below meth c H locs la C L hH hS =>
    W.cald (v := .int (zI m a (zIx i))) C.1 C.2.1 ((zH_at hH (by rw [hT]; decide) hi).2 1 (by decide) hT) (zC_arr C.2.2.2.2.2.2.2.2.1 (t := 1) rfl _ _) (fun q => by cases q) (by rw [arrV_size]; exact zIn_vp hin) (by rw [arrV_read _ _ hin.2]; rfl) rfl rfl d (k1 hin r hr p l e s mid args below meth c H locs la C L hH hS)
/-- out of an array of references whose places the layout knows -/
theorem x_aald {a t0 q : Nat} {i : Int32} (h45 : t0 = 4 ∨ t0 = 5) (hT : zT a = 100 + t0) (d : decode κ.2.1 pc = .ok (.aaload, 1)) (hq : zIn i (zLn a) → zRf a (zIx i) = q ∧ q ≠ 0) (k1 : zIn i (zLn a) → Sx ω0 ω true D mc ms κ φ c0 s0 m (pc + 1) ls (.ref (zad ω q) :: st) t) : Sx ω0 ω true D mc ms κ φ c0 s0 m pc ls (.int i :: .ref (zad ω a) :: st) (if zIn i (zLn a) then t else none) :=
  x_guard fun hin r hr p l e s mid args below meth c H locs la C L hH hS => by
    have hat := (zH_at hH (a := a) (by rw [hT]; omega) (Or.inl rfl)).2 t0 (by omega) hT
    have hv : zav ω m t0 a (zIx i) = .ref (zad ω q) := by
      unfold zav
      rw [if_neg (by omega), if_neg (by omega), (hH.2.2.2.1 rfl).1 a _ (by rw [(hq hin).1]; exact (hq hin).2), (hq hin).1]
      exact if_neg (hq hin).2
    rcases h45 with rfl | rfl
    · exact W.aald (v := .ref (zad ω q)) (ty := .object "AlmanacLoom$Feast") C.1 C.2.1 hat (zC_arr C.2.2.2.2.2.2.2.2.1 (t := 4) rfl _ _) rfl (fun q => by cases q) (by rw [arrV_size]; exact zIn_vp hin) (by rw [arrV_read _ _ hin.2, ← hv]; rfl) rfl rfl d (k1 hin r hr p l e s mid args below meth c H locs la C L hH hS)
    · exact W.aald (v := .ref (zad ω q)) (ty := .array .int) C.1 C.2.1 hat (zC_arr C.2.2.2.2.2.2.2.2.1 (t := 5) rfl _ _) rfl (fun q => by cases q) (by rw [arrV_size]; exact zIn_vp hin) (by rw [arrV_read _ _ hin.2, ← hv]; rfl) rfl rfl d (k1 hin r hr p l e s mid args below meth c H locs la C L hH hS)
theorem zav_wI {ω : Wd} {m : Mm} {a i t0 : Nat} {v : Int32} (h : t0 < 3) (j : Nat) : updV (zav ω m t0 a) i (.int v) j = zav ω (wI m a i v) t0 a j := by
  unfold updV zav
  rw [if_pos h, if_pos h, zI_wI]
  by_cases e : j = i <;> simp [e]
theorem x_iast {a : Nat} {i v : Int32} (hT : zT a = 100) (hi : ph = true ∨ a < zN m) (d : decode κ.2.1 pc = .ok (.iastore, 1)) (k1 : zIn i (zLn a) → Sx ω0 ω ph D mc ms κ φ c0 s0 (wI m a (zIx i) v) (pc + 1) ls st t) : Sx ω0 ω ph D mc ms κ φ c0 s0 m pc ls (.int v :: .int i :: .ref (zad ω a) :: st) (if zIn i (zLn a) then t else none) :=
  x_guard fun hin r hr p l e s mid args below meth c H locs la C L hH hS => by
    refine W.iast C.1 C.2.1 ((zH_at hH (a := a) (by rw [hT]; decide) hi).2 0 (by decide) hT) (zC_arr C.2.2.2.2.2.2.2.2.1 (t := 0) rfl _ _) (fun q => by cases q) (by rw [arrV_size]; exact zIn_vp hin) rfl rfl d fun H' e1 e2 e3 => ?_
    obtain ⟨g1, g2⟩ := zH_arr (m' := wI m a (zIx i) v) hH hS (t0 := 0) (by decide) hT hi rfl (fun b hb j => ⟨by rw [zI_wI, if_neg (fun q => hb q.1)], rfl, rfl⟩) (fun _ _ _ => rfl) (zav_wI (by decide)) e1 e2 e3
    exact k1 hin r hr p l e s mid args below meth c H' _ la C L g1 g2
theorem x_cast {a : Nat} {i v : Int32} (hT : zT a = 101) (hi : ph = true ∨ a < zN m) (d : decode κ.2.1 pc = .ok (.castore, 1)) (k1 : zIn i (zLn a) → Sx ω0 ω ph D mc ms κ φ c0 s0 (wI m a (zIx i) (vp_nar .char v)) (pc + 1) ls st t) : Sx ω0 ω ph D mc ms κ φ c0 s0 m pc ls (.int v :: .int i :: .ref (zad ω a) :: st) (if zIn i (zLn a) then t else none) :=
  x_guard fun hin r hr p l e s mid args below meth c H locs la C L hH hS => by
    refine W.cast C.1 C.2.1 ((zH_at hH (a := a) (by rw [hT]; decide) hi).2 1 (by decide) hT) (zC_arr C.2.2.2.2.2.2.2.2.1 (t := 1) rfl _ _) (fun q => by cases q) (by rw [arrV_size]; exact zIn_vp hin) rfl rfl d fun H' e1 e2 e3 => ?_
    obtain ⟨g1, g2⟩ := zH_arr (m' := wI m a (zIx i) (vp_nar .char v)) hH hS (t0 := 1) (by decide) hT hi rfl (fun b hb j => ⟨by rw [zI_wI, if_neg (fun q => hb q.1)], rfl, rfl⟩) (fun _ _ _ => rfl) (zav_wI (by decide)) e1 e2 e3
    exact k1 hin r hr p l e s mid args below meth c H' _ la C L g1 g2
theorem x_alen {a t0 : Nat} {v : Int32} (h6 : t0 < 6) (hT : zT a = 100 + t0) (hi : ph = true ∨ a < zN m) (hv : Int32.ofNat (zLn a) = v) (d : decode κ.2.1 pc = .ok (.arraylength, 1)) (k1 : Sx ω0 ω ph D mc ms κ φ c0 s0 m (pc + 1) ls (.int v :: st) t) : Sx ω0 ω ph D mc ms κ φ c0 s0 m pc ls (.ref (zad ω a) :: st) t :=
  fun r hr p l e s mid args below meth c H locs la C L hH hS => by
    have hty : ∃ ty, (ztys ω)[t0]? = some (oA ω t0, ty) := by
      rcases (show t0 = 0 ∨ t0 = 1 ∨ t0 = 2 ∨ t0 = 3 ∨ t0 = 4 ∨ t0 = 5 by omega) with rfl | rfl | rfl | rfl | rfl | rfl <;> exact ⟨_, rfl⟩
    obtain ⟨ty, hty⟩ := hty
    exact W.alen C.1 C.2.1 ((zH_at hH (by rw [hT]; omega) hi).2 t0 h6 hT) (zC_arr C.2.2.2.2.2.2.2.2.1 hty _ _) (by rw [arrV_size]; exact hv) rfl rfl d (k1 r hr p l e s mid args below meth c H locs la C L hH hS)
/-! returns -/
theorem zC_mv {ω : Wd} {s U : State} {H H' : Heap} (h : zC ω s H) (hs : H.size ≤ H'.size) (hq : ∀ a : Nat, a < H.size → ¬ zA ω a → H'[a]? = H[a]?) (hvm : s.vm.Alike U.vm) (hR : ∀ o k tx a, vk_R o k tx a s → vk_R o k tx a U) : zC ω U H' := by
  obtain ⟨c1, c2, c3, c4, c5, ⟨c6, c6b⟩, ⟨c7, c8⟩, ⟨c9, c10⟩, c11, c12, c13, c14⟩ := h
  exact ⟨c1.moved hvm, (c2.kept (hq _ (Nat.lt_of_lt_of_le c3.1 c3.2) (Nat.not_le.mpr c3.1))).moved hvm, ⟨c3.1, Nat.le_trans c3.2 hs⟩, (c4.kept hq).moved hvm, (c5.kept hq).moved hvm,
    ⟨fun q hm => (c6 q hm).imp fun sa h9 => hR _ _ _ _ h9, fun e f h1 h2 h3 => (c6b e f h1 h2 h3).moved hvm⟩, ⟨(c7.kept hq).moved hvm, (c8.kept hq).moved hvm⟩, ⟨(c9.kept hq).moved hvm, (c10.kept hq).moved hvm⟩, (c11.kept hq).moved hvm, (c12.kept hq).moved hvm,
    (c13.kept hq).moved hvm, fun i q h9 => hR _ _ _ _ (c14 i q h9)⟩
theorem zC_same {ω : Wd} {s U : State} {H : Heap} (h : zC ω s H) (hv : U.vm = s.vm) : zC ω U H :=
  zC_mv h (Nat.le_refl _) (fun _ _ _ => rfl) (by rw [hv]; exact Vm.Alike.refl _) (fun _ _ _ _ h9 => vk_R.same hv h9)
theorem zWo_of {ω : Wd} {ph : Bool} {m : Mm} {s t : State} {H : Heap} {locs : List Loc} (hH : zH ω ph m H) (hC : zC ω s s.heap) (hS : va_S (zA ω) s.heap H locs) (ht : t.heap = H) (hW : s.WarmedH t.vm) : zWo ω ph m t ∧ va_F (zA ω) s t := by
  subst ht
  have hq : ∀ a : Nat, a < s.heap.size → ¬ zA ω a → t.heap[a]? = s.heap[a]? := fun a h1 h2 => hS.2.1 a h1 h2
  exact ⟨⟨hH, zC_mv hC hS.1 hq hW.alike (fun _ _ _ _ h9 => vk_R.warm hW h9)⟩, hS.1, hq⟩
/-- the world of now has what the end's has, and short-lived arrays behind it -/
def zXt (ω ω1 : Wd) : Prop := ∃ l : List Nat, ω1 = (ω.1, ω.2.1, ω.2.2.1, ω.2.2.2.1, ω.2.2.2.2.1, ω.2.2.2.2.2.1, ω.2.2.2.2.2.2.1, oT ω ++ l)
theorem zXt.refl {ω : Wd} : zXt ω ω := ⟨[], by rw [List.append_nil]; rfl⟩
theorem zXt.trans {ω ω1 ω2 : Wd} (h1 : zXt ω ω1) (h2 : zXt ω1 ω2) : zXt ω ω2 := by
  obtain ⟨l, rfl⟩ := h1
  obtain ⟨l', rfl⟩ := h2
  exact ⟨l ++ l', by rw [← List.append_assoc]; rfl⟩
theorem zXt.za {ω ω1 : Wd} (h : zXt ω ω1) (a : Nat) : zad ω1 a = zad ω a := by
  obtain ⟨l, rfl⟩ := h
  rfl
theorem zXt.A {ω ω1 : Wd} (h : zXt ω ω1) : zA ω1 = zA ω := by
  obtain ⟨l, rfl⟩ := h
  rfl
theorem zXt.x {ω ω1 : Wd} (h : zXt ω ω1) (a : Nat) : oX ω1 a = oX ω a := by
  obtain ⟨l, rfl⟩ := h
  rfl
theorem zXt.len {ω ω1 : Wd} (h : zXt ω ω1) : (oT ω).length ≤ (oT ω1).length := by
  obtain ⟨l, rfl⟩ := h
  show (oT ω).length ≤ (oT ω ++ l).length
  rw [List.length_append]
  omega
theorem zXt.zt {ω ω1 : Wd} (h : zXt ω ω1) {i : Nat} (hi : i < (oT ω).length) : zTd ω1 i = zTd ω i := by
  obtain ⟨l, rfl⟩ := h
  show (oT ω ++ l).getD i 0 = (oT ω).getD i 0
  rw [List.getD_eq_getElem?_getD, List.getD_eq_getElem?_getD, List.getElem?_append_left hi]
theorem zXt.H {ω ω1 : Wd} {m : Mm} {H : Heap} {ph : Bool} (h : zXt ω ω1) (hH : zH ω1 ph m H) : zH ω ph m H := by
  have h' := h
  obtain ⟨l, rfl⟩ := h
  refine ⟨hH.1, hH.2.1, hH.2.2.1, hH.2.2.2.1, hH.2.2.2.2.1, fun hp i hi => ?_⟩
  obtain ⟨a1, a2, a3⟩ := hH.2.2.2.2.2 hp i (Nat.lt_of_lt_of_le hi h'.len)
  rw [h'.zt hi] at a1 a2
  exact ⟨a1, a2, fun j hj e => a3 j (Nat.lt_of_lt_of_le hj h'.len) (by rw [h'.zt hi, h'.zt hj]; exact e)⟩
section INNER2
variable {p : Program} {l : Launch} {e : Env} {R : Room} {s : State} {mid : MethodId} {args : Array Value} {below : List Frame} {meth : Method} {c : Code} {H : Heap} {locs : List Loc} {la : Array Slot}
theorem zW_ret {out : Zo} {v : Option Value} {g : JFrame} (hout : out = (.inl v, m)) (C : zCx ω κ p l s mid args meth c) (hH : zH ω ph m H) (hS : va_S (zA ω) s.heap H locs) (hF : zXt ω0 ω) (hc : c0 ≤ mc) (hs : s0 ≤ ms)
    (kk : (∀ t : State, t.heap = H → s.WarmedH t.vm → zQc ω0 ph out args s (.returned v) t) → (∀ q ∈ locs, zA ω0 q.base) → W p l e (zRm D mc ms) s mid args below meth c H locs mc ms (MQ below (zQc ω0 ph out) args s mc ms (zA ω0)) g) :
    W p l e (zRm D mc ms) s mid args below meth c H locs c0 s0 (vx_MQ below (zQc ω0 ph out) (zXc ω0 ph out) args s mc ms (zA ω0)) g := by
  have hS0 : ∀ q ∈ locs, zA ω0 q.base := fun q hq => by rw [← hF.A]; exact hS.2.2 q hq
  refine W.widen hc hs (vx_ret (kk (fun t ht hW => ?_) hS0))
  obtain ⟨h1, h2⟩ := zWo_of hH C.2.2.2.2.2.2.2.2.1 hS ht hW
  exact ⟨v, m, hout, rfl, hF.H h1.1, by rw [← hF.A]; exact h2⟩
end INNER2
theorem x_iretF {v : Int32} {r0 : α} (hF : zXt ω0 ω) (hout : φ r0 = (.inl (some (.int v)), m)) (hret : κ.2.2.2.1 = some .int) (hc : c0 ≤ mc ∧ s0 ≤ ms) (d : decode κ.2.1 pc = .ok (.ireturn, 1)) : Sx ω0 ω ph D mc ms κ φ c0 s0 m pc ls [.int v] (some r0) := by
  intro r hr p l e s mid args below meth c H locs la C L hH hS
  cases hr
  exact zW_ret hout C hH hS hF hc.1 hc.2 fun hq hf => W.iret C.1 C.2.1 (C.2.2.1.trans hret) hq hf d C.2.2.2.2.2.2.1
theorem x_iret {v : Int32} {r0 : α} (hout : φ r0 = (.inl (some (.int v)), m)) (hret : κ.2.2.2.1 = some .int) (hc : c0 ≤ mc ∧ s0 ≤ ms) (d : decode κ.2.1 pc = .ok (.ireturn, 1)) : Sx ω ω ph D mc ms κ φ c0 s0 m pc ls [.int v] (some r0) := x_iretF zXt.refl hout hret hc d
theorem x_zretF {v : Int32} {r0 : α} {ty : FieldType} (hF : zXt ω0 ω) (hout : φ r0 = (.inl (some (.int v)), m)) (hret : κ.2.2.2.1 = some ty) (hn : narrow ty (.int v) = .int v) (hc : c0 ≤ mc ∧ s0 ≤ ms) (d : decode κ.2.1 pc = .ok (.ireturn, 1)) : Sx ω0 ω ph D mc ms κ φ c0 s0 m pc ls [.int v] (some r0) := by
  intro r hr p l e s mid args below meth c H locs la C L hH hS
  cases hr
  exact zW_ret hout C hH hS hF hc.1 hc.2 fun hq hf => W.zret C.1 C.2.1 (C.2.2.1.trans hret) hn hq hf d C.2.2.2.2.2.2.1
theorem x_zret {v : Int32} {r0 : α} {ty : FieldType} (hout : φ r0 = (.inl (some (.int v)), m)) (hret : κ.2.2.2.1 = some ty) (hn : narrow ty (.int v) = .int v) (hc : c0 ≤ mc ∧ s0 ≤ ms) (d : decode κ.2.1 pc = .ok (.ireturn, 1)) : Sx ω ω ph D mc ms κ φ c0 s0 m pc ls [.int v] (some r0) := x_zretF zXt.refl hout hret hn hc d
theorem x_vretF {r0 : α} (hF : zXt ω0 ω) (hout : φ r0 = (.inl none, m)) (hret : κ.2.2.2.1 = none) (hc : c0 ≤ mc ∧ s0 ≤ ms) (d : decode κ.2.1 pc = .ok (.return_, 1)) : Sx ω0 ω ph D mc ms κ φ c0 s0 m pc ls [] (some r0) := by
  intro r hr p l e s mid args below meth c H locs la C L hH hS
  cases hr
  exact zW_ret hout C hH hS hF hc.1 hc.2 fun hq hf => W.vret C.1 C.2.1 (C.2.2.1.trans hret) hq hf d C.2.2.2.2.2.2.1
theorem x_vret {r0 : α} (hout : φ r0 = (.inl none, m)) (hret : κ.2.2.2.1 = none) (hc : c0 ≤ mc ∧ s0 ≤ ms) (d : decode κ.2.1 pc = .ok (.return_, 1)) : Sx ω ω ph D mc ms κ φ c0 s0 m pc ls [] (some r0) := x_vretF zXt.refl hout hret hc d
theorem x_lretF {v : Int64} {r0 : α} (hF : zXt ω0 ω) (hout : φ r0 = (.inl (some (.long v)), m)) (hret : κ.2.2.2.1 = some .long) (hc : c0 ≤ mc ∧ s0 ≤ ms) (d : decode κ.2.1 pc = .ok (.lreturn, 1)) : Sx ω0 ω ph D mc ms κ φ c0 s0 m pc ls [.long v] (some r0) := by
  intro r hr p l e s mid args below meth c H locs la C L hH hS
  cases hr
  exact zW_ret hout C hH hS hF hc.1 hc.2 fun hq hf => W.lret C.1 C.2.1 (C.2.2.1.trans hret) hq hf d C.2.2.2.2.2.2.1
theorem x_lret {v : Int64} {r0 : α} (hout : φ r0 = (.inl (some (.long v)), m)) (hret : κ.2.2.2.1 = some .long) (hc : c0 ≤ mc ∧ s0 ≤ ms) (d : decode κ.2.1 pc = .ok (.lreturn, 1)) : Sx ω ω ph D mc ms κ φ c0 s0 m pc ls [.long v] (some r0) := x_lretF zXt.refl hout hret hc d
theorem x_aretF {q : Nat} {r0 : α} {n : String} (hF : zXt ω0 ω) (hout : φ r0 = (.inl (some (.ref q)), m)) (hret : κ.2.2.2.1 = some (.object n)) (hc : c0 ≤ mc ∧ s0 ≤ ms) (d : decode κ.2.1 pc = .ok (.areturn, 1)) : Sx ω0 ω ph D mc ms κ φ c0 s0 m pc ls [.ref q] (some r0) := by
  intro r hr p l e s mid args below meth c H locs la C L hH hS
  cases hr
  exact zW_ret hout C hH hS hF hc.1 hc.2 fun hq hf => W.aret C.1 C.2.1 (C.2.2.1.trans hret) (Or.inl ⟨n, rfl⟩) (Or.inr ⟨q, rfl⟩) hq hf d C.2.2.2.2.2.2.1
theorem x_aret {q : Nat} {r0 : α} {n : String} (hout : φ r0 = (.inl (some (.ref q)), m)) (hret : κ.2.2.2.1 = some (.object n)) (hc : c0 ≤ mc ∧ s0 ≤ ms) (d : decode κ.2.1 pc = .ok (.areturn, 1)) : Sx ω ω ph D mc ms κ φ c0 s0 m pc ls [.ref q] (some r0) := x_aretF zXt.refl hout hret hc d
theorem zCh_nat {v : Int32} (h : zCh v) : v.toBitVec.toNat < 65536 := by
  obtain ⟨h1, h2⟩ := h
  have a1 := Int32.le_iff_toInt_le.mp h1
  have a2 := Int32.lt_iff_toInt_lt.mp h2
  have e1 : (0 : Int32).toInt = 0 := by decide
  have e2 : (65536 : Int32).toInt = 65536 := by decide
  rw [e1] at a1
  rw [e2] at a2
  have h3 : v.toInt = v.toBitVec.toInt := rfl
  have h4 := BitVec.toInt_eq_toNat_cond v.toBitVec
  have h5 := v.toBitVec.isLt
  rw [h3] at a1 a2
  split at h4 <;> omega
theorem zCh_nar {v : Int32} (h : zCh v) : narrow .char (.int v) = .int v := by
  have h0 := zCh_nat h
  have e : narrow .char (.int v) = .int (v.toUInt32.toUInt16.toUInt32.toInt32) := rfl
  rw [e]
  congr 1
  apply Int32.toBitVec_inj.mp
  apply BitVec.eq_of_toNat_eq
  simp
  omega
theorem zBo_nar {v : Int32} (h : zBo v) : narrow .boolean (.int v) = .int v := by
  rcases h with rfl | rfl <;> rfl
end ROWD
