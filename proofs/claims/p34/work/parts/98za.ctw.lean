/-! THE BEGIN OF THE LAW: making objects, with any end in view -/
section CTW
variable {ω0 ω : Wd} {D mc ms : Nat} {κ : Kx} {c0 s0 c1 s1 : Nat} {m : Mm} {pc : Nat} {ls : List (Option Value)} {st : List Value}
variable {D' mc' ms' idx nL' : Nat} {y : MethodName} {cc' : ByteArray} {As rest : List Value}
variable {p : Program} {l : Launch} {e : Env} {s : State} {mid : MethodId} {args : Array Value} {below : List Frame} {meth : Method} {c : Code} {H : Heap} {locs : List Loc} {la : Array Slot} {Q : State → Prop}
theorem w_new {n ci N : Nat} (hw : zNw κ.1 idx ci N) (hT : zT n = ci + 1) (hn : zN m = n) (hc : c0 + 1 = c1 ∧ s0 + N = s1) (hcs : c1 ≤ mc ∧ s1 ≤ ms) (d : decode κ.2.1 pc = .ok (.new idx, 3)) (C : zCx ω κ p l s mid args meth c) (L : zLv la κ.2.2.1 ls) (hH : zH ω false m H) (hS : va_S (zA ω) s.heap H locs) (k : ∀ H1 : Heap, zH ω false (zNew m n) H1 → va_S (zA ω) s.heap H1 locs → W p l e (zRm D mc ms) s mid args below meth c H1 locs c1 s1 Q (F0 mid (pc + 3) la (.ref (zad ω n) :: st))) : W p l e (zRm D mc ms) s mid args below meth c H locs c0 s0 Q (F0 mid pc la st) := by
  obtain ⟨C9, T, ty, w1, w2, w3, w4, w5, w6, w7⟩ := hw
  have hts := C.2.2.2.2.2.1
  have hC := C.2.2.2.2.2.2.2.2.1
  have hKn := hC.1.1 ci _ w1
  have hs := hH.2.2.2.2.1 rfl
  have h16 := hH.2.2.1
  obtain ⟨e1, e2⟩ := hc
  subst e1 e2
  have had : zad ω n = H.size := by rw [← hn, zad_of h16, hs]
  rw [had] at k
  refine W.newcK C.1 C.2.1 C.2.2.2.2.1 (hts _ w4) (hts _ w5) (hts _ w6) rfl d hcs.1 hcs.2 hKn.2.1 rfl fun H1 kC hkC e1 z1 o1 => ?_
  refine k H1 ?_ ⟨Nat.le_trans hS.1 (by omega), fun x h1 h2 => (o1 x (Nat.lt_of_lt_of_le h1 hS.1)).trans (hS.2.1 x h1 h2), hS.2.2⟩
  refine zH_push (w := 1) hH z1 o1 (by rw [zN_zNew, hn]) (fun b hb k9 => ?_) (fun b hb1 hb2 => ?_)
  · have hne : b ≠ n := by omega
    rw [zI_zNew, zR_zNew, zL_zNew, if_neg hne, if_neg hne, if_neg hne]
    exact ⟨rfl, rfl, rfl⟩
  · have hbn : b = n := by omega
    subst hbn
    refine ⟨fun ci' q e4 e5 => ?_, fun t9 ht e4 => ?_⟩
    · have e6 : ci' = ci := by omega
      subst e6
      cases w1.symm.trans e5
      rw [had]
      refine (u_born ty hts w3 hKn hkC e1 w2).to fun k9 hk9 => ?_
      rw [w7 k9 hk9]
      unfold zfv
      rw [zI_zNew, zR_zNew, zL_zNew, if_pos rfl, if_pos rfl, if_pos rfl]
      rfl
    · have h9 : ci < vwCl.length := (List.getElem?_eq_some_iff.mp w1).1
      have : vwCl.length = 11 := rfl
      omega
theorem w_newa_int {n : Nat} {v : Int32} (hT : zT n = 100 + 0) (hn : zN m = n) (hv0 : ¬ v < 0) (hv : v.toNatClampNeg = zLn n) (hbig : zLn n ≤ 10000) (hc : c0 + 1 = c1 ∧ s0 + zLn n = s1) (hcs : c1 ≤ mc ∧ s1 ≤ ms) (harr : Cond.arrayClass .int ∈ zG) (d : decode κ.2.1 pc = .ok (.newarray .int, 2)) (C : zCx ω κ p l s mid args meth c) (L : zLv la κ.2.2.1 ls) (hH : zH ω false m H) (hS : va_S (zA ω) s.heap H locs) (k : ∀ H1 : Heap, zH ω false (zNew m n) H1 → va_S (zA ω) s.heap H1 locs → W p l e (zRm D mc ms) s mid args below meth c H1 locs c1 s1 Q (F0 mid (pc + 2) la (.ref (zad ω n) :: st))) : W p l e (zRm D mc ms) s mid args below meth c H locs c0 s0 Q (F0 mid pc la (.int v :: st)) := by
  have hts := C.2.2.2.2.2.1
  have hC := C.2.2.2.2.2.2.2.2.1
  have hs := hH.2.2.2.2.1 rfl
  have h16 := hH.2.2.1
  obtain ⟨e1, e2⟩ := hc
  subst e1 e2
  have had : zad ω n = H.size := by rw [← hn, zad_of h16, hs]
  rw [had] at k
  refine va_newaK (atype := .int) C.1 C.2.1 (hts _ harr) rfl d rfl hv0 hv (by simp [newarray.typeOf, componentBytes]; omega) hcs.1 hcs.2 rfl fun H1 cA e1 z1 o1 hAr hNm => ?_
  have hcA : cA = oA ω 0 := Option.some.inj (hNm.symm.trans (hC.1.2 0 _ rfl).2)
  subst hcA
  refine k H1 ?_ ⟨Nat.le_trans hS.1 (by omega), fun x h1 h2 => (o1 x (Nat.lt_of_lt_of_le h1 hS.1)).trans (hS.2.1 x h1 h2), hS.2.2⟩
  refine zH_push (w := 1) hH z1 o1 (by rw [zN_zNew, hn]) (fun b hb k9 => ?_) (fun b hb1 hb2 => ?_)
  · have hne : b ≠ n := by omega
    rw [zI_zNew, zR_zNew, zL_zNew, if_neg hne, if_neg hne, if_neg hne]
    exact ⟨rfl, rfl, rfl⟩
  · have hbn : b = n := by omega
    subst hbn
    refine ⟨fun ci' q e4 e5 => ?_, fun t9 ht e4 => ?_⟩
    · have : vwCl.length = 11 := rfl
      have h9 : ci' < vwCl.length := (List.getElem?_eq_some_iff.mp e5).1
      omega
    · have e6 : t9 = 0 := by omega
      subst e6
      rw [had, e1]
      refine congrArg some (congrArg (arrV _ _) (funext fun j => ?_))
      have e9 : zav ω (zNew m b) 0 b j = .int (zI (zNew m b) b j) := rfl
      rw [e9, zI_zNew, if_pos rfl]
      rfl
theorem w_call {a : Nat} {f : Option Mm} {r0 : Mm} (hf : f = some r0) (hE : Ev ω false D' mc' ms' y cc' nL' none (.ref (zad ω a) :: As) m fV f) (hM : zMi κ.1 idx y cc' nL' As.length) (hst : st = As.reverse ++ .ref (zad ω a) :: rest) (hw : (rest.map fun v => v.category).sum ≤ 8) (hD : D' + 1 ≤ D) (hL : nL' ≤ 21) (hc : c0 + mc' = c1 ∧ s0 + ms' = s1) (hcs : c1 ≤ mc ∧ s1 ≤ ms) (d : decode κ.2.1 pc = .ok (.invokespecial idx, 3)) (C : zCx ω κ p l s mid args meth c) (L : zLv la κ.2.2.1 ls) (hH : zH ω false m H) (hS : va_S (zA ω) s.heap H locs) (k : ∀ (H1 : Heap) (locs1 : List Loc), zH ω false r0 H1 → va_S (zA ω) s.heap H1 locs1 → W p l e (zRm D mc ms) s mid args below meth c H1 locs1 c1 s1 Q (F0 mid (pc + 3) la rest)) : W p l e (zRm D mc ms) s mid args below meth c H locs c0 s0 Q (F0 mid pc la st) := by
  obtain ⟨h1, h2, hy, h3, h4, h5, h6⟩ := hM
  obtain ⟨e1, e2⟩ := hc
  subst e1 e2
  have hts := C.2.2.2.2.2.1
  have hC := C.2.2.2.2.2.2.2.2.1
  have hMet := Met_of (hE r0 hf l C.2.2.2.2.2.2.2.1) (fun E s t h => by obtain ⟨e9, m9, h9, -⟩ := h; cases h9)
  have hPre : PreS s H (zPc ω false m (.ref (zad ω a) :: As)) (.ref (zad ω a) :: As) := ⟨zPc_blind, fun U hU hW => ⟨rfl, (zWo_of hH hC hS hU hW).1⟩⟩
  have hrun : va_Run p l e (zRm D mc ms) s mid args below meth c H locs c0 s0 mc' ms' (F0 mid pc la st) rest (zQc ω false (fV r0) (Value.ref (zad ω a) :: As).toArray) (zA ω) := by
    rcases h1 with h1 | ⟨host, h1⟩
    · exact va_runI (n := As.length) ⟨C.1, C.2.1, C.2.2.2.1, C.2.2.2.2.1, hts⟩ hMet ⟨zCB hts h1 h3 h4 h5 h6 hD hL, hy, hts _ h2⟩ hPre rfl rfl L.1 hst (lv_room hw) d hcs
    · refine va_runIN (n := As.length) (own := κ.1) (host := host) ⟨C.1, C.2.1, C.2.2.2.1, C.2.2.2.2.1, hts⟩ hMet ⟨⟨⟨rfl, rfl, hD, ?_, zWS_warm h4 hts, List.mem_cons_self⟩, hts _ h4, hts _ h3, h5, fun sig h => ?_, hts _ h1⟩, hy, hts _ h2⟩ hPre rfl rfl L.1 hst (lv_room hw) d hcs
      · show 8 + (nL' + 11) + (40 * D' + 200) ≤ 40 * D + 200
        omega
      · rw [h] at h6
        exact (Option.some.inj h6).symm
  intro T hT X
  obtain ⟨v, st₀, t9, T', L9, h0, X', hL9, g1, g2, ⟨v9, m', ho, hv, hwo, hF⟩, stp⟩ := hrun T hT X
  cases hv
  cases ho
  obtain ⟨k1, k2, k3⟩ := vx_keep h0 g1 hS (fun _ _ h => h) (fun _ h => h) hL9 hF
  obtain ⟨t2, a1, b1⟩ := k T'.heap (locs ++ L9) (by rw [g1]; exact hwo) k3 T' rfl X'
  exact ⟨t2, stp t2 a1, b1⟩
end CTW
