/-! FROM THE LAW'S ENTRY -/
theorem okl_nil (n : Nat) : Okl n [] := fun _ h => absurd h List.not_mem_nil
theorem c_Loo_16 (ω : Wd) : Ev ω false 4 184 4843 yX11_init cX11_init 1 none [.ref (zad ω 16)] (mkM 17 []) fV (f_Loo_init 16 (mkM 17 [])) := c_Loo_init ω 16 (mkM 17 []) (by decide +kernel) (by decide +kernel) (by decide +kernel) (by decide +kernel) (by decide +kernel) (by decide +kernel) (by decide +kernel) (by decide +kernel) (by decide +kernel) (by decide +kernel) (by decide +kernel) (by decide +kernel) (by decide +kernel) (by decide +kernel) (by decide +kernel) (by decide +kernel) (by decide +kernel) (by decide +kernel) (by decide +kernel) (by decide +kernel) (by decide +kernel) (by decide +kernel) (by decide +kernel) (by decide +kernel) (by decide +kernel) (by decide +kernel) (by decide +kernel) (by decide +kernel) (by decide +kernel) (by decide +kernel) (by decide +kernel) (by decide +kernel) (by decide +kernel) (by decide +kernel) (by decide +kernel) (by decide +kernel) (by decide +kernel) (by decide +kernel) (by decide +kernel) (by decide +kernel) (by decide +kernel) (by decide +kernel) (by decide +kernel) (by decide +kernel) (by decide +kernel) (by decide +kernel) (by decide +kernel) (by decide +kernel) (by decide +kernel) (by decide +kernel) (by decide +kernel) (by decide +kernel) (by decide +kernel) (by decide +kernel) (by decide +kernel) (by decide +kernel) (by decide +kernel) (by decide +kernel) (by decide +kernel) (by decide +kernel) (by decide +kernel) (by decide +kernel) (by decide +kernel) (by decide +kernel) (by decide +kernel) (by decide +kernel) (by decide +kernel) (by decide +kernel) (by decide +kernel) (by decide +kernel) (by decide +kernel) (by decide +kernel) (by decide +kernel) (by decide +kernel) (by decide +kernel) (by decide +kernel)
theorem c_Mod_201 (ω : Wd) (l : List (Nat × Nat × Nat)) : Ev ω false 1 27 5812 yX12_init cX12_init 1 none [.ref (zad ω 201)] (mkM 202 l) fV (f_Mod_init 201 (mkM 202 l)) := c_Mod_init ω 201 (mkM 202 l) (by decide +kernel) (by decide +kernel) (by decide +kernel) (by decide +kernel) (by decide +kernel) (by decide +kernel) (by decide +kernel) (by decide +kernel) (by decide +kernel) (by decide +kernel) (by decide +kernel) (by decide +kernel) (by decide +kernel) (by decide +kernel) (by decide +kernel) (by decide +kernel) (by decide +kernel) (by decide +kernel) (by decide +kernel) (by decide +kernel) (by decide +kernel) (by decide +kernel) (by decide +kernel) (by decide +kernel) (by decide +kernel) (by decide +kernel) (by decide +kernel) (by decide +kernel) (by decide +kernel) (by decide +kernel) (by decide +kernel) (by decide +kernel) (by decide +kernel) (by decide +kernel) (by decide +kernel) (by decide +kernel) (by decide +kernel) (by decide +kernel) (by decide +kernel) (by decide +kernel) (by decide +kernel) (by decide +kernel) (by decide +kernel) (by decide +kernel) (by decide +kernel) (by decide +kernel) (by decide +kernel) (by decide +kernel) (by decide +kernel) (by decide +kernel) (by decide +kernel) (by decide +kernel) (by decide +kernel) (by decide +kernel) (by decide +kernel)
theorem law_begin {ω : Wd} (hL : oL ω ≤ 2560) : ∃ mE : Mm, ∀ (p : Program) (l : Launch) (e : Env) (s : State) (mid : MethodId) (args : Array Value) (below : List Frame) (meth : Method) (c : Code) (H : Heap) (la : Array Slot), zCx ω kk_L_law p l s mid args meth c → zLv la 7 [some (.ref (oX ω 1)), none, none, none, none, none, none] → zH ω false (mkM 16 []) H → va_S (zA ω) s.heap H [] → W p l e (zRm 2048 601024 7293033) s mid args below meth c H [] 0 0 (vx_MQ below (zQc ω true (lwO mE)) (zXc ω true (lwO mE)) args s 601024 7293033 (zA ω)) (F0 mid 0 la []) := by
  obtain ⟨mE, hE⟩ := lw_loop hL 512 0 (mkM 230 lAll) inv_end (by omega) (by omega)
  refine ⟨mE, fun p l e s mid args below meth c H la C L hH hS => ?_⟩
  refine w_new (κ := kk_L_law) (n := 16) (c1 := 1) (s1 := 9) nw_RL_8 rfl rfl ⟨rfl, rfl⟩ ⟨(Nat.le_of_ble_eq_true rfl), (Nat.le_of_ble_eq_true rfl)⟩ dL_law_0 C L hH hS (fun H1 hH hS => ?_)
  rw [zNew_mk (okl_nil 16)] at hH
  refine lv_dup C.1 C.2.1 dL_law_3 rfl ?_
  refine w_call (κ := kk_L_law) (a := 16) (As := []) (rest := [.ref (zad ω 16)]) (c1 := 185) (s1 := 4852) g_Loo.1 (c_Loo_16 ω) mi_RL_101 rfl (Nat.le_of_ble_eq_true rfl) (Nat.le_of_ble_eq_true rfl) (Nat.le_of_ble_eq_true rfl) ⟨rfl, rfl⟩ ⟨(Nat.le_of_ble_eq_true rfl), (Nat.le_of_ble_eq_true rfl)⟩ dL_law_4 C L hH hS (fun H2 locs2 hH hS => ?_)
  refine lv_astore_n C.1 C.2.1 dL_law_7 rfl L.has (Nat.le_of_ble_eq_true rfl) rfl (fun la hla => ?_)
  have L : zLv la 7 [some (.ref (oX ω 1)), some (.ref (zad ω 16)), none, none, none, none, none] := L.store rfl hla
  refine w_new (κ := kk_L_law) (n := 201) (c1 := 186) (s1 := 4899) nw_RL_102 rfl rfl ⟨rfl, rfl⟩ ⟨(Nat.le_of_ble_eq_true rfl), (Nat.le_of_ble_eq_true rfl)⟩ dL_law_8 C L hH hS (fun H3 hH hS => ?_)
  rw [zNew_mk g_Loo.2] at hH
  refine lv_dup C.1 C.2.1 dL_law_11 rfl ?_
  have gM := g_Mod (a := 201) (g_Loo.2.s (Nat.le_succ 201)) rfl
  refine w_call (κ := kk_L_law) (a := 201) (As := []) (rest := [.ref (zad ω 201)]) (c1 := 213) (s1 := 10711) gM.1 (c_Mod_201 ω lLoo) mi_RL_104 rfl (Nat.le_of_ble_eq_true rfl) (Nat.le_of_ble_eq_true rfl) (Nat.le_of_ble_eq_true rfl) ⟨rfl, rfl⟩ ⟨(Nat.le_of_ble_eq_true rfl), (Nat.le_of_ble_eq_true rfl)⟩ dL_law_12 C L hH hS (fun H4 locs4 hH hS => ?_)
  refine lv_astore_n C.1 C.2.1 dL_law_15 rfl L.has (Nat.le_of_ble_eq_true rfl) rfl (fun la hla => ?_)
  have L : zLv la 7 [some (.ref (oX ω 1)), some (.ref (zad ω 16)), some (.ref (zad ω 201)), none, none, none, none] := L.store rfl hla
  refine lv_iconst (v := 1) C.1 C.2.1 dL_law_16 rfl ?_
  refine w_newa_long (κ := kk_L_law) (n := 229) (c1 := 214) (s1 := 10712) (by decide +kernel) rfl (by decide) (by decide +kernel) (by decide +kernel) ⟨rfl, rfl⟩ ⟨(Nat.le_of_ble_eq_true rfl), (Nat.le_of_ble_eq_true rfl)⟩ ca_long dL_law_17 C L hH hS (fun H5 hH hS => ?_)
  rw [zNew_mk gM.2] at hH
  refine lv_astore_n C.1 C.2.1 dL_law_19 rfl L.has (Nat.le_of_ble_eq_true rfl) rfl (fun la hla => ?_)
  have L : zLv la 7 [some (.ref (oX ω 1)), some (.ref (zad ω 16)), some (.ref (zad ω 201)), some (.ref (zad ω 229)), none, none, none] := L.store rfl hla
  refine lv_iconst (v := i3 ((0 : Nat) : Int)) C.1 C.2.1 dL_law_20 rfl ?_
  refine lv_istore C.1 C.2.1 dL_law_21 L.has (Nat.le_of_ble_eq_true rfl) rfl (fun la hla => ?_)
  have L : zLv la 7 (lwS ω (i3 ((0 : Nat) : Int)) none none) := L.store rfl hla
  have hH' : zH ω true (mkM 230 lAll) H5 := ⟨hH.1, hH.2.1, hH.2.2.1, fun _ => ⟨lay_end, rfl⟩, fun h => nomatch h⟩
  exact hE 214 10712 none none ⟨by omega, by omega⟩ mE rfl p l e s mid args below meth c H5 locs4 la C L hH' hS
def R_law : String := "AlmanacLoomLaw"
def lw_P (b : Addr) (xs : List Int32) (args : Array Value) (s : State) : Prop := args = #[.ref b] ∧ s.IntsAt b xs ∧ xs.length ≤ 2560 ∧ (Jvm.Cond.and given_1 narrow_1).before args s = true
def lw_Q (_ : Array Value) (s : State) (o : Outcome) (t : State) : Prop := o = .returned (some (.int 1)) ∧ Framed s o t [] 601024 7293033
def lw_Z (below : List Frame) (a : Array Value) (s : State) : State → Prop := fun t => ∃ o, t.status = .running ∧ Ended t below o ∧ lw_Q a s o t
def lw_At (p : Program) (s : State) (m : MethodId) (meth : Method) (c : Code) (b L : Nat) (xs : Nat → Int32) : Prop :=
  p.tables.exec = Jvm.exec ∧ c.code = code ∧ meth.sig.returnType = ret ∧ c.maxLocals = 7 ∧ s.vm.findClass R_law = some m.cls ∧ (∀ w ∈ lw_tbl, w.before #[Value.ref b] s = true) ∧ va_X b L xs s s.heap ∧ b < s.heap.size ∧ meth.locks = false ∧ (Jvm.Cond.and given_1 narrow_1).before #[Value.ref b] s = true ∧ c.exceptionTable.toList = []
theorem whole_start {p : Program} {e : Env} {s : State} {m : MethodId} {below : List Frame} {meth : Method} {c : Code} (l : Launch) (hflags : l.flags = flags0) {b L : Nat} {xs : Nat → Int32} (hL : L ≤ 2560) (C0 : lw_At p s m meth c b L xs) : W p l e room_1 s m #[Value.ref b] below meth c s.heap [] 0 0 (lw_Z below #[Value.ref b] s) (entryFrame m ([Value.ref b] : List Value).toArray 7) := by
  obtain ⟨hx, hb, hr, hml, hown, hts, hX, hbl, hlocks, hgv, htab⟩ := C0
  obtain ⟨ω, e1, e2, e3, hC⟩ := wld hts hX hbl hgv
  obtain ⟨mE, hE⟩ := law_begin (ω := ω) (by rw [e2]; exact hL)
  have hav : ∀ v ∈ ([.ref b] : List Value), v.category = 1 := fun v hv => by
    cases hv with
    | head => rfl
    | tail _ h => cases h
  have hl : l.stackTraces = false := by
    unfold Launch.stackTraces
    rw [hflags]
    decide +kernel
  rw [entry_eq m [.ref b] hav 7]
  refine W_room (R' := zRm 2048 601024 7293033) (Nat.le_of_ble_eq_true rfl) (Nat.le_of_ble_eq_true rfl) (Nat.le_of_ble_eq_true rfl) (Nat.le_of_ble_eq_true rfl) ?_
  refine W_imp (fun t ht => ?_) (hE p l e s m #[Value.ref b] below meth c s.heap _ ⟨hx, hb, hr, hml, hown, fun w hw => hts w (List.mem_filter.mp hw).1, hlocks, hl, hC, htab, (fun h => nomatch h)⟩ ?_ ⟨fun a h1 h2 => absurd (show a < 16 from h2) (Nat.not_lt.mpr h1), ?_, Nat.le_refl 16, (fun h => nomatch h), fun _ => e1.symm⟩ va_S.rf)
  · obtain ⟨o, h1, h2, h3⟩ := ht
    rcases h3 with ⟨⟨v, m9, e4, e5, h6, h7⟩, L9, h8, h9⟩ | ⟨q, e4, E, ce, L9, ⟨e9, m9, e5, -⟩, -⟩
    · have e6 : ((.inl (some (.int 1)), mE) : Zo) = (.inl v, m9) := e4
      cases e6
      exact ⟨o, h1, h2, e5, h8.1, h8.2.1, sbn_nil h8.2.2 (fun z hz => by rw [← e1]; exact h9 z hz)⟩
    · have e6 : ((.inl (some (.int 1)), mE) : Zo) = (.inr e9, m9) := e5
      cases e6
  · rw [e3]
    exact zEntry (nL := 7) hav (Nat.le_of_ble_eq_true rfl)
  · show oS ω + (16 - 16) ≤ s.heap.size
    rw [e1]
    exact Nat.le_refl _
