/-! FROM THE LAW'S ENTRY -/
theorem okl_nil (n : Nat) : Okl n [] := fun _ h => absurd h List.not_mem_nil
theorem c_Loo_16 (ω : Wd) : Ev ω false 4 184 4843 yX11_init cX11_init 1 none [.ref (zad ω 16)] (mkM 17 []) fV (f_Loo_init 16 (mkM 17 [])) := c_Loo_init ω 16 (mkM 17 []) (by decide +kernel) (by decide +kernel) (by decide +kernel) (by decide +kernel) (by decide +kernel) (by decide +kernel) (by decide +kernel) (by decide +kernel) (by decide +kernel) (by decide +kernel) (by decide +kernel) (by decide +kernel) (by decide +kernel) (by decide +kernel) (by decide +kernel) (by decide +kernel) (by decide +kernel) (by decide +kernel) (by decide +kernel) (by decide +kernel) (by decide +kernel) (by decide +kernel) (by decide +kernel) (by decide +kernel) (by decide +kernel) (by decide +kernel) (by decide +kernel) (by decide +kernel) (by decide +kernel) (by decide +kernel) (by decide +kernel) (by decide +kernel) (by decide +kernel) (by decide +kernel) (by decide +kernel) (by decide +kernel) (by decide +kernel) (by decide +kernel) (by decide +kernel) (by decide +kernel) (by decide +kernel) (by decide +kernel) (by decide +kernel) (by decide +kernel) (by decide +kernel) (by decide +kernel) (by decide +kernel) (by decide +kernel) (by decide +kernel) (by decide +kernel) (by decide +kernel) (by decide +kernel) (by decide +kernel) (by decide +kernel) (by decide +kernel) (by decide +kernel) (by decide +kernel) (by decide +kernel) (by decide +kernel) (by decide +kernel) (by decide +kernel) (by decide +kernel) (by decide +kernel) (by decide +kernel) (by decide +kernel) (by decide +kernel) (by decide +kernel) (by decide +kernel) (by decide +kernel) (by decide +kernel) (by decide +kernel) (by decide +kernel) (by decide +kernel) (by decide +kernel) (by decide +kernel) (by decide +kernel)
theorem law_begin {ω : Wd} (hL : oL ω ≤ 260) (h0 : oT ω = []) : ∃ mE : Mm, ∀ (p : Program) (l : Launch) (e : Env) (s : State) (mid : MethodId) (args : Array Value) (below : List Frame) (meth : Method) (c : Code) (H : Heap) (la : Array Slot), zCx ω kk_Law_law p l s mid args meth c → zLv la 24 [some (.ref (oX ω 1)), none, none, none, none, none, none, none, none, none, none, none, none, none, none, none, none, none, none, none, none, none, none, none] → zH ω false (mkM 16 []) H → va_S (zA ω) s.heap H [] → W p l e (zRm 112 19601 198013) s mid args below meth c H [] 0 0 (vx_MQ below (zQc ω true (fI ((1 : Int32), mE))) (zXc ω true (fI ((1 : Int32), mE))) args s 19601 198013 (zA ω)) (F0 mid 0 la []) := by
  obtain ⟨mE, hm⟩ := law_true ω hL
  refine ⟨mE, fun p l e s mid args below meth c H la C L hH hS => ?_⟩
  refine w_new (κ := kk_Law_law) (n := 16) (c1 := 1) (s1 := 9) nw_RL_63 rfl rfl ⟨rfl, rfl⟩ ⟨(Nat.le_of_ble_eq_true rfl), (Nat.le_of_ble_eq_true rfl)⟩ dL_law_0 C L hH hS (fun H1 hH hS => ?_)
  rw [zNew_mk (okl_nil 16)] at hH
  refine lv_dup C.1 C.2.1 dL_law_3 rfl ?_
  refine w_call (κ := kk_Law_law) (a := 16) (As := []) (rest := [.ref (zad ω 16)]) (c1 := 185) (s1 := 4852) g_Loo.1 (c_Loo_16 ω) mi_RL_138 rfl (Nat.le_of_ble_eq_true rfl) (Nat.le_of_ble_eq_true rfl) (Nat.le_of_ble_eq_true rfl) ⟨rfl, rfl⟩ ⟨(Nat.le_of_ble_eq_true rfl), (Nat.le_of_ble_eq_true rfl)⟩ dL_law_4 C L hH hS (fun H2 locs2 hH hS => ?_)
  refine lv_astore_n C.1 C.2.1 dL_law_7 rfl L.has (Nat.le_of_ble_eq_true rfl) rfl (fun la hla => ?_)
  have L : zLv la 24 [some (.ref (oX ω 1)), some (.ref (zad ω 16)), none, none, none, none, none, none, none, none, none, none, none, none, none, none, none, none, none, none, none, none, none, none] := L.store rfl hla
  have o200 := g_Loo.2
  refine lv_bipush (v := 60) C.1 C.2.1 dL_law_8 (by decide) ?_
  refine w_newa_int (κ := kk_Law_law) (n := 201) (c1 := 186) (s1 := 4912) (by decide +kernel) rfl (by decide) (by decide +kernel) (by decide +kernel) ⟨rfl, rfl⟩ ⟨(Nat.le_of_ble_eq_true rfl), (Nat.le_of_ble_eq_true rfl)⟩ w_arrI dL_law_10 C L hH hS (fun H10 hH hS => ?_)
  rw [zNew_mk o200] at hH
  have o201 : Okl 202 lLoo := o200.s (Nat.le_succ _)
  refine lv_astore_n C.1 C.2.1 dL_law_12 rfl L.has (Nat.le_of_ble_eq_true rfl) rfl (fun la hla => ?_)
  have L : zLv la 24 [some (.ref (oX ω 1)), some (.ref (zad ω 16)), some (.ref (zad ω 201)), none, none, none, none, none, none, none, none, none, none, none, none, none, none, none, none, none, none, none, none, none] := L.store rfl hla
  refine lv_bipush (v := 10) C.1 C.2.1 dL_law_13 (by decide) ?_
  refine w_newa_int (κ := kk_Law_law) (n := 202) (c1 := 187) (s1 := 4922) (by decide +kernel) rfl (by decide) (by decide +kernel) (by decide +kernel) ⟨rfl, rfl⟩ ⟨(Nat.le_of_ble_eq_true rfl), (Nat.le_of_ble_eq_true rfl)⟩ w_arrI dL_law_15 C L hH hS (fun H11 hH hS => ?_)
  rw [zNew_mk o201] at hH
  have o202 : Okl 203 lLoo := o201.s (Nat.le_succ _)
  refine lv_astore_n C.1 C.2.1 dL_law_17 rfl L.has (Nat.le_of_ble_eq_true rfl) rfl (fun la hla => ?_)
  have L : zLv la 24 [some (.ref (oX ω 1)), some (.ref (zad ω 16)), some (.ref (zad ω 201)), some (.ref (zad ω 202)), none, none, none, none, none, none, none, none, none, none, none, none, none, none, none, none, none, none, none, none] := L.store rfl hla
  refine lv_bipush (v := 30) C.1 C.2.1 dL_law_18 (by decide) ?_
  refine w_newa_int (κ := kk_Law_law) (n := 203) (c1 := 188) (s1 := 4952) (by decide +kernel) rfl (by decide) (by decide +kernel) (by decide +kernel) ⟨rfl, rfl⟩ ⟨(Nat.le_of_ble_eq_true rfl), (Nat.le_of_ble_eq_true rfl)⟩ w_arrI dL_law_20 C L hH hS (fun H12 hH hS => ?_)
  rw [zNew_mk o202] at hH
  have o203 : Okl 204 lLoo := o202.s (Nat.le_succ _)
  refine lv_astore C.1 C.2.1 dL_law_22 L.has (Nat.le_of_ble_eq_true rfl) rfl (fun la hla => ?_)
  have L : zLv la 24 [some (.ref (oX ω 1)), some (.ref (zad ω 16)), some (.ref (zad ω 201)), some (.ref (zad ω 202)), some (.ref (zad ω 203)), none, none, none, none, none, none, none, none, none, none, none, none, none, none, none, none, none, none, none] := L.store rfl hla
  refine lv_bipush (v := 6) C.1 C.2.1 dL_law_24 (by decide) ?_
  refine w_newa_int (κ := kk_Law_law) (n := 204) (c1 := 189) (s1 := 4958) (by decide +kernel) rfl (by decide) (by decide +kernel) (by decide +kernel) ⟨rfl, rfl⟩ ⟨(Nat.le_of_ble_eq_true rfl), (Nat.le_of_ble_eq_true rfl)⟩ w_arrI dL_law_26 C L hH hS (fun H13 hH hS => ?_)
  rw [zNew_mk o203] at hH
  have o204 : Okl 205 lLoo := o203.s (Nat.le_succ _)
  refine lv_astore C.1 C.2.1 dL_law_28 L.has (Nat.le_of_ble_eq_true rfl) rfl (fun la hla => ?_)
  have L : zLv la 24 [some (.ref (oX ω 1)), some (.ref (zad ω 16)), some (.ref (zad ω 201)), some (.ref (zad ω 202)), some (.ref (zad ω 203)), some (.ref (zad ω 204)), none, none, none, none, none, none, none, none, none, none, none, none, none, none, none, none, none, none] := L.store rfl hla
  refine lv_bipush (v := 9) C.1 C.2.1 dL_law_30 (by decide) ?_
  refine w_newa_int (κ := kk_Law_law) (n := 205) (c1 := 190) (s1 := 4967) (by decide +kernel) rfl (by decide) (by decide +kernel) (by decide +kernel) ⟨rfl, rfl⟩ ⟨(Nat.le_of_ble_eq_true rfl), (Nat.le_of_ble_eq_true rfl)⟩ w_arrI dL_law_32 C L hH hS (fun H14 hH hS => ?_)
  rw [zNew_mk o204] at hH
  have o205 : Okl 206 lLoo := o204.s (Nat.le_succ _)
  refine lv_astore C.1 C.2.1 dL_law_34 L.has (Nat.le_of_ble_eq_true rfl) rfl (fun la hla => ?_)
  have L : zLv la 24 [some (.ref (oX ω 1)), some (.ref (zad ω 16)), some (.ref (zad ω 201)), some (.ref (zad ω 202)), some (.ref (zad ω 203)), some (.ref (zad ω 204)), some (.ref (zad ω 205)), none, none, none, none, none, none, none, none, none, none, none, none, none, none, none, none, none] := L.store rfl hla
  refine lv_bipush (v := 26) C.1 C.2.1 dL_law_36 (by decide) ?_
  refine w_newa_int (κ := kk_Law_law) (n := 206) (c1 := 191) (s1 := 4993) (by decide +kernel) rfl (by decide) (by decide +kernel) (by decide +kernel) ⟨rfl, rfl⟩ ⟨(Nat.le_of_ble_eq_true rfl), (Nat.le_of_ble_eq_true rfl)⟩ w_arrI dL_law_38 C L hH hS (fun H15 hH hS => ?_)
  rw [zNew_mk o205] at hH
  have o206 : Okl 207 lLoo := o205.s (Nat.le_succ _)
  refine lv_astore C.1 C.2.1 dL_law_40 L.has (Nat.le_of_ble_eq_true rfl) rfl (fun la hla => ?_)
  have L : zLv la 24 [some (.ref (oX ω 1)), some (.ref (zad ω 16)), some (.ref (zad ω 201)), some (.ref (zad ω 202)), some (.ref (zad ω 203)), some (.ref (zad ω 204)), some (.ref (zad ω 205)), some (.ref (zad ω 206)), none, none, none, none, none, none, none, none, none, none, none, none, none, none, none, none] := L.store rfl hla
  have hH' : zH ω true (mkM 207 lLoo) H15 := ⟨hH.1, hH.2.1, hH.2.2.1, fun _ => ⟨lay_end, rfl⟩, (fun h => nomatch h), fun _ i hi => absurd hi (by rw [h0]; exact Nat.not_lt_zero _)⟩
  exact c_Law_law ω (by rw [h0]; rfl) (mkM 207 lLoo) _ hm p l e s mid args below meth c H15 locs2 la C L hH' hS
def R_law : String := "AlmanacLoomLaw"
def lw_P (b : Addr) (xs : List Int32) (args : Array Value) (s : State) : Prop := args = #[.ref b] ∧ s.IntsAt b xs ∧ xs.length ≤ 260 ∧ (Jvm.Cond.and given_1 narrow_1).before args s = true
def lw_Q (_ : Array Value) (s : State) (o : Outcome) (t : State) : Prop := o = .returned (some (.int 1)) ∧ Framed s o t [] 600104 7301314
def lw_Z (below : List Frame) (a : Array Value) (s : State) : State → Prop := fun t => ∃ o, t.status = .running ∧ Ended t below o ∧ lw_Q a s o t
def lw_At (p : Program) (s : State) (m : MethodId) (meth : Method) (c : Code) (b L : Nat) (xs : Nat → Int32) : Prop :=
  p.tables.exec = Jvm.exec ∧ c.code = code ∧ meth.sig.returnType = ret ∧ c.maxLocals = 24 ∧ s.vm.findClass R_law = some m.cls ∧ (∀ w ∈ lw_tbl, w.before #[Value.ref b] s = true) ∧ va_X b L xs s s.heap ∧ b < s.heap.size ∧ meth.locks = false ∧ (Jvm.Cond.and given_1 narrow_1).before #[Value.ref b] s = true ∧ c.exceptionTable.toList = []
theorem whole_start {p : Program} {e : Env} {s : State} {m : MethodId} {below : List Frame} {meth : Method} {c : Code} (l : Launch) (hflags : l.flags = flags0) {b L : Nat} {xs : Nat → Int32} (hL : L ≤ 260) (C0 : lw_At p s m meth c b L xs) : W p l e room_1 s m #[Value.ref b] below meth c s.heap [] 0 0 (lw_Z below #[Value.ref b] s) (entryFrame m ([Value.ref b] : List Value).toArray 24) := by
  obtain ⟨hx, hb, hr, hml, hown, hts, hX, hbl, hlocks, hgv, htab⟩ := C0
  obtain ⟨ω, e1, e2, e0, e3, hC⟩ := wld hts hX hbl hgv
  obtain ⟨mE, hE⟩ := law_begin (ω := ω) (by rw [e2]; exact hL) e0
  have hav : ∀ v ∈ ([.ref b] : List Value), v.category = 1 := fun v hv => by
    cases hv with
    | head => rfl
    | tail _ h => cases h
  have hl : l.stackTraces = false := by
    unfold Launch.stackTraces
    rw [hflags]
    decide +kernel
  rw [entry_eq m [.ref b] hav 24]
  refine W_room (R' := zRm 112 19601 198013) (Nat.le_of_ble_eq_true rfl) (Nat.le_of_ble_eq_true rfl) (Nat.le_of_ble_eq_true rfl) (Nat.le_of_ble_eq_true rfl) ?_
  refine W_imp (fun t ht => ?_) (hE p l e s m #[Value.ref b] below meth c s.heap _ ⟨hx, hb, hr, hml, hown, fun w hw => hts w (List.mem_filter.mp hw).1, hlocks, hl, hC, htab, (fun h => nomatch h)⟩ ?_ ⟨fun a h1 h2 => absurd (show a < 16 from h2) (Nat.not_lt.mpr h1), ?_, Nat.le_refl 16, (fun h => nomatch h), fun _ => e1.symm, (fun h => nomatch h)⟩ va_S.rf)
  · obtain ⟨o, h1, h2, h3⟩ := ht
    rcases h3 with ⟨⟨v, m9, e4, e5, h6, h7⟩, L9, h8, h9⟩ | ⟨q, e4, E, ce, L9, ⟨e9, m9, e5, -⟩, -⟩
    · have e6 : ((.inl (some (.int 1)), mE) : Zo) = (.inl v, m9) := e4
      cases e6
      exact ⟨o, h1, h2, e5, h8.1, h8.2.1, State.sameButNew.mono (sbn_nil h8.2.2 (fun z hz => by rw [← e1]; exact h9 z hz)) (Nat.le_of_ble_eq_true rfl) (Nat.le_of_ble_eq_true rfl)⟩
    · have e6 : ((.inl (some (.int 1)), mE) : Zo) = (.inr e9, m9) := e5
      cases e6
  · rw [e3]
    exact zEntry (nL := 24) hav (Nat.le_of_ble_eq_true rfl)
  · show oS ω + (16 - 16) ≤ s.heap.size
    rw [e1]
    exact Nat.le_refl _
