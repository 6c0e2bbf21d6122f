/-! THE LAW'S LOOP -/
section LWL
variable {ω : Wd} {ph : Bool} {D mc ms : Nat} {κ : Kx} {α : Type} {φ : α → Zo} {c0 s0 : Nat} {m : Mm} {pc : Nat} {ls : List (Option Value)} {st : List Value} {t : Option α}
theorem x_gtK {x y : Int32} {off : Int} {tgt : Nat} (d : decode κ.2.1 pc = .ok (.if_icmp .gt off, 3)) (ht : (pc : Int) + off = (tgt : Int)) (k1 : y < x → Sx ω ph D mc ms κ φ c0 s0 m tgt ls st t) (k2 : ¬ y < x → Sx ω ph D mc ms κ φ c0 s0 m (pc + 3) ls st t) : Sx ω ph D mc ms κ φ c0 s0 m pc ls (.int y :: .int x :: st) t := by
  have h := x_icmp_gt d ht k1 k2
  rw [ite_self] at h
  exact h
end LWL
theorem and31 (x : Int32) : 0 ≤ (x &&& 31).toInt ∧ (x &&& 31).toInt ≤ 31 := by
  have h1 : (x &&& 31).toBitVec.toNat ≤ 31 := by
    rw [Int32.toBitVec_and, BitVec.toNat_and]
    exact Nat.le_trans Nat.and_le_right (by decide)
  have h2 : (x &&& 31).toInt = ((x &&& 31).toBitVec.toNat : Int) := by
    show (x &&& 31).toBitVec.toInt = _
    rw [BitVec.toInt_eq_toNat_of_lt (by omega)]
  omega
theorem zin_at {a k n : Nat} (hk : k ≤ 4) (h : a + k < n) (hn : n ≤ 2560) : zIn (i3 (a : Int) + Int32.ofNat k) n := by
  rw [i3_ofNat, i3_add, i3_in ⟨by omega, by omega⟩]
  exact ⟨by omega, by omega⟩
/-- from the switch on, with v on the stack -/
def Ct (ω : Wd) (i : Int32) (m : Mm) (v : Int32) : Prop := ∃ m2 : Mm, Inv m2 ∧ ∀ (α : Type) (φ : α → Zo) (t : Option α) (c0 s0 : Nat) (o5 o6 : Option Value), c0 + 8 ≤ 601024 ∧ s0 + 64 ≤ 7293033 → (∀ o5' o6' : Option Value, Sx ω true 2048 601024 7293033 kk_L_law φ (c0 + 8) (s0 + 64) m2 1979 (lwS ω i o5' o6') [] t) → Sx ω true 2048 601024 7293033 kk_L_law φ c0 s0 m 39 (lwS ω i o5 o6) [.int v] t
theorem cs_tab {ω : Wd} {i v : Int32} {m : Mm} {k : Nat} {off : Int} {tgt : Nat} (hv : v.toInt = (k : Int)) (hk : k < 31) (ho : ((#[137, 193, 261, 329, 385, 443, 456, 469, 482, 566, 622, 718, 798, 866, 879, 947, 1015, 1083, 1139, 1214, 1270, 1338, 1406, 1462, 1518, 1574, 1588, 1656, 1724, 1816, 1872] : Array Int))[k]? = some off) (ht : ((39 : Nat) : Int) + off = (tgt : Int)) (h : Cs ω i m tgt) : Ct ω i m v := by
  obtain ⟨m2, hI2, h2⟩ := h
  refine ⟨m2, hI2, fun α φ t c0 s0 o5 o6 hc k9 => ?_⟩
  have e : (v.toInt - 0).toNat = k := by omega
  exact x_tableIn (off := off) (tgt := tgt) dL_law_39 (by omega) (by omega) (by rw [e]; exact ho) ht (h2 α φ t c0 s0 o5 o6 hc k9)
theorem cs_out {ω : Wd} {i v : Int32} {m : Mm} (hI : Inv m) (hv : v.toInt = 31) : Ct ω i m v := by
  refine ⟨m, hI, fun α φ t c0 s0 o5 o6 hc k9 => ?_⟩
  exact x_tableOut (tgt := 1979) dL_law_39 (Or.inr (by omega)) rfl (x_wid (by omega) (by omega) (k9 o5 o6))
theorem cs_any {ω : Wd} {i v : Int32} {m : Mm} (hI : Inv m) (h1 : zIn (i + 1) (oL ω)) (h2 : zIn (i + 2) (oL ω)) (h3 : zIn (i + 3) (oL ω)) (h4 : zIn (i + 4) (oL ω)) (hv : 0 ≤ v.toInt ∧ v.toInt ≤ 31) : Ct ω i m v := by
  obtain ⟨k, hk, hlt⟩ : ∃ k : Nat, v.toInt = (k : Int) ∧ k < 32 := ⟨v.toInt.toNat, by omega, by omega⟩
  exact match k, hk, hlt with
  | 0, hk, _ => cs_tab (off := 137) (tgt := 176) hk (by decide) rfl rfl (cs_begin hI h1)
  | 1, hk, _ => cs_tab (off := 193) (tgt := 232) hk (by decide) rfl rfl (cs_date hI h1 h2)
  | 2, hk, _ => cs_tab (off := 261) (tgt := 300) hk (by decide) rfl rfl (cs_age hI h1 h2)
  | 3, hk, _ => cs_tab (off := 329) (tgt := 368) hk (by decide) rfl rfl (cs_table hI h1)
  | 4, hk, _ => cs_tab (off := 385) (tgt := 424) hk (by decide) rfl rfl (cs_type hI h1)
  | 5, hk, _ => cs_tab (off := 443) (tgt := 482) hk (by decide) rfl rfl (cs_wipe hI)
  | 6, hk, _ => cs_tab (off := 456) (tgt := 495) hk (by decide) rfl rfl (cs_fault hI)
  | 7, hk, _ => cs_tab (off := 469) (tgt := 508) hk (by decide) rfl rfl (cs_questionFault hI)
  | 8, hk, _ => cs_tab (off := 482) (tgt := 521) hk (by decide) rfl rfl (cs_feast hI h1 h2)
  | 9, hk, _ => cs_tab (off := 566) (tgt := 605) hk (by decide) rfl rfl (cs_mend hI h1)
  | 10, hk, _ => cs_tab (off := 622) (tgt := 661) hk (by decide) rfl rfl (cs_rank hI h1 h2 h3)
  | 11, hk, _ => cs_tab (off := 718) (tgt := 757) hk (by decide) rfl rfl (cs_dispense hI h1 h2 h3)
  | 12, hk, _ => cs_tab (off := 798) (tgt := 837) hk (by decide) rfl rfl (cs_takeBack hI h1 h2)
  | 13, hk, _ => cs_tab (off := 866) (tgt := 905) hk (by decide) rfl rfl (cs_feasts hI)
  | 14, hk, _ => cs_tab (off := 879) (tgt := 918) hk (by decide) rfl rfl (cs_bent hI h1 h2)
  | 15, hk, _ => cs_tab (off := 947) (tgt := 986) hk (by decide) rfl rfl (cs_day hI h1 h2)
  | 16, hk, _ => cs_tab (off := 1015) (tgt := 1054) hk (by decide) rfl rfl (cs_dayByDays hI h1 h2)
  | 17, hk, _ => cs_tab (off := 1083) (tgt := 1122) hk (by decide) rfl rfl (cs_clashes hI h1)
  | 18, hk, _ => cs_tab (off := 1139) (tgt := 1178) hk (by decide) rfl rfl (cs_isMidnight hI h1 h2)
  | 19, hk, _ => cs_tab (off := 1214) (tgt := 1253) hk (by decide) rfl rfl (cs_steps hI h1)
  | 20, hk, _ => cs_tab (off := 1270) (tgt := 1309) hk (by decide) rfl rfl (cs_step hI h1 h2)
  | 21, hk, _ => cs_tab (off := 1338) (tgt := 1377) hk (by decide) rfl rfl (cs_cost hI h1 h2)
  | 22, hk, _ => cs_tab (off := 1406) (tgt := 1445) hk (by decide) rfl rfl (cs_yearCost hI h1)
  | 23, hk, _ => cs_tab (off := 1462) (tgt := 1501) hk (by decide) rfl rfl (cs_search hI h1)
  | 24, hk, _ => cs_tab (off := 1518) (tgt := 1557) hk (by decide) rfl rfl (cs_goOn hI h1)
  | 25, hk, _ => cs_tab (off := 1574) (tgt := 1613) hk (by decide) rfl rfl (cs_spent hI)
  | 26, hk, _ => cs_tab (off := 1588) (tgt := 1627) hk (by decide) rfl rfl (cs_bells hI h1 h2)
  | 27, hk, _ => cs_tab (off := 1656) (tgt := 1695) hk (by decide) rfl rfl (cs_ringer hI h1 h2)
  | 28, hk, _ => cs_tab (off := 1724) (tgt := 1763) hk (by decide) rfl rfl (cs_rings hI h1 h2 h3 h4)
  | 29, hk, _ => cs_tab (off := 1816) (tgt := 1855) hk (by decide) rfl rfl (cs_silent hI h1)
  | 30, hk, _ => cs_tab (off := 1872) (tgt := 1911) hk (by decide) rfl rfl (cs_peals hI h1 h2)
  | 31, hk, _ => cs_out hI hk
  | n + 32, _, h => absurd h (by omega)
def lwO : Mm → Zo := fun m => (.inl (some (.int 1)), m)
theorem lw_head {ω : Wd} {α : Type} {φ : α → Zo} {c0 s0 a : Nat} {m : Mm} {o5 o6 : Option Value} {t : Option α} (hL : oL ω ≤ 2560) (ha : a ≤ 2560)
    (k1 : oL ω < a + 5 → Sx ω true 2048 601024 7293033 kk_L_law φ c0 s0 m 1985 (lwS ω (i3 (a : Int)) o5 o6) [] t)
    (k2 : a + 5 ≤ oL ω → Sx ω true 2048 601024 7293033 kk_L_law φ c0 s0 m 32 (lwS ω (i3 (a : Int)) o5 o6) [] t) : Sx ω true 2048 601024 7293033 kk_L_law φ c0 s0 m 23 (lwS ω (i3 (a : Int)) o5 o6) [] t := by
  refine x_iload dL_law_23 rfl ?_
  refine x_aload_n dL_law_25 rfl ?_
  refine x_slen dL_law_26 ?_
  refine x_iconst (v := 5) dL_law_27 rfl ?_
  refine x_isub dL_law_28 ?_
  have e : Int32.ofNat (oL ω) - 5 = i3 ((oL ω : Int) - 5) := by rw [i3_ofNat, i3_lit 5, i3_sub]
  rw [e]
  have hi := i3_lt (a := (oL ω : Int) - 5) (b := (a : Int)) ⟨by omega, by omega⟩ ⟨by omega, by omega⟩
  refine x_gtK (tgt := 1985) dL_law_29 rfl (fun h => k1 ?_) (fun h => k2 ?_)
  · have := hi.mp h
    omega
  · have : ¬ ((oL ω : Int) - 5 < (a : Int)) := fun q => h (hi.mpr q)
    omega
theorem lw_end {ω : Wd} {c0 s0 : Nat} {m : Mm} {ls : List (Option Value)} (hc : c0 ≤ 601024 ∧ s0 ≤ 7293033) : Sx ω true 2048 601024 7293033 kk_L_law lwO c0 s0 m 1985 ls [] (some m) := by
  refine x_iconst (v := 1) dL_law_1985 rfl ?_
  exact x_zret (r0 := m) rfl rfl rfl hc dL_law_1986
/-- the loop, with n rounds left at most -/
theorem lw_loop {ω : Wd} (hL : oL ω ≤ 2560) : ∀ (n a : Nat) (m : Mm), Inv m → oL ω < a + 5 * n + 5 → a ≤ 2560 → ∃ mE : Mm, ∀ (c0 s0 : Nat) (o5 o6 : Option Value), c0 + 8 * n ≤ 601024 ∧ s0 + 64 * n ≤ 7293033 → Sx ω true 2048 601024 7293033 kk_L_law lwO c0 s0 m 23 (lwS ω (i3 (a : Int)) o5 o6) [] (some mE) := by
  intro n
  induction n with
  | zero =>
    intro a m hI h ha
    refine ⟨m, fun c0 s0 o5 o6 hc => ?_⟩
    exact lw_head hL ha (fun _ => lw_end ⟨by omega, by omega⟩) (fun h9 => absurd h9 (by omega))
  | succ n ih =>
    intro a m hI h ha
    by_cases hlt : a + 5 ≤ oL ω
    · have h0 : zIn (i3 (a : Int)) (oL ω) := (i3_in ⟨by omega, by omega⟩).mpr ⟨by omega, by omega⟩
      obtain ⟨m2, hI2, hk⟩ := cs_any (ω := ω) (i := i3 (a : Int)) (v := ox ω (zIx (i3 (a : Int))) &&& 31) hI (zin_at (k := 1) (by omega) (by omega) hL) (zin_at (k := 2) (by omega) (by omega) hL) (zin_at (k := 3) (by omega) (by omega) hL) (zin_at (k := 4) (by omega) (by omega) hL) (and31 _)
      obtain ⟨mE, hE⟩ := ih (a + 5) m2 hI2 (by omega) (by omega)
      refine ⟨mE, fun c0 s0 o5 o6 hc => ?_⟩
      refine lw_head hL ha (fun h9 => absurd hlt (by omega)) (fun _ => ?_)
      refine x_aload_n dL_law_32 rfl ?_
      refine x_iload dL_law_33 rfl ?_
      refine x_sldK h0 dL_law_35 ?_
      refine x_bipush (v := 31) dL_law_36 rfl ?_
      refine x_iand dL_law_38 ?_
      refine hk Mm lwO (some mE) c0 s0 o5 o6 ⟨by omega, by omega⟩ (fun o5' o6' => ?_)
      refine x_iinc (v := i3 ((a + 5 : Nat) : Int)) dL_law_1979 rfl ?_ (Nat.le_of_ble_eq_true rfl) rfl ?_
      · exact (i3_add (a : Int) 5).trans (congrArg i3 (by omega))
      refine x_goto (tgt := 23) dL_law_1982 rfl ?_
      exact hE (c0 + 8) (s0 + 64) o5' o6' ⟨by omega, by omega⟩
    · refine ⟨m, fun c0 s0 o5 o6 hc => ?_⟩
      exact lw_head hL ha (fun _ => lw_end ⟨by omega, by omega⟩) (fun h9 => absurd h9 hlt)
