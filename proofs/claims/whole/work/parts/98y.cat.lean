/-! THE LAW'S OTHER CASES; made by the generator, but for the rules -/
section LWB
variable {ω : Wd} {ph : Bool} {D mc ms : Nat} {κ : Kx} {α : Type} {φ : α → Zo} {c0 s0 : Nat} {m : Mm} {pc : Nat} {ls : List (Option Value)} {st : List Value} {t : Option α}
theorem x_eqzK {x : Int32} {off : Int} {tgt : Nat} (d : decode κ.2.1 pc = .ok (.ifCond .eq off, 3)) (ht : (pc : Int) + off = (tgt : Int)) (k1 : x = 0 → Sx ω ph D mc ms κ φ c0 s0 m tgt ls st t) (k2 : ¬ x = 0 → Sx ω ph D mc ms κ φ c0 s0 m (pc + 3) ls st t) : Sx ω ph D mc ms κ φ c0 s0 m pc ls (.int x :: st) t := by
  have h := x_if_eq d ht k1 k2
  rw [ite_self] at h
  exact h
theorem x_boolK {x : Int32} (d0 : decode κ.2.1 pc = .ok (.ifCond .eq 7, 3)) (d1 : decode κ.2.1 (pc + 3) = .ok (.iconst 1, 1)) (d2 : decode κ.2.1 (pc + 4) = .ok (.goto 4, 3)) (d3 : decode κ.2.1 (pc + 7) = .ok (.iconst 0, 1)) (k : Sx ω ph D mc ms κ φ c0 s0 m (pc + 8) ls (.int (b3 (decide (x ≠ 0))) :: st) t) : Sx ω ph D mc ms κ φ c0 s0 m pc ls (.int x :: st) t := by
  refine x_eqzK (tgt := pc + 7) d0 (by omega) (fun h => ?_) (fun h => ?_)
  · refine x_iconst (v := 0) d3 rfl ?_
    rw [show decide (x ≠ 0) = false from decide_eq_false (fun q => q h)] at k
    exact k
  · refine x_iconst (v := 1) d1 rfl ?_
    refine x_goto (tgt := pc + 8) d2 (by omega) ?_
    rw [show decide (x ≠ 0) = true from decide_eq_true h] at k
    exact k
theorem x_lboolK {x : Int32} (d0 : decode κ.2.1 pc = .ok (.ifCond .eq 7, 3)) (d1 : decode κ.2.1 (pc + 3) = .ok (.lconst 1, 1)) (d2 : decode κ.2.1 (pc + 4) = .ok (.goto 4, 3)) (d3 : decode κ.2.1 (pc + 7) = .ok (.lconst 0, 1)) (k : Sx ω ph D mc ms κ φ c0 s0 m (pc + 8) ls (.long (if x = 0 then 0 else 1) :: st) t) : Sx ω ph D mc ms κ φ c0 s0 m pc ls (.int x :: st) t := by
  refine x_eqzK (tgt := pc + 7) d0 (by omega) (fun h => ?_) (fun h => ?_)
  · refine x_lconst (v := 0) d3 rfl ?_
    rw [if_pos h] at k
    exact k
  · refine x_lconst (v := 1) d1 rfl ?_
    refine x_goto (tgt := pc + 8) d2 (by omega) ?_
    rw [if_neg h] at k
    exact k
end LWB
theorem hB_agreeZ {c : Nat → Int} {kx : Nat → Mm → Option (Int32 × Mm)} {A : Option ((Int32 ⊕ Nat) × Mm)} {G : Mm → Option (Int32 × Mm)} (hk : ∀ e m, 1 ≤ c e → kx e m = some (i3 (c e), m)) (h0 : ∀ e, 1 ≤ c e → c e ≤ 3 → i3 (c e) ≠ 0) (hb : Bo c A G) :
    ∃ (kk : Int32) (mh : Mm) (b : Int32) (m2 : Mm), hB hZ kx A = some (kk, mh) ∧ G mh = some (b, m2) ∧ Inv m2 ∧ zI m2 201 0 = kk ∧ (kk = 0 → zL m2 229 0 = if b = 0 then 0 else 1) := by
  obtain ⟨r, m1, e1, h⟩ := hb
  rw [e1]
  cases r with
  | inl v =>
    obtain ⟨b, m2, e2, hI, hl, ha⟩ := h (wL m1 229 (zIx 0) (if v = 0 then 0 else 1)) ⟨rfl, fun b j hb => (zL_wL _ _ _ _ _ _).trans (if_neg (fun q => hb q.1))⟩
    refine ⟨0, _, b, m2, ?_, e2, hI, ha.1, fun _ => ?_⟩
    · show (if v = 0 then (if zIn 0 (zLn 229) then some ((0 : Int32), wL m1 229 (zIx 0) 0) else none) else (if zIn 0 (zLn 229) then some ((0 : Int32), wL m1 229 (zIx 0) 1) else none)) = _
      by_cases hv : v = 0
      · rw [if_pos hv, if_pos hv]; exact if_pos (show zIn 0 (zLn 229) by decide +kernel)
      · rw [if_neg hv, if_neg hv]; exact if_pos (show zIn 0 (zLn 229) by decide +kernel)
    · rw [hl, ha.2, zL_wL, if_pos ⟨rfl, by decide +kernel⟩]
  | inr e =>
    obtain ⟨b, m2, e2, hI, hl, ha⟩ := h m1 ⟨rfl, fun _ _ _ => rfl⟩
    refine ⟨i3 (c e), m1, b, m2, ?_, e2, hI, ha.1, fun h9 => absurd h9 (h0 e ha.2.1 ha.2.2)⟩
    exact hk e m1 ha.2.1
theorem cs_wipe {ω : Wd} {i : Int32} {m : Mm} (hI : Inv m) : Cs ω i m 482 := by
  obtain ⟨v, m1, m2, e1, e2, hI2⟩ := b_wipe hI
  refine ⟨m2, hI2, fun α φ t c0 s0 o5 o6 hc k => ?_⟩
  refine x_aload_n dL_law_482 rfl ?_
  refine x_callVK (a := 16) (m' := m1) (v := .int v) (As := []) (rest := []) e1 rfl (c_Loo_wipe ω m) mv_RL_129 rfl (Or.inl rfl) rfl (Nat.le_of_ble_eq_true rfl) (Nat.le_of_ble_eq_true rfl) (Nat.le_of_ble_eq_true rfl) ⟨by omega, by omega⟩ dL_law_483 ?_
  refine x_aload_n dL_law_486 rfl ?_
  refine x_callVK (a := 201) (m' := m2) (v := .int v) (As := []) (rest := [.int v]) e2 rfl (c_Mod_wipe ω m1) mv_RL_132 rfl (Or.inl rfl) rfl (Nat.le_of_ble_eq_true rfl) (Nat.le_of_ble_eq_true rfl) (Nat.le_of_ble_eq_true rfl) ⟨by omega, by omega⟩ dL_law_487 ?_
  refine x_sameK (tgt := 1979) rfl dL_law_490 rfl ?_
  exact x_wid (by omega) (by omega) (k _ _)
theorem cs_fault {ω : Wd} {i : Int32} {m : Mm} (hI : Inv m) : Cs ω i m 495 := by
  obtain ⟨v, m1, m2, e1, e2, hI2⟩ := b_fault hI
  refine ⟨m2, hI2, fun α φ t c0 s0 o5 o6 hc k => ?_⟩
  refine x_aload_n dL_law_495 rfl ?_
  refine x_callVK (a := 16) (m' := m1) (v := .int v) (As := []) (rest := []) e1 rfl (c_Loo_fault ω m) mv_RL_133 rfl (Or.inl rfl) rfl (Nat.le_of_ble_eq_true rfl) (Nat.le_of_ble_eq_true rfl) (Nat.le_of_ble_eq_true rfl) ⟨by omega, by omega⟩ dL_law_496 ?_
  refine x_aload_n dL_law_499 rfl ?_
  refine x_callVK (a := 201) (m' := m2) (v := .int v) (As := []) (rest := [.int v]) e2 rfl (c_Mod_fault ω m1) mv_RL_136 rfl (Or.inl rfl) rfl (Nat.le_of_ble_eq_true rfl) (Nat.le_of_ble_eq_true rfl) (Nat.le_of_ble_eq_true rfl) ⟨by omega, by omega⟩ dL_law_500 ?_
  refine x_sameK (tgt := 1979) rfl dL_law_503 rfl ?_
  exact x_wid (by omega) (by omega) (k _ _)
theorem cs_questionFault {ω : Wd} {i : Int32} {m : Mm} (hI : Inv m) : Cs ω i m 508 := by
  obtain ⟨v, m1, m2, e1, e2, hI2⟩ := b_questionFault hI
  refine ⟨m2, hI2, fun α φ t c0 s0 o5 o6 hc k => ?_⟩
  refine x_aload_n dL_law_508 rfl ?_
  refine x_callVK (a := 16) (m' := m1) (v := .int v) (As := []) (rest := []) e1 rfl (c_Loo_questionFault ω m) mv_RL_137 rfl (Or.inl rfl) rfl (Nat.le_of_ble_eq_true rfl) (Nat.le_of_ble_eq_true rfl) (Nat.le_of_ble_eq_true rfl) ⟨by omega, by omega⟩ dL_law_509 ?_
  refine x_aload_n dL_law_512 rfl ?_
  refine x_callVK (a := 201) (m' := m2) (v := .int v) (As := []) (rest := [.int v]) e2 rfl (c_Mod_questionFault ω m1) mv_RL_140 rfl (Or.inl rfl) rfl (Nat.le_of_ble_eq_true rfl) (Nat.le_of_ble_eq_true rfl) (Nat.le_of_ble_eq_true rfl) ⟨by omega, by omega⟩ dL_law_513 ?_
  refine x_sameK (tgt := 1979) rfl dL_law_516 rfl ?_
  exact x_wid (by omega) (by omega) (k _ _)
theorem cs_feasts {ω : Wd} {i : Int32} {m : Mm} (hI : Inv m) : Cs ω i m 905 := by
  obtain ⟨v, m2, e1, e2, hI2⟩ := b_feasts hI
  refine ⟨m2, hI2, fun α φ t c0 s0 o5 o6 hc k => ?_⟩
  refine x_aload_n dL_law_905 rfl ?_
  refine x_callVK (a := 16) (m' := m) (v := .int v) (As := []) (rest := []) e1 (show fP m v = (.inl (some (.int v)), m) from rfl) (c_Loo_feasts ω m) mv_RL_159 rfl (Or.inl rfl) rfl (Nat.le_of_ble_eq_true rfl) (Nat.le_of_ble_eq_true rfl) (Nat.le_of_ble_eq_true rfl) ⟨by omega, by omega⟩ dL_law_906 ?_
  refine x_aload_n dL_law_909 rfl ?_
  refine x_callVK (a := 201) (m' := m2) (v := .int v) (As := []) (rest := [.int v]) e2 rfl (c_Mod_feasts ω m) mv_RL_162 rfl (Or.inl rfl) rfl (Nat.le_of_ble_eq_true rfl) (Nat.le_of_ble_eq_true rfl) (Nat.le_of_ble_eq_true rfl) ⟨by omega, by omega⟩ dL_law_910 ?_
  refine x_sameK (tgt := 1979) rfl dL_law_913 rfl ?_
  exact x_wid (by omega) (by omega) (k _ _)
theorem cs_spent {ω : Wd} {i : Int32} {m : Mm} (hI : Inv m) : Cs ω i m 1613 := by
  obtain ⟨v, m2, e1, e2, hI2⟩ := b_spent hI
  refine ⟨m2, hI2, fun α φ t c0 s0 o5 o6 hc k => ?_⟩
  refine x_aload_n dL_law_1613 rfl ?_
  refine x_callVK (a := 16) (m' := m) (v := .long v) (As := []) (rest := []) e1 (show fPJ m v = (.inl (some (.long v)), m) from rfl) (c_Loo_spent ω m) mv_RL_196 rfl (Or.inl rfl) rfl (Nat.le_of_ble_eq_true rfl) (Nat.le_of_ble_eq_true rfl) (Nat.le_of_ble_eq_true rfl) ⟨by omega, by omega⟩ dL_law_1614 ?_
  refine x_aload_n dL_law_1617 rfl ?_
  refine x_callVK (a := 201) (m' := m2) (v := .long v) (As := []) (rest := [.long v]) e2 rfl (c_Mod_spent ω m) mv_RL_200 rfl (Or.inl rfl) rfl (Nat.le_of_ble_eq_true rfl) (Nat.le_of_ble_eq_true rfl) (Nat.le_of_ble_eq_true rfl) ⟨by omega, by omega⟩ dL_law_1618 ?_
  refine x_lcmpK rfl dL_law_1621 ?_
  refine x_zeroK (tgt := 1979) dL_law_1622 rfl ?_
  exact x_wid (by omega) (by omega) (k _ _)
theorem cs_feast {ω : Wd} {i : Int32} {m : Mm} (hI : Inv m) (h1 : zIn (i + 1) (oL ω)) (h2 : zIn (i + 2) (oL ω)) : Cs ω i m 521 := by
  obtain ⟨kk, mh, b, m2, e1, e2, hI2, h8, h9⟩ := hB_agree hk_AS (fun e g1 g2 => ne_13 g1 g2) (b_feast hI (ox ω (zIx (i + 1))) (decide ((ox ω (zIx (i + 2))) ≠ 0)))
  refine ⟨m2, hI2, fun α φ t c0 s0 o5 o6 hc k => ?_⟩
  refine x_aload_n dL_law_521 rfl ?_
  refine x_aload_n dL_law_522 rfl ?_
  refine x_iload dL_law_523 rfl ?_
  refine x_iconst (v := 1) dL_law_525 rfl ?_
  refine x_iadd dL_law_526 ?_
  refine x_sldK h1 dL_law_527 ?_
  refine x_aload_n dL_law_528 rfl ?_
  refine x_iload dL_law_529 rfl ?_
  refine x_iconst (v := 2) dL_law_531 rfl ?_
  refine x_iadd dL_law_532 ?_
  refine x_sldK h2 dL_law_533 ?_
  refine x_boolK dL_law_534 dL_law_537 dL_law_538 dL_law_541 ?_
  refine x_aload_n dL_law_542 rfl ?_
  refine x_callSK (w0 := 0) (m' := mh) (As := [.ref (zad ω 16), .int (ox ω (zIx (i + 1))), .int (b3 (decide ((ox ω (zIx (i + 2))) ≠ 0))), .ref (zad ω 229)]) (rest := []) e1 (c_L_feast ω (ox ω (zIx (i + 1))) (b3 (decide ((ox ω (zIx (i + 2))) ≠ 0))) m) mh_141 rfl (Nat.le_of_ble_eq_true rfl) (Nat.le_of_ble_eq_true rfl) (Nat.le_of_ble_eq_true rfl) ⟨by omega, by omega⟩ dL_law_543 ?_
  refine x_istore dL_law_546 (Nat.le_of_ble_eq_true rfl) rfl ?_
  refine x_aload_n dL_law_548 rfl ?_
  refine x_aload_n dL_law_549 rfl ?_
  refine x_iload dL_law_550 rfl ?_
  refine x_iconst (v := 1) dL_law_552 rfl ?_
  refine x_iadd dL_law_553 ?_
  refine x_sldK h1 dL_law_554 ?_
  refine x_aload_n dL_law_555 rfl ?_
  refine x_iload dL_law_556 rfl ?_
  refine x_iconst (v := 2) dL_law_558 rfl ?_
  refine x_iadd dL_law_559 ?_
  refine x_sldK h2 dL_law_560 ?_
  refine x_boolK dL_law_561 dL_law_564 dL_law_565 dL_law_568 ?_
  refine x_callVK (a := 201) (m' := m2) (v := .int b) (As := [.int (ox ω (zIx (i + 1))), .int (b3 (decide ((ox ω (zIx (i + 2))) ≠ 0)))]) (rest := []) e2 rfl (c_Mod_feast ω (ox ω (zIx (i + 1))) (b3 (decide ((ox ω (zIx (i + 2))) ≠ 0))) mh) mv_RL_144 rfl (Or.inl rfl) rfl (Nat.le_of_ble_eq_true rfl) (Nat.le_of_ble_eq_true rfl) (Nat.le_of_ble_eq_true rfl) ⟨by omega, by omega⟩ dL_law_569 ?_
  refine x_istore dL_law_572 (Nat.le_of_ble_eq_true rfl) rfl ?_
  refine x_aload_n dL_law_574 rfl ?_
  refine x_callVK (a := 201) (m' := m2) (v := .int (zI m2 201 0)) (As := []) (rest := []) (show f_Mod_thrown m2 = some (zI m2 201 0) from rfl) (show fP m2 (zI m2 201 0) = (.inl (some (.int (zI m2 201 0))), m2) from rfl) (c_Mod_thrown ω m2) mv_RL_111 rfl (Or.inl rfl) rfl (Nat.le_of_ble_eq_true rfl) (Nat.le_of_ble_eq_true rfl) (Nat.le_of_ble_eq_true rfl) ⟨by omega, by omega⟩ dL_law_575 ?_
  refine x_iload dL_law_578 rfl ?_
  refine x_sameK (tgt := 585) h8 dL_law_580 rfl ?_
  refine x_iload dL_law_585 rfl ?_
  refine x_neK (tgt := 602) dL_law_587 rfl (fun hz => ?_) (fun _ => ?_)
  · skip
    refine x_aload_n dL_law_590 rfl ?_
    refine x_iconst (v := 0) dL_law_591 rfl ?_
    refine x_outK (Or.inl rfl) dL_law_592 ?_
    refine x_iload dL_law_593 rfl ?_
    refine x_i2l dL_law_595 ?_
    refine x_lcmpK (h9 hz) dL_law_596 ?_
    refine x_zeroK (tgt := 602) dL_law_597 rfl ?_
    refine x_goto (tgt := 1979) dL_law_602 rfl ?_
    exact x_wid (by omega) (by omega) (k _ _)
  · skip
    refine x_goto (tgt := 1979) dL_law_602 rfl ?_
    exact x_wid (by omega) (by omega) (k _ _)
theorem cs_rank {ω : Wd} {i : Int32} {m : Mm} (hI : Inv m) (h1 : zIn (i + 1) (oL ω)) (h2 : zIn (i + 2) (oL ω)) (h3 : zIn (i + 3) (oL ω)) : Cs ω i m 661 := by
  obtain ⟨kk, mh, b, m2, e1, e2, hI2, h8, h9⟩ := hB_agree hk_IA (fun e g1 g2 => ne_13 g1 g2) (b_rank hI (ox ω (zIx (i + 1))) (ox ω (zIx (i + 2))) (decide ((ox ω (zIx (i + 3))) ≠ 0)))
  refine ⟨m2, hI2, fun α φ t c0 s0 o5 o6 hc k => ?_⟩
  refine x_aload_n dL_law_661 rfl ?_
  refine x_aload_n dL_law_662 rfl ?_
  refine x_iload dL_law_663 rfl ?_
  refine x_iconst (v := 1) dL_law_665 rfl ?_
  refine x_iadd dL_law_666 ?_
  refine x_sldK h1 dL_law_667 ?_
  refine x_aload_n dL_law_668 rfl ?_
  refine x_iload dL_law_669 rfl ?_
  refine x_iconst (v := 2) dL_law_671 rfl ?_
  refine x_iadd dL_law_672 ?_
  refine x_sldK h2 dL_law_673 ?_
  refine x_aload_n dL_law_674 rfl ?_
  refine x_iload dL_law_675 rfl ?_
  refine x_iconst (v := 3) dL_law_677 rfl ?_
  refine x_iadd dL_law_678 ?_
  refine x_sldK h3 dL_law_679 ?_
  refine x_boolK dL_law_680 dL_law_683 dL_law_684 dL_law_687 ?_
  refine x_aload_n dL_law_688 rfl ?_
  refine x_callSK (w0 := 0) (m' := mh) (As := [.ref (zad ω 16), .int (ox ω (zIx (i + 1))), .int (ox ω (zIx (i + 2))), .int (b3 (decide ((ox ω (zIx (i + 3))) ≠ 0))), .ref (zad ω 229)]) (rest := []) e1 (c_L_rank ω (ox ω (zIx (i + 1))) (ox ω (zIx (i + 2))) (b3 (decide ((ox ω (zIx (i + 3))) ≠ 0))) m) mh_148 rfl (Nat.le_of_ble_eq_true rfl) (Nat.le_of_ble_eq_true rfl) (Nat.le_of_ble_eq_true rfl) ⟨by omega, by omega⟩ dL_law_689 ?_
  refine x_istore dL_law_692 (Nat.le_of_ble_eq_true rfl) rfl ?_
  refine x_aload_n dL_law_694 rfl ?_
  refine x_aload_n dL_law_695 rfl ?_
  refine x_iload dL_law_696 rfl ?_
  refine x_iconst (v := 1) dL_law_698 rfl ?_
  refine x_iadd dL_law_699 ?_
  refine x_sldK h1 dL_law_700 ?_
  refine x_aload_n dL_law_701 rfl ?_
  refine x_iload dL_law_702 rfl ?_
  refine x_iconst (v := 2) dL_law_704 rfl ?_
  refine x_iadd dL_law_705 ?_
  refine x_sldK h2 dL_law_706 ?_
  refine x_aload_n dL_law_707 rfl ?_
  refine x_iload dL_law_708 rfl ?_
  refine x_iconst (v := 3) dL_law_710 rfl ?_
  refine x_iadd dL_law_711 ?_
  refine x_sldK h3 dL_law_712 ?_
  refine x_boolK dL_law_713 dL_law_716 dL_law_717 dL_law_720 ?_
  refine x_callVK (a := 201) (m' := m2) (v := .int b) (As := [.int (ox ω (zIx (i + 1))), .int (ox ω (zIx (i + 2))), .int (b3 (decide ((ox ω (zIx (i + 3))) ≠ 0)))]) (rest := []) e2 rfl (c_Mod_rank ω (ox ω (zIx (i + 1))) (ox ω (zIx (i + 2))) (b3 (decide ((ox ω (zIx (i + 3))) ≠ 0))) mh) mv_RL_151 rfl (Or.inl rfl) rfl (Nat.le_of_ble_eq_true rfl) (Nat.le_of_ble_eq_true rfl) (Nat.le_of_ble_eq_true rfl) ⟨by omega, by omega⟩ dL_law_721 ?_
  refine x_istore dL_law_724 (Nat.le_of_ble_eq_true rfl) rfl ?_
  refine x_aload_n dL_law_726 rfl ?_
  refine x_callVK (a := 201) (m' := m2) (v := .int (zI m2 201 0)) (As := []) (rest := []) (show f_Mod_thrown m2 = some (zI m2 201 0) from rfl) (show fP m2 (zI m2 201 0) = (.inl (some (.int (zI m2 201 0))), m2) from rfl) (c_Mod_thrown ω m2) mv_RL_111 rfl (Or.inl rfl) rfl (Nat.le_of_ble_eq_true rfl) (Nat.le_of_ble_eq_true rfl) (Nat.le_of_ble_eq_true rfl) ⟨by omega, by omega⟩ dL_law_727 ?_
  refine x_iload dL_law_730 rfl ?_
  refine x_sameK (tgt := 737) h8 dL_law_732 rfl ?_
  refine x_iload dL_law_737 rfl ?_
  refine x_neK (tgt := 754) dL_law_739 rfl (fun hz => ?_) (fun _ => ?_)
  · skip
    refine x_aload_n dL_law_742 rfl ?_
    refine x_iconst (v := 0) dL_law_743 rfl ?_
    refine x_outK (Or.inl rfl) dL_law_744 ?_
    refine x_iload dL_law_745 rfl ?_
    refine x_i2l dL_law_747 ?_
    refine x_lcmpK (h9 hz) dL_law_748 ?_
    refine x_zeroK (tgt := 754) dL_law_749 rfl ?_
    refine x_goto (tgt := 1979) dL_law_754 rfl ?_
    exact x_wid (by omega) (by omega) (k _ _)
  · skip
    refine x_goto (tgt := 1979) dL_law_754 rfl ?_
    exact x_wid (by omega) (by omega) (k _ _)
theorem cs_isMidnight {ω : Wd} {i : Int32} {m : Mm} (hI : Inv m) (h1 : zIn (i + 1) (oL ω)) (h2 : zIn (i + 2) (oL ω)) : Cs ω i m 1178 := by
  obtain ⟨kk, mh, b, m2, e1, e2, hI2, h8, h9⟩ := hB_agreeZ hk_IA (fun e g1 g2 => ne_13 g1 g2) (b_isMidnight hI (ox ω (zIx (i + 1))) (ox ω (zIx (i + 2))))
  refine ⟨m2, hI2, fun α φ t c0 s0 o5 o6 hc k => ?_⟩
  refine x_aload_n dL_law_1178 rfl ?_
  refine x_aload_n dL_law_1179 rfl ?_
  refine x_iload dL_law_1180 rfl ?_
  refine x_iconst (v := 1) dL_law_1182 rfl ?_
  refine x_iadd dL_law_1183 ?_
  refine x_sldK h1 dL_law_1184 ?_
  refine x_aload_n dL_law_1185 rfl ?_
  refine x_iload dL_law_1186 rfl ?_
  refine x_iconst (v := 2) dL_law_1188 rfl ?_
  refine x_iadd dL_law_1189 ?_
  refine x_sldK h2 dL_law_1190 ?_
  refine x_aload_n dL_law_1191 rfl ?_
  refine x_callSK (w0 := 0) (m' := mh) (As := [.ref (zad ω 16), .int (ox ω (zIx (i + 1))), .int (ox ω (zIx (i + 2))), .ref (zad ω 229)]) (rest := []) e1 (c_L_isMidnight ω (ox ω (zIx (i + 1))) (ox ω (zIx (i + 2))) m) mh_175 rfl (Nat.le_of_ble_eq_true rfl) (Nat.le_of_ble_eq_true rfl) (Nat.le_of_ble_eq_true rfl) ⟨by omega, by omega⟩ dL_law_1192 ?_
  refine x_istore dL_law_1195 (Nat.le_of_ble_eq_true rfl) rfl ?_
  refine x_aload_n dL_law_1197 rfl ?_
  refine x_aload_n dL_law_1198 rfl ?_
  refine x_iload dL_law_1199 rfl ?_
  refine x_iconst (v := 1) dL_law_1201 rfl ?_
  refine x_iadd dL_law_1202 ?_
  refine x_sldK h1 dL_law_1203 ?_
  refine x_aload_n dL_law_1204 rfl ?_
  refine x_iload dL_law_1205 rfl ?_
  refine x_iconst (v := 2) dL_law_1207 rfl ?_
  refine x_iadd dL_law_1208 ?_
  refine x_sldK h2 dL_law_1209 ?_
  refine x_callVK (a := 201) (m' := m2) (v := .int b) (As := [.int (ox ω (zIx (i + 1))), .int (ox ω (zIx (i + 2)))]) (rest := []) e2 rfl (c_Mod_isMidnight ω (ox ω (zIx (i + 1))) (ox ω (zIx (i + 2))) mh) mv_RL_177 rfl (Or.inl rfl) rfl (Nat.le_of_ble_eq_true rfl) (Nat.le_of_ble_eq_true rfl) (Nat.le_of_ble_eq_true rfl) ⟨by omega, by omega⟩ dL_law_1210 ?_
  refine x_istore dL_law_1213 (Nat.le_of_ble_eq_true rfl) rfl ?_
  refine x_aload_n dL_law_1215 rfl ?_
  refine x_callVK (a := 201) (m' := m2) (v := .int (zI m2 201 0)) (As := []) (rest := []) (show f_Mod_thrown m2 = some (zI m2 201 0) from rfl) (show fP m2 (zI m2 201 0) = (.inl (some (.int (zI m2 201 0))), m2) from rfl) (c_Mod_thrown ω m2) mv_RL_111 rfl (Or.inl rfl) rfl (Nat.le_of_ble_eq_true rfl) (Nat.le_of_ble_eq_true rfl) (Nat.le_of_ble_eq_true rfl) ⟨by omega, by omega⟩ dL_law_1216 ?_
  refine x_iload dL_law_1219 rfl ?_
  refine x_sameK (tgt := 1226) h8 dL_law_1221 rfl ?_
  refine x_iload dL_law_1226 rfl ?_
  refine x_neK (tgt := 1250) dL_law_1228 rfl (fun hz => ?_) (fun _ => ?_)
  · skip
    refine x_aload_n dL_law_1231 rfl ?_
    refine x_iconst (v := 0) dL_law_1232 rfl ?_
    refine x_outK (Or.inl rfl) dL_law_1233 ?_
    refine x_iload dL_law_1234 rfl ?_
    refine x_lboolK dL_law_1236 dL_law_1239 dL_law_1240 dL_law_1243 ?_
    refine x_lcmpK (h9 hz) dL_law_1244 ?_
    refine x_zeroK (tgt := 1250) dL_law_1245 rfl ?_
    refine x_goto (tgt := 1979) dL_law_1250 rfl ?_
    exact x_wid (by omega) (by omega) (k _ _)
  · skip
    refine x_goto (tgt := 1979) dL_law_1250 rfl ?_
    exact x_wid (by omega) (by omega) (k _ _)
