abbrev kk_Boo_bentDay : Kx := (yX10_bentDay.cls, cX10_bentDay, 2, (some .int), [], false)
set_option maxHeartbeats 4000000 in
set_option maxRecDepth 100000 in
theorem c_Boo_bentDay (ω : Wd) (a : Nat) (hT : zT a = 10) (p1 : Int32) (m : Mm) : Ev ω true 1 0 0 yX10_bentDay cX10_bentDay 2 (some .int) [.ref (zad ω a), .int p1] m (fP m) (f_Boo_bentDay a p1 m) := by
  refine Ev.of (b := false) (ls := [some (.ref (zad ω a)), some (.int p1)]) (plainFor_of_name (by decide +kernel)) (fun h => by cases h) rfl (Nat.le_of_ble_eq_true rfl) rfl ?_
  change Sx ω ω true 1 0 0 kk_Boo_bentDay (fP m) 0 0 m 0 _ _ _
  unfold f_Boo_bentDay
  refine x_iload_n dX10_bentDay_0 rfl ?_
  refine y_join (fun j2 => Sx ω ω true 1 0 0 kk_Boo_bentDay (fP m) 0 0 m 22 [none, none] [] j2) ?_ (fun j2 hj2 => ?_)
  · refine x_iconst (v := (-1)) dX10_bentDay_22 (by decide) ?_
    exact x_iret rfl rfl ⟨(Nat.le_of_ble_eq_true rfl), (Nat.le_of_ble_eq_true rfl)⟩ dX10_bentDay_23
  · refine x_if_lt (tgt := 22) dX10_bentDay_1 (by decide) (fun hc1 => ?_) (fun hc1 => ?_)
    · refine y_mask (bs := [false, false]) (ls' := [none, none]) rfl ?_
      exact hj2
    · refine x_iload_n dX10_bentDay_4 rfl ?_
      refine x_aload_n dX10_bentDay_5 rfl ?_
      refine y_getF fl_RX10_20 hT (lq_10_2 hT) (by rw [lt_10_2 hT]; decide) dX10_bentDay_6 ?_
      refine y_alen (t0 := 0) (v := 20) (by decide) (lt_10_2 hT) (ln_10_2 hT) (by decide) dX10_bentDay_9 ?_
      refine x_icmp_ge (tgt := 22) dX10_bentDay_10 (by decide) (fun hc3 => ?_) (fun hc3 => ?_)
      · refine y_mask (bs := [false, false]) (ls' := [none, none]) rfl ?_
        exact hj2
      · refine x_aload_n dX10_bentDay_13 rfl ?_
        refine y_getF fl_RX10_20 hT (lq_10_2 hT) (by rw [lt_10_2 hT]; decide) dX10_bentDay_14 ?_
        refine x_iload_n dX10_bentDay_17 rfl ?_
        refine y_iald (lt_10_2 hT) (ln_10_2 hT) dX10_bentDay_18 (fun hi => ?_)
        refine x_goto (tgt := 23) dX10_bentDay_19 (by decide) ?_
        exact x_iret rfl rfl ⟨(Nat.le_of_ble_eq_true rfl), (Nat.le_of_ble_eq_true rfl)⟩ dX10_bentDay_23
abbrev kk_Boo_conditionHolds : Kx := (yX10_conditionHolds.cls, cX10_conditionHolds, 3, (some .boolean), [], false)
set_option maxHeartbeats 4000000 in
set_option maxRecDepth 100000 in
theorem c_Boo_conditionHolds (ω : Wd) (a : Nat) (hT : zT a = 10) (p1 : Int32) (p2 : Int32) (m : Mm) : Ev ω true 4 0 0 yX10_conditionHolds cX10_conditionHolds 3 (some .boolean) [.ref (zad ω a), .int p1, .int p2] m (fP m) (f_Boo_conditionHolds a p1 p2 m) := by
  refine Ev.of (b := false) (ls := [some (.ref (zad ω a)), some (.int p1), some (.int p2)]) (plainFor_of_name (by decide +kernel)) (fun h => by cases h) rfl (Nat.le_of_ble_eq_true rfl) rfl ?_
  change Sx ω ω true 4 0 0 kk_Boo_conditionHolds (fP m) 0 0 m 0 _ _ _
  unfold f_Boo_conditionHolds
  refine x_iload_n dX10_conditionHolds_0 rfl ?_
  refine x_cases (c := p1 = 13) (fun hc1 => ?_) (fun hc1 => ?_)
  · refine x_tableIn (off := 27) (tgt := 28) dX10_conditionHolds_1 (by rw [hc1] <;> decide) (by rw [hc1] <;> decide) (by rw [hc1] <;> decide) (by decide) ?_
    refine x_aload_n dX10_conditionHolds_28 rfl ?_
    refine y_getF fl_RX10_12 hT (lq_10_1 hT) (by rw [lt_10_1 hT]; decide) dX10_conditionHolds_29 ?_
    refine x_iload_n dX10_conditionHolds_32 rfl ?_
    refine y_callVP (rest := []) (c1 := 0) (s1 := 0) (c_Wal_isOnWeekday ω (a + 1) (lt_10_1 hT) p2 m) mv_RX10_140 (lt_10_1 hT) rfl (Nat.le_of_ble_eq_true rfl) (Nat.le_of_ble_eq_true rfl) (Nat.le_of_ble_eq_true rfl) ⟨rfl, rfl⟩ ⟨(Nat.le_of_ble_eq_true rfl), (Nat.le_of_ble_eq_true rfl)⟩ dX10_conditionHolds_33 (fun v2 => ?_)
    refine x_guard (fun hv => ?_)
    exact x_zret rfl rfl (zBo_nar hv) ⟨(Nat.le_of_ble_eq_true rfl), (Nat.le_of_ble_eq_true rfl)⟩ dX10_conditionHolds_36
  · refine x_cases (c := p1 = 14) (fun hc3 => ?_) (fun hc3 => ?_)
    · refine x_tableIn (off := 36) (tgt := 37) dX10_conditionHolds_1 (by rw [hc3] <;> decide) (by rw [hc3] <;> decide) (by rw [hc3] <;> decide) (by decide) ?_
      refine x_aload_n dX10_conditionHolds_37 rfl ?_
      refine y_getF fl_RX10_12 hT (lq_10_1 hT) (by rw [lt_10_1 hT]; decide) dX10_conditionHolds_38 ?_
      refine y_callVP (rest := []) (c1 := 0) (s1 := 0) (c_Wal_isInLeapYear ω (a + 1) (lt_10_1 hT) m) mv_RX10_144 (lt_10_1 hT) rfl (Nat.le_of_ble_eq_true rfl) (Nat.le_of_ble_eq_true rfl) (Nat.le_of_ble_eq_true rfl) ⟨rfl, rfl⟩ ⟨(Nat.le_of_ble_eq_true rfl), (Nat.le_of_ble_eq_true rfl)⟩ dX10_conditionHolds_41 (fun v4 => ?_)
      refine x_guard (fun hv => ?_)
      exact x_zret rfl rfl (zBo_nar hv) ⟨(Nat.le_of_ble_eq_true rfl), (Nat.le_of_ble_eq_true rfl)⟩ dX10_conditionHolds_44
    · refine x_cases (c := p1 = 15) (fun hc5 => ?_) (fun hc5 => ?_)
      · refine x_tableIn (off := 44) (tgt := 45) dX10_conditionHolds_1 (by rw [hc5] <;> decide) (by rw [hc5] <;> decide) (by rw [hc5] <;> decide) (by decide) ?_
        refine x_aload_n dX10_conditionHolds_45 rfl ?_
        refine y_getF fl_RX10_12 hT (lq_10_1 hT) (by rw [lt_10_1 hT]; decide) dX10_conditionHolds_46 ?_
        refine x_aload_n dX10_conditionHolds_49 rfl ?_
        refine x_iload_n dX10_conditionHolds_50 rfl ?_
        refine y_callVP (rest := [.ref (zad ω (a + 1))]) (c1 := 0) (s1 := 0) (c_Boo_bentDay ω a hT p2 m) mv_RX10_113 hT rfl (Nat.le_of_ble_eq_true rfl) (Nat.le_of_ble_eq_true rfl) (Nat.le_of_ble_eq_true rfl) ⟨rfl, rfl⟩ ⟨(Nat.le_of_ble_eq_true rfl), (Nat.le_of_ble_eq_true rfl)⟩ dX10_conditionHolds_51 (fun v6 => ?_)
        refine y_callVP (rest := []) (c1 := 0) (s1 := 0) (c_Wal_isOnDay ω (a + 1) (lt_10_1 hT) v6 m) mv_RX10_148 (lt_10_1 hT) rfl (Nat.le_of_ble_eq_true rfl) (Nat.le_of_ble_eq_true rfl) (Nat.le_of_ble_eq_true rfl) ⟨rfl, rfl⟩ ⟨(Nat.le_of_ble_eq_true rfl), (Nat.le_of_ble_eq_true rfl)⟩ dX10_conditionHolds_54 (fun v7 => ?_)
        refine x_guard (fun hv => ?_)
        exact x_zret rfl rfl (zBo_nar hv) ⟨(Nat.le_of_ble_eq_true rfl), (Nat.le_of_ble_eq_true rfl)⟩ dX10_conditionHolds_57
      · refine x_tableOut (tgt := 58) dX10_conditionHolds_1 (ztb_n [13, 14, 15] (by decide +kernel) (zfc hc1 (zfc hc3 (zfc hc5 zfn)))) (by decide) ?_
        refine x_aload_n dX10_conditionHolds_58 rfl ?_
        refine y_getF fl_RX10_12 hT (lq_10_1 hT) (by rw [lt_10_1 hT]; decide) dX10_conditionHolds_59 ?_
        refine x_iload_n dX10_conditionHolds_62 rfl ?_
        refine y_callVP (rest := []) (c1 := 0) (s1 := 0) (c_Wal_isBeforeDate ω (a + 1) (lt_10_1 hT) p2 m) mv_RX10_151 (lt_10_1 hT) rfl (Nat.le_of_ble_eq_true rfl) (Nat.le_of_ble_eq_true rfl) (Nat.le_of_ble_eq_true rfl) ⟨rfl, rfl⟩ ⟨(Nat.le_of_ble_eq_true rfl), (Nat.le_of_ble_eq_true rfl)⟩ dX10_conditionHolds_63 (fun v8 => ?_)
        refine x_guard (fun hv => ?_)
        exact x_zret rfl rfl (zBo_nar hv) ⟨(Nat.le_of_ble_eq_true rfl), (Nat.le_of_ble_eq_true rfl)⟩ dX10_conditionHolds_66
abbrev kk_Boo_goToStart : Kx := (yX10_goToStart.cls, cX10_goToStart, 3, none, [], false)
set_option maxHeartbeats 4000000 in
set_option maxRecDepth 100000 in
theorem c_Boo_goToStart (ω : Wd) (a : Nat) (hT : zT a = 10) (p1 : Int32) (p2 : Int32) (m : Mm) : Ev ω true 4 0 0 yX10_goToStart cX10_goToStart 3 none [.ref (zad ω a), .int p1, .int p2] m fV (f_Boo_goToStart a p1 p2 m) := by
  refine Ev.of (b := false) (ls := [some (.ref (zad ω a)), some (.int p1), some (.int p2)]) (plainFor_of_name (by decide +kernel)) (fun h => by cases h) rfl (Nat.le_of_ble_eq_true rfl) rfl ?_
  change Sx ω ω true 4 0 0 kk_Boo_goToStart fV 0 0 m 0 _ _ _
  unfold f_Boo_goToStart
  refine x_iload_n dX10_goToStart_0 rfl ?_
  refine x_cases (c := p1 = 1) (fun hc1 => ?_) (fun hc1 => ?_)
  · refine x_tableIn (off := 27) (tgt := 28) dX10_goToStart_1 (by rw [hc1] <;> decide) (by rw [hc1] <;> decide) (by rw [hc1] <;> decide) (by decide) ?_
    refine x_aload_n dX10_goToStart_28 rfl ?_
    refine y_getF fl_RX10_12 hT (lq_10_1 hT) (by rw [lt_10_1 hT]; decide) dX10_goToStart_29 ?_
    refine x_iload_n dX10_goToStart_32 rfl ?_
    refine y_callVV (rest := []) (c1 := 0) (s1 := 0) (c_Wal_toDate ω (a + 1) (lt_10_1 hT) p2 m) mv_RX10_102 (lt_10_1 hT) rfl (Nat.le_of_ble_eq_true rfl) (Nat.le_of_ble_eq_true rfl) (Nat.le_of_ble_eq_true rfl) ⟨rfl, rfl⟩ ⟨(Nat.le_of_ble_eq_true rfl), (Nat.le_of_ble_eq_true rfl)⟩ dX10_goToStart_33 (fun m2 => ?_)
    refine x_goto (tgt := 95) dX10_goToStart_36 (by decide) ?_
    exact x_vret rfl rfl ⟨(Nat.le_of_ble_eq_true rfl), (Nat.le_of_ble_eq_true rfl)⟩ dX10_goToStart_95
  · refine x_cases (c := p1 = 2) (fun hc3 => ?_) (fun hc3 => ?_)
    · refine x_tableIn (off := 38) (tgt := 39) dX10_goToStart_1 (by rw [hc3] <;> decide) (by rw [hc3] <;> decide) (by rw [hc3] <;> decide) (by decide) ?_
      refine x_aload_n dX10_goToStart_39 rfl ?_
      refine y_getF fl_RX10_12 hT (lq_10_1 hT) (by rw [lt_10_1 hT]; decide) dX10_goToStart_40 ?_
      refine x_iload_n dX10_goToStart_43 rfl ?_
      refine x_sipush (v := 1000) dX10_goToStart_44 (by decide) ?_
      refine x_idiv dX10_goToStart_47 (by decide) ?_
      refine x_iload_n dX10_goToStart_48 rfl ?_
      refine x_bipush (v := 100) dX10_goToStart_49 (by decide) ?_
      refine x_idiv dX10_goToStart_51 (by decide) ?_
      refine x_bipush (v := 10) dX10_goToStart_52 (by decide) ?_
      refine x_irem dX10_goToStart_54 (by decide) ?_
      refine x_iload_n dX10_goToStart_55 rfl ?_
      refine x_bipush (v := 100) dX10_goToStart_56 (by decide) ?_
      refine x_irem dX10_goToStart_58 (by decide) ?_
      refine y_callVV (rest := []) (c1 := 0) (s1 := 0) (c_Wal_toNthWeekday ω (a + 1) (lt_10_1 hT) (p2 / 1000) ((p2 / 100) % 10) (p2 % 100) m) mv_RX10_106 (lt_10_1 hT) rfl (Nat.le_of_ble_eq_true rfl) (Nat.le_of_ble_eq_true rfl) (Nat.le_of_ble_eq_true rfl) ⟨rfl, rfl⟩ ⟨(Nat.le_of_ble_eq_true rfl), (Nat.le_of_ble_eq_true rfl)⟩ dX10_goToStart_59 (fun m4 => ?_)
      refine x_goto (tgt := 95) dX10_goToStart_62 (by decide) ?_
      exact x_vret rfl rfl ⟨(Nat.le_of_ble_eq_true rfl), (Nat.le_of_ble_eq_true rfl)⟩ dX10_goToStart_95
    · refine x_cases (c := p1 = 3) (fun hc5 => ?_) (fun hc5 => ?_)
      · refine x_tableIn (off := 64) (tgt := 65) dX10_goToStart_1 (by rw [hc5] <;> decide) (by rw [hc5] <;> decide) (by rw [hc5] <;> decide) (by decide) ?_
        refine x_aload_n dX10_goToStart_65 rfl ?_
        refine y_getF fl_RX10_12 hT (lq_10_1 hT) (by rw [lt_10_1 hT]; decide) dX10_goToStart_66 ?_
        refine x_iload_n dX10_goToStart_69 rfl ?_
        refine x_bipush (v := 100) dX10_goToStart_70 (by decide) ?_
        refine x_idiv dX10_goToStart_72 (by decide) ?_
        refine x_iload_n dX10_goToStart_73 rfl ?_
        refine x_bipush (v := 100) dX10_goToStart_74 (by decide) ?_
        refine x_irem dX10_goToStart_76 (by decide) ?_
        refine y_callVV (rest := []) (c1 := 0) (s1 := 0) (c_Wal_toLastWeekday ω (a + 1) (lt_10_1 hT) (p2 / 100) (p2 % 100) m) mv_RX10_110 (lt_10_1 hT) rfl (Nat.le_of_ble_eq_true rfl) (Nat.le_of_ble_eq_true rfl) (Nat.le_of_ble_eq_true rfl) ⟨rfl, rfl⟩ ⟨(Nat.le_of_ble_eq_true rfl), (Nat.le_of_ble_eq_true rfl)⟩ dX10_goToStart_77 (fun m6 => ?_)
        refine x_goto (tgt := 95) dX10_goToStart_80 (by decide) ?_
        exact x_vret rfl rfl ⟨(Nat.le_of_ble_eq_true rfl), (Nat.le_of_ble_eq_true rfl)⟩ dX10_goToStart_95
      · refine x_tableOut (tgt := 83) dX10_goToStart_1 (ztb_n [1, 2, 3] (by decide +kernel) (zfc hc1 (zfc hc3 (zfc hc5 zfn)))) (by decide) ?_
        refine x_aload_n dX10_goToStart_83 rfl ?_
        refine y_getF fl_RX10_12 hT (lq_10_1 hT) (by rw [lt_10_1 hT]; decide) dX10_goToStart_84 ?_
        refine x_aload_n dX10_goToStart_87 rfl ?_
        refine x_iload_n dX10_goToStart_88 rfl ?_
        refine y_callVP (rest := [.ref (zad ω (a + 1))]) (c1 := 0) (s1 := 0) (c_Boo_bentDay ω a hT p2 m) mv_RX10_113 hT rfl (Nat.le_of_ble_eq_true rfl) (Nat.le_of_ble_eq_true rfl) (Nat.le_of_ble_eq_true rfl) ⟨rfl, rfl⟩ ⟨(Nat.le_of_ble_eq_true rfl), (Nat.le_of_ble_eq_true rfl)⟩ dX10_goToStart_89 (fun v7 => ?_)
        refine y_callVV (rest := []) (c1 := 0) (s1 := 0) (c_Wal_toDay ω (a + 1) (lt_10_1 hT) v7 m) mv_RX10_116 (lt_10_1 hT) rfl (Nat.le_of_ble_eq_true rfl) (Nat.le_of_ble_eq_true rfl) (Nat.le_of_ble_eq_true rfl) ⟨rfl, rfl⟩ ⟨(Nat.le_of_ble_eq_true rfl), (Nat.le_of_ble_eq_true rfl)⟩ dX10_goToStart_92 (fun m8 => ?_)
        exact x_vret rfl rfl ⟨(Nat.le_of_ble_eq_true rfl), (Nat.le_of_ble_eq_true rfl)⟩ dX10_goToStart_95
abbrev kk_Boo_move : Kx := (yX10_move.cls, cX10_move, 3, none, [], false)
set_option maxHeartbeats 4000000 in
set_option maxRecDepth 100000 in
theorem c_Boo_move (ω : Wd) (a : Nat) (hT : zT a = 10) (p1 : Int32) (p2 : Int32) (m : Mm) : Ev ω true 4 0 0 yX10_move cX10_move 3 none [.ref (zad ω a), .int p1, .int p2] m fV (f_Boo_move a p1 p2 m) := by
  refine Ev.of (b := false) (ls := [some (.ref (zad ω a)), some (.int p1), some (.int p2)]) (plainFor_of_name (by decide +kernel)) (fun h => by cases h) rfl (Nat.le_of_ble_eq_true rfl) rfl ?_
  change Sx ω ω true 4 0 0 kk_Boo_move fV 0 0 m 0 _ _ _
  unfold f_Boo_move
  refine x_iload_n dX10_move_0 rfl ?_
  refine x_cases (c := p1 = 5) (fun hc1 => ?_) (fun hc1 => ?_)
  · refine x_tableIn (off := 47) (tgt := 48) dX10_move_1 (by rw [hc1] <;> decide) (by rw [hc1] <;> decide) (by rw [hc1] <;> decide) (by decide) ?_
    refine x_aload_n dX10_move_48 rfl ?_
    refine y_getF fl_RX10_12 hT (lq_10_1 hT) (by rw [lt_10_1 hT]; decide) dX10_move_49 ?_
    refine x_iload_n dX10_move_52 rfl ?_
    refine x_sipush (v := 5000) dX10_move_53 (by decide) ?_
    refine x_isub dX10_move_56 ?_
    refine y_callVV (rest := []) (c1 := 0) (s1 := 0) (c_Wal_toLater ω (a + 1) (lt_10_1 hT) (p2 - 5000) m) mv_RX10_119 (lt_10_1 hT) rfl (Nat.le_of_ble_eq_true rfl) (Nat.le_of_ble_eq_true rfl) (Nat.le_of_ble_eq_true rfl) ⟨rfl, rfl⟩ ⟨(Nat.le_of_ble_eq_true rfl), (Nat.le_of_ble_eq_true rfl)⟩ dX10_move_57 (fun m2 => ?_)
    refine x_goto (tgt := 140) dX10_move_60 (by decide) ?_
    exact x_vret rfl rfl ⟨(Nat.le_of_ble_eq_true rfl), (Nat.le_of_ble_eq_true rfl)⟩ dX10_move_140
  · refine x_cases (c := p1 = 6) (fun hc3 => ?_) (fun hc3 => ?_)
    · refine x_tableIn (off := 62) (tgt := 63) dX10_move_1 (by rw [hc3] <;> decide) (by rw [hc3] <;> decide) (by rw [hc3] <;> decide) (by decide) ?_
      refine x_aload_n dX10_move_63 rfl ?_
      refine y_getF fl_RX10_12 hT (lq_10_1 hT) (by rw [lt_10_1 hT]; decide) dX10_move_64 ?_
      refine x_iload_n dX10_move_67 rfl ?_
      refine y_callVV (rest := []) (c1 := 0) (s1 := 0) (c_Wal_toWeekdayBehind ω (a + 1) (lt_10_1 hT) p2 m) mv_RX10_122 (lt_10_1 hT) rfl (Nat.le_of_ble_eq_true rfl) (Nat.le_of_ble_eq_true rfl) (Nat.le_of_ble_eq_true rfl) ⟨rfl, rfl⟩ ⟨(Nat.le_of_ble_eq_true rfl), (Nat.le_of_ble_eq_true rfl)⟩ dX10_move_68 (fun m4 => ?_)
      refine x_goto (tgt := 140) dX10_move_71 (by decide) ?_
      exact x_vret rfl rfl ⟨(Nat.le_of_ble_eq_true rfl), (Nat.le_of_ble_eq_true rfl)⟩ dX10_move_140
    · refine x_cases (c := p1 = 7) (fun hc5 => ?_) (fun hc5 => ?_)
      · refine x_tableIn (off := 73) (tgt := 74) dX10_move_1 (by rw [hc5] <;> decide) (by rw [hc5] <;> decide) (by rw [hc5] <;> decide) (by decide) ?_
        refine x_aload_n dX10_move_74 rfl ?_
        refine y_getF fl_RX10_12 hT (lq_10_1 hT) (by rw [lt_10_1 hT]; decide) dX10_move_75 ?_
        refine x_iload_n dX10_move_78 rfl ?_
        refine y_callVV (rest := []) (c1 := 0) (s1 := 0) (c_Wal_toWeekdayAhead ω (a + 1) (lt_10_1 hT) p2 m) mv_RX10_125 (lt_10_1 hT) rfl (Nat.le_of_ble_eq_true rfl) (Nat.le_of_ble_eq_true rfl) (Nat.le_of_ble_eq_true rfl) ⟨rfl, rfl⟩ ⟨(Nat.le_of_ble_eq_true rfl), (Nat.le_of_ble_eq_true rfl)⟩ dX10_move_79 (fun m6 => ?_)
        refine x_goto (tgt := 140) dX10_move_82 (by decide) ?_
        exact x_vret rfl rfl ⟨(Nat.le_of_ble_eq_true rfl), (Nat.le_of_ble_eq_true rfl)⟩ dX10_move_140
      · refine x_cases (c := p1 = 8) (fun hc7 => ?_) (fun hc7 => ?_)
        · refine x_tableIn (off := 84) (tgt := 85) dX10_move_1 (by rw [hc7] <;> decide) (by rw [hc7] <;> decide) (by rw [hc7] <;> decide) (by decide) ?_
          refine x_aload_n dX10_move_85 rfl ?_
          refine y_getF fl_RX10_12 hT (lq_10_1 hT) (by rw [lt_10_1 hT]; decide) dX10_move_86 ?_
          refine x_iload_n dX10_move_89 rfl ?_
          refine y_callVV (rest := []) (c1 := 0) (s1 := 0) (c_Wal_toWeekdayNotAhead ω (a + 1) (lt_10_1 hT) p2 m) mv_RX10_128 (lt_10_1 hT) rfl (Nat.le_of_ble_eq_true rfl) (Nat.le_of_ble_eq_true rfl) (Nat.le_of_ble_eq_true rfl) ⟨rfl, rfl⟩ ⟨(Nat.le_of_ble_eq_true rfl), (Nat.le_of_ble_eq_true rfl)⟩ dX10_move_90 (fun m8 => ?_)
          refine x_goto (tgt := 140) dX10_move_93 (by decide) ?_
          exact x_vret rfl rfl ⟨(Nat.le_of_ble_eq_true rfl), (Nat.le_of_ble_eq_true rfl)⟩ dX10_move_140
        · refine x_cases (c := p1 = 9) (fun hc9 => ?_) (fun hc9 => ?_)
          · refine x_tableIn (off := 95) (tgt := 96) dX10_move_1 (by rw [hc9] <;> decide) (by rw [hc9] <;> decide) (by rw [hc9] <;> decide) (by decide) ?_
            refine x_aload_n dX10_move_96 rfl ?_
            refine y_getF fl_RX10_12 hT (lq_10_1 hT) (by rw [lt_10_1 hT]; decide) dX10_move_97 ?_
            refine x_iload_n dX10_move_100 rfl ?_
            refine y_callVV (rest := []) (c1 := 0) (s1 := 0) (c_Wal_toWeekdayNotBehind ω (a + 1) (lt_10_1 hT) p2 m) mv_RX10_131 (lt_10_1 hT) rfl (Nat.le_of_ble_eq_true rfl) (Nat.le_of_ble_eq_true rfl) (Nat.le_of_ble_eq_true rfl) ⟨rfl, rfl⟩ ⟨(Nat.le_of_ble_eq_true rfl), (Nat.le_of_ble_eq_true rfl)⟩ dX10_move_101 (fun m10 => ?_)
            refine x_goto (tgt := 140) dX10_move_104 (by decide) ?_
            exact x_vret rfl rfl ⟨(Nat.le_of_ble_eq_true rfl), (Nat.le_of_ble_eq_true rfl)⟩ dX10_move_140
          · refine x_cases (c := p1 = 10) (fun hc11 => ?_) (fun hc11 => ?_)
            · refine x_tableIn (off := 106) (tgt := 107) dX10_move_1 (by rw [hc11] <;> decide) (by rw [hc11] <;> decide) (by rw [hc11] <;> decide) (by decide) ?_
              refine x_aload_n dX10_move_107 rfl ?_
              refine y_getF fl_RX10_12 hT (lq_10_1 hT) (by rw [lt_10_1 hT]; decide) dX10_move_108 ?_
              refine x_bipush (v := 14) dX10_move_111 (by decide) ?_
              refine y_callVV (rest := []) (c1 := 0) (s1 := 0) (c_Wal_toMoonOfAge ω (a + 1) (lt_10_1 hT) 14 m) mv_RX10_134 (lt_10_1 hT) rfl (Nat.le_of_ble_eq_true rfl) (Nat.le_of_ble_eq_true rfl) (Nat.le_of_ble_eq_true rfl) ⟨rfl, rfl⟩ ⟨(Nat.le_of_ble_eq_true rfl), (Nat.le_of_ble_eq_true rfl)⟩ dX10_move_113 (fun m12 => ?_)
              refine x_goto (tgt := 140) dX10_move_116 (by decide) ?_
              exact x_vret rfl rfl ⟨(Nat.le_of_ble_eq_true rfl), (Nat.le_of_ble_eq_true rfl)⟩ dX10_move_140
            · refine x_cases (c := p1 = 11) (fun hc13 => ?_) (fun hc13 => ?_)
              · refine x_tableIn (off := 118) (tgt := 119) dX10_move_1 (by rw [hc13] <;> decide) (by rw [hc13] <;> decide) (by rw [hc13] <;> decide) (by decide) ?_
                refine x_aload_n dX10_move_119 rfl ?_
                refine y_getF fl_RX10_12 hT (lq_10_1 hT) (by rw [lt_10_1 hT]; decide) dX10_move_120 ?_
                refine x_iconst (v := 0) dX10_move_123 (by decide) ?_
                refine y_callVV (rest := []) (c1 := 0) (s1 := 0) (c_Wal_toMoonOfAge ω (a + 1) (lt_10_1 hT) 0 m) mv_RX10_134 (lt_10_1 hT) rfl (Nat.le_of_ble_eq_true rfl) (Nat.le_of_ble_eq_true rfl) (Nat.le_of_ble_eq_true rfl) ⟨rfl, rfl⟩ ⟨(Nat.le_of_ble_eq_true rfl), (Nat.le_of_ble_eq_true rfl)⟩ dX10_move_124 (fun m14 => ?_)
                refine x_goto (tgt := 140) dX10_move_127 (by decide) ?_
                exact x_vret rfl rfl ⟨(Nat.le_of_ble_eq_true rfl), (Nat.le_of_ble_eq_true rfl)⟩ dX10_move_140
              · refine x_cases (c := p1 = 12) (fun hc15 => ?_) (fun hc15 => ?_)
                · refine x_tableIn (off := 129) (tgt := 130) dX10_move_1 (by rw [hc15] <;> decide) (by rw [hc15] <;> decide) (by rw [hc15] <;> decide) (by decide) ?_
                  refine x_aload_n dX10_move_130 rfl ?_
                  refine y_getF fl_RX10_12 hT (lq_10_1 hT) (by rw [lt_10_1 hT]; decide) dX10_move_131 ?_
                  refine y_callVV (rest := []) (c1 := 0) (s1 := 0) (c_Wal_toNone ω (a + 1) (lt_10_1 hT) m) mv_RX10_137 (lt_10_1 hT) rfl (Nat.le_of_ble_eq_true rfl) (Nat.le_of_ble_eq_true rfl) (Nat.le_of_ble_eq_true rfl) ⟨rfl, rfl⟩ ⟨(Nat.le_of_ble_eq_true rfl), (Nat.le_of_ble_eq_true rfl)⟩ dX10_move_134 (fun m16 => ?_)
                  refine x_goto (tgt := 140) dX10_move_137 (by decide) ?_
                  exact x_vret rfl rfl ⟨(Nat.le_of_ble_eq_true rfl), (Nat.le_of_ble_eq_true rfl)⟩ dX10_move_140
                · refine x_tableOut (tgt := 140) dX10_move_1 (ztb_n [5, 6, 7, 8, 9, 10, 11, 12] (by decide +kernel) (zfc hc1 (zfc hc3 (zfc hc5 (zfc hc7 (zfc hc9 (zfc hc11 (zfc hc13 (zfc hc15 zfn))))))))) (by decide) ?_
                  exact x_vret rfl rfl ⟨(Nat.le_of_ble_eq_true rfl), (Nat.le_of_ble_eq_true rfl)⟩ dX10_move_140
abbrev kk_Boo_goThrough : Kx := (yX10_goThrough.cls, cX10_goThrough, 8, (some .int), [], false)
set_option maxHeartbeats 4000000 in
set_option maxRecDepth 100000 in
theorem c_Boo_goThrough (ω : Wd) (a : Nat) (hT : zT a = 10) (o1 : Nat) (ho1 : zT o1 = 3) (m : Mm) : Ev ω true 5 0 0 yX10_goThrough cX10_goThrough 8 (some .int) [.ref (zad ω a), .ref (zad ω o1)] m fI (f_Boo_goThrough a o1 m) := by
  refine Ev.of (b := false) (ls := [some (.ref (zad ω a)), some (.ref (zad ω o1)), none, none, none, none, none, none]) (plainFor_of_name (by decide +kernel)) (fun h => by cases h) rfl (Nat.le_of_ble_eq_true rfl) rfl ?_
  change Sx ω ω true 5 0 0 kk_Boo_goThrough fI 0 0 m 0 _ _ _
  unfold f_Boo_goThrough
  refine x_iconst (v := 0) dX10_goThrough_0 (by decide) ?_
  refine x_istore_n (ls' := [some (.ref (zad ω a)), some (.ref (zad ω o1)), some (.int 0), none, none, none, none, none]) dX10_goThrough_1 (Nat.le_of_ble_eq_true rfl) rfl ?_
  refine x_iconst (v := 0) dX10_goThrough_2 (by decide) ?_
  refine x_istore_n (ls' := [some (.ref (zad ω a)), some (.ref (zad ω o1)), some (.int 0), some (.int 0), none, none, none, none]) dX10_goThrough_3 (Nat.le_of_ble_eq_true rfl) rfl ?_
  refine x_iconst (v := 0) dX10_goThrough_4 (by decide) ?_
  refine x_istore (ls' := [some (.ref (zad ω a)), some (.ref (zad ω o1)), some (.int 0), some (.int 0), some (.int 0), none, none, none]) dX10_goThrough_5 (Nat.le_of_ble_eq_true rfl) rfl ?_
  refine x_iconst (v := 0) dX10_goThrough_7 (by decide) ?_
  refine x_istore (ls' := [some (.ref (zad ω a)), some (.ref (zad ω o1)), some (.int 0), some (.int 0), some (.int 0), some (.int 0), none, none]) dX10_goThrough_8 (Nat.le_of_ble_eq_true rfl) rfl ?_
  refine y_Lp4 (fun x1 x2 x3 x4 => [some (.ref (zad ω a)), some (.ref (zad ω o1)), some (.int x1), some (.int x2), some (.int x3), some (.int x4), none, none]) (fun r5 hr5 x1 x2 x3 x4 m6 => ?_) zFu _ _ _ _ _
  refine x_iload dX10_goThrough_10 rfl ?_
  refine x_aload_n dX10_goThrough_12 rfl ?_
  refine y_callVP (rest := [.int x4]) (c1 := 0) (s1 := 0) (c_Cod_size ω o1 ho1 m6) mv_RX10_76 ho1 rfl (Nat.le_of_ble_eq_true rfl) (Nat.le_of_ble_eq_true rfl) (Nat.le_of_ble_eq_true rfl) ⟨rfl, rfl⟩ ⟨(Nat.le_of_ble_eq_true rfl), (Nat.le_of_ble_eq_true rfl)⟩ dX10_goThrough_13 (fun v7 => ?_)
  refine x_icmp_ge (tgt := 157) dX10_goThrough_16 (by decide) (fun hc8 => ?_) (fun hc8 => ?_)
  · refine x_iload_n dX10_goThrough_157 rfl ?_
    exact x_iret rfl rfl ⟨(Nat.le_of_ble_eq_true rfl), (Nat.le_of_ble_eq_true rfl)⟩ dX10_goThrough_158
  · refine x_iload dX10_goThrough_19 rfl ?_
    refine x_aload_n dX10_goThrough_21 rfl ?_
    refine y_callVP (rest := [.int x3]) (c1 := 0) (s1 := 0) (c_Cod_size ω o1 ho1 m6) mv_RX10_76 ho1 rfl (Nat.le_of_ble_eq_true rfl) (Nat.le_of_ble_eq_true rfl) (Nat.le_of_ble_eq_true rfl) ⟨rfl, rfl⟩ ⟨(Nat.le_of_ble_eq_true rfl), (Nat.le_of_ble_eq_true rfl)⟩ dX10_goThrough_22 (fun v9 => ?_)
    refine x_icmp_ge (tgt := 157) dX10_goThrough_25 (by decide) (fun hc10 => ?_) (fun hc10 => ?_)
    · refine x_iload_n dX10_goThrough_157 rfl ?_
      exact x_iret rfl rfl ⟨(Nat.le_of_ble_eq_true rfl), (Nat.le_of_ble_eq_true rfl)⟩ dX10_goThrough_158
    · refine x_aload_n dX10_goThrough_28 rfl ?_
      refine x_iload dX10_goThrough_29 rfl ?_
      refine y_callVP (rest := []) (c1 := 0) (s1 := 0) (c_Cod_kindAt ω o1 ho1 x3 m6) mv_RX10_79 ho1 rfl (Nat.le_of_ble_eq_true rfl) (Nat.le_of_ble_eq_true rfl) (Nat.le_of_ble_eq_true rfl) ⟨rfl, rfl⟩ ⟨(Nat.le_of_ble_eq_true rfl), (Nat.le_of_ble_eq_true rfl)⟩ dX10_goThrough_31 (fun v11 => ?_)
      refine x_istore (ls' := [some (.ref (zad ω a)), some (.ref (zad ω o1)), some (.int x1), some (.int x2), some (.int x3), some (.int x4), some (.int v11), none]) dX10_goThrough_34 (Nat.le_of_ble_eq_true rfl) rfl ?_
      refine x_aload_n dX10_goThrough_36 rfl ?_
      refine x_iload dX10_goThrough_37 rfl ?_
      refine y_callVP (rest := []) (c1 := 0) (s1 := 0) (c_Cod_argumentAt ω o1 ho1 x3 m6) mv_RX10_82 ho1 rfl (Nat.le_of_ble_eq_true rfl) (Nat.le_of_ble_eq_true rfl) (Nat.le_of_ble_eq_true rfl) ⟨rfl, rfl⟩ ⟨(Nat.le_of_ble_eq_true rfl), (Nat.le_of_ble_eq_true rfl)⟩ dX10_goThrough_39 (fun v12 => ?_)
      refine x_istore (ls' := [some (.ref (zad ω a)), some (.ref (zad ω o1)), some (.int x1), some (.int x2), some (.int x3), some (.int x4), some (.int v11), some (.int v12)]) dX10_goThrough_42 (Nat.le_of_ble_eq_true rfl) rfl ?_
      refine x_iload_n dX10_goThrough_44 rfl ?_
      refine x_iload dX10_goThrough_45 rfl ?_
      refine y_join (fun j15 => ∀ (x14 : Int32), Sx ω ω true 5 0 0 kk_Boo_goThrough fI 0 0 m6 69 [some (.ref (zad ω a)), some (.ref (zad ω o1)), none, some (.int x2), some (.int x3), some (.int x4), some (.int v11), some (.int v12)] [.int x14, .int x1] (j15 x14)) ?_ (fun j15 hj15 => ?_)
      · intro x14
        refine x_iadd dX10_goThrough_69 ?_
        refine y_letI (fun x16 => ?_)
        refine x_istore_n (ls' := [some (.ref (zad ω a)), some (.ref (zad ω o1)), some (.int x16), some (.int x2), some (.int x3), some (.int x4), some (.int v11), some (.int v12)]) dX10_goThrough_70 (Nat.le_of_ble_eq_true rfl) rfl ?_
        refine x_iload dX10_goThrough_71 rfl ?_
        refine x_bipush (v := 17) dX10_goThrough_73 (by decide) ?_
        refine y_join (fun j20 => ∀ (x18 : Int32) (m19 : Mm), Sx ω ω true 5 0 0 kk_Boo_goThrough fI 0 0 m19 142 [some (.ref (zad ω a)), some (.ref (zad ω o1)), some (.int x16), some (.int x18), some (.int x3), some (.int x4), none, none] [] (j20 x18 m19)) ?_ (fun j20 hj20 => ?_)
        · intro x18 m19
          refine x_aload_n dX10_goThrough_142 rfl ?_
          refine x_iload dX10_goThrough_143 rfl ?_
          refine x_iload_n dX10_goThrough_145 rfl ?_
          refine y_callVP (rest := []) (c1 := 0) (s1 := 0) (c_Cod_placeAfter ω o1 ho1 x3 x18 m19) mv_RX10_98 ho1 rfl (Nat.le_of_ble_eq_true rfl) (Nat.le_of_ble_eq_true rfl) (Nat.le_of_ble_eq_true rfl) ⟨rfl, rfl⟩ ⟨(Nat.le_of_ble_eq_true rfl), (Nat.le_of_ble_eq_true rfl)⟩ dX10_goThrough_146 (fun v21 => ?_)
          refine x_istore (ls' := [some (.ref (zad ω a)), some (.ref (zad ω o1)), some (.int x16), some (.int x18), some (.int v21), some (.int x4), none, none]) dX10_goThrough_149 (Nat.le_of_ble_eq_true rfl) rfl ?_
          refine y_iinc (w := 1) dX10_goThrough_151 rfl (by decide) (Nat.le_of_ble_eq_true rfl) (fun x22 => ?_)
          refine x_goto (tgt := 10) dX10_goThrough_154 (by decide) ?_
          exact hr5 _ _ _ _ _
        · refine x_icmp_ne (tgt := 91) dX10_goThrough_75 (by decide) (fun hc17 => ?_) (fun hc17 => ?_)
          · refine x_iload_n dX10_goThrough_78 rfl ?_
            refine y_join (fun j32 => ∀ (x31 : Int32), Sx ω ω true 5 0 0 kk_Boo_goThrough fI 0 0 m6 87 [some (.ref (zad ω a)), some (.ref (zad ω o1)), some (.int x16), none, some (.int x3), some (.int x4), none, none] [.int x31] (j32 x31)) ?_ (fun j32 hj32 => ?_)
            · intro x31
              refine x_istore_n (ls' := [some (.ref (zad ω a)), some (.ref (zad ω o1)), some (.int x16), some (.int x31), some (.int x3), some (.int x4), none, none]) dX10_goThrough_87 (Nat.le_of_ble_eq_true rfl) rfl ?_
              refine x_goto (tgt := 142) dX10_goThrough_88 (by decide) ?_
              exact hj20 _ _
            · refine x_if_ne (tgt := 86) dX10_goThrough_79 (by decide) (fun hc30 => ?_) (fun hc30 => ?_)
              · refine x_iconst (v := 1) dX10_goThrough_82 (by decide) ?_
                refine x_goto (tgt := 87) dX10_goThrough_83 (by decide) ?_
                refine y_mask (bs := [true, true, true, false, true, true, false, false]) (ls' := [some (.ref (zad ω a)), some (.ref (zad ω o1)), some (.int x16), none, some (.int x3), some (.int x4), none, none]) rfl ?_
                exact hj32 _
              · refine x_iconst (v := 0) dX10_goThrough_86 (by decide) ?_
                refine y_mask (bs := [true, true, true, false, true, true, false, false]) (ls' := [some (.ref (zad ω a)), some (.ref (zad ω o1)), some (.int x16), none, some (.int x3), some (.int x4), none, none]) rfl ?_
                exact hj32 _
          · refine x_iload dX10_goThrough_91 rfl ?_
            refine x_bipush (v := 13) dX10_goThrough_93 (by decide) ?_
            refine y_join (fun j24 => Sx ω ω true 5 0 0 kk_Boo_goThrough fI 0 0 m6 117 [some (.ref (zad ω a)), some (.ref (zad ω o1)), some (.int x16), some (.int x2), some (.int x3), some (.int x4), some (.int v11), some (.int v12)] [] j24) ?_ (fun j24 hj24 => ?_)
            · refine x_iload dX10_goThrough_117 rfl ?_
              refine x_iconst (v := 4) dX10_goThrough_119 (by decide) ?_
              refine x_icmp_gt (tgt := 134) dX10_goThrough_120 (by decide) (fun hc25 => ?_) (fun hc25 => ?_)
              · refine x_aload_n dX10_goThrough_134 rfl ?_
                refine x_iload dX10_goThrough_135 rfl ?_
                refine x_iload dX10_goThrough_137 rfl ?_
                refine y_callVV (rest := []) (c1 := 0) (s1 := 0) (c_Boo_move ω a hT v11 v12 m6) mv_RX10_95 hT rfl (Nat.le_of_ble_eq_true rfl) (Nat.le_of_ble_eq_true rfl) (Nat.le_of_ble_eq_true rfl) ⟨rfl, rfl⟩ ⟨(Nat.le_of_ble_eq_true rfl), (Nat.le_of_ble_eq_true rfl)⟩ dX10_goThrough_139 (fun m26 => ?_)
                refine y_mask (bs := [true, true, true, true, true, true, false, false]) (ls' := [some (.ref (zad ω a)), some (.ref (zad ω o1)), some (.int x16), some (.int x2), some (.int x3), some (.int x4), none, none]) rfl ?_
                exact hj20 _ _
              · refine x_aload_n dX10_goThrough_123 rfl ?_
                refine x_iload dX10_goThrough_124 rfl ?_
                refine x_iload dX10_goThrough_126 rfl ?_
                refine y_callVV (rest := []) (c1 := 0) (s1 := 0) (c_Boo_goToStart ω a hT v11 v12 m6) mv_RX10_92 hT rfl (Nat.le_of_ble_eq_true rfl) (Nat.le_of_ble_eq_true rfl) (Nat.le_of_ble_eq_true rfl) ⟨rfl, rfl⟩ ⟨(Nat.le_of_ble_eq_true rfl), (Nat.le_of_ble_eq_true rfl)⟩ dX10_goThrough_128 (fun m27 => ?_)
                refine x_goto (tgt := 142) dX10_goThrough_131 (by decide) ?_
                refine y_mask (bs := [true, true, true, true, true, true, false, false]) (ls' := [some (.ref (zad ω a)), some (.ref (zad ω o1)), some (.int x16), some (.int x2), some (.int x3), some (.int x4), none, none]) rfl ?_
                exact hj20 _ _
            · refine x_icmp_lt (tgt := 117) dX10_goThrough_95 (by decide) (fun hc23 => ?_) (fun hc23 => ?_)
              · exact hj24
              · refine x_iload dX10_goThrough_98 rfl ?_
                refine x_bipush (v := 16) dX10_goThrough_100 (by decide) ?_
                refine x_icmp_gt (tgt := 117) dX10_goThrough_102 (by decide) (fun hc28 => ?_) (fun hc28 => ?_)
                · exact hj24
                · refine x_aload_n dX10_goThrough_105 rfl ?_
                  refine x_iload dX10_goThrough_106 rfl ?_
                  refine x_iload dX10_goThrough_108 rfl ?_
                  refine y_callVP (rest := []) (c1 := 0) (s1 := 0) (c_Boo_conditionHolds ω a hT v11 v12 m6) mv_RX10_88 hT rfl (Nat.le_of_ble_eq_true rfl) (Nat.le_of_ble_eq_true rfl) (Nat.le_of_ble_eq_true rfl) ⟨rfl, rfl⟩ ⟨(Nat.le_of_ble_eq_true rfl), (Nat.le_of_ble_eq_true rfl)⟩ dX10_goThrough_110 (fun v29 => ?_)
                  refine x_istore_n (ls' := [some (.ref (zad ω a)), some (.ref (zad ω o1)), some (.int x16), some (.int v29), some (.int x3), some (.int x4), some (.int v11), some (.int v12)]) dX10_goThrough_113 (Nat.le_of_ble_eq_true rfl) rfl ?_
                  refine x_goto (tgt := 142) dX10_goThrough_114 (by decide) ?_
                  refine y_mask (bs := [true, true, true, true, true, true, false, false]) (ls' := [some (.ref (zad ω a)), some (.ref (zad ω o1)), some (.int x16), some (.int v29), some (.int x3), some (.int x4), none, none]) rfl ?_
                  exact hj20 _ _
      · refine y_join (fun j33 => Sx ω ω true 5 0 0 kk_Boo_goThrough fI 0 0 m6 68 [some (.ref (zad ω a)), some (.ref (zad ω o1)), none, some (.int x2), some (.int x3), some (.int x4), some (.int v11), some (.int v12)] [.int x1] j33) ?_ (fun j33 hj33 => ?_)
        · refine x_iconst (v := 0) dX10_goThrough_68 (by decide) ?_
          exact hj15 _
        · refine x_if_lt (tgt := 68) dX10_goThrough_47 (by decide) (fun hc13 => ?_) (fun hc13 => ?_)
          · refine y_mask (bs := [true, true, false, true, true, true, true, true]) (ls' := [some (.ref (zad ω a)), some (.ref (zad ω o1)), none, some (.int x2), some (.int x3), some (.int x4), some (.int v11), some (.int v12)]) rfl ?_
            exact hj33
          · refine x_iload dX10_goThrough_50 rfl ?_
            refine x_getCst st_RX10_85 dX10_goThrough_52 ?_
            refine x_lenCst (v := 21) (by decide) dX10_goThrough_55 ?_
            refine x_icmp_ge (tgt := 68) dX10_goThrough_56 (by decide) (fun hc34 => ?_) (fun hc34 => ?_)
            · refine y_mask (bs := [true, true, false, true, true, true, true, true]) (ls' := [some (.ref (zad ω a)), some (.ref (zad ω o1)), none, some (.int x2), some (.int x3), some (.int x4), some (.int v11), some (.int v12)]) rfl ?_
              exact hj33
            · refine x_getCst st_RX10_85 dX10_goThrough_59 ?_
              refine x_iload dX10_goThrough_62 rfl ?_
              refine x_ialdCst dX10_goThrough_64 (fun hi => ?_)
              refine x_goto (tgt := 69) dX10_goThrough_65 (by decide) ?_
              refine y_mask (bs := [true, true, false, true, true, true, true, true]) (ls' := [some (.ref (zad ω a)), some (.ref (zad ω o1)), none, some (.int x2), some (.int x3), some (.int x4), some (.int v11), some (.int v12)]) rfl ?_
              exact hj15 _
abbrev kk_Boo_reckon : Kx := (yX10_reckon.cls, cX10_reckon, 5, none, [], false)
set_option maxHeartbeats 4000000 in
set_option maxRecDepth 100000 in
theorem c_Boo_reckon (ω : Wd) (a : Nat) (hT : zT a = 10) (p1 : Int32) (p2 : Int32) (m : Mm) : Ev ω true 6 0 0 yX10_reckon cX10_reckon 5 none [.ref (zad ω a), .int p1, .int p2] m fV (f_Boo_reckon a p1 p2 m) := by
  refine Ev.of (b := false) (ls := [some (.ref (zad ω a)), some (.int p1), some (.int p2), none, none]) (plainFor_of_name (by decide +kernel)) (fun h => by cases h) rfl (Nat.le_of_ble_eq_true rfl) rfl ?_
  change Sx ω ω true 6 0 0 kk_Boo_reckon fV 0 0 m 0 _ _ _
  unfold f_Boo_reckon
  refine x_aload_n dX10_reckon_0 rfl ?_
  refine x_iload_n dX10_reckon_1 rfl ?_
  refine y_putI fp_RX10_37 hT dX10_reckon_2 ?_
  refine y_letM (fun m1 => ?_)
  refine x_aload_n dX10_reckon_5 rfl ?_
  refine x_aload_n dX10_reckon_6 rfl ?_
  refine y_getI fl_RX10_37 hT dX10_reckon_7 ?_
  refine y_callSP (rest := [.ref (zad ω a)]) (c1 := 0) (s1 := 0) (c_Cal_lengthOf ω (zI m1 a 6) m1) ms_RX10_41 rfl (Nat.le_of_ble_eq_true rfl) (Nat.le_of_ble_eq_true rfl) (Nat.le_of_ble_eq_true rfl) ⟨rfl, rfl⟩ ⟨(Nat.le_of_ble_eq_true rfl), (Nat.le_of_ble_eq_true rfl)⟩ dX10_reckon_10 (fun v2 => ?_)
  refine y_putI fp_RX10_47 hT dX10_reckon_13 ?_
  refine y_letM (fun m3 => ?_)
  refine x_iconst (v := 0) dX10_reckon_16 (by decide) ?_
  refine x_istore_n (ls' := [some (.ref (zad ω a)), some (.int p1), some (.int p2), some (.int 0), none]) dX10_reckon_17 (Nat.le_of_ble_eq_true rfl) rfl ?_
  refine y_mask (bs := [true, false, true, true, false]) (ls' := [some (.ref (zad ω a)), none, some (.int p2), some (.int 0), none]) rfl ?_
  refine y_Lp1 (fun x4 => [some (.ref (zad ω a)), none, some (.int p2), some (.int x4), none]) (fun r5 hr5 x4 m6 => ?_) zFu _ _
  refine x_iload_n dX10_reckon_18 rfl ?_
  refine x_aload_n dX10_reckon_19 rfl ?_
  refine y_getF fl_RX10_33 hT (lq_10_0 hT) (by rw [hz_25]; decide) dX10_reckon_20 ?_
  refine y_callVP (rest := [.int x4]) (c1 := 0) (s1 := 0) (c_Alm_size ω m6) mv_RX10_50 hz_25 rfl (Nat.le_of_ble_eq_true rfl) (Nat.le_of_ble_eq_true rfl) (Nat.le_of_ble_eq_true rfl) ⟨rfl, rfl⟩ ⟨(Nat.le_of_ble_eq_true rfl), (Nat.le_of_ble_eq_true rfl)⟩ dX10_reckon_23 (fun v7 => ?_)
  refine x_icmp_ge (tgt := 104) dX10_reckon_26 (by decide) (fun hc8 => ?_) (fun hc8 => ?_)
  · exact x_vret rfl rfl ⟨(Nat.le_of_ble_eq_true rfl), (Nat.le_of_ble_eq_true rfl)⟩ dX10_reckon_104
  · refine x_aload_n dX10_reckon_29 rfl ?_
    refine y_getF fl_RX10_33 hT (lq_10_0 hT) (by rw [hz_25]; decide) dX10_reckon_30 ?_
    refine x_iload_n dX10_reckon_33 rfl ?_
    refine y_callVP (rest := []) (c1 := 0) (s1 := 0) (c_Alm_inOrder ω x4 m6) mv_RX10_54 hz_25 rfl (Nat.le_of_ble_eq_true rfl) (Nat.le_of_ble_eq_true rfl) (Nat.le_of_ble_eq_true rfl) ⟨rfl, rfl⟩ ⟨(Nat.le_of_ble_eq_true rfl), (Nat.le_of_ble_eq_true rfl)⟩ dX10_reckon_34 (fun v9 => ?_)
    refine x_istore (ls' := [some (.ref (zad ω a)), none, some (.int p2), some (.int x4), some (.int v9)]) dX10_reckon_37 (Nat.le_of_ble_eq_true rfl) rfl ?_
    refine x_aload_n dX10_reckon_39 rfl ?_
    refine y_getF fl_RX10_12 hT (lq_10_1 hT) (by rw [lt_10_1 hT]; decide) dX10_reckon_40 ?_
    refine x_aload_n dX10_reckon_43 rfl ?_
    refine y_getI fl_RX10_37 hT dX10_reckon_44 ?_
    refine x_iload_n dX10_reckon_47 rfl ?_
    refine y_callVV (rest := []) (c1 := 0) (s1 := 0) (c_Wal_enter ω (a + 1) (lt_10_1 hT) (zI m6 a 6) p2 m6) mv_RX10_57 (lt_10_1 hT) rfl (Nat.le_of_ble_eq_true rfl) (Nat.le_of_ble_eq_true rfl) (Nat.le_of_ble_eq_true rfl) ⟨rfl, rfl⟩ ⟨(Nat.le_of_ble_eq_true rfl), (Nat.le_of_ble_eq_true rfl)⟩ dX10_reckon_48 (fun m10 => ?_)
    refine x_aload_n dX10_reckon_51 rfl ?_
    refine y_getF fl_RX10_24 hT (lq_10_3 hT) (by rw [lt_10_3 hT]; decide) dX10_reckon_52 ?_
    refine x_iload dX10_reckon_55 rfl ?_
    refine x_aload_n dX10_reckon_57 rfl ?_
    refine x_aload_n dX10_reckon_58 rfl ?_
    refine y_getF fl_RX10_33 hT (lq_10_0 hT) (by rw [hz_25]; decide) dX10_reckon_59 ?_
    refine x_iload dX10_reckon_62 rfl ?_
    refine y_callVQ (c9 := 3) (rest := [.ref (zad ω a), .int v9, .ref (zad ω (a + 3))]) (c1 := 0) (s1 := 0) (c_Alm_code ω v9 m10) mv_RX10_61 hz_25 rfl (Nat.le_of_ble_eq_true rfl) (Nat.le_of_ble_eq_true rfl) (Nat.le_of_ble_eq_true rfl) ⟨rfl, rfl⟩ ⟨(Nat.le_of_ble_eq_true rfl), (Nat.le_of_ble_eq_true rfl)⟩ dX10_reckon_64 (fun q11 hq11 => ?_)
    refine y_callVI (rest := [.int v9, .ref (zad ω (a + 3))]) (c1 := 0) (s1 := 0) (c_Boo_goThrough ω a hT q11 hq11 m10) mv_RX10_65 hT rfl (Nat.le_of_ble_eq_true rfl) (Nat.le_of_ble_eq_true rfl) (Nat.le_of_ble_eq_true rfl) ⟨rfl, rfl⟩ ⟨(Nat.le_of_ble_eq_true rfl), (Nat.le_of_ble_eq_true rfl)⟩ dX10_reckon_67 (fun v13 m12 => ?_)
    refine y_iast (lt_10_3 hT) (ln_10_3 hT) dX10_reckon_70 (fun hi => ?_)
    refine y_letM (fun m14 => ?_)
    refine x_aload_n dX10_reckon_71 rfl ?_
    refine y_getF fl_RX10_20 hT (lq_10_2 hT) (by rw [lt_10_2 hT]; decide) dX10_reckon_72 ?_
    refine x_iload dX10_reckon_75 rfl ?_
    refine x_aload_n dX10_reckon_77 rfl ?_
    refine y_getF fl_RX10_33 hT (lq_10_0 hT) (by rw [hz_25]; decide) dX10_reckon_78 ?_
    refine x_iload dX10_reckon_81 rfl ?_
    refine x_aload_n dX10_reckon_83 rfl ?_
    refine y_getI fl_RX10_37 hT dX10_reckon_84 ?_
    refine x_aload_n dX10_reckon_87 rfl ?_
    refine y_getF fl_RX10_12 hT (lq_10_1 hT) (by rw [lt_10_1 hT]; decide) dX10_reckon_88 ?_
    refine y_callVP (rest := [.int (zI m14 a 6), .int v9, .ref (zad ω 25), .int v9, .ref (zad ω (a + 2))]) (c1 := 0) (s1 := 0) (c_Wal_today ω (a + 1) (lt_10_1 hT) m14) mv_RX10_69 (lt_10_1 hT) rfl (Nat.le_of_ble_eq_true rfl) (Nat.le_of_ble_eq_true rfl) (Nat.le_of_ble_eq_true rfl) ⟨rfl, rfl⟩ ⟨(Nat.le_of_ble_eq_true rfl), (Nat.le_of_ble_eq_true rfl)⟩ dX10_reckon_91 (fun v15 => ?_)
    refine y_callVP (rest := [.int v9, .ref (zad ω (a + 2))]) (c1 := 0) (s1 := 0) (c_Alm_bend ω v9 (zI m14 a 6) v15 m14) mv_RX10_72 hz_25 rfl (Nat.le_of_ble_eq_true rfl) (Nat.le_of_ble_eq_true rfl) (Nat.le_of_ble_eq_true rfl) ⟨rfl, rfl⟩ ⟨(Nat.le_of_ble_eq_true rfl), (Nat.le_of_ble_eq_true rfl)⟩ dX10_reckon_94 (fun v16 => ?_)
    refine y_iast (lt_10_2 hT) (ln_10_2 hT) dX10_reckon_97 (fun hi => ?_)
    refine y_letM (fun m17 => ?_)
    refine y_iinc (w := 1) dX10_reckon_98 rfl (by decide) (Nat.le_of_ble_eq_true rfl) (fun x18 => ?_)
    refine x_goto (tgt := 18) dX10_reckon_101 (by decide) ?_
    refine y_mask (bs := [true, false, true, true, false]) (ls' := [some (.ref (zad ω a)), none, some (.int p2), some (.int x18), none]) rfl ?_
    exact hr5 _ _
abbrev kk_Boo_place : Kx := (yX10_place.cls, cX10_place, 5, none, [], false)
set_option maxHeartbeats 4000000 in
set_option maxRecDepth 100000 in
theorem c_Boo_place (ω : Wd) (a : Nat) (hT : zT a = 10) (p1 : Int32) (m : Mm) : Ev ω true 2 0 0 yX10_place cX10_place 5 none [.ref (zad ω a), .int p1] m fV (f_Boo_place a p1 m) := by
  refine Ev.of (b := false) (ls := [some (.ref (zad ω a)), some (.int p1), none, none, none]) (plainFor_of_name (by decide +kernel)) (fun h => by cases h) rfl (Nat.le_of_ble_eq_true rfl) rfl ?_
  change Sx ω ω true 2 0 0 kk_Boo_place fV 0 0 m 0 _ _ _
  unfold f_Boo_place
  refine x_aload_n dX10_place_0 rfl ?_
  refine y_getF fl_RX10_20 hT (lq_10_2 hT) (by rw [lt_10_2 hT]; decide) dX10_place_1 ?_
  refine x_iload_n dX10_place_4 rfl ?_
  refine y_iald (lt_10_2 hT) (ln_10_2 hT) dX10_place_5 (fun hi => ?_)
  refine y_letI (fun x1 => ?_)
  refine x_istore_n (ls' := [some (.ref (zad ω a)), some (.int p1), some (.int x1), none, none]) dX10_place_6 (Nat.le_of_ble_eq_true rfl) rfl ?_
  refine x_aload_n dX10_place_7 rfl ?_
  refine y_getF fl_RX10_27 hT (lq_10_4 hT) (by rw [lt_10_4 hT]; decide) dX10_place_8 ?_
  refine x_iload_n dX10_place_11 rfl ?_
  refine x_iconst (v := (-1)) dX10_place_12 (by decide) ?_
  refine y_iast (lt_10_4 hT) (ln_10_4 hT) dX10_place_13 (fun hi => ?_)
  refine y_letM (fun m2 => ?_)
  refine x_iload_n dX10_place_14 rfl ?_
  refine x_iconst (v := (-1)) dX10_place_15 (by decide) ?_
  refine x_icmp_ne (tgt := 20) dX10_place_16 (by decide) (fun hc3 => ?_) (fun hc3 => ?_)
  · exact x_vret rfl rfl ⟨(Nat.le_of_ble_eq_true rfl), (Nat.le_of_ble_eq_true rfl)⟩ dX10_place_19
  · refine x_aload_n dX10_place_20 rfl ?_
    refine y_getF fl_RX10_33 hT (lq_10_0 hT) (by rw [hz_25]; decide) dX10_place_21 ?_
    refine x_iload_n dX10_place_24 rfl ?_
    refine y_callVP (rest := []) (c1 := 0) (s1 := 0) (c_Alm_canMove ω p1 m2) mv_RX10_165 hz_25 rfl (Nat.le_of_ble_eq_true rfl) (Nat.le_of_ble_eq_true rfl) (Nat.le_of_ble_eq_true rfl) ⟨rfl, rfl⟩ ⟨(Nat.le_of_ble_eq_true rfl), (Nat.le_of_ble_eq_true rfl)⟩ dX10_place_25 (fun v4 => ?_)
    refine y_join (fun j7 => ∀ (x6 : Int32), Sx ω ω true 2 0 0 kk_Boo_place fV 0 0 m2 39 [some (.ref (zad ω a)), some (.int p1), some (.int x1), none, none] [.int x6] (j7 x6)) ?_ (fun j7 hj7 => ?_)
    · intro x6
      refine x_istore_n (ls' := [some (.ref (zad ω a)), some (.int p1), some (.int x1), some (.int x6), none]) dX10_place_39 (Nat.le_of_ble_eq_true rfl) rfl ?_
      refine x_iload_n dX10_place_40 rfl ?_
      refine x_istore (ls' := [some (.ref (zad ω a)), some (.int p1), some (.int x1), some (.int x6), some (.int x1)]) dX10_place_41 (Nat.le_of_ble_eq_true rfl) rfl ?_
      refine y_mask (bs := [true, true, false, true, true]) (ls' := [some (.ref (zad ω a)), some (.int p1), none, some (.int x6), some (.int x1)]) rfl ?_
      refine y_Lq1 (fun x8 => [some (.ref (zad ω a)), some (.int p1), none, some (.int x6), some (.int x8)]) (fun r9 hr9 x8 => ?_) zFu _
      refine x_iload dX10_place_43 rfl ?_
      refine x_iload_n dX10_place_45 rfl ?_
      refine x_icmp_gt (tgt := 92) dX10_place_46 (by decide) (fun hc10 => ?_) (fun hc10 => ?_)
      · exact x_vret rfl rfl ⟨(Nat.le_of_ble_eq_true rfl), (Nat.le_of_ble_eq_true rfl)⟩ dX10_place_92
      · refine x_iload dX10_place_49 rfl ?_
        refine x_aload_n dX10_place_51 rfl ?_
        refine y_getI fl_RX10_47 hT dX10_place_52 ?_
        refine x_icmp_ge (tgt := 92) dX10_place_55 (by decide) (fun hc11 => ?_) (fun hc11 => ?_)
        · exact x_vret rfl rfl ⟨(Nat.le_of_ble_eq_true rfl), (Nat.le_of_ble_eq_true rfl)⟩ dX10_place_92
        · refine x_aload_n dX10_place_58 rfl ?_
          refine y_getF fl_RX10_30 hT (lq_10_5 hT) (by rw [lt_10_5 hT]; decide) dX10_place_59 ?_
          refine x_iload dX10_place_62 rfl ?_
          refine y_iald (lt_10_5 hT) (ln_10_5 hT) dX10_place_64 (fun hi => ?_)
          refine x_iconst (v := (-1)) dX10_place_65 (by decide) ?_
          refine x_icmp_ne (tgt := 86) dX10_place_66 (by decide) (fun hc12 => ?_) (fun hc12 => ?_)
          · refine x_aload_n dX10_place_69 rfl ?_
            refine y_getF fl_RX10_30 hT (lq_10_5 hT) (by rw [lt_10_5 hT]; decide) dX10_place_70 ?_
            refine x_iload dX10_place_73 rfl ?_
            refine x_iload_n dX10_place_75 rfl ?_
            refine y_iast (lt_10_5 hT) (ln_10_5 hT) dX10_place_76 (fun hi => ?_)
            refine y_letM (fun m14 => ?_)
            refine x_aload_n dX10_place_77 rfl ?_
            refine y_getF fl_RX10_27 hT (lq_10_4 hT) (by rw [lt_10_4 hT]; decide) dX10_place_78 ?_
            refine x_iload_n dX10_place_81 rfl ?_
            refine x_iload dX10_place_82 rfl ?_
            refine y_iast (lt_10_4 hT) (ln_10_4 hT) dX10_place_84 (fun hi => ?_)
            refine y_letM (fun m15 => ?_)
            exact x_vret rfl rfl ⟨(Nat.le_of_ble_eq_true rfl), (Nat.le_of_ble_eq_true rfl)⟩ dX10_place_85
          · refine y_iinc (w := 1) dX10_place_86 rfl (by decide) (Nat.le_of_ble_eq_true rfl) (fun x13 => ?_)
            refine x_goto (tgt := 43) dX10_place_89 (by decide) ?_
            exact hr9 _
    · refine x_if_eq (tgt := 38) dX10_place_28 (by decide) (fun hc5 => ?_) (fun hc5 => ?_)
      · refine x_iload_n dX10_place_38 rfl ?_
        exact hj7 _
      · refine x_iload_n dX10_place_31 rfl ?_
        refine x_bipush (v := 20) dX10_place_32 (by decide) ?_
        refine x_iadd dX10_place_34 ?_
        refine x_goto (tgt := 39) dX10_place_35 (by decide) ?_
        exact hj7 _
abbrev kk_Boo_placeAll : Kx := (yX10_placeAll.cls, cX10_placeAll, 3, none, [], false)
set_option maxHeartbeats 4000000 in
set_option maxRecDepth 100000 in
theorem c_Boo_placeAll (ω : Wd) (a : Nat) (hT : zT a = 10) (m : Mm) : Ev ω true 3 0 0 yX10_placeAll cX10_placeAll 3 none [.ref (zad ω a)] m fV (f_Boo_placeAll a m) := by
  refine Ev.of (b := false) (ls := [some (.ref (zad ω a)), none, none]) (plainFor_of_name (by decide +kernel)) (fun h => by cases h) rfl (Nat.le_of_ble_eq_true rfl) rfl ?_
  change Sx ω ω true 3 0 0 kk_Boo_placeAll fV 0 0 m 0 _ _ _
  unfold f_Boo_placeAll
  refine x_iconst (v := 0) dX10_placeAll_0 (by decide) ?_
  refine x_istore_n (ls' := [some (.ref (zad ω a)), some (.int 0), none]) dX10_placeAll_1 (Nat.le_of_ble_eq_true rfl) rfl ?_
  refine y_Lp1 (fun x1 => [some (.ref (zad ω a)), some (.int x1), none]) (fun r2 hr2 x1 m3 => ?_) zFu _ _
  refine x_iload_n dX10_placeAll_2 rfl ?_
  refine x_sipush (v := 366) dX10_placeAll_3 (by decide) ?_
  refine x_icmp_ge (tgt := 22) dX10_placeAll_6 (by decide) (fun hc4 => ?_) (fun hc4 => ?_)
  · refine x_bipush (v := 9) dX10_placeAll_22 (by decide) ?_
    refine x_istore_n (ls' := [some (.ref (zad ω a)), some (.int 9), none]) dX10_placeAll_24 (Nat.le_of_ble_eq_true rfl) rfl ?_
    refine y_Lp1 (fun x5 => [some (.ref (zad ω a)), some (.int x5), none]) (fun r6 hr6 x5 m7 => ?_) zFu _ _
    refine x_iload_n dX10_placeAll_25 rfl ?_
    refine x_if_lt (tgt := 71) dX10_placeAll_26 (by decide) (fun hc8 => ?_) (fun hc8 => ?_)
    · exact x_vret rfl rfl ⟨(Nat.le_of_ble_eq_true rfl), (Nat.le_of_ble_eq_true rfl)⟩ dX10_placeAll_71
    · refine x_iconst (v := 0) dX10_placeAll_29 (by decide) ?_
      refine x_istore_n (ls' := [some (.ref (zad ω a)), some (.int x5), some (.int 0)]) dX10_placeAll_30 (Nat.le_of_ble_eq_true rfl) rfl ?_
      refine y_Lp1 (fun x9 => [some (.ref (zad ω a)), some (.int x5), some (.int x9)]) (fun r10 hr10 x9 m11 => ?_) zFu _ _
      refine x_iload_n dX10_placeAll_31 rfl ?_
      refine x_aload_n dX10_placeAll_32 rfl ?_
      refine y_getF fl_RX10_33 hT (lq_10_0 hT) (by rw [hz_25]; decide) dX10_placeAll_33 ?_
      refine y_callVP (rest := [.int x9]) (c1 := 0) (s1 := 0) (c_Alm_size ω m11) mv_RX10_50 hz_25 rfl (Nat.le_of_ble_eq_true rfl) (Nat.le_of_ble_eq_true rfl) (Nat.le_of_ble_eq_true rfl) ⟨rfl, rfl⟩ ⟨(Nat.le_of_ble_eq_true rfl), (Nat.le_of_ble_eq_true rfl)⟩ dX10_placeAll_36 (fun v12 => ?_)
      refine x_icmp_ge (tgt := 65) dX10_placeAll_39 (by decide) (fun hc13 => ?_) (fun hc13 => ?_)
      · refine y_iinc (w := (-1)) dX10_placeAll_65 rfl (by decide) (Nat.le_of_ble_eq_true rfl) (fun x14 => ?_)
        refine x_goto (tgt := 25) dX10_placeAll_68 (by decide) ?_
        refine y_mask (bs := [true, true, false]) (ls' := [some (.ref (zad ω a)), some (.int x14), none]) rfl ?_
        exact hr6 _ _
      · refine x_aload_n dX10_placeAll_42 rfl ?_
        refine y_getF fl_RX10_33 hT (lq_10_0 hT) (by rw [hz_25]; decide) dX10_placeAll_43 ?_
        refine x_iload_n dX10_placeAll_46 rfl ?_
        refine y_callVP (rest := []) (c1 := 0) (s1 := 0) (c_Alm_rankOf ω x9 m11) mv_RX10_159 hz_25 rfl (Nat.le_of_ble_eq_true rfl) (Nat.le_of_ble_eq_true rfl) (Nat.le_of_ble_eq_true rfl) ⟨rfl, rfl⟩ ⟨(Nat.le_of_ble_eq_true rfl), (Nat.le_of_ble_eq_true rfl)⟩ dX10_placeAll_47 (fun v15 => ?_)
        refine x_iload_n dX10_placeAll_50 rfl ?_
        refine y_join (fun j18 => ∀ (m17 : Mm), Sx ω ω true 3 0 0 kk_Boo_placeAll fV 0 0 m17 59 [some (.ref (zad ω a)), some (.int x5), some (.int x9)] [] (j18 m17)) ?_ (fun j18 hj18 => ?_)
        · intro m17
          refine y_iinc (w := 1) dX10_placeAll_59 rfl (by decide) (Nat.le_of_ble_eq_true rfl) (fun x19 => ?_)
          refine x_goto (tgt := 31) dX10_placeAll_62 (by decide) ?_
          exact hr10 _ _
        · refine x_icmp_ne (tgt := 59) dX10_placeAll_51 (by decide) (fun hc16 => ?_) (fun hc16 => ?_)
          · refine x_aload_n dX10_placeAll_54 rfl ?_
            refine x_iload_n dX10_placeAll_55 rfl ?_
            refine y_callVV (rest := []) (c1 := 0) (s1 := 0) (c_Boo_place ω a hT x9 m11) mv_RX10_162 hT rfl (Nat.le_of_ble_eq_true rfl) (Nat.le_of_ble_eq_true rfl) (Nat.le_of_ble_eq_true rfl) ⟨rfl, rfl⟩ ⟨(Nat.le_of_ble_eq_true rfl), (Nat.le_of_ble_eq_true rfl)⟩ dX10_placeAll_56 (fun m20 => ?_)
            exact hj18 _
          · exact hj18 _
  · refine x_aload_n dX10_placeAll_9 rfl ?_
    refine y_getF fl_RX10_30 hT (lq_10_5 hT) (by rw [lt_10_5 hT]; decide) dX10_placeAll_10 ?_
    refine x_iload_n dX10_placeAll_13 rfl ?_
    refine x_iconst (v := (-1)) dX10_placeAll_14 (by decide) ?_
    refine y_iast (lt_10_5 hT) (ln_10_5 hT) dX10_placeAll_15 (fun hi => ?_)
    refine y_letM (fun m21 => ?_)
    refine y_iinc (w := 1) dX10_placeAll_16 rfl (by decide) (Nat.le_of_ble_eq_true rfl) (fun x22 => ?_)
    refine x_goto (tgt := 2) dX10_placeAll_19 (by decide) ?_
    exact hr2 _ _
abbrev kk_Boo_placedDay : Kx := (yX10_placedDay.cls, cX10_placedDay, 2, (some .int), [], false)
set_option maxHeartbeats 4000000 in
set_option maxRecDepth 100000 in
theorem c_Boo_placedDay (ω : Wd) (a : Nat) (hT : zT a = 10) (p1 : Int32) (m : Mm) : Ev ω true 1 0 0 yX10_placedDay cX10_placedDay 2 (some .int) [.ref (zad ω a), .int p1] m (fP m) (f_Boo_placedDay a p1 m) := by
  refine Ev.of (b := false) (ls := [some (.ref (zad ω a)), some (.int p1)]) (plainFor_of_name (by decide +kernel)) (fun h => by cases h) rfl (Nat.le_of_ble_eq_true rfl) rfl ?_
  change Sx ω ω true 1 0 0 kk_Boo_placedDay (fP m) 0 0 m 0 _ _ _
  unfold f_Boo_placedDay
  refine x_iload_n dX10_placedDay_0 rfl ?_
  refine y_join (fun j2 => Sx ω ω true 1 0 0 kk_Boo_placedDay (fP m) 0 0 m 22 [none, none] [] j2) ?_ (fun j2 hj2 => ?_)
  · refine x_iconst (v := (-1)) dX10_placedDay_22 (by decide) ?_
    exact x_iret rfl rfl ⟨(Nat.le_of_ble_eq_true rfl), (Nat.le_of_ble_eq_true rfl)⟩ dX10_placedDay_23
  · refine x_if_lt (tgt := 22) dX10_placedDay_1 (by decide) (fun hc1 => ?_) (fun hc1 => ?_)
    · refine y_mask (bs := [false, false]) (ls' := [none, none]) rfl ?_
      exact hj2
    · refine x_iload_n dX10_placedDay_4 rfl ?_
      refine x_aload_n dX10_placedDay_5 rfl ?_
      refine y_getF fl_RX10_27 hT (lq_10_4 hT) (by rw [lt_10_4 hT]; decide) dX10_placedDay_6 ?_
      refine y_alen (t0 := 0) (v := 20) (by decide) (lt_10_4 hT) (ln_10_4 hT) (by decide) dX10_placedDay_9 ?_
      refine x_icmp_ge (tgt := 22) dX10_placedDay_10 (by decide) (fun hc3 => ?_) (fun hc3 => ?_)
      · refine y_mask (bs := [false, false]) (ls' := [none, none]) rfl ?_
        exact hj2
      · refine x_aload_n dX10_placedDay_13 rfl ?_
        refine y_getF fl_RX10_27 hT (lq_10_4 hT) (by rw [lt_10_4 hT]; decide) dX10_placedDay_14 ?_
        refine x_iload_n dX10_placedDay_17 rfl ?_
        refine y_iald (lt_10_4 hT) (ln_10_4 hT) dX10_placedDay_18 (fun hi => ?_)
        refine x_goto (tgt := 23) dX10_placedDay_19 (by decide) ?_
        exact x_iret rfl rfl ⟨(Nat.le_of_ble_eq_true rfl), (Nat.le_of_ble_eq_true rfl)⟩ dX10_placedDay_23
abbrev kk_Boo_countClashes : Kx := (yX10_countClashes.cls, cX10_countClashes, 4, (some .int), [], false)
set_option maxHeartbeats 4000000 in
set_option maxRecDepth 100000 in
theorem c_Boo_countClashes (ω : Wd) (a : Nat) (hT : zT a = 10) (m : Mm) : Ev ω true 2 0 0 yX10_countClashes cX10_countClashes 4 (some .int) [.ref (zad ω a)] m (fP m) (f_Boo_countClashes a m) := by
  refine Ev.of (b := false) (ls := [some (.ref (zad ω a)), none, none, none]) (plainFor_of_name (by decide +kernel)) (fun h => by cases h) rfl (Nat.le_of_ble_eq_true rfl) rfl ?_
  change Sx ω ω true 2 0 0 kk_Boo_countClashes (fP m) 0 0 m 0 _ _ _
  unfold f_Boo_countClashes
  refine x_iconst (v := 0) dX10_countClashes_0 (by decide) ?_
  refine x_istore_n (ls' := [some (.ref (zad ω a)), some (.int 0), none, none]) dX10_countClashes_1 (Nat.le_of_ble_eq_true rfl) rfl ?_
  refine x_iconst (v := 0) dX10_countClashes_2 (by decide) ?_
  refine x_istore_n (ls' := [some (.ref (zad ω a)), some (.int 0), some (.int 0), none]) dX10_countClashes_3 (Nat.le_of_ble_eq_true rfl) rfl ?_
  refine y_Lq2 (fun x1 x2 => [some (.ref (zad ω a)), some (.int x1), some (.int x2), none]) (fun r3 hr3 x1 x2 => ?_) zFu _ _
  refine x_iload_n dX10_countClashes_4 rfl ?_
  refine x_aload_n dX10_countClashes_5 rfl ?_
  refine y_getF fl_RX10_33 hT (lq_10_0 hT) (by rw [hz_25]; decide) dX10_countClashes_6 ?_
  refine y_callVP (rest := [.int x2]) (c1 := 0) (s1 := 0) (c_Alm_size ω m) mv_RX10_50 hz_25 rfl (Nat.le_of_ble_eq_true rfl) (Nat.le_of_ble_eq_true rfl) (Nat.le_of_ble_eq_true rfl) ⟨rfl, rfl⟩ ⟨(Nat.le_of_ble_eq_true rfl), (Nat.le_of_ble_eq_true rfl)⟩ dX10_countClashes_9 (fun v4 => ?_)
  refine x_icmp_ge (tgt := 70) dX10_countClashes_12 (by decide) (fun hc5 => ?_) (fun hc5 => ?_)
  · refine x_iload_n dX10_countClashes_70 rfl ?_
    exact x_iret rfl rfl ⟨(Nat.le_of_ble_eq_true rfl), (Nat.le_of_ble_eq_true rfl)⟩ dX10_countClashes_71
  · refine x_iload_n dX10_countClashes_15 rfl ?_
    refine x_iconst (v := 1) dX10_countClashes_16 (by decide) ?_
    refine x_iadd dX10_countClashes_17 ?_
    refine y_letI (fun x6 => ?_)
    refine x_istore_n (ls' := [some (.ref (zad ω a)), some (.int x1), some (.int x2), some (.int x6)]) dX10_countClashes_18 (Nat.le_of_ble_eq_true rfl) rfl ?_
    refine y_Lq2 (fun x7 x8 => [some (.ref (zad ω a)), some (.int x7), some (.int x2), some (.int x8)]) (fun r9 hr9 x7 x8 => ?_) zFu _ _
    refine x_iload_n dX10_countClashes_19 rfl ?_
    refine x_aload_n dX10_countClashes_20 rfl ?_
    refine y_getF fl_RX10_33 hT (lq_10_0 hT) (by rw [hz_25]; decide) dX10_countClashes_21 ?_
    refine y_callVP (rest := [.int x8]) (c1 := 0) (s1 := 0) (c_Alm_size ω m) mv_RX10_50 hz_25 rfl (Nat.le_of_ble_eq_true rfl) (Nat.le_of_ble_eq_true rfl) (Nat.le_of_ble_eq_true rfl) ⟨rfl, rfl⟩ ⟨(Nat.le_of_ble_eq_true rfl), (Nat.le_of_ble_eq_true rfl)⟩ dX10_countClashes_24 (fun v10 => ?_)
    refine x_icmp_ge (tgt := 64) dX10_countClashes_27 (by decide) (fun hc11 => ?_) (fun hc11 => ?_)
    · refine y_iinc (w := 1) dX10_countClashes_64 rfl (by decide) (Nat.le_of_ble_eq_true rfl) (fun x12 => ?_)
      refine x_goto (tgt := 4) dX10_countClashes_67 (by decide) ?_
      refine y_mask (bs := [true, true, true, false]) (ls' := [some (.ref (zad ω a)), some (.int x7), some (.int x12), none]) rfl ?_
      exact hr3 _ _
    · refine x_aload_n dX10_countClashes_30 rfl ?_
      refine y_getF fl_RX10_20 hT (lq_10_2 hT) (by rw [lt_10_2 hT]; decide) dX10_countClashes_31 ?_
      refine x_iload_n dX10_countClashes_34 rfl ?_
      refine y_iald (lt_10_2 hT) (ln_10_2 hT) dX10_countClashes_35 (fun hi => ?_)
      refine x_iconst (v := (-1)) dX10_countClashes_36 (by decide) ?_
      refine y_join (fun j15 => ∀ (x14 : Int32), Sx ω ω true 2 0 0 kk_Boo_countClashes (fP m) 0 0 m 58 [some (.ref (zad ω a)), some (.int x14), some (.int x2), some (.int x8)] [] (j15 x14)) ?_ (fun j15 hj15 => ?_)
      · intro x14
        refine y_iinc (w := 1) dX10_countClashes_58 rfl (by decide) (Nat.le_of_ble_eq_true rfl) (fun x16 => ?_)
        refine x_goto (tgt := 19) dX10_countClashes_61 (by decide) ?_
        exact hr9 _ _
      · refine x_icmp_eq (tgt := 58) dX10_countClashes_37 (by decide) (fun hc13 => ?_) (fun hc13 => ?_)
        · exact hj15 _
        · refine x_aload_n dX10_countClashes_40 rfl ?_
          refine y_getF fl_RX10_20 hT (lq_10_2 hT) (by rw [lt_10_2 hT]; decide) dX10_countClashes_41 ?_
          refine x_iload_n dX10_countClashes_44 rfl ?_
          refine y_iald (lt_10_2 hT) (ln_10_2 hT) dX10_countClashes_45 (fun hi => ?_)
          refine x_aload_n dX10_countClashes_46 rfl ?_
          refine y_getF fl_RX10_20 hT (lq_10_2 hT) (by rw [lt_10_2 hT]; decide) dX10_countClashes_47 ?_
          refine x_iload_n dX10_countClashes_50 rfl ?_
          refine y_iald (lt_10_2 hT) (ln_10_2 hT) dX10_countClashes_51 (fun hi => ?_)
          refine x_icmp_ne (tgt := 58) dX10_countClashes_52 (by decide) (fun hc17 => ?_) (fun hc17 => ?_)
          · refine y_iinc (w := 1) dX10_countClashes_55 rfl (by decide) (Nat.le_of_ble_eq_true rfl) (fun x18 => ?_)
            exact hj15 _
          · exact hj15 _
abbrev kk_Boo_isNextTo : Kx := (yX10_isNextTo.cls, cX10_isNextTo, 5, (some .boolean), [], false)
set_option maxHeartbeats 4000000 in
set_option maxRecDepth 100000 in
theorem c_Boo_isNextTo (ω : Wd) (a : Nat) (hT : zT a = 10) (o1 : Nat) (ho1 : zT o1 = 10) (p2 : Int32) (m : Mm) : Ev ω true 2 0 0 yX10_isNextTo cX10_isNextTo 5 (some .boolean) [.ref (zad ω a), .ref (zad ω o1), .int p2] m (fP m) (f_Boo_isNextTo a o1 p2 m) := by
  refine Ev.of (b := false) (ls := [some (.ref (zad ω a)), some (.ref (zad ω o1)), some (.int p2), none, none]) (plainFor_of_name (by decide +kernel)) (fun h => by cases h) rfl (Nat.le_of_ble_eq_true rfl) rfl ?_
  change Sx ω ω true 2 0 0 kk_Boo_isNextTo (fP m) 0 0 m 0 _ _ _
  unfold f_Boo_isNextTo
  refine x_aload_n dX10_isNextTo_0 rfl ?_
  refine x_iload_n dX10_isNextTo_1 rfl ?_
  refine y_callVP (rest := []) (c1 := 0) (s1 := 0) (c_Boo_bentDay ω a hT p2 m) mv_RX10_113 hT rfl (Nat.le_of_ble_eq_true rfl) (Nat.le_of_ble_eq_true rfl) (Nat.le_of_ble_eq_true rfl) ⟨rfl, rfl⟩ ⟨(Nat.le_of_ble_eq_true rfl), (Nat.le_of_ble_eq_true rfl)⟩ dX10_isNextTo_2 (fun v1 => ?_)
  refine x_istore_n (ls' := [some (.ref (zad ω a)), some (.ref (zad ω o1)), some (.int p2), some (.int v1), none]) dX10_isNextTo_5 (Nat.le_of_ble_eq_true rfl) rfl ?_
  refine x_aload_n dX10_isNextTo_6 rfl ?_
  refine x_iload_n dX10_isNextTo_7 rfl ?_
  refine y_callVP (rest := []) (c1 := 0) (s1 := 0) (c_Boo_bentDay ω o1 ho1 p2 m) mv_RX10_113 ho1 rfl (Nat.le_of_ble_eq_true rfl) (Nat.le_of_ble_eq_true rfl) (Nat.le_of_ble_eq_true rfl) ⟨rfl, rfl⟩ ⟨(Nat.le_of_ble_eq_true rfl), (Nat.le_of_ble_eq_true rfl)⟩ dX10_isNextTo_8 (fun v2 => ?_)
  refine x_istore (ls' := [some (.ref (zad ω a)), some (.ref (zad ω o1)), some (.int p2), some (.int v1), some (.int v2)]) dX10_isNextTo_11 (Nat.le_of_ble_eq_true rfl) rfl ?_
  refine x_iload_n dX10_isNextTo_13 rfl ?_
  refine x_iconst (v := (-1)) dX10_isNextTo_14 (by decide) ?_
  refine y_join (fun j4 => Sx ω ω true 2 0 0 kk_Boo_isNextTo (fP m) 0 0 m 39 [none, none, none, none, none] [] j4) ?_ (fun j4 hj4 => ?_)
  · refine x_iconst (v := 0) dX10_isNextTo_39 (by decide) ?_
    exact x_zret rfl rfl (zBo_nar (by decide)) ⟨(Nat.le_of_ble_eq_true rfl), (Nat.le_of_ble_eq_true rfl)⟩ dX10_isNextTo_40
  · refine x_icmp_eq (tgt := 39) dX10_isNextTo_15 (by decide) (fun hc3 => ?_) (fun hc3 => ?_)
    · refine y_mask (bs := [false, false, false, false, false]) (ls' := [none, none, none, none, none]) rfl ?_
      exact hj4
    · refine x_iload dX10_isNextTo_18 rfl ?_
      refine x_iconst (v := (-1)) dX10_isNextTo_20 (by decide) ?_
      refine x_icmp_eq (tgt := 39) dX10_isNextTo_21 (by decide) (fun hc5 => ?_) (fun hc5 => ?_)
      · refine y_mask (bs := [false, false, false, false, false]) (ls' := [none, none, none, none, none]) rfl ?_
        exact hj4
      · refine x_iload_n dX10_isNextTo_24 rfl ?_
        refine x_iload dX10_isNextTo_25 rfl ?_
        refine x_isub dX10_isNextTo_27 ?_
        refine y_callSP (rest := []) (c1 := 0) (s1 := 0) (c_Mat_abs ω (v1 - v2) m) ms_RX10_154 rfl (Nat.le_of_ble_eq_true rfl) (Nat.le_of_ble_eq_true rfl) (Nat.le_of_ble_eq_true rfl) ⟨rfl, rfl⟩ ⟨(Nat.le_of_ble_eq_true rfl), (Nat.le_of_ble_eq_true rfl)⟩ dX10_isNextTo_28 (fun v6 => ?_)
        refine x_iconst (v := 1) dX10_isNextTo_31 (by decide) ?_
        refine x_icmp_ne (tgt := 39) dX10_isNextTo_32 (by decide) (fun hc7 => ?_) (fun hc7 => ?_)
        · refine x_iconst (v := 1) dX10_isNextTo_35 (by decide) ?_
          refine x_goto (tgt := 40) dX10_isNextTo_36 (by decide) ?_
          exact x_zret rfl rfl (zBo_nar (by decide)) ⟨(Nat.le_of_ble_eq_true rfl), (Nat.le_of_ble_eq_true rfl)⟩ dX10_isNextTo_40
        · refine y_mask (bs := [false, false, false, false, false]) (ls' := [none, none, none, none, none]) rfl ?_
          exact hj4
abbrev kk_Boo_costOf : Kx := (yX10_costOf.cls, cX10_costOf, 2, (some .int), [], false)
set_option maxHeartbeats 4000000 in
set_option maxRecDepth 100000 in
theorem c_Boo_costOf (ω : Wd) (a : Nat) (hT : zT a = 10) (p1 : Int32) (m : Mm) : Ev ω true 1 0 0 yX10_costOf cX10_costOf 2 (some .int) [.ref (zad ω a), .int p1] m (fP m) (f_Boo_costOf a p1 m) := by
  refine Ev.of (b := false) (ls := [some (.ref (zad ω a)), some (.int p1)]) (plainFor_of_name (by decide +kernel)) (fun h => by cases h) rfl (Nat.le_of_ble_eq_true rfl) rfl ?_
  change Sx ω ω true 1 0 0 kk_Boo_costOf (fP m) 0 0 m 0 _ _ _
  unfold f_Boo_costOf
  refine x_aload_n dX10_costOf_0 rfl ?_
  refine y_getF fl_RX10_24 hT (lq_10_3 hT) (by rw [lt_10_3 hT]; decide) dX10_costOf_1 ?_
  refine x_iload_n dX10_costOf_4 rfl ?_
  refine y_iald (lt_10_3 hT) (ln_10_3 hT) dX10_costOf_5 (fun hi => ?_)
  exact x_iret rfl rfl ⟨(Nat.le_of_ble_eq_true rfl), (Nat.le_of_ble_eq_true rfl)⟩ dX10_costOf_6
abbrev kk_Boo_costOfAll : Kx := (yX10_costOfAll.cls, cX10_costOfAll, 3, (some .int), [], false)
set_option maxHeartbeats 4000000 in
set_option maxRecDepth 100000 in
theorem c_Boo_costOfAll (ω : Wd) (a : Nat) (hT : zT a = 10) (m : Mm) : Ev ω true 2 0 0 yX10_costOfAll cX10_costOfAll 3 (some .int) [.ref (zad ω a)] m (fP m) (f_Boo_costOfAll a m) := by
  refine Ev.of (b := false) (ls := [some (.ref (zad ω a)), none, none]) (plainFor_of_name (by decide +kernel)) (fun h => by cases h) rfl (Nat.le_of_ble_eq_true rfl) rfl ?_
  change Sx ω ω true 2 0 0 kk_Boo_costOfAll (fP m) 0 0 m 0 _ _ _
  unfold f_Boo_costOfAll
  refine x_iconst (v := 1) dX10_costOfAll_0 (by decide) ?_
  refine x_istore_n (ls' := [some (.ref (zad ω a)), some (.int 1), none]) dX10_costOfAll_1 (Nat.le_of_ble_eq_true rfl) rfl ?_
  refine x_iconst (v := 0) dX10_costOfAll_2 (by decide) ?_
  refine x_istore_n (ls' := [some (.ref (zad ω a)), some (.int 1), some (.int 0)]) dX10_costOfAll_3 (Nat.le_of_ble_eq_true rfl) rfl ?_
  refine y_Lq2 (fun x1 x2 => [some (.ref (zad ω a)), some (.int x1), some (.int x2)]) (fun r3 hr3 x1 x2 => ?_) zFu _ _
  refine x_iload_n dX10_costOfAll_4 rfl ?_
  refine x_aload_n dX10_costOfAll_5 rfl ?_
  refine y_getF fl_RX10_33 hT (lq_10_0 hT) (by rw [hz_25]; decide) dX10_costOfAll_6 ?_
  refine y_callVP (rest := [.int x2]) (c1 := 0) (s1 := 0) (c_Alm_size ω m) mv_RX10_50 hz_25 rfl (Nat.le_of_ble_eq_true rfl) (Nat.le_of_ble_eq_true rfl) (Nat.le_of_ble_eq_true rfl) ⟨rfl, rfl⟩ ⟨(Nat.le_of_ble_eq_true rfl), (Nat.le_of_ble_eq_true rfl)⟩ dX10_costOfAll_9 (fun v4 => ?_)
  refine x_icmp_ge (tgt := 30) dX10_costOfAll_12 (by decide) (fun hc5 => ?_) (fun hc5 => ?_)
  · refine x_iload_n dX10_costOfAll_30 rfl ?_
    exact x_iret rfl rfl ⟨(Nat.le_of_ble_eq_true rfl), (Nat.le_of_ble_eq_true rfl)⟩ dX10_costOfAll_31
  · refine x_iload_n dX10_costOfAll_15 rfl ?_
    refine x_aload_n dX10_costOfAll_16 rfl ?_
    refine y_getF fl_RX10_24 hT (lq_10_3 hT) (by rw [lt_10_3 hT]; decide) dX10_costOfAll_17 ?_
    refine x_iload_n dX10_costOfAll_20 rfl ?_
    refine y_iald (lt_10_3 hT) (ln_10_3 hT) dX10_costOfAll_21 (fun hi => ?_)
    refine x_iadd dX10_costOfAll_22 ?_
    refine y_letI (fun x6 => ?_)
    refine x_istore_n (ls' := [some (.ref (zad ω a)), some (.int x6), some (.int x2)]) dX10_costOfAll_23 (Nat.le_of_ble_eq_true rfl) rfl ?_
    refine y_iinc (w := 1) dX10_costOfAll_24 rfl (by decide) (Nat.le_of_ble_eq_true rfl) (fun x7 => ?_)
    refine x_goto (tgt := 4) dX10_costOfAll_27 (by decide) ?_
    exact hr3 _ _
abbrev kk_Boo_claimHolds : Kx := (yX10_claimHolds.cls, cX10_claimHolds, 5, (some .boolean), [], false)
set_option maxHeartbeats 4000000 in
set_option maxRecDepth 100000 in
theorem c_Boo_claimHolds (ω : Wd) (a : Nat) (hT : zT a = 10) (p1 : Int32) (p2 : Int32) (m : Mm) : Ev ω true 4 0 0 yX10_claimHolds cX10_claimHolds 5 (some .boolean) [.ref (zad ω a), .int p1, .int p2] m fI (f_Boo_claimHolds a p1 p2 m) := by
  refine Ev.of (b := false) (ls := [some (.ref (zad ω a)), some (.int p1), some (.int p2), none, none]) (plainFor_of_name (by decide +kernel)) (fun h => by cases h) rfl (Nat.le_of_ble_eq_true rfl) rfl ?_
  change Sx ω ω true 4 0 0 kk_Boo_claimHolds fI 0 0 m 0 _ _ _
  unfold f_Boo_claimHolds
  refine x_iload_n dX10_claimHolds_0 rfl ?_
  refine x_cases (c := p1 = 21) (fun hc1 => ?_) (fun hc1 => ?_)
  · refine x_tableIn (off := 31) (tgt := 32) dX10_claimHolds_1 (by rw [hc1] <;> decide) (by rw [hc1] <;> decide) (by rw [hc1] <;> decide) (by decide) ?_
    refine x_aload_n dX10_claimHolds_32 rfl ?_
    refine y_callVP (rest := []) (c1 := 0) (s1 := 0) (c_Boo_countClashes ω a hT m) mv_RX10_168 hT rfl (Nat.le_of_ble_eq_true rfl) (Nat.le_of_ble_eq_true rfl) (Nat.le_of_ble_eq_true rfl) ⟨rfl, rfl⟩ ⟨(Nat.le_of_ble_eq_true rfl), (Nat.le_of_ble_eq_true rfl)⟩ dX10_claimHolds_33 (fun v2 => ?_)
    refine x_if_ne (tgt := 43) dX10_claimHolds_36 (by decide) (fun hc3 => ?_) (fun hc3 => ?_)
    · refine x_iconst (v := 1) dX10_claimHolds_39 (by decide) ?_
      refine x_goto (tgt := 44) dX10_claimHolds_40 (by decide) ?_
      exact x_zret rfl rfl (zBo_nar (by decide)) ⟨(Nat.le_of_ble_eq_true rfl), (Nat.le_of_ble_eq_true rfl)⟩ dX10_claimHolds_44
    · refine x_iconst (v := 0) dX10_claimHolds_43 (by decide) ?_
      exact x_zret rfl rfl (zBo_nar (by decide)) ⟨(Nat.le_of_ble_eq_true rfl), (Nat.le_of_ble_eq_true rfl)⟩ dX10_claimHolds_44
  · refine x_cases (c := p1 = 22) (fun hc4 => ?_) (fun hc4 => ?_)
    · refine x_tableIn (off := 44) (tgt := 45) dX10_claimHolds_1 (by rw [hc4] <;> decide) (by rw [hc4] <;> decide) (by rw [hc4] <;> decide) (by decide) ?_
      refine x_aload_n dX10_claimHolds_45 rfl ?_
      refine x_iload_n dX10_claimHolds_46 rfl ?_
      refine x_sipush (v := 10000) dX10_claimHolds_47 (by decide) ?_
      refine x_idiv dX10_claimHolds_50 (by decide) ?_
      refine y_callVP (rest := []) (c1 := 0) (s1 := 0) (c_Boo_placedDay ω a hT (p2 / 10000) m) mv_RX10_171 hT rfl (Nat.le_of_ble_eq_true rfl) (Nat.le_of_ble_eq_true rfl) (Nat.le_of_ble_eq_true rfl) ⟨rfl, rfl⟩ ⟨(Nat.le_of_ble_eq_true rfl), (Nat.le_of_ble_eq_true rfl)⟩ dX10_claimHolds_51 (fun v5 => ?_)
      refine x_istore_n (ls' := [some (.ref (zad ω a)), some (.int p1), some (.int p2), some (.int v5), none]) dX10_claimHolds_54 (Nat.le_of_ble_eq_true rfl) rfl ?_
      refine x_iload_n dX10_claimHolds_55 rfl ?_
      refine x_iconst (v := (-1)) dX10_claimHolds_56 (by decide) ?_
      refine y_join (fun j7 => Sx ω ω true 4 0 0 kk_Boo_claimHolds fI 0 0 m 80 [none, none, none, none, none] [] j7) ?_ (fun j7 hj7 => ?_)
      · refine x_iconst (v := 0) dX10_claimHolds_80 (by decide) ?_
        exact x_zret rfl rfl (zBo_nar (by decide)) ⟨(Nat.le_of_ble_eq_true rfl), (Nat.le_of_ble_eq_true rfl)⟩ dX10_claimHolds_81
      · refine x_icmp_eq (tgt := 80) dX10_claimHolds_57 (by decide) (fun hc6 => ?_) (fun hc6 => ?_)
        · refine y_mask (bs := [false, false, false, false, false]) (ls' := [none, none, none, none, none]) rfl ?_
          exact hj7
        · refine x_aload_n dX10_claimHolds_60 rfl ?_
          refine y_getI fl_RX10_37 hT dX10_claimHolds_61 ?_
          refine x_iload_n dX10_claimHolds_64 rfl ?_
          refine y_callSP (rest := []) (c1 := 0) (s1 := 0) (c_Cal_dateOf ω (zI m a 6) v5 m) ms_RX10_174 rfl (Nat.le_of_ble_eq_true rfl) (Nat.le_of_ble_eq_true rfl) (Nat.le_of_ble_eq_true rfl) ⟨rfl, rfl⟩ ⟨(Nat.le_of_ble_eq_true rfl), (Nat.le_of_ble_eq_true rfl)⟩ dX10_claimHolds_65 (fun v8 => ?_)
          refine x_iload_n dX10_claimHolds_68 rfl ?_
          refine x_sipush (v := 10000) dX10_claimHolds_69 (by decide) ?_
          refine x_irem dX10_claimHolds_72 (by decide) ?_
          refine x_icmp_ne (tgt := 80) dX10_claimHolds_73 (by decide) (fun hc9 => ?_) (fun hc9 => ?_)
          · refine x_iconst (v := 1) dX10_claimHolds_76 (by decide) ?_
            refine x_goto (tgt := 81) dX10_claimHolds_77 (by decide) ?_
            exact x_zret rfl rfl (zBo_nar (by decide)) ⟨(Nat.le_of_ble_eq_true rfl), (Nat.le_of_ble_eq_true rfl)⟩ dX10_claimHolds_81
          · refine y_mask (bs := [false, false, false, false, false]) (ls' := [none, none, none, none, none]) rfl ?_
            exact hj7
    · refine x_cases (c := p1 = 23) (fun hc10 => ?_) (fun hc10 => ?_)
      · refine x_tableIn (off := 81) (tgt := 82) dX10_claimHolds_1 (by rw [hc10] <;> decide) (by rw [hc10] <;> decide) (by rw [hc10] <;> decide) (by decide) ?_
        refine x_aload_n dX10_claimHolds_82 rfl ?_
        refine y_getF fl_RX10_12 hT (lq_10_1 hT) (by rw [lt_10_1 hT]; decide) dX10_claimHolds_83 ?_
        refine x_aload_n dX10_claimHolds_86 rfl ?_
        refine x_iload_n dX10_claimHolds_87 rfl ?_
        refine x_bipush (v := 10) dX10_claimHolds_88 (by decide) ?_
        refine x_idiv dX10_claimHolds_90 (by decide) ?_
        refine y_callVP (rest := [.ref (zad ω (a + 1))]) (c1 := 0) (s1 := 0) (c_Boo_placedDay ω a hT (p2 / 10) m) mv_RX10_171 hT rfl (Nat.le_of_ble_eq_true rfl) (Nat.le_of_ble_eq_true rfl) (Nat.le_of_ble_eq_true rfl) ⟨rfl, rfl⟩ ⟨(Nat.le_of_ble_eq_true rfl), (Nat.le_of_ble_eq_true rfl)⟩ dX10_claimHolds_91 (fun v11 => ?_)
        refine y_callVV (rest := []) (c1 := 0) (s1 := 0) (c_Wal_toDay ω (a + 1) (lt_10_1 hT) v11 m) mv_RX10_116 (lt_10_1 hT) rfl (Nat.le_of_ble_eq_true rfl) (Nat.le_of_ble_eq_true rfl) (Nat.le_of_ble_eq_true rfl) ⟨rfl, rfl⟩ ⟨(Nat.le_of_ble_eq_true rfl), (Nat.le_of_ble_eq_true rfl)⟩ dX10_claimHolds_94 (fun m12 => ?_)
        refine x_aload_n dX10_claimHolds_97 rfl ?_
        refine y_getF fl_RX10_12 hT (lq_10_1 hT) (by rw [lt_10_1 hT]; decide) dX10_claimHolds_98 ?_
        refine x_iload_n dX10_claimHolds_101 rfl ?_
        refine x_bipush (v := 10) dX10_claimHolds_102 (by decide) ?_
        refine x_irem dX10_claimHolds_104 (by decide) ?_
        refine y_callVP (rest := []) (c1 := 0) (s1 := 0) (c_Wal_isOnWeekday ω (a + 1) (lt_10_1 hT) (p2 % 10) m12) mv_RX10_140 (lt_10_1 hT) rfl (Nat.le_of_ble_eq_true rfl) (Nat.le_of_ble_eq_true rfl) (Nat.le_of_ble_eq_true rfl) ⟨rfl, rfl⟩ ⟨(Nat.le_of_ble_eq_true rfl), (Nat.le_of_ble_eq_true rfl)⟩ dX10_claimHolds_105 (fun v13 => ?_)
        refine x_guard (fun hv => ?_)
        exact x_zret rfl rfl (zBo_nar hv) ⟨(Nat.le_of_ble_eq_true rfl), (Nat.le_of_ble_eq_true rfl)⟩ dX10_claimHolds_108
      · refine x_cases (c := p1 = 24) (fun hc14 => ?_) (fun hc14 => ?_)
        · refine x_tableIn (off := 108) (tgt := 109) dX10_claimHolds_1 (by rw [hc14] <;> decide) (by rw [hc14] <;> decide) (by rw [hc14] <;> decide) (by decide) ?_
          refine x_aload_n dX10_claimHolds_109 rfl ?_
          refine x_iload_n dX10_claimHolds_110 rfl ?_
          refine y_callVP (rest := []) (c1 := 0) (s1 := 0) (c_Boo_placedDay ω a hT p2 m) mv_RX10_171 hT rfl (Nat.le_of_ble_eq_true rfl) (Nat.le_of_ble_eq_true rfl) (Nat.le_of_ble_eq_true rfl) ⟨rfl, rfl⟩ ⟨(Nat.le_of_ble_eq_true rfl), (Nat.le_of_ble_eq_true rfl)⟩ dX10_claimHolds_111 (fun v15 => ?_)
          refine x_iconst (v := (-1)) dX10_claimHolds_114 (by decide) ?_
          refine x_icmp_ne (tgt := 122) dX10_claimHolds_115 (by decide) (fun hc16 => ?_) (fun hc16 => ?_)
          · refine x_iconst (v := 1) dX10_claimHolds_118 (by decide) ?_
            refine x_goto (tgt := 123) dX10_claimHolds_119 (by decide) ?_
            exact x_zret rfl rfl (zBo_nar (by decide)) ⟨(Nat.le_of_ble_eq_true rfl), (Nat.le_of_ble_eq_true rfl)⟩ dX10_claimHolds_123
          · refine x_iconst (v := 0) dX10_claimHolds_122 (by decide) ?_
            exact x_zret rfl rfl (zBo_nar (by decide)) ⟨(Nat.le_of_ble_eq_true rfl), (Nat.le_of_ble_eq_true rfl)⟩ dX10_claimHolds_123
        · refine x_tableOut (tgt := 124) dX10_claimHolds_1 (ztb_n [21, 22, 23, 24] (by decide +kernel) (zfc hc1 (zfc hc4 (zfc hc10 (zfc hc14 zfn))))) (by decide) ?_
          refine x_aload_n dX10_claimHolds_124 rfl ?_
          refine x_iload_n dX10_claimHolds_125 rfl ?_
          refine x_bipush (v := 100) dX10_claimHolds_126 (by decide) ?_
          refine x_idiv dX10_claimHolds_128 (by decide) ?_
          refine y_callVP (rest := []) (c1 := 0) (s1 := 0) (c_Boo_placedDay ω a hT (p2 / 100) m) mv_RX10_171 hT rfl (Nat.le_of_ble_eq_true rfl) (Nat.le_of_ble_eq_true rfl) (Nat.le_of_ble_eq_true rfl) ⟨rfl, rfl⟩ ⟨(Nat.le_of_ble_eq_true rfl), (Nat.le_of_ble_eq_true rfl)⟩ dX10_claimHolds_129 (fun v17 => ?_)
          refine x_istore (ls' := [some (.ref (zad ω a)), some (.int p1), some (.int p2), none, some (.int v17)]) dX10_claimHolds_132 (Nat.le_of_ble_eq_true rfl) rfl ?_
          refine x_iload dX10_claimHolds_134 rfl ?_
          refine x_iconst (v := (-1)) dX10_claimHolds_136 (by decide) ?_
          refine y_join (fun j19 => Sx ω ω true 4 0 0 kk_Boo_claimHolds fI 0 0 m 157 [none, none, none, none, none] [] j19) ?_ (fun j19 hj19 => ?_)
          · refine x_iconst (v := 0) dX10_claimHolds_157 (by decide) ?_
            exact x_zret rfl rfl (zBo_nar (by decide)) ⟨(Nat.le_of_ble_eq_true rfl), (Nat.le_of_ble_eq_true rfl)⟩ dX10_claimHolds_158
          · refine x_icmp_eq (tgt := 157) dX10_claimHolds_137 (by decide) (fun hc18 => ?_) (fun hc18 => ?_)
            · refine y_mask (bs := [false, false, false, false, false]) (ls' := [none, none, none, none, none]) rfl ?_
              exact hj19
            · refine x_iload dX10_claimHolds_140 rfl ?_
              refine x_aload_n dX10_claimHolds_142 rfl ?_
              refine x_iload_n dX10_claimHolds_143 rfl ?_
              refine x_bipush (v := 100) dX10_claimHolds_144 (by decide) ?_
              refine x_irem dX10_claimHolds_146 (by decide) ?_
              refine y_callVP (rest := [.int v17]) (c1 := 0) (s1 := 0) (c_Boo_placedDay ω a hT (p2 % 100) m) mv_RX10_171 hT rfl (Nat.le_of_ble_eq_true rfl) (Nat.le_of_ble_eq_true rfl) (Nat.le_of_ble_eq_true rfl) ⟨rfl, rfl⟩ ⟨(Nat.le_of_ble_eq_true rfl), (Nat.le_of_ble_eq_true rfl)⟩ dX10_claimHolds_147 (fun v20 => ?_)
              refine x_icmp_ge (tgt := 157) dX10_claimHolds_150 (by decide) (fun hc21 => ?_) (fun hc21 => ?_)
              · refine y_mask (bs := [false, false, false, false, false]) (ls' := [none, none, none, none, none]) rfl ?_
                exact hj19
              · refine x_iconst (v := 1) dX10_claimHolds_153 (by decide) ?_
                refine x_goto (tgt := 158) dX10_claimHolds_154 (by decide) ?_
                exact x_zret rfl rfl (zBo_nar (by decide)) ⟨(Nat.le_of_ble_eq_true rfl), (Nat.le_of_ble_eq_true rfl)⟩ dX10_claimHolds_158
abbrev kk_Boo_feastOn : Kx := (yX10_feastOn.cls, cX10_feastOn, 2, (some .int), [], false)
set_option maxHeartbeats 4000000 in
set_option maxRecDepth 100000 in
theorem c_Boo_feastOn (ω : Wd) (a : Nat) (hT : zT a = 10) (p1 : Int32) (m : Mm) : Ev ω true 1 0 0 yX10_feastOn cX10_feastOn 2 (some .int) [.ref (zad ω a), .int p1] m (fP m) (f_Boo_feastOn a p1 m) := by
  refine Ev.of (b := false) (ls := [some (.ref (zad ω a)), some (.int p1)]) (plainFor_of_name (by decide +kernel)) (fun h => by cases h) rfl (Nat.le_of_ble_eq_true rfl) rfl ?_
  change Sx ω ω true 1 0 0 kk_Boo_feastOn (fP m) 0 0 m 0 _ _ _
  unfold f_Boo_feastOn
  refine x_iload_n dX10_feastOn_0 rfl ?_
  refine y_join (fun j2 => Sx ω ω true 1 0 0 kk_Boo_feastOn (fP m) 0 0 m 22 [none, none] [] j2) ?_ (fun j2 hj2 => ?_)
  · refine x_iconst (v := (-1)) dX10_feastOn_22 (by decide) ?_
    exact x_iret rfl rfl ⟨(Nat.le_of_ble_eq_true rfl), (Nat.le_of_ble_eq_true rfl)⟩ dX10_feastOn_23
  · refine x_if_lt (tgt := 22) dX10_feastOn_1 (by decide) (fun hc1 => ?_) (fun hc1 => ?_)
    · refine y_mask (bs := [false, false]) (ls' := [none, none]) rfl ?_
      exact hj2
    · refine x_iload_n dX10_feastOn_4 rfl ?_
      refine x_aload_n dX10_feastOn_5 rfl ?_
      refine y_getF fl_RX10_30 hT (lq_10_5 hT) (by rw [lt_10_5 hT]; decide) dX10_feastOn_6 ?_
      refine y_alen (t0 := 0) (v := 366) (by decide) (lt_10_5 hT) (ln_10_5 hT) (by decide) dX10_feastOn_9 ?_
      refine x_icmp_ge (tgt := 22) dX10_feastOn_10 (by decide) (fun hc3 => ?_) (fun hc3 => ?_)
      · refine y_mask (bs := [false, false]) (ls' := [none, none]) rfl ?_
        exact hj2
      · refine x_aload_n dX10_feastOn_13 rfl ?_
        refine y_getF fl_RX10_30 hT (lq_10_5 hT) (by rw [lt_10_5 hT]; decide) dX10_feastOn_14 ?_
        refine x_iload_n dX10_feastOn_17 rfl ?_
        refine y_iald (lt_10_5 hT) (ln_10_5 hT) dX10_feastOn_18 (fun hi => ?_)
        refine x_goto (tgt := 23) dX10_feastOn_19 (by decide) ?_
        exact x_iret rfl rfl ⟨(Nat.le_of_ble_eq_true rfl), (Nat.le_of_ble_eq_true rfl)⟩ dX10_feastOn_23
