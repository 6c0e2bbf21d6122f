abbrev kk_Wal_enter : Kx := (yX9_enter.cls, cX9_enter, 3, none, [], false)
set_option maxHeartbeats 4000000 in
set_option maxRecDepth 100000 in
theorem c_Wal_enter (ω : Wd) (a : Nat) (hT : zT a = 9) (p1 : Int32) (p2 : Int32) (m : Mm) : Ev ω true 3 0 0 yX9_enter cX9_enter 3 none [.ref (zad ω a), .int p1, .int p2] m fV (f_Wal_enter a p1 p2 m) := by
  refine Ev.of (b := false) (ls := [some (.ref (zad ω a)), some (.int p1), some (.int p2)]) (plainFor_of_name (by decide +kernel)) (fun h => by cases h) rfl (Nat.le_of_ble_eq_true rfl) rfl ?_
  change Sx ω ω true 3 0 0 kk_Wal_enter fV 0 0 m 0 _ _ _
  unfold f_Wal_enter
  refine x_aload_n dX9_enter_0 rfl ?_
  refine x_iload_n dX9_enter_1 rfl ?_
  refine y_putI fp_RX9_9 hT dX9_enter_2 ?_
  refine y_letM (fun m1 => ?_)
  refine x_aload_n dX9_enter_5 rfl ?_
  refine x_iload_n dX9_enter_6 rfl ?_
  refine y_callSP (rest := [.ref (zad ω a)]) (c1 := 0) (s1 := 0) (c_Cal_lengthOf ω p1 m1) ms_RX9_15 rfl (Nat.le_of_ble_eq_true rfl) (Nat.le_of_ble_eq_true rfl) (Nat.le_of_ble_eq_true rfl) ⟨rfl, rfl⟩ ⟨(Nat.le_of_ble_eq_true rfl), (Nat.le_of_ble_eq_true rfl)⟩ dX9_enter_7 (fun v2 => ?_)
  refine y_putI fp_RX9_21 hT dX9_enter_10 ?_
  refine y_letM (fun m3 => ?_)
  refine x_aload_n dX9_enter_13 rfl ?_
  refine x_iload_n dX9_enter_14 rfl ?_
  refine y_callSP (rest := [.ref (zad ω a)]) (c1 := 0) (s1 := 0) (c_Cal_isLeap ω p1 m3) ms_RX9_24 rfl (Nat.le_of_ble_eq_true rfl) (Nat.le_of_ble_eq_true rfl) (Nat.le_of_ble_eq_true rfl) ⟨rfl, rfl⟩ ⟨(Nat.le_of_ble_eq_true rfl), (Nat.le_of_ble_eq_true rfl)⟩ dX9_enter_15 (fun v4 => ?_)
  refine x_guard (fun hv => ?_)
  refine y_putZ fp_RX9_28 hT hv dX9_enter_18 ?_
  refine y_letM (fun m5 => ?_)
  refine x_aload_n dX9_enter_21 rfl ?_
  refine x_iload_n dX9_enter_22 rfl ?_
  refine y_callSP (rest := [.ref (zad ω a)]) (c1 := 0) (s1 := 0) (c_Cal_firstDayOf ω p1 m5) ms_RX9_32 rfl (Nat.le_of_ble_eq_true rfl) (Nat.le_of_ble_eq_true rfl) (Nat.le_of_ble_eq_true rfl) ⟨rfl, rfl⟩ ⟨(Nat.le_of_ble_eq_true rfl), (Nat.le_of_ble_eq_true rfl)⟩ dX9_enter_23 (fun v6 => ?_)
  refine y_putI fp_RX9_35 hT dX9_enter_26 ?_
  refine y_letM (fun m7 => ?_)
  refine x_aload_n dX9_enter_29 rfl ?_
  refine x_aload_n dX9_enter_30 rfl ?_
  refine y_getI fl_RX9_35 hT dX9_enter_31 ?_
  refine y_callSP (rest := [.ref (zad ω a)]) (c1 := 0) (s1 := 0) (c_Cal_weekdayOf ω (zI m7 a 3) m7) ms_RX9_38 rfl (Nat.le_of_ble_eq_true rfl) (Nat.le_of_ble_eq_true rfl) (Nat.le_of_ble_eq_true rfl) ⟨rfl, rfl⟩ ⟨(Nat.le_of_ble_eq_true rfl), (Nat.le_of_ble_eq_true rfl)⟩ dX9_enter_34 (fun v8 => ?_)
  refine y_putI fp_RX9_41 hT dX9_enter_37 ?_
  refine y_letM (fun m9 => ?_)
  refine x_aload_n dX9_enter_40 rfl ?_
  refine x_iconst (v := (-1)) dX9_enter_41 (by decide) ?_
  refine y_putI fp_RX9_44 hT dX9_enter_42 ?_
  refine y_letM (fun m10 => ?_)
  exact x_vret rfl rfl ⟨(Nat.le_of_ble_eq_true rfl), (Nat.le_of_ble_eq_true rfl)⟩ dX9_enter_45
abbrev kk_Wal_daysUntil : Kx := (yX9_daysUntil.cls, cX9_daysUntil, 3, (some .int), [], false)
set_option maxHeartbeats 4000000 in
set_option maxRecDepth 100000 in
theorem c_Wal_daysUntil (ω : Wd) (a : Nat) (hT : zT a = 9) (p1 : Int32) (p2 : Int32) (m : Mm) : Ev ω true 2 0 0 yX9_daysUntil cX9_daysUntil 3 (some .int) [.ref (zad ω a), .int p1, .int p2] m (fP m) (f_Wal_daysUntil a p1 p2 m) := by
  refine Ev.of (b := false) (ls := [some (.ref (zad ω a)), some (.int p1), some (.int p2)]) (plainFor_of_name (by decide +kernel)) (fun h => by cases h) rfl (Nat.le_of_ble_eq_true rfl) rfl ?_
  change Sx ω ω true 2 0 0 kk_Wal_daysUntil (fP m) 0 0 m 0 _ _ _
  unfold f_Wal_daysUntil
  refine x_iload_n dX9_daysUntil_0 rfl ?_
  refine x_aload_n dX9_daysUntil_1 rfl ?_
  refine y_getI fl_RX9_41 hT dX9_daysUntil_2 ?_
  refine x_isub dX9_daysUntil_5 ?_
  refine x_iload_n dX9_daysUntil_6 rfl ?_
  refine x_isub dX9_daysUntil_7 ?_
  refine x_bipush (v := 7) dX9_daysUntil_8 (by decide) ?_
  refine y_callSP (rest := []) (c1 := 0) (s1 := 0) (c_Mat_floorMod ω ((p2 - (zI m a 4)) - p1) 7 m) ms_RX9_74 rfl (Nat.le_of_ble_eq_true rfl) (Nat.le_of_ble_eq_true rfl) (Nat.le_of_ble_eq_true rfl) ⟨rfl, rfl⟩ ⟨(Nat.le_of_ble_eq_true rfl), (Nat.le_of_ble_eq_true rfl)⟩ dX9_daysUntil_10 (fun v1 => ?_)
  exact x_iret rfl rfl ⟨(Nat.le_of_ble_eq_true rfl), (Nat.le_of_ble_eq_true rfl)⟩ dX9_daysUntil_13
abbrev kk_Wal_isOnWeekday : Kx := (yX9_isOnWeekday.cls, cX9_isOnWeekday, 2, (some .boolean), [], false)
set_option maxHeartbeats 4000000 in
set_option maxRecDepth 100000 in
theorem c_Wal_isOnWeekday (ω : Wd) (a : Nat) (hT : zT a = 9) (p1 : Int32) (m : Mm) : Ev ω true 3 0 0 yX9_isOnWeekday cX9_isOnWeekday 2 (some .boolean) [.ref (zad ω a), .int p1] m (fP m) (f_Wal_isOnWeekday a p1 m) := by
  refine Ev.of (b := false) (ls := [some (.ref (zad ω a)), some (.int p1)]) (plainFor_of_name (by decide +kernel)) (fun h => by cases h) rfl (Nat.le_of_ble_eq_true rfl) rfl ?_
  change Sx ω ω true 3 0 0 kk_Wal_isOnWeekday (fP m) 0 0 m 0 _ _ _
  unfold f_Wal_isOnWeekday
  refine x_aload_n dX9_isOnWeekday_0 rfl ?_
  refine y_getI fl_RX9_44 hT dX9_isOnWeekday_1 ?_
  refine x_iconst (v := (-1)) dX9_isOnWeekday_4 (by decide) ?_
  refine y_join (fun j2 => Sx ω ω true 3 0 0 kk_Wal_isOnWeekday (fP m) 0 0 m 24 [none, none] [] j2) ?_ (fun j2 hj2 => ?_)
  · refine x_iconst (v := 0) dX9_isOnWeekday_24 (by decide) ?_
    exact x_zret rfl rfl (zBo_nar (by decide)) ⟨(Nat.le_of_ble_eq_true rfl), (Nat.le_of_ble_eq_true rfl)⟩ dX9_isOnWeekday_25
  · refine x_icmp_eq (tgt := 24) dX9_isOnWeekday_5 (by decide) (fun hc1 => ?_) (fun hc1 => ?_)
    · refine y_mask (bs := [false, false]) (ls' := [none, none]) rfl ?_
      exact hj2
    · refine x_aload_n dX9_isOnWeekday_8 rfl ?_
      refine x_aload_n dX9_isOnWeekday_9 rfl ?_
      refine y_getI fl_RX9_44 hT dX9_isOnWeekday_10 ?_
      refine x_iload_n dX9_isOnWeekday_13 rfl ?_
      refine y_callVP (rest := []) (c1 := 0) (s1 := 0) (c_Wal_daysUntil ω a hT (zI m a 5) p1 m) mv_RX9_58 hT rfl (Nat.le_of_ble_eq_true rfl) (Nat.le_of_ble_eq_true rfl) (Nat.le_of_ble_eq_true rfl) ⟨rfl, rfl⟩ ⟨(Nat.le_of_ble_eq_true rfl), (Nat.le_of_ble_eq_true rfl)⟩ dX9_isOnWeekday_14 (fun v3 => ?_)
      refine x_if_ne (tgt := 24) dX9_isOnWeekday_17 (by decide) (fun hc4 => ?_) (fun hc4 => ?_)
      · refine x_iconst (v := 1) dX9_isOnWeekday_20 (by decide) ?_
        refine x_goto (tgt := 25) dX9_isOnWeekday_21 (by decide) ?_
        exact x_zret rfl rfl (zBo_nar (by decide)) ⟨(Nat.le_of_ble_eq_true rfl), (Nat.le_of_ble_eq_true rfl)⟩ dX9_isOnWeekday_25
      · refine y_mask (bs := [false, false]) (ls' := [none, none]) rfl ?_
        exact hj2
abbrev kk_Wal_isInLeapYear : Kx := (yX9_isInLeapYear.cls, cX9_isInLeapYear, 1, (some .boolean), [], false)
set_option maxHeartbeats 4000000 in
set_option maxRecDepth 100000 in
theorem c_Wal_isInLeapYear (ω : Wd) (a : Nat) (hT : zT a = 9) (m : Mm) : Ev ω true 1 0 0 yX9_isInLeapYear cX9_isInLeapYear 1 (some .boolean) [.ref (zad ω a)] m (fP m) (f_Wal_isInLeapYear a m) := by
  refine Ev.of (b := false) (ls := [some (.ref (zad ω a))]) (plainFor_of_name (by decide +kernel)) (fun h => by cases h) rfl (Nat.le_of_ble_eq_true rfl) rfl ?_
  change Sx ω ω true 1 0 0 kk_Wal_isInLeapYear (fP m) 0 0 m 0 _ _ _
  unfold f_Wal_isInLeapYear
  refine x_aload_n dX9_isInLeapYear_0 rfl ?_
  refine y_getI fl_RX9_28 hT dX9_isInLeapYear_1 ?_
  refine x_guard (fun hv => ?_)
  exact x_zret rfl rfl (zBo_nar hv) ⟨(Nat.le_of_ble_eq_true rfl), (Nat.le_of_ble_eq_true rfl)⟩ dX9_isInLeapYear_4
abbrev kk_Wal_isOnDay : Kx := (yX9_isOnDay.cls, cX9_isOnDay, 2, (some .boolean), [], false)
set_option maxHeartbeats 4000000 in
set_option maxRecDepth 100000 in
theorem c_Wal_isOnDay (ω : Wd) (a : Nat) (hT : zT a = 9) (p1 : Int32) (m : Mm) : Ev ω true 1 0 0 yX9_isOnDay cX9_isOnDay 2 (some .boolean) [.ref (zad ω a), .int p1] m (fP m) (f_Wal_isOnDay a p1 m) := by
  refine Ev.of (b := false) (ls := [some (.ref (zad ω a)), some (.int p1)]) (plainFor_of_name (by decide +kernel)) (fun h => by cases h) rfl (Nat.le_of_ble_eq_true rfl) rfl ?_
  change Sx ω ω true 1 0 0 kk_Wal_isOnDay (fP m) 0 0 m 0 _ _ _
  unfold f_Wal_isOnDay
  refine x_aload_n dX9_isOnDay_0 rfl ?_
  refine y_getI fl_RX9_44 hT dX9_isOnDay_1 ?_
  refine x_iconst (v := (-1)) dX9_isOnDay_4 (by decide) ?_
  refine y_join (fun j2 => Sx ω ω true 1 0 0 kk_Wal_isOnDay (fP m) 0 0 m 20 [none, none] [] j2) ?_ (fun j2 hj2 => ?_)
  · refine x_iconst (v := 0) dX9_isOnDay_20 (by decide) ?_
    exact x_zret rfl rfl (zBo_nar (by decide)) ⟨(Nat.le_of_ble_eq_true rfl), (Nat.le_of_ble_eq_true rfl)⟩ dX9_isOnDay_21
  · refine x_icmp_eq (tgt := 20) dX9_isOnDay_5 (by decide) (fun hc1 => ?_) (fun hc1 => ?_)
    · refine y_mask (bs := [false, false]) (ls' := [none, none]) rfl ?_
      exact hj2
    · refine x_aload_n dX9_isOnDay_8 rfl ?_
      refine y_getI fl_RX9_44 hT dX9_isOnDay_9 ?_
      refine x_iload_n dX9_isOnDay_12 rfl ?_
      refine x_icmp_ne (tgt := 20) dX9_isOnDay_13 (by decide) (fun hc3 => ?_) (fun hc3 => ?_)
      · refine x_iconst (v := 1) dX9_isOnDay_16 (by decide) ?_
        refine x_goto (tgt := 21) dX9_isOnDay_17 (by decide) ?_
        exact x_zret rfl rfl (zBo_nar (by decide)) ⟨(Nat.le_of_ble_eq_true rfl), (Nat.le_of_ble_eq_true rfl)⟩ dX9_isOnDay_21
      · refine y_mask (bs := [false, false]) (ls' := [none, none]) rfl ?_
        exact hj2
abbrev kk_Wal_isBeforeDate : Kx := (yX9_isBeforeDate.cls, cX9_isBeforeDate, 2, (some .boolean), [], false)
set_option maxHeartbeats 4000000 in
set_option maxRecDepth 100000 in
theorem c_Wal_isBeforeDate (ω : Wd) (a : Nat) (hT : zT a = 9) (p1 : Int32) (m : Mm) : Ev ω true 2 0 0 yX9_isBeforeDate cX9_isBeforeDate 2 (some .boolean) [.ref (zad ω a), .int p1] m (fP m) (f_Wal_isBeforeDate a p1 m) := by
  refine Ev.of (b := false) (ls := [some (.ref (zad ω a)), some (.int p1)]) (plainFor_of_name (by decide +kernel)) (fun h => by cases h) rfl (Nat.le_of_ble_eq_true rfl) rfl ?_
  change Sx ω ω true 2 0 0 kk_Wal_isBeforeDate (fP m) 0 0 m 0 _ _ _
  unfold f_Wal_isBeforeDate
  refine x_aload_n dX9_isBeforeDate_0 rfl ?_
  refine y_getI fl_RX9_44 hT dX9_isBeforeDate_1 ?_
  refine x_iconst (v := (-1)) dX9_isBeforeDate_4 (by decide) ?_
  refine y_join (fun j2 => Sx ω ω true 2 0 0 kk_Wal_isBeforeDate (fP m) 0 0 m 37 [none, none] [] j2) ?_ (fun j2 hj2 => ?_)
  · refine x_iconst (v := 0) dX9_isBeforeDate_37 (by decide) ?_
    exact x_zret rfl rfl (zBo_nar (by decide)) ⟨(Nat.le_of_ble_eq_true rfl), (Nat.le_of_ble_eq_true rfl)⟩ dX9_isBeforeDate_38
  · refine x_icmp_eq (tgt := 37) dX9_isBeforeDate_5 (by decide) (fun hc1 => ?_) (fun hc1 => ?_)
    · refine y_mask (bs := [false, false]) (ls' := [none, none]) rfl ?_
      exact hj2
    · refine x_aload_n dX9_isBeforeDate_8 rfl ?_
      refine y_getI fl_RX9_44 hT dX9_isBeforeDate_9 ?_
      refine x_aload_n dX9_isBeforeDate_12 rfl ?_
      refine y_getI fl_RX9_28 hT dX9_isBeforeDate_13 ?_
      refine x_iload_n dX9_isBeforeDate_16 rfl ?_
      refine x_bipush (v := 100) dX9_isBeforeDate_17 (by decide) ?_
      refine x_idiv dX9_isBeforeDate_19 (by decide) ?_
      refine y_callSP (rest := [.int (zI m a 5)]) (c1 := 0) (s1 := 0) (c_Cal_monthStart ω (zI m a 2) (p1 / 100) m) ms_RX9_55 rfl (Nat.le_of_ble_eq_true rfl) (Nat.le_of_ble_eq_true rfl) (Nat.le_of_ble_eq_true rfl) ⟨rfl, rfl⟩ ⟨(Nat.le_of_ble_eq_true rfl), (Nat.le_of_ble_eq_true rfl)⟩ dX9_isBeforeDate_20 (fun v3 => ?_)
      refine x_iload_n dX9_isBeforeDate_23 rfl ?_
      refine x_bipush (v := 100) dX9_isBeforeDate_24 (by decide) ?_
      refine x_irem dX9_isBeforeDate_26 (by decide) ?_
      refine x_iadd dX9_isBeforeDate_27 ?_
      refine x_iconst (v := 1) dX9_isBeforeDate_28 (by decide) ?_
      refine x_isub dX9_isBeforeDate_29 ?_
      refine x_icmp_ge (tgt := 37) dX9_isBeforeDate_30 (by decide) (fun hc4 => ?_) (fun hc4 => ?_)
      · refine y_mask (bs := [false, false]) (ls' := [none, none]) rfl ?_
        exact hj2
      · refine x_iconst (v := 1) dX9_isBeforeDate_33 (by decide) ?_
        refine x_goto (tgt := 38) dX9_isBeforeDate_34 (by decide) ?_
        exact x_zret rfl rfl (zBo_nar (by decide)) ⟨(Nat.le_of_ble_eq_true rfl), (Nat.le_of_ble_eq_true rfl)⟩ dX9_isBeforeDate_38
abbrev kk_Wal_toDay : Kx := (yX9_toDay.cls, cX9_toDay, 2, none, [], false)
set_option maxHeartbeats 4000000 in
set_option maxRecDepth 100000 in
theorem c_Wal_toDay (ω : Wd) (a : Nat) (hT : zT a = 9) (p1 : Int32) (m : Mm) : Ev ω true 1 0 0 yX9_toDay cX9_toDay 2 none [.ref (zad ω a), .int p1] m fV (f_Wal_toDay a p1 m) := by
  refine Ev.of (b := false) (ls := [some (.ref (zad ω a)), some (.int p1)]) (plainFor_of_name (by decide +kernel)) (fun h => by cases h) rfl (Nat.le_of_ble_eq_true rfl) rfl ?_
  change Sx ω ω true 1 0 0 kk_Wal_toDay fV 0 0 m 0 _ _ _
  unfold f_Wal_toDay
  refine x_aload_n dX9_toDay_0 rfl ?_
  refine x_iload_n dX9_toDay_1 rfl ?_
  refine y_join (fun j2 => Sx ω ω true 1 0 0 kk_Wal_toDay fV 0 0 m 17 [none, none] [.ref (zad ω a)] j2) ?_ (fun j2 hj2 => ?_)
  · refine x_iconst (v := (-1)) dX9_toDay_17 (by decide) ?_
    refine y_putI fp_RX9_44 hT dX9_toDay_18 ?_
    refine y_letM (fun m3 => ?_)
    exact x_vret rfl rfl ⟨(Nat.le_of_ble_eq_true rfl), (Nat.le_of_ble_eq_true rfl)⟩ dX9_toDay_21
  · refine x_if_lt (tgt := 17) dX9_toDay_2 (by decide) (fun hc1 => ?_) (fun hc1 => ?_)
    · refine y_mask (bs := [false, false]) (ls' := [none, none]) rfl ?_
      exact hj2
    · refine x_iload_n dX9_toDay_5 rfl ?_
      refine x_aload_n dX9_toDay_6 rfl ?_
      refine y_getI fl_RX9_21 hT dX9_toDay_7 ?_
      refine x_icmp_ge (tgt := 17) dX9_toDay_10 (by decide) (fun hc4 => ?_) (fun hc4 => ?_)
      · refine y_mask (bs := [false, false]) (ls' := [none, none]) rfl ?_
        exact hj2
      · refine x_iload_n dX9_toDay_13 rfl ?_
        refine x_goto (tgt := 18) dX9_toDay_14 (by decide) ?_
        refine y_putI fp_RX9_44 hT dX9_toDay_18 ?_
        refine y_letM (fun m5 => ?_)
        exact x_vret rfl rfl ⟨(Nat.le_of_ble_eq_true rfl), (Nat.le_of_ble_eq_true rfl)⟩ dX9_toDay_21
abbrev kk_Wal_toDate : Kx := (yX9_toDate.cls, cX9_toDate, 2, none, [], false)
set_option maxHeartbeats 4000000 in
set_option maxRecDepth 100000 in
theorem c_Wal_toDate (ω : Wd) (a : Nat) (hT : zT a = 9) (p1 : Int32) (m : Mm) : Ev ω true 3 0 0 yX9_toDate cX9_toDate 2 none [.ref (zad ω a), .int p1] m fV (f_Wal_toDate a p1 m) := by
  refine Ev.of (b := false) (ls := [some (.ref (zad ω a)), some (.int p1)]) (plainFor_of_name (by decide +kernel)) (fun h => by cases h) rfl (Nat.le_of_ble_eq_true rfl) rfl ?_
  change Sx ω ω true 3 0 0 kk_Wal_toDate fV 0 0 m 0 _ _ _
  unfold f_Wal_toDate
  refine x_aload_n dX9_toDate_0 rfl ?_
  refine x_aload_n dX9_toDate_1 rfl ?_
  refine y_getI fl_RX9_28 hT dX9_toDate_2 ?_
  refine x_iload_n dX9_toDate_5 rfl ?_
  refine y_callSP (rest := [.ref (zad ω a)]) (c1 := 0) (s1 := 0) (c_Cal_dayOf ω (zI m a 2) p1 m) ms_RX9_47 rfl (Nat.le_of_ble_eq_true rfl) (Nat.le_of_ble_eq_true rfl) (Nat.le_of_ble_eq_true rfl) ⟨rfl, rfl⟩ ⟨(Nat.le_of_ble_eq_true rfl), (Nat.le_of_ble_eq_true rfl)⟩ dX9_toDate_6 (fun v1 => ?_)
  refine y_callVV (rest := []) (c1 := 0) (s1 := 0) (c_Wal_toDay ω a hT v1 m) mv_RX9_51 hT rfl (Nat.le_of_ble_eq_true rfl) (Nat.le_of_ble_eq_true rfl) (Nat.le_of_ble_eq_true rfl) ⟨rfl, rfl⟩ ⟨(Nat.le_of_ble_eq_true rfl), (Nat.le_of_ble_eq_true rfl)⟩ dX9_toDate_9 (fun m2 => ?_)
  exact x_vret rfl rfl ⟨(Nat.le_of_ble_eq_true rfl), (Nat.le_of_ble_eq_true rfl)⟩ dX9_toDate_12
abbrev kk_Wal_toNthWeekday : Kx := (yX9_toNthWeekday.cls, cX9_toNthWeekday, 6, none, [], false)
set_option maxHeartbeats 4000000 in
set_option maxRecDepth 100000 in
theorem c_Wal_toNthWeekday (ω : Wd) (a : Nat) (hT : zT a = 9) (p1 : Int32) (p2 : Int32) (p3 : Int32) (m : Mm) : Ev ω true 3 0 0 yX9_toNthWeekday cX9_toNthWeekday 6 none [.ref (zad ω a), .int p1, .int p2, .int p3] m fV (f_Wal_toNthWeekday a p1 p2 p3 m) := by
  refine Ev.of (b := false) (ls := [some (.ref (zad ω a)), some (.int p1), some (.int p2), some (.int p3), none, none]) (plainFor_of_name (by decide +kernel)) (fun h => by cases h) rfl (Nat.le_of_ble_eq_true rfl) rfl ?_
  change Sx ω ω true 3 0 0 kk_Wal_toNthWeekday fV 0 0 m 0 _ _ _
  unfold f_Wal_toNthWeekday
  refine x_aload_n dX9_toNthWeekday_0 rfl ?_
  refine y_getI fl_RX9_28 hT dX9_toNthWeekday_1 ?_
  refine x_iload_n dX9_toNthWeekday_4 rfl ?_
  refine y_callSP (rest := []) (c1 := 0) (s1 := 0) (c_Cal_monthStart ω (zI m a 2) p3 m) ms_RX9_55 rfl (Nat.le_of_ble_eq_true rfl) (Nat.le_of_ble_eq_true rfl) (Nat.le_of_ble_eq_true rfl) ⟨rfl, rfl⟩ ⟨(Nat.le_of_ble_eq_true rfl), (Nat.le_of_ble_eq_true rfl)⟩ dX9_toNthWeekday_5 (fun v1 => ?_)
  refine x_istore (ls' := [some (.ref (zad ω a)), some (.int p1), some (.int p2), some (.int p3), some (.int v1), none]) dX9_toNthWeekday_8 (Nat.le_of_ble_eq_true rfl) rfl ?_
  refine x_iload dX9_toNthWeekday_10 rfl ?_
  refine x_aload_n dX9_toNthWeekday_12 rfl ?_
  refine x_iload dX9_toNthWeekday_13 rfl ?_
  refine x_iload_n dX9_toNthWeekday_15 rfl ?_
  refine y_callVP (rest := [.int v1]) (c1 := 0) (s1 := 0) (c_Wal_daysUntil ω a hT v1 p2 m) mv_RX9_58 hT rfl (Nat.le_of_ble_eq_true rfl) (Nat.le_of_ble_eq_true rfl) (Nat.le_of_ble_eq_true rfl) ⟨rfl, rfl⟩ ⟨(Nat.le_of_ble_eq_true rfl), (Nat.le_of_ble_eq_true rfl)⟩ dX9_toNthWeekday_16 (fun v2 => ?_)
  refine x_iadd dX9_toNthWeekday_19 ?_
  refine x_bipush (v := 7) dX9_toNthWeekday_20 (by decide) ?_
  refine x_iload_n dX9_toNthWeekday_22 rfl ?_
  refine x_iconst (v := 1) dX9_toNthWeekday_23 (by decide) ?_
  refine x_isub dX9_toNthWeekday_24 ?_
  refine x_imul dX9_toNthWeekday_25 ?_
  refine x_iadd dX9_toNthWeekday_26 ?_
  refine y_letI (fun x3 => ?_)
  refine x_istore (ls' := [some (.ref (zad ω a)), some (.int p1), some (.int p2), some (.int p3), some (.int v1), some (.int x3)]) dX9_toNthWeekday_27 (Nat.le_of_ble_eq_true rfl) rfl ?_
  refine x_aload_n dX9_toNthWeekday_29 rfl ?_
  refine x_iload dX9_toNthWeekday_30 rfl ?_
  refine x_aload_n dX9_toNthWeekday_32 rfl ?_
  refine y_getI fl_RX9_28 hT dX9_toNthWeekday_33 ?_
  refine x_iload_n dX9_toNthWeekday_36 rfl ?_
  refine x_iconst (v := 1) dX9_toNthWeekday_37 (by decide) ?_
  refine x_iadd dX9_toNthWeekday_38 ?_
  refine y_callSP (rest := [.int x3, .ref (zad ω a)]) (c1 := 0) (s1 := 0) (c_Cal_monthStart ω (zI m a 2) (p3 + 1) m) ms_RX9_55 rfl (Nat.le_of_ble_eq_true rfl) (Nat.le_of_ble_eq_true rfl) (Nat.le_of_ble_eq_true rfl) ⟨rfl, rfl⟩ ⟨(Nat.le_of_ble_eq_true rfl), (Nat.le_of_ble_eq_true rfl)⟩ dX9_toNthWeekday_39 (fun v4 => ?_)
  refine y_join (fun j7 => ∀ (x6 : Int32), Sx ω ω true 3 0 0 kk_Wal_toNthWeekday fV 0 0 m 51 [none, none, none, none, none, none] [.int x6, .ref (zad ω a)] (j7 x6)) ?_ (fun j7 hj7 => ?_)
  · intro x6
    refine y_callVV (rest := []) (c1 := 0) (s1 := 0) (c_Wal_toDay ω a hT x6 m) mv_RX9_51 hT rfl (Nat.le_of_ble_eq_true rfl) (Nat.le_of_ble_eq_true rfl) (Nat.le_of_ble_eq_true rfl) ⟨rfl, rfl⟩ ⟨(Nat.le_of_ble_eq_true rfl), (Nat.le_of_ble_eq_true rfl)⟩ dX9_toNthWeekday_51 (fun m8 => ?_)
    exact x_vret rfl rfl ⟨(Nat.le_of_ble_eq_true rfl), (Nat.le_of_ble_eq_true rfl)⟩ dX9_toNthWeekday_54
  · refine x_icmp_ge (tgt := 50) dX9_toNthWeekday_42 (by decide) (fun hc5 => ?_) (fun hc5 => ?_)
    · refine x_iconst (v := (-1)) dX9_toNthWeekday_50 (by decide) ?_
      refine y_mask (bs := [false, false, false, false, false, false]) (ls' := [none, none, none, none, none, none]) rfl ?_
      exact hj7 _
    · refine x_iload dX9_toNthWeekday_45 rfl ?_
      refine x_goto (tgt := 51) dX9_toNthWeekday_47 (by decide) ?_
      refine y_mask (bs := [false, false, false, false, false, false]) (ls' := [none, none, none, none, none, none]) rfl ?_
      exact hj7 _
abbrev kk_Wal_daysSince : Kx := (yX9_daysSince.cls, cX9_daysSince, 3, (some .int), [], false)
set_option maxHeartbeats 4000000 in
set_option maxRecDepth 100000 in
theorem c_Wal_daysSince (ω : Wd) (a : Nat) (hT : zT a = 9) (p1 : Int32) (p2 : Int32) (m : Mm) : Ev ω true 2 0 0 yX9_daysSince cX9_daysSince 3 (some .int) [.ref (zad ω a), .int p1, .int p2] m (fP m) (f_Wal_daysSince a p1 p2 m) := by
  refine Ev.of (b := false) (ls := [some (.ref (zad ω a)), some (.int p1), some (.int p2)]) (plainFor_of_name (by decide +kernel)) (fun h => by cases h) rfl (Nat.le_of_ble_eq_true rfl) rfl ?_
  change Sx ω ω true 2 0 0 kk_Wal_daysSince (fP m) 0 0 m 0 _ _ _
  unfold f_Wal_daysSince
  refine x_aload_n dX9_daysSince_0 rfl ?_
  refine y_getI fl_RX9_41 hT dX9_daysSince_1 ?_
  refine x_iload_n dX9_daysSince_4 rfl ?_
  refine x_iadd dX9_daysSince_5 ?_
  refine x_iload_n dX9_daysSince_6 rfl ?_
  refine x_isub dX9_daysSince_7 ?_
  refine x_bipush (v := 7) dX9_daysSince_8 (by decide) ?_
  refine y_callSP (rest := []) (c1 := 0) (s1 := 0) (c_Mat_floorMod ω (((zI m a 4) + p1) - p2) 7 m) ms_RX9_74 rfl (Nat.le_of_ble_eq_true rfl) (Nat.le_of_ble_eq_true rfl) (Nat.le_of_ble_eq_true rfl) ⟨rfl, rfl⟩ ⟨(Nat.le_of_ble_eq_true rfl), (Nat.le_of_ble_eq_true rfl)⟩ dX9_daysSince_10 (fun v1 => ?_)
  exact x_iret rfl rfl ⟨(Nat.le_of_ble_eq_true rfl), (Nat.le_of_ble_eq_true rfl)⟩ dX9_daysSince_13
abbrev kk_Wal_toLastWeekday : Kx := (yX9_toLastWeekday.cls, cX9_toLastWeekday, 4, none, [], false)
set_option maxHeartbeats 4000000 in
set_option maxRecDepth 100000 in
theorem c_Wal_toLastWeekday (ω : Wd) (a : Nat) (hT : zT a = 9) (p1 : Int32) (p2 : Int32) (m : Mm) : Ev ω true 3 0 0 yX9_toLastWeekday cX9_toLastWeekday 4 none [.ref (zad ω a), .int p1, .int p2] m fV (f_Wal_toLastWeekday a p1 p2 m) := by
  refine Ev.of (b := false) (ls := [some (.ref (zad ω a)), some (.int p1), some (.int p2), none]) (plainFor_of_name (by decide +kernel)) (fun h => by cases h) rfl (Nat.le_of_ble_eq_true rfl) rfl ?_
  change Sx ω ω true 3 0 0 kk_Wal_toLastWeekday fV 0 0 m 0 _ _ _
  unfold f_Wal_toLastWeekday
  refine x_aload_n dX9_toLastWeekday_0 rfl ?_
  refine y_getI fl_RX9_28 hT dX9_toLastWeekday_1 ?_
  refine x_iload_n dX9_toLastWeekday_4 rfl ?_
  refine x_iconst (v := 1) dX9_toLastWeekday_5 (by decide) ?_
  refine x_iadd dX9_toLastWeekday_6 ?_
  refine y_callSP (rest := []) (c1 := 0) (s1 := 0) (c_Cal_monthStart ω (zI m a 2) (p2 + 1) m) ms_RX9_55 rfl (Nat.le_of_ble_eq_true rfl) (Nat.le_of_ble_eq_true rfl) (Nat.le_of_ble_eq_true rfl) ⟨rfl, rfl⟩ ⟨(Nat.le_of_ble_eq_true rfl), (Nat.le_of_ble_eq_true rfl)⟩ dX9_toLastWeekday_7 (fun v1 => ?_)
  refine x_iconst (v := 1) dX9_toLastWeekday_10 (by decide) ?_
  refine x_isub dX9_toLastWeekday_11 ?_
  refine y_letI (fun x2 => ?_)
  refine x_istore_n (ls' := [some (.ref (zad ω a)), some (.int p1), some (.int p2), some (.int x2)]) dX9_toLastWeekday_12 (Nat.le_of_ble_eq_true rfl) rfl ?_
  refine x_aload_n dX9_toLastWeekday_13 rfl ?_
  refine x_iload_n dX9_toLastWeekday_14 rfl ?_
  refine x_aload_n dX9_toLastWeekday_15 rfl ?_
  refine x_iload_n dX9_toLastWeekday_16 rfl ?_
  refine x_iload_n dX9_toLastWeekday_17 rfl ?_
  refine y_callVP (rest := [.int x2, .ref (zad ω a)]) (c1 := 0) (s1 := 0) (c_Wal_daysSince ω a hT x2 p1 m) mv_RX9_62 hT rfl (Nat.le_of_ble_eq_true rfl) (Nat.le_of_ble_eq_true rfl) (Nat.le_of_ble_eq_true rfl) ⟨rfl, rfl⟩ ⟨(Nat.le_of_ble_eq_true rfl), (Nat.le_of_ble_eq_true rfl)⟩ dX9_toLastWeekday_18 (fun v3 => ?_)
  refine x_isub dX9_toLastWeekday_21 ?_
  refine y_callVV (rest := []) (c1 := 0) (s1 := 0) (c_Wal_toDay ω a hT (x2 - v3) m) mv_RX9_51 hT rfl (Nat.le_of_ble_eq_true rfl) (Nat.le_of_ble_eq_true rfl) (Nat.le_of_ble_eq_true rfl) ⟨rfl, rfl⟩ ⟨(Nat.le_of_ble_eq_true rfl), (Nat.le_of_ble_eq_true rfl)⟩ dX9_toLastWeekday_22 (fun m4 => ?_)
  exact x_vret rfl rfl ⟨(Nat.le_of_ble_eq_true rfl), (Nat.le_of_ble_eq_true rfl)⟩ dX9_toLastWeekday_25
abbrev kk_Wal_toLater : Kx := (yX9_toLater.cls, cX9_toLater, 2, none, [], false)
set_option maxHeartbeats 4000000 in
set_option maxRecDepth 100000 in
theorem c_Wal_toLater (ω : Wd) (a : Nat) (hT : zT a = 9) (p1 : Int32) (m : Mm) : Ev ω true 2 0 0 yX9_toLater cX9_toLater 2 none [.ref (zad ω a), .int p1] m fV (f_Wal_toLater a p1 m) := by
  refine Ev.of (b := false) (ls := [some (.ref (zad ω a)), some (.int p1)]) (plainFor_of_name (by decide +kernel)) (fun h => by cases h) rfl (Nat.le_of_ble_eq_true rfl) rfl ?_
  change Sx ω ω true 2 0 0 kk_Wal_toLater fV 0 0 m 0 _ _ _
  unfold f_Wal_toLater
  refine x_aload_n dX9_toLater_0 rfl ?_
  refine y_getI fl_RX9_44 hT dX9_toLater_1 ?_
  refine x_iconst (v := (-1)) dX9_toLater_4 (by decide) ?_
  refine x_icmp_eq (tgt := 18) dX9_toLater_5 (by decide) (fun hc1 => ?_) (fun hc1 => ?_)
  · exact x_vret rfl rfl ⟨(Nat.le_of_ble_eq_true rfl), (Nat.le_of_ble_eq_true rfl)⟩ dX9_toLater_18
  · refine x_aload_n dX9_toLater_8 rfl ?_
    refine x_aload_n dX9_toLater_9 rfl ?_
    refine y_getI fl_RX9_44 hT dX9_toLater_10 ?_
    refine x_iload_n dX9_toLater_13 rfl ?_
    refine x_iadd dX9_toLater_14 ?_
    refine y_callVV (rest := []) (c1 := 0) (s1 := 0) (c_Wal_toDay ω a hT ((zI m a 5) + p1) m) mv_RX9_51 hT rfl (Nat.le_of_ble_eq_true rfl) (Nat.le_of_ble_eq_true rfl) (Nat.le_of_ble_eq_true rfl) ⟨rfl, rfl⟩ ⟨(Nat.le_of_ble_eq_true rfl), (Nat.le_of_ble_eq_true rfl)⟩ dX9_toLater_15 (fun m2 => ?_)
    exact x_vret rfl rfl ⟨(Nat.le_of_ble_eq_true rfl), (Nat.le_of_ble_eq_true rfl)⟩ dX9_toLater_18
abbrev kk_Wal_toWeekdayBehind : Kx := (yX9_toWeekdayBehind.cls, cX9_toWeekdayBehind, 2, none, [], false)
set_option maxHeartbeats 4000000 in
set_option maxRecDepth 100000 in
theorem c_Wal_toWeekdayBehind (ω : Wd) (a : Nat) (hT : zT a = 9) (p1 : Int32) (m : Mm) : Ev ω true 3 0 0 yX9_toWeekdayBehind cX9_toWeekdayBehind 2 none [.ref (zad ω a), .int p1] m fV (f_Wal_toWeekdayBehind a p1 m) := by
  refine Ev.of (b := false) (ls := [some (.ref (zad ω a)), some (.int p1)]) (plainFor_of_name (by decide +kernel)) (fun h => by cases h) rfl (Nat.le_of_ble_eq_true rfl) rfl ?_
  change Sx ω ω true 3 0 0 kk_Wal_toWeekdayBehind fV 0 0 m 0 _ _ _
  unfold f_Wal_toWeekdayBehind
  refine x_aload_n dX9_toWeekdayBehind_0 rfl ?_
  refine x_iconst (v := 1) dX9_toWeekdayBehind_1 (by decide) ?_
  refine x_aload_n dX9_toWeekdayBehind_2 rfl ?_
  refine x_aload_n dX9_toWeekdayBehind_3 rfl ?_
  refine y_getI fl_RX9_44 hT dX9_toWeekdayBehind_4 ?_
  refine x_iconst (v := 1) dX9_toWeekdayBehind_7 (by decide) ?_
  refine x_iadd dX9_toWeekdayBehind_8 ?_
  refine x_iload_n dX9_toWeekdayBehind_9 rfl ?_
  refine y_callVP (rest := [.int 1, .ref (zad ω a)]) (c1 := 0) (s1 := 0) (c_Wal_daysUntil ω a hT ((zI m a 5) + 1) p1 m) mv_RX9_58 hT rfl (Nat.le_of_ble_eq_true rfl) (Nat.le_of_ble_eq_true rfl) (Nat.le_of_ble_eq_true rfl) ⟨rfl, rfl⟩ ⟨(Nat.le_of_ble_eq_true rfl), (Nat.le_of_ble_eq_true rfl)⟩ dX9_toWeekdayBehind_10 (fun v1 => ?_)
  refine x_iadd dX9_toWeekdayBehind_13 ?_
  refine y_callVV (rest := []) (c1 := 0) (s1 := 0) (c_Wal_toLater ω a hT (1 + v1) m) mv_RX9_65 hT rfl (Nat.le_of_ble_eq_true rfl) (Nat.le_of_ble_eq_true rfl) (Nat.le_of_ble_eq_true rfl) ⟨rfl, rfl⟩ ⟨(Nat.le_of_ble_eq_true rfl), (Nat.le_of_ble_eq_true rfl)⟩ dX9_toWeekdayBehind_14 (fun m2 => ?_)
  exact x_vret rfl rfl ⟨(Nat.le_of_ble_eq_true rfl), (Nat.le_of_ble_eq_true rfl)⟩ dX9_toWeekdayBehind_17
abbrev kk_Wal_toWeekdayAhead : Kx := (yX9_toWeekdayAhead.cls, cX9_toWeekdayAhead, 2, none, [], false)
set_option maxHeartbeats 4000000 in
set_option maxRecDepth 100000 in
theorem c_Wal_toWeekdayAhead (ω : Wd) (a : Nat) (hT : zT a = 9) (p1 : Int32) (m : Mm) : Ev ω true 3 0 0 yX9_toWeekdayAhead cX9_toWeekdayAhead 2 none [.ref (zad ω a), .int p1] m fV (f_Wal_toWeekdayAhead a p1 m) := by
  refine Ev.of (b := false) (ls := [some (.ref (zad ω a)), some (.int p1)]) (plainFor_of_name (by decide +kernel)) (fun h => by cases h) rfl (Nat.le_of_ble_eq_true rfl) rfl ?_
  change Sx ω ω true 3 0 0 kk_Wal_toWeekdayAhead fV 0 0 m 0 _ _ _
  unfold f_Wal_toWeekdayAhead
  refine x_aload_n dX9_toWeekdayAhead_0 rfl ?_
  refine x_iconst (v := (-1)) dX9_toWeekdayAhead_1 (by decide) ?_
  refine x_aload_n dX9_toWeekdayAhead_2 rfl ?_
  refine x_aload_n dX9_toWeekdayAhead_3 rfl ?_
  refine y_getI fl_RX9_44 hT dX9_toWeekdayAhead_4 ?_
  refine x_iconst (v := 1) dX9_toWeekdayAhead_7 (by decide) ?_
  refine x_isub dX9_toWeekdayAhead_8 ?_
  refine x_iload_n dX9_toWeekdayAhead_9 rfl ?_
  refine y_callVP (rest := [.int (-1), .ref (zad ω a)]) (c1 := 0) (s1 := 0) (c_Wal_daysSince ω a hT ((zI m a 5) - 1) p1 m) mv_RX9_62 hT rfl (Nat.le_of_ble_eq_true rfl) (Nat.le_of_ble_eq_true rfl) (Nat.le_of_ble_eq_true rfl) ⟨rfl, rfl⟩ ⟨(Nat.le_of_ble_eq_true rfl), (Nat.le_of_ble_eq_true rfl)⟩ dX9_toWeekdayAhead_10 (fun v1 => ?_)
  refine x_isub dX9_toWeekdayAhead_13 ?_
  refine y_callVV (rest := []) (c1 := 0) (s1 := 0) (c_Wal_toLater ω a hT ((-1) - v1) m) mv_RX9_65 hT rfl (Nat.le_of_ble_eq_true rfl) (Nat.le_of_ble_eq_true rfl) (Nat.le_of_ble_eq_true rfl) ⟨rfl, rfl⟩ ⟨(Nat.le_of_ble_eq_true rfl), (Nat.le_of_ble_eq_true rfl)⟩ dX9_toWeekdayAhead_14 (fun m2 => ?_)
  exact x_vret rfl rfl ⟨(Nat.le_of_ble_eq_true rfl), (Nat.le_of_ble_eq_true rfl)⟩ dX9_toWeekdayAhead_17
abbrev kk_Wal_toWeekdayNotAhead : Kx := (yX9_toWeekdayNotAhead.cls, cX9_toWeekdayNotAhead, 2, none, [], false)
set_option maxHeartbeats 4000000 in
set_option maxRecDepth 100000 in
theorem c_Wal_toWeekdayNotAhead (ω : Wd) (a : Nat) (hT : zT a = 9) (p1 : Int32) (m : Mm) : Ev ω true 3 0 0 yX9_toWeekdayNotAhead cX9_toWeekdayNotAhead 2 none [.ref (zad ω a), .int p1] m fV (f_Wal_toWeekdayNotAhead a p1 m) := by
  refine Ev.of (b := false) (ls := [some (.ref (zad ω a)), some (.int p1)]) (plainFor_of_name (by decide +kernel)) (fun h => by cases h) rfl (Nat.le_of_ble_eq_true rfl) rfl ?_
  change Sx ω ω true 3 0 0 kk_Wal_toWeekdayNotAhead fV 0 0 m 0 _ _ _
  unfold f_Wal_toWeekdayNotAhead
  refine x_aload_n dX9_toWeekdayNotAhead_0 rfl ?_
  refine x_aload_n dX9_toWeekdayNotAhead_1 rfl ?_
  refine x_aload_n dX9_toWeekdayNotAhead_2 rfl ?_
  refine y_getI fl_RX9_44 hT dX9_toWeekdayNotAhead_3 ?_
  refine x_iload_n dX9_toWeekdayNotAhead_6 rfl ?_
  refine y_callVP (rest := [.ref (zad ω a)]) (c1 := 0) (s1 := 0) (c_Wal_daysUntil ω a hT (zI m a 5) p1 m) mv_RX9_58 hT rfl (Nat.le_of_ble_eq_true rfl) (Nat.le_of_ble_eq_true rfl) (Nat.le_of_ble_eq_true rfl) ⟨rfl, rfl⟩ ⟨(Nat.le_of_ble_eq_true rfl), (Nat.le_of_ble_eq_true rfl)⟩ dX9_toWeekdayNotAhead_7 (fun v1 => ?_)
  refine y_callVV (rest := []) (c1 := 0) (s1 := 0) (c_Wal_toLater ω a hT v1 m) mv_RX9_65 hT rfl (Nat.le_of_ble_eq_true rfl) (Nat.le_of_ble_eq_true rfl) (Nat.le_of_ble_eq_true rfl) ⟨rfl, rfl⟩ ⟨(Nat.le_of_ble_eq_true rfl), (Nat.le_of_ble_eq_true rfl)⟩ dX9_toWeekdayNotAhead_10 (fun m2 => ?_)
  exact x_vret rfl rfl ⟨(Nat.le_of_ble_eq_true rfl), (Nat.le_of_ble_eq_true rfl)⟩ dX9_toWeekdayNotAhead_13
abbrev kk_Wal_toWeekdayNotBehind : Kx := (yX9_toWeekdayNotBehind.cls, cX9_toWeekdayNotBehind, 2, none, [], false)
set_option maxHeartbeats 4000000 in
set_option maxRecDepth 100000 in
theorem c_Wal_toWeekdayNotBehind (ω : Wd) (a : Nat) (hT : zT a = 9) (p1 : Int32) (m : Mm) : Ev ω true 3 0 0 yX9_toWeekdayNotBehind cX9_toWeekdayNotBehind 2 none [.ref (zad ω a), .int p1] m fV (f_Wal_toWeekdayNotBehind a p1 m) := by
  refine Ev.of (b := false) (ls := [some (.ref (zad ω a)), some (.int p1)]) (plainFor_of_name (by decide +kernel)) (fun h => by cases h) rfl (Nat.le_of_ble_eq_true rfl) rfl ?_
  change Sx ω ω true 3 0 0 kk_Wal_toWeekdayNotBehind fV 0 0 m 0 _ _ _
  unfold f_Wal_toWeekdayNotBehind
  refine x_aload_n dX9_toWeekdayNotBehind_0 rfl ?_
  refine x_aload_n dX9_toWeekdayNotBehind_1 rfl ?_
  refine x_aload_n dX9_toWeekdayNotBehind_2 rfl ?_
  refine y_getI fl_RX9_44 hT dX9_toWeekdayNotBehind_3 ?_
  refine x_iload_n dX9_toWeekdayNotBehind_6 rfl ?_
  refine y_callVP (rest := [.ref (zad ω a)]) (c1 := 0) (s1 := 0) (c_Wal_daysSince ω a hT (zI m a 5) p1 m) mv_RX9_62 hT rfl (Nat.le_of_ble_eq_true rfl) (Nat.le_of_ble_eq_true rfl) (Nat.le_of_ble_eq_true rfl) ⟨rfl, rfl⟩ ⟨(Nat.le_of_ble_eq_true rfl), (Nat.le_of_ble_eq_true rfl)⟩ dX9_toWeekdayNotBehind_7 (fun v1 => ?_)
  refine x_ineg dX9_toWeekdayNotBehind_10 ?_
  refine y_callVV (rest := []) (c1 := 0) (s1 := 0) (c_Wal_toLater ω a hT (-v1) m) mv_RX9_65 hT rfl (Nat.le_of_ble_eq_true rfl) (Nat.le_of_ble_eq_true rfl) (Nat.le_of_ble_eq_true rfl) ⟨rfl, rfl⟩ ⟨(Nat.le_of_ble_eq_true rfl), (Nat.le_of_ble_eq_true rfl)⟩ dX9_toWeekdayNotBehind_11 (fun m2 => ?_)
  exact x_vret rfl rfl ⟨(Nat.le_of_ble_eq_true rfl), (Nat.le_of_ble_eq_true rfl)⟩ dX9_toWeekdayNotBehind_14
abbrev kk_Wal_toMoonOfAge : Kx := (yX9_toMoonOfAge.cls, cX9_toMoonOfAge, 4, none, [], false)
set_option maxHeartbeats 4000000 in
set_option maxRecDepth 100000 in
theorem c_Wal_toMoonOfAge (ω : Wd) (a : Nat) (hT : zT a = 9) (p1 : Int32) (m : Mm) : Ev ω true 3 0 0 yX9_toMoonOfAge cX9_toMoonOfAge 4 none [.ref (zad ω a), .int p1] m fV (f_Wal_toMoonOfAge a p1 m) := by
  refine Ev.of (b := false) (ls := [some (.ref (zad ω a)), some (.int p1), none, none]) (plainFor_of_name (by decide +kernel)) (fun h => by cases h) rfl (Nat.le_of_ble_eq_true rfl) rfl ?_
  change Sx ω ω true 3 0 0 kk_Wal_toMoonOfAge fV 0 0 m 0 _ _ _
  unfold f_Wal_toMoonOfAge
  refine x_aload_n dX9_toMoonOfAge_0 rfl ?_
  refine y_getI fl_RX9_44 hT dX9_toMoonOfAge_1 ?_
  refine x_iconst (v := (-1)) dX9_toMoonOfAge_4 (by decide) ?_
  refine x_icmp_ne (tgt := 9) dX9_toMoonOfAge_5 (by decide) (fun hc1 => ?_) (fun hc1 => ?_)
  · exact x_vret rfl rfl ⟨(Nat.le_of_ble_eq_true rfl), (Nat.le_of_ble_eq_true rfl)⟩ dX9_toMoonOfAge_8
  · refine x_aload_n dX9_toMoonOfAge_9 rfl ?_
    refine y_getI fl_RX9_35 hT dX9_toMoonOfAge_10 ?_
    refine x_aload_n dX9_toMoonOfAge_13 rfl ?_
    refine y_getI fl_RX9_44 hT dX9_toMoonOfAge_14 ?_
    refine x_iadd dX9_toMoonOfAge_17 ?_
    refine x_aload_n dX9_toMoonOfAge_18 rfl ?_
    refine y_getI fl_RX9_9 hT dX9_toMoonOfAge_19 ?_
    refine y_callSP (rest := []) (c1 := 0) (s1 := 0) (c_Cal_lastMoon ω ((zI m a 3) + (zI m a 5)) (zI m a 0) m) ms_RX9_68 rfl (Nat.le_of_ble_eq_true rfl) (Nat.le_of_ble_eq_true rfl) (Nat.le_of_ble_eq_true rfl) ⟨rfl, rfl⟩ ⟨(Nat.le_of_ble_eq_true rfl), (Nat.le_of_ble_eq_true rfl)⟩ dX9_toMoonOfAge_22 (fun v2 => ?_)
    refine x_istore_n (ls' := [some (.ref (zad ω a)), some (.int p1), some (.int v2), none]) dX9_toMoonOfAge_25 (Nat.le_of_ble_eq_true rfl) rfl ?_
    refine x_iload_n dX9_toMoonOfAge_26 rfl ?_
    refine x_aload_n dX9_toMoonOfAge_27 rfl ?_
    refine y_getI fl_RX9_9 hT dX9_toMoonOfAge_28 ?_
    refine y_callSP (rest := []) (c1 := 0) (s1 := 0) (c_Cal_newMoon ω v2 (zI m a 0) m) ms_RX9_71 rfl (Nat.le_of_ble_eq_true rfl) (Nat.le_of_ble_eq_true rfl) (Nat.le_of_ble_eq_true rfl) ⟨rfl, rfl⟩ ⟨(Nat.le_of_ble_eq_true rfl), (Nat.le_of_ble_eq_true rfl)⟩ dX9_toMoonOfAge_31 (fun v3 => ?_)
    refine x_iload_n dX9_toMoonOfAge_34 rfl ?_
    refine x_iadd dX9_toMoonOfAge_35 ?_
    refine x_aload_n dX9_toMoonOfAge_36 rfl ?_
    refine y_getI fl_RX9_35 hT dX9_toMoonOfAge_37 ?_
    refine x_isub dX9_toMoonOfAge_40 ?_
    refine y_letI (fun x4 => ?_)
    refine x_istore_n (ls' := [some (.ref (zad ω a)), some (.int p1), some (.int v2), some (.int x4)]) dX9_toMoonOfAge_41 (Nat.le_of_ble_eq_true rfl) rfl ?_
    refine x_aload_n dX9_toMoonOfAge_42 rfl ?_
    refine x_iload_n dX9_toMoonOfAge_43 rfl ?_
    refine x_aload_n dX9_toMoonOfAge_44 rfl ?_
    refine y_getI fl_RX9_44 hT dX9_toMoonOfAge_45 ?_
    refine y_join (fun j7 => ∀ (x6 : Int32), Sx ω ω true 3 0 0 kk_Wal_toMoonOfAge fV 0 0 m 72 [none, none, none, none] [.int x6, .ref (zad ω a)] (j7 x6)) ?_ (fun j7 hj7 => ?_)
    · intro x6
      refine y_callVV (rest := []) (c1 := 0) (s1 := 0) (c_Wal_toDay ω a hT x6 m) mv_RX9_51 hT rfl (Nat.le_of_ble_eq_true rfl) (Nat.le_of_ble_eq_true rfl) (Nat.le_of_ble_eq_true rfl) ⟨rfl, rfl⟩ ⟨(Nat.le_of_ble_eq_true rfl), (Nat.le_of_ble_eq_true rfl)⟩ dX9_toMoonOfAge_72 (fun m8 => ?_)
      exact x_vret rfl rfl ⟨(Nat.le_of_ble_eq_true rfl), (Nat.le_of_ble_eq_true rfl)⟩ dX9_toMoonOfAge_75
    · refine x_icmp_lt (tgt := 55) dX9_toMoonOfAge_48 (by decide) (fun hc5 => ?_) (fun hc5 => ?_)
      · refine x_iload_n dX9_toMoonOfAge_55 rfl ?_
        refine x_iconst (v := 1) dX9_toMoonOfAge_56 (by decide) ?_
        refine x_iadd dX9_toMoonOfAge_57 ?_
        refine x_aload_n dX9_toMoonOfAge_58 rfl ?_
        refine y_getI fl_RX9_9 hT dX9_toMoonOfAge_59 ?_
        refine y_callSP (rest := [.ref (zad ω a)]) (c1 := 0) (s1 := 0) (c_Cal_newMoon ω (v2 + 1) (zI m a 0) m) ms_RX9_71 rfl (Nat.le_of_ble_eq_true rfl) (Nat.le_of_ble_eq_true rfl) (Nat.le_of_ble_eq_true rfl) ⟨rfl, rfl⟩ ⟨(Nat.le_of_ble_eq_true rfl), (Nat.le_of_ble_eq_true rfl)⟩ dX9_toMoonOfAge_62 (fun v9 => ?_)
        refine x_iload_n dX9_toMoonOfAge_65 rfl ?_
        refine x_iadd dX9_toMoonOfAge_66 ?_
        refine x_aload_n dX9_toMoonOfAge_67 rfl ?_
        refine y_getI fl_RX9_35 hT dX9_toMoonOfAge_68 ?_
        refine x_isub dX9_toMoonOfAge_71 ?_
        refine y_mask (bs := [false, false, false, false]) (ls' := [none, none, none, none]) rfl ?_
        exact hj7 _
      · refine x_iload_n dX9_toMoonOfAge_51 rfl ?_
        refine x_goto (tgt := 72) dX9_toMoonOfAge_52 (by decide) ?_
        refine y_mask (bs := [false, false, false, false]) (ls' := [none, none, none, none]) rfl ?_
        exact hj7 _
abbrev kk_Wal_toNone : Kx := (yX9_toNone.cls, cX9_toNone, 1, none, [], false)
set_option maxHeartbeats 4000000 in
set_option maxRecDepth 100000 in
theorem c_Wal_toNone (ω : Wd) (a : Nat) (hT : zT a = 9) (m : Mm) : Ev ω true 1 0 0 yX9_toNone cX9_toNone 1 none [.ref (zad ω a)] m fV (f_Wal_toNone a m) := by
  refine Ev.of (b := false) (ls := [some (.ref (zad ω a))]) (plainFor_of_name (by decide +kernel)) (fun h => by cases h) rfl (Nat.le_of_ble_eq_true rfl) rfl ?_
  change Sx ω ω true 1 0 0 kk_Wal_toNone fV 0 0 m 0 _ _ _
  unfold f_Wal_toNone
  refine x_aload_n dX9_toNone_0 rfl ?_
  refine x_iconst (v := (-1)) dX9_toNone_1 (by decide) ?_
  refine y_putI fp_RX9_44 hT dX9_toNone_2 ?_
  refine y_letM (fun m1 => ?_)
  exact x_vret rfl rfl ⟨(Nat.le_of_ble_eq_true rfl), (Nat.le_of_ble_eq_true rfl)⟩ dX9_toNone_5
abbrev kk_Wal_today : Kx := (yX9_today.cls, cX9_today, 1, (some .int), [], false)
set_option maxHeartbeats 4000000 in
set_option maxRecDepth 100000 in
theorem c_Wal_today (ω : Wd) (a : Nat) (hT : zT a = 9) (m : Mm) : Ev ω true 1 0 0 yX9_today cX9_today 1 (some .int) [.ref (zad ω a)] m (fP m) (f_Wal_today a m) := by
  refine Ev.of (b := false) (ls := [some (.ref (zad ω a))]) (plainFor_of_name (by decide +kernel)) (fun h => by cases h) rfl (Nat.le_of_ble_eq_true rfl) rfl ?_
  change Sx ω ω true 1 0 0 kk_Wal_today (fP m) 0 0 m 0 _ _ _
  unfold f_Wal_today
  refine x_aload_n dX9_today_0 rfl ?_
  refine y_getI fl_RX9_44 hT dX9_today_1 ?_
  exact x_iret rfl rfl ⟨(Nat.le_of_ble_eq_true rfl), (Nat.le_of_ble_eq_true rfl)⟩ dX9_today_4
