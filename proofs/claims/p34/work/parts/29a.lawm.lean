abbrev kk_Law_cell : Kx := (yL_cell.cls, cL_cell, 2, (some .int), [], false)
set_option maxHeartbeats 4000000 in
set_option maxRecDepth 100000 in
theorem c_Law_cell (ω : Wd) (p2 : Int32) (m : Mm) : Ev ω true 1 0 0 yL_cell cL_cell 2 (some .int) [.ref (oX ω 1), .int p2] m (fP m) (f_Law_cell ω p2 m) := by
  refine Ev.of (b := false) (ls := [some (.ref (oX ω 1)), some (.int p2)]) (plainFor_of_name (by decide +kernel)) (fun h => by cases h) rfl (Nat.le_of_ble_eq_true rfl) rfl ?_
  change Sx ω ω true 1 0 0 kk_Law_cell (fP m) 0 0 m 0 _ _ _
  unfold f_Law_cell
  refine x_iload_n dL_cell_0 rfl ?_
  refine x_aload_n dL_cell_1 rfl ?_
  refine x_slen dL_cell_2 ?_
  refine x_icmp_ge (tgt := 12) dL_cell_3 (by decide) (fun hc1 => ?_) (fun hc1 => ?_)
  · refine x_ldcI (v := 1000308263) ci_RL_7 dL_cell_12 ?_
    refine x_iload_n dL_cell_14 rfl ?_
    refine x_iconst (v := 1) dL_cell_15 (by decide) ?_
    refine x_iadd dL_cell_16 ?_
    refine x_imul dL_cell_17 ?_
    refine x_ldcI (v := 751363437) ci_RL_8 dL_cell_18 ?_
    refine x_iadd dL_cell_20 ?_
    exact x_iretF zXt.refl rfl rfl ⟨(Nat.le_of_ble_eq_true rfl), (Nat.le_of_ble_eq_true rfl)⟩ dL_cell_21
  · refine x_aload_n dL_cell_6 rfl ?_
    refine x_iload_n dL_cell_7 rfl ?_
    refine x_sld dL_cell_8 (fun hi => ?_)
    refine x_goto (tgt := 21) dL_cell_9 (by decide) ?_
    exact x_iretF zXt.refl rfl rfl ⟨(Nat.le_of_ble_eq_true rfl), (Nat.le_of_ble_eq_true rfl)⟩ dL_cell_21
abbrev kk_Law_low : Kx := (yL_low.cls, cL_low, 2, (some .int), [], false)
set_option maxHeartbeats 4000000 in
set_option maxRecDepth 100000 in
theorem c_Law_low (ω : Wd) (p1 : Int32) (p2 : Int32) (m : Mm) : Ev ω true 1 0 0 yL_low cL_low 2 (some .int) [.int p1, .int p2] m (fP m) (f_Law_low p1 p2 m) := by
  refine Ev.of (b := false) (ls := [some (.int p1), some (.int p2)]) (plainFor_of_name (by decide +kernel)) (fun h => by cases h) rfl (Nat.le_of_ble_eq_true rfl) rfl ?_
  change Sx ω ω true 1 0 0 kk_Law_low (fP m) 0 0 m 0 _ _ _
  unfold f_Law_low
  refine x_iload_n dL_low_0 rfl ?_
  refine x_ldcI (v := 2147483647) ci_RL_9 dL_low_1 ?_
  refine x_iand dL_low_3 ?_
  refine x_iload_n dL_low_4 rfl ?_
  refine x_guard (fun hz => ?_)
  refine x_irem dL_low_5 hz ?_
  exact x_iretF zXt.refl rfl rfl ⟨(Nat.le_of_ble_eq_true rfl), (Nat.le_of_ble_eq_true rfl)⟩ dL_low_6
abbrev kk_Law_leap : Kx := (yL_leap.cls, cL_leap, 1, (some .boolean), [], false)
set_option maxHeartbeats 4000000 in
set_option maxRecDepth 100000 in
theorem c_Law_leap (ω : Wd) (p1 : Int32) (m : Mm) : Ev ω true 1 0 0 yL_leap cL_leap 1 (some .boolean) [.int p1] m (fP m) (f_Law_leap p1 m) := by
  refine Ev.of (b := false) (ls := [some (.int p1)]) (plainFor_of_name (by decide +kernel)) (fun h => by cases h) rfl (Nat.le_of_ble_eq_true rfl) rfl ?_
  change Sx ω ω true 1 0 0 kk_Law_leap (fP m) 0 0 m 0 _ _ _
  unfold f_Law_leap
  refine x_iload_n dL_leap_0 rfl ?_
  refine x_sipush (v := 400) dL_leap_1 (by decide) ?_
  refine x_irem dL_leap_4 (by decide) ?_
  refine y_join (fun j2 => Sx ω ω true 1 0 0 kk_Law_leap (fP m) 0 0 m 21 [none] [] j2) ?_ (fun j2 hj2 => ?_)
  · refine x_iconst (v := 1) dL_leap_21 (by decide) ?_
    refine x_goto (tgt := 26) dL_leap_22 (by decide) ?_
    exact x_zretF zXt.refl rfl rfl (zBo_nar (by decide)) ⟨(Nat.le_of_ble_eq_true rfl), (Nat.le_of_ble_eq_true rfl)⟩ dL_leap_26
  · refine x_if_eq (tgt := 21) dL_leap_5 (by decide) (fun hc1 => ?_) (fun hc1 => ?_)
    · refine y_mask (bs := [false]) (ls' := [none]) rfl ?_
      exact hj2
    · refine x_iload_n dL_leap_8 rfl ?_
      refine x_iconst (v := 4) dL_leap_9 (by decide) ?_
      refine x_irem dL_leap_10 (by decide) ?_
      refine y_join (fun j4 => Sx ω ω true 1 0 0 kk_Law_leap (fP m) 0 0 m 25 [none] [] j4) ?_ (fun j4 hj4 => ?_)
      · refine x_iconst (v := 0) dL_leap_25 (by decide) ?_
        exact x_zretF zXt.refl rfl rfl (zBo_nar (by decide)) ⟨(Nat.le_of_ble_eq_true rfl), (Nat.le_of_ble_eq_true rfl)⟩ dL_leap_26
      · refine x_if_ne (tgt := 25) dL_leap_11 (by decide) (fun hc3 => ?_) (fun hc3 => ?_)
        · refine x_iload_n dL_leap_14 rfl ?_
          refine x_bipush (v := 100) dL_leap_15 (by decide) ?_
          refine x_irem dL_leap_17 (by decide) ?_
          refine x_if_le (tgt := 25) dL_leap_18 (by decide) (fun hc5 => ?_) (fun hc5 => ?_)
          · refine y_mask (bs := [false]) (ls' := [none]) rfl ?_
            exact hj4
          · refine y_mask (bs := [false]) (ls' := [none]) rfl ?_
            exact hj2
        · refine y_mask (bs := [false]) (ls' := [none]) rfl ?_
          exact hj4
abbrev kk_Law_month : Kx := (yL_month.cls, cL_month, 2, (some .int), [], false)
set_option maxHeartbeats 4000000 in
set_option maxRecDepth 100000 in
theorem c_Law_month (ω : Wd) (p1 : Int32) (p2 : Int32) (m : Mm) : Ev ω true 2 0 0 yL_month cL_month 2 (some .int) [.int p1, .int p2] m (fP m) (f_Law_month p1 p2 m) := by
  refine Ev.of (b := false) (ls := [some (.int p1), some (.int p2)]) (plainFor_of_name (by decide +kernel)) (fun h => by cases h) rfl (Nat.le_of_ble_eq_true rfl) rfl ?_
  change Sx ω ω true 2 0 0 kk_Law_month (fP m) 0 0 m 0 _ _ _
  unfold f_Law_month
  refine x_iload_n dL_month_0 rfl ?_
  refine x_iconst (v := 2) dL_month_1 (by decide) ?_
  refine x_icmp_ne (tgt := 22) dL_month_2 (by decide) (fun hc1 => ?_) (fun hc1 => ?_)
  · refine x_iload_n dL_month_5 rfl ?_
    refine y_callSP (rest := []) (c1 := 0) (s1 := 0) (c_Law_leap ω p1 m) ms_RL_10 rfl (Nat.le_of_ble_eq_true rfl) (Nat.le_of_ble_eq_true rfl) (Nat.le_of_ble_eq_true rfl) ⟨rfl, rfl⟩ ⟨(Nat.le_of_ble_eq_true rfl), (Nat.le_of_ble_eq_true rfl)⟩ dL_month_6 (fun v2 => ?_)
    refine x_if_eq (tgt := 17) dL_month_9 (by decide) (fun hc3 => ?_) (fun hc3 => ?_)
    · refine x_bipush (v := 28) dL_month_17 (by decide) ?_
      refine x_goto (tgt := 33) dL_month_19 (by decide) ?_
      exact x_iretF zXt.refl rfl rfl ⟨(Nat.le_of_ble_eq_true rfl), (Nat.le_of_ble_eq_true rfl)⟩ dL_month_33
    · refine x_bipush (v := 29) dL_month_12 (by decide) ?_
      refine x_goto (tgt := 33) dL_month_14 (by decide) ?_
      exact x_iretF zXt.refl rfl rfl ⟨(Nat.le_of_ble_eq_true rfl), (Nat.le_of_ble_eq_true rfl)⟩ dL_month_33
  · refine x_bipush (v := 30) dL_month_22 (by decide) ?_
    refine x_iload_n dL_month_24 rfl ?_
    refine x_iload_n dL_month_25 rfl ?_
    refine x_bipush (v := 8) dL_month_26 (by decide) ?_
    refine x_idiv dL_month_28 (by decide) ?_
    refine x_iadd dL_month_29 ?_
    refine x_iconst (v := 2) dL_month_30 (by decide) ?_
    refine x_irem dL_month_31 (by decide) ?_
    refine x_iadd dL_month_32 ?_
    exact x_iretF zXt.refl rfl rfl ⟨(Nat.le_of_ble_eq_true rfl), (Nat.le_of_ble_eq_true rfl)⟩ dL_month_33
abbrev kk_Law_days : Kx := (yL_days.cls, cL_days, 1, (some .int), [], false)
set_option maxHeartbeats 4000000 in
set_option maxRecDepth 100000 in
theorem c_Law_days (ω : Wd) (p1 : Int32) (m : Mm) : Ev ω true 2 0 0 yL_days cL_days 1 (some .int) [.int p1] m (fP m) (f_Law_days p1 m) := by
  refine Ev.of (b := false) (ls := [some (.int p1)]) (plainFor_of_name (by decide +kernel)) (fun h => by cases h) rfl (Nat.le_of_ble_eq_true rfl) rfl ?_
  change Sx ω ω true 2 0 0 kk_Law_days (fP m) 0 0 m 0 _ _ _
  unfold f_Law_days
  refine x_iload_n dL_days_0 rfl ?_
  refine y_callSP (rest := []) (c1 := 0) (s1 := 0) (c_Law_leap ω p1 m) ms_RL_10 rfl (Nat.le_of_ble_eq_true rfl) (Nat.le_of_ble_eq_true rfl) (Nat.le_of_ble_eq_true rfl) ⟨rfl, rfl⟩ ⟨(Nat.le_of_ble_eq_true rfl), (Nat.le_of_ble_eq_true rfl)⟩ dL_days_1 (fun v1 => ?_)
  refine x_if_eq (tgt := 13) dL_days_4 (by decide) (fun hc2 => ?_) (fun hc2 => ?_)
  · refine x_sipush (v := 365) dL_days_13 (by decide) ?_
    exact x_iretF zXt.refl rfl rfl ⟨(Nat.le_of_ble_eq_true rfl), (Nat.le_of_ble_eq_true rfl)⟩ dL_days_16
  · refine x_sipush (v := 366) dL_days_7 (by decide) ?_
    refine x_goto (tgt := 16) dL_days_10 (by decide) ?_
    exact x_iretF zXt.refl rfl rfl ⟨(Nat.le_of_ble_eq_true rfl), (Nat.le_of_ble_eq_true rfl)⟩ dL_days_16
abbrev kk_Law_great : Kx := (yL_great.cls, cL_great, 3, (some .int), [], false)
set_option maxHeartbeats 4000000 in
set_option maxRecDepth 100000 in
theorem c_Law_great (ω : Wd) (p1 : Int32) (m : Mm) : Ev ω true 3 0 0 yL_great cL_great 3 (some .int) [.int p1] m (fP m) (f_Law_great p1 m) := by
  refine Ev.of (b := false) (ls := [some (.int p1), none, none]) (plainFor_of_name (by decide +kernel)) (fun h => by cases h) rfl (Nat.le_of_ble_eq_true rfl) rfl ?_
  change Sx ω ω true 3 0 0 kk_Law_great (fP m) 0 0 m 0 _ _ _
  unfold f_Law_great
  refine x_iconst (v := 0) dL_great_0 (by decide) ?_
  refine x_istore_n (ls' := [some (.int p1), some (.int 0), none]) dL_great_1 (Nat.le_of_ble_eq_true rfl) rfl ?_
  refine x_iconst (v := 0) dL_great_2 (by decide) ?_
  refine x_istore_n (ls' := [some (.int p1), some (.int 0), some (.int 0)]) dL_great_3 (Nat.le_of_ble_eq_true rfl) rfl ?_
  refine y_Lq2 (fun x1 x2 => [some (.int p1), some (.int x1), some (.int x2)]) (fun r3 hr3 x1 x2 => ?_) zFu _ _
  refine x_iload_n dL_great_4 rfl ?_
  refine x_iload_n dL_great_5 rfl ?_
  refine x_icmp_ge (tgt := 22) dL_great_6 (by decide) (fun hc4 => ?_) (fun hc4 => ?_)
  · refine x_iload_n dL_great_22 rfl ?_
    exact x_iretF zXt.refl rfl rfl ⟨(Nat.le_of_ble_eq_true rfl), (Nat.le_of_ble_eq_true rfl)⟩ dL_great_23
  · refine x_iload_n dL_great_9 rfl ?_
    refine x_iload_n dL_great_10 rfl ?_
    refine y_callSP (rest := [.int x1]) (c1 := 0) (s1 := 0) (c_Law_days ω x2 m) ms_RL_16 rfl (Nat.le_of_ble_eq_true rfl) (Nat.le_of_ble_eq_true rfl) (Nat.le_of_ble_eq_true rfl) ⟨rfl, rfl⟩ ⟨(Nat.le_of_ble_eq_true rfl), (Nat.le_of_ble_eq_true rfl)⟩ dL_great_11 (fun v5 => ?_)
    refine x_iadd dL_great_14 ?_
    refine y_letI (fun x6 => ?_)
    refine x_istore_n (ls' := [some (.int p1), some (.int x6), some (.int x2)]) dL_great_15 (Nat.le_of_ble_eq_true rfl) rfl ?_
    refine y_iinc (w := 1) dL_great_16 rfl (by decide) (Nat.le_of_ble_eq_true rfl) (fun x7 => ?_)
    refine x_goto (tgt := 4) dL_great_19 (by decide) ?_
    exact hr3 _ _
abbrev kk_Law_day : Kx := (yL_day.cls, cL_day, 4, (some .int), [], false)
set_option maxHeartbeats 4000000 in
set_option maxRecDepth 100000 in
theorem c_Law_day (ω : Wd) (p1 : Int32) (p2 : Int32) (m : Mm) : Ev ω true 3 0 0 yL_day cL_day 4 (some .int) [.int p1, .int p2] m (fP m) (f_Law_day p1 p2 m) := by
  refine Ev.of (b := false) (ls := [some (.int p1), some (.int p2), none, none]) (plainFor_of_name (by decide +kernel)) (fun h => by cases h) rfl (Nat.le_of_ble_eq_true rfl) rfl ?_
  change Sx ω ω true 3 0 0 kk_Law_day (fP m) 0 0 m 0 _ _ _
  unfold f_Law_day
  refine x_iload_n dL_day_0 rfl ?_
  refine x_bipush (v := 100) dL_day_1 (by decide) ?_
  refine x_irem dL_day_3 (by decide) ?_
  refine x_iconst (v := 1) dL_day_4 (by decide) ?_
  refine x_isub dL_day_5 ?_
  refine y_letI (fun x1 => ?_)
  refine x_istore_n (ls' := [some (.int p1), some (.int p2), some (.int x1), none]) dL_day_6 (Nat.le_of_ble_eq_true rfl) rfl ?_
  refine x_iconst (v := 1) dL_day_7 (by decide) ?_
  refine x_istore_n (ls' := [some (.int p1), some (.int p2), some (.int x1), some (.int 1)]) dL_day_8 (Nat.le_of_ble_eq_true rfl) rfl ?_
  refine y_Lq2 (fun x2 x3 => [some (.int p1), some (.int p2), some (.int x2), some (.int x3)]) (fun r4 hr4 x2 x3 => ?_) zFu _ _
  refine x_iload_n dL_day_9 rfl ?_
  refine x_iload_n dL_day_10 rfl ?_
  refine x_bipush (v := 100) dL_day_11 (by decide) ?_
  refine x_idiv dL_day_13 (by decide) ?_
  refine x_icmp_ge (tgt := 31) dL_day_14 (by decide) (fun hc5 => ?_) (fun hc5 => ?_)
  · refine x_iload_n dL_day_31 rfl ?_
    refine x_bipush (v := 100) dL_day_32 (by decide) ?_
    refine x_irem dL_day_34 (by decide) ?_
    refine x_iload_n dL_day_35 rfl ?_
    refine x_iload_n dL_day_36 rfl ?_
    refine x_bipush (v := 100) dL_day_37 (by decide) ?_
    refine x_idiv dL_day_39 (by decide) ?_
    refine y_callSP (rest := [.int (p2 % 100)]) (c1 := 0) (s1 := 0) (c_Law_month ω p1 (p2 / 100) m) ms_RL_20 rfl (Nat.le_of_ble_eq_true rfl) (Nat.le_of_ble_eq_true rfl) (Nat.le_of_ble_eq_true rfl) ⟨rfl, rfl⟩ ⟨(Nat.le_of_ble_eq_true rfl), (Nat.le_of_ble_eq_true rfl)⟩ dL_day_40 (fun v6 => ?_)
    refine x_icmp_le (tgt := 50) dL_day_43 (by decide) (fun hc7 => ?_) (fun hc7 => ?_)
    · refine x_iload_n dL_day_50 rfl ?_
      exact x_iretF zXt.refl rfl rfl ⟨(Nat.le_of_ble_eq_true rfl), (Nat.le_of_ble_eq_true rfl)⟩ dL_day_51
    · refine x_iconst (v := (-1)) dL_day_46 (by decide) ?_
      refine x_goto (tgt := 51) dL_day_47 (by decide) ?_
      exact x_iretF zXt.refl rfl rfl ⟨(Nat.le_of_ble_eq_true rfl), (Nat.le_of_ble_eq_true rfl)⟩ dL_day_51
  · refine x_iload_n dL_day_17 rfl ?_
    refine x_iload_n dL_day_18 rfl ?_
    refine x_iload_n dL_day_19 rfl ?_
    refine y_callSP (rest := [.int x2]) (c1 := 0) (s1 := 0) (c_Law_month ω p1 x3 m) ms_RL_20 rfl (Nat.le_of_ble_eq_true rfl) (Nat.le_of_ble_eq_true rfl) (Nat.le_of_ble_eq_true rfl) ⟨rfl, rfl⟩ ⟨(Nat.le_of_ble_eq_true rfl), (Nat.le_of_ble_eq_true rfl)⟩ dL_day_20 (fun v8 => ?_)
    refine x_iadd dL_day_23 ?_
    refine y_letI (fun x9 => ?_)
    refine x_istore_n (ls' := [some (.int p1), some (.int p2), some (.int x9), some (.int x3)]) dL_day_24 (Nat.le_of_ble_eq_true rfl) rfl ?_
    refine y_iinc (w := 1) dL_day_25 rfl (by decide) (Nat.le_of_ble_eq_true rfl) (fun x10 => ?_)
    refine x_goto (tgt := 9) dL_day_28 (by decide) ?_
    exact hr4 _ _
abbrev kk_Law_date : Kx := (yL_date.cls, cL_date, 4, (some .int), [], false)
set_option maxHeartbeats 4000000 in
set_option maxRecDepth 100000 in
theorem c_Law_date (ω : Wd) (p1 : Int32) (p2 : Int32) (m : Mm) : Ev ω true 3 0 0 yL_date cL_date 4 (some .int) [.int p1, .int p2] m (fP m) (f_Law_date p1 p2 m) := by
  refine Ev.of (b := false) (ls := [some (.int p1), some (.int p2), none, none]) (plainFor_of_name (by decide +kernel)) (fun h => by cases h) rfl (Nat.le_of_ble_eq_true rfl) rfl ?_
  change Sx ω ω true 3 0 0 kk_Law_date (fP m) 0 0 m 0 _ _ _
  unfold f_Law_date
  refine x_iconst (v := 1) dL_date_0 (by decide) ?_
  refine x_istore_n (ls' := [some (.int p1), some (.int p2), some (.int 1), none]) dL_date_1 (Nat.le_of_ble_eq_true rfl) rfl ?_
  refine x_iload_n dL_date_2 rfl ?_
  refine x_istore_n (ls' := [some (.int p1), some (.int p2), some (.int 1), some (.int p2)]) dL_date_3 (Nat.le_of_ble_eq_true rfl) rfl ?_
  refine y_mask (bs := [true, false, true, true]) (ls' := [some (.int p1), none, some (.int 1), some (.int p2)]) rfl ?_
  refine y_Lq2 (fun x1 x2 => [some (.int p1), none, some (.int x1), some (.int x2)]) (fun r3 hr3 x1 x2 => ?_) zFu _ _
  refine x_iload_n dL_date_4 rfl ?_
  refine x_iload_n dL_date_5 rfl ?_
  refine x_iload_n dL_date_6 rfl ?_
  refine y_callSP (rest := [.int x2]) (c1 := 0) (s1 := 0) (c_Law_month ω p1 x1 m) ms_RL_20 rfl (Nat.le_of_ble_eq_true rfl) (Nat.le_of_ble_eq_true rfl) (Nat.le_of_ble_eq_true rfl) ⟨rfl, rfl⟩ ⟨(Nat.le_of_ble_eq_true rfl), (Nat.le_of_ble_eq_true rfl)⟩ dL_date_7 (fun v4 => ?_)
  refine x_icmp_lt (tgt := 27) dL_date_10 (by decide) (fun hc5 => ?_) (fun hc5 => ?_)
  · refine x_bipush (v := 100) dL_date_27 (by decide) ?_
    refine x_iload_n dL_date_29 rfl ?_
    refine x_imul dL_date_30 ?_
    refine x_iload_n dL_date_31 rfl ?_
    refine x_iadd dL_date_32 ?_
    refine x_iconst (v := 1) dL_date_33 (by decide) ?_
    refine x_iadd dL_date_34 ?_
    exact x_iretF zXt.refl rfl rfl ⟨(Nat.le_of_ble_eq_true rfl), (Nat.le_of_ble_eq_true rfl)⟩ dL_date_35
  · refine x_iload_n dL_date_13 rfl ?_
    refine x_iload_n dL_date_14 rfl ?_
    refine x_iload_n dL_date_15 rfl ?_
    refine y_callSP (rest := [.int x2]) (c1 := 0) (s1 := 0) (c_Law_month ω p1 x1 m) ms_RL_20 rfl (Nat.le_of_ble_eq_true rfl) (Nat.le_of_ble_eq_true rfl) (Nat.le_of_ble_eq_true rfl) ⟨rfl, rfl⟩ ⟨(Nat.le_of_ble_eq_true rfl), (Nat.le_of_ble_eq_true rfl)⟩ dL_date_16 (fun v6 => ?_)
    refine x_isub dL_date_19 ?_
    refine y_letI (fun x7 => ?_)
    refine x_istore_n (ls' := [some (.int p1), none, some (.int x1), some (.int x7)]) dL_date_20 (Nat.le_of_ble_eq_true rfl) rfl ?_
    refine y_iinc (w := 1) dL_date_21 rfl (by decide) (Nat.le_of_ble_eq_true rfl) (fun x8 => ?_)
    refine x_goto (tgt := 4) dL_date_24 (by decide) ?_
    exact hr3 _ _
abbrev kk_Law_isNew : Kx := (yL_isNew.cls, cL_isNew, 6, (some .boolean), [], false)
set_option maxHeartbeats 4000000 in
set_option maxRecDepth 100000 in
theorem c_Law_isNew (ω : Wd) (p1 : Int32) (p2 : Int32) (m : Mm) : Ev ω true 1 0 0 yL_isNew cL_isNew 6 (some .boolean) [.int p1, .int p2] m (fP m) (f_Law_isNew p1 p2 m) := by
  refine Ev.of (b := false) (ls := [some (.int p1), some (.int p2), none, none, none, none]) (plainFor_of_name (by decide +kernel)) (fun h => by cases h) rfl (Nat.le_of_ble_eq_true rfl) rfl ?_
  change Sx ω ω true 1 0 0 kk_Law_isNew (fP m) 0 0 m 0 _ _ _
  unfold f_Law_isNew
  refine x_iload_n dL_isNew_0 rfl ?_
  refine y_join (fun j3 => ∀ (x2 : Int32), Sx ω ω true 1 0 0 kk_Law_isNew (fP m) 0 0 m 13 [some (.int p1), some (.int p2), none, none, none, none] [.int x2] (j3 x2)) ?_ (fun j3 hj3 => ?_)
  · intro x2
    refine x_istore_n (ls' := [some (.int p1), some (.int p2), some (.int x2), none, none, none]) dL_isNew_13 (Nat.le_of_ble_eq_true rfl) rfl ?_
    refine x_iload_n dL_isNew_14 rfl ?_
    refine y_join (fun j6 => ∀ (x5 : Int32), Sx ω ω true 1 0 0 kk_Law_isNew (fP m) 0 0 m 26 [some (.int p1), some (.int p2), some (.int x2), none, none, none] [.int x5] (j6 x5)) ?_ (fun j6 hj6 => ?_)
    · intro x5
      refine x_istore_n (ls' := [some (.int p1), some (.int p2), some (.int x2), some (.int x5), none, none]) dL_isNew_26 (Nat.le_of_ble_eq_true rfl) rfl ?_
      refine x_iload_n dL_isNew_27 rfl ?_
      refine x_iload_n dL_isNew_28 rfl ?_
      refine y_join (fun j9 => ∀ (x8 : Int32), Sx ω ω true 1 0 0 kk_Law_isNew (fP m) 0 0 m 38 [none, none, some (.int x2), some (.int x5), none, none] [.int x8, .int p1] (j9 x8)) ?_ (fun j9 hj9 => ?_)
      · intro x8
        refine x_isub dL_isNew_38 ?_
        refine x_iload_n dL_isNew_39 rfl ?_
        refine x_iadd dL_isNew_40 ?_
        refine y_letI (fun x10 => ?_)
        refine x_istore (ls' := [none, none, some (.int x2), some (.int x5), some (.int x10), none]) dL_isNew_41 (Nat.le_of_ble_eq_true rfl) rfl ?_
        refine x_iload dL_isNew_43 rfl ?_
        refine x_iload_n dL_isNew_45 rfl ?_
        refine x_imul dL_isNew_46 ?_
        refine x_iload_n dL_isNew_47 rfl ?_
        refine x_iadd dL_isNew_48 ?_
        refine x_iconst (v := 1) dL_isNew_49 (by decide) ?_
        refine x_isub dL_isNew_50 ?_
        refine x_iload_n dL_isNew_51 rfl ?_
        refine x_guard (fun hz => ?_)
        refine x_idiv dL_isNew_52 hz ?_
        refine y_letI (fun x11 => ?_)
        refine x_istore (ls' := [none, none, some (.int x2), some (.int x5), some (.int x10), some (.int x11)]) dL_isNew_53 (Nat.le_of_ble_eq_true rfl) rfl ?_
        refine x_iload_n dL_isNew_55 rfl ?_
        refine x_iload dL_isNew_56 rfl ?_
        refine x_imul dL_isNew_58 ?_
        refine x_iload_n dL_isNew_59 rfl ?_
        refine x_guard (fun hz => ?_)
        refine x_idiv dL_isNew_60 hz ?_
        refine x_iload dL_isNew_61 rfl ?_
        refine x_icmp_ne (tgt := 70) dL_isNew_63 (by decide) (fun hc12 => ?_) (fun hc12 => ?_)
        · refine x_iconst (v := 1) dL_isNew_66 (by decide) ?_
          refine x_goto (tgt := 71) dL_isNew_67 (by decide) ?_
          exact x_zretF zXt.refl rfl rfl (zBo_nar (by decide)) ⟨(Nat.le_of_ble_eq_true rfl), (Nat.le_of_ble_eq_true rfl)⟩ dL_isNew_71
        · refine x_iconst (v := 0) dL_isNew_70 (by decide) ?_
          exact x_zretF zXt.refl rfl rfl (zBo_nar (by decide)) ⟨(Nat.le_of_ble_eq_true rfl), (Nat.le_of_ble_eq_true rfl)⟩ dL_isNew_71
      · refine x_if_ne (tgt := 36) dL_isNew_29 (by decide) (fun hc7 => ?_) (fun hc7 => ?_)
        · refine x_iconst (v := 5) dL_isNew_32 (by decide) ?_
          refine x_goto (tgt := 38) dL_isNew_33 (by decide) ?_
          refine y_mask (bs := [false, false, true, true, false, false]) (ls' := [none, none, some (.int x2), some (.int x5), none, none]) rfl ?_
          exact hj9 _
        · refine x_bipush (v := 6) dL_isNew_36 (by decide) ?_
          refine y_mask (bs := [false, false, true, true, false, false]) (ls' := [none, none, some (.int x2), some (.int x5), none, none]) rfl ?_
          exact hj9 _
    · refine x_if_ne (tgt := 23) dL_isNew_15 (by decide) (fun hc4 => ?_) (fun hc4 => ?_)
      · refine x_bipush (v := 32) dL_isNew_18 (by decide) ?_
        refine x_goto (tgt := 26) dL_isNew_20 (by decide) ?_
        exact hj6 _
      · refine x_sipush (v := 235) dL_isNew_23 (by decide) ?_
        exact hj6 _
  · refine x_if_ne (tgt := 10) dL_isNew_1 (by decide) (fun hc1 => ?_) (fun hc1 => ?_)
    · refine x_sipush (v := 945) dL_isNew_4 (by decide) ?_
      refine x_goto (tgt := 13) dL_isNew_7 (by decide) ?_
      exact hj3 _
    · refine x_sipush (v := 6940) dL_isNew_10 (by decide) ?_
      exact hj3 _
abbrev kk_Law_age : Kx := (yL_age.cls, cL_age, 3, (some .int), [], false)
set_option maxHeartbeats 4000000 in
set_option maxRecDepth 100000 in
theorem c_Law_age (ω : Wd) (p1 : Int32) (p2 : Int32) (m : Mm) : Ev ω true 2 0 0 yL_age cL_age 3 (some .int) [.int p1, .int p2] m (fP m) (f_Law_age p1 p2 m) := by
  refine Ev.of (b := false) (ls := [some (.int p1), some (.int p2), none]) (plainFor_of_name (by decide +kernel)) (fun h => by cases h) rfl (Nat.le_of_ble_eq_true rfl) rfl ?_
  change Sx ω ω true 2 0 0 kk_Law_age (fP m) 0 0 m 0 _ _ _
  unfold f_Law_age
  refine x_iconst (v := 0) dL_age_0 (by decide) ?_
  refine x_istore_n (ls' := [some (.int p1), some (.int p2), some (.int 0)]) dL_age_1 (Nat.le_of_ble_eq_true rfl) rfl ?_
  refine y_Lq1 (fun x1 => [some (.int p1), some (.int p2), some (.int x1)]) (fun r2 hr2 x1 => ?_) zFu _
  refine x_iload_n dL_age_2 rfl ?_
  refine x_iload_n dL_age_3 rfl ?_
  refine x_isub dL_age_4 ?_
  refine x_iload_n dL_age_5 rfl ?_
  refine y_callSP (rest := []) (c1 := 0) (s1 := 0) (c_Law_isNew ω (p1 - x1) p2 m) ms_RL_24 rfl (Nat.le_of_ble_eq_true rfl) (Nat.le_of_ble_eq_true rfl) (Nat.le_of_ble_eq_true rfl) ⟨rfl, rfl⟩ ⟨(Nat.le_of_ble_eq_true rfl), (Nat.le_of_ble_eq_true rfl)⟩ dL_age_6 (fun v3 => ?_)
  refine x_if_ne (tgt := 18) dL_age_9 (by decide) (fun hc4 => ?_) (fun hc4 => ?_)
  · refine y_iinc (w := 1) dL_age_12 rfl (by decide) (Nat.le_of_ble_eq_true rfl) (fun x5 => ?_)
    refine x_goto (tgt := 2) dL_age_15 (by decide) ?_
    exact hr2 _
  · refine x_iload_n dL_age_18 rfl ?_
    exact x_iretF zXt.refl rfl rfl ⟨(Nat.le_of_ble_eq_true rfl), (Nat.le_of_ble_eq_true rfl)⟩ dL_age_19
abbrev kk_Law_in : Kx := (yL_in.cls, cL_in, 2, (some .int), [], false)
set_option maxHeartbeats 4000000 in
set_option maxRecDepth 100000 in
theorem c_Law_in (ω : Wd) (p1 : Int32) (p2 : Int32) (m : Mm) : Ev ω true 3 0 0 yL_in cL_in 2 (some .int) [.int p1, .int p2] m (fP m) (f_Law_in p1 p2 m) := by
  refine Ev.of (b := false) (ls := [some (.int p1), some (.int p2)]) (plainFor_of_name (by decide +kernel)) (fun h => by cases h) rfl (Nat.le_of_ble_eq_true rfl) rfl ?_
  change Sx ω ω true 3 0 0 kk_Law_in (fP m) 0 0 m 0 _ _ _
  unfold f_Law_in
  refine x_iload_n dL_in_0 rfl ?_
  refine y_join (fun j2 => Sx ω ω true 3 0 0 kk_Law_in (fP m) 0 0 m 12 [none, none] [] j2) ?_ (fun j2 hj2 => ?_)
  · refine x_iconst (v := (-1)) dL_in_12 (by decide) ?_
    refine x_goto (tgt := 17) dL_in_13 (by decide) ?_
    exact x_iretF zXt.refl rfl rfl ⟨(Nat.le_of_ble_eq_true rfl), (Nat.le_of_ble_eq_true rfl)⟩ dL_in_17
  · refine x_if_lt (tgt := 12) dL_in_1 (by decide) (fun hc1 => ?_) (fun hc1 => ?_)
    · refine y_mask (bs := [false, false]) (ls' := [none, none]) rfl ?_
      exact hj2
    · refine x_iload_n dL_in_4 rfl ?_
      refine x_iload_n dL_in_5 rfl ?_
      refine y_callSP (rest := [.int p2]) (c1 := 0) (s1 := 0) (c_Law_days ω p1 m) ms_RL_16 rfl (Nat.le_of_ble_eq_true rfl) (Nat.le_of_ble_eq_true rfl) (Nat.le_of_ble_eq_true rfl) ⟨rfl, rfl⟩ ⟨(Nat.le_of_ble_eq_true rfl), (Nat.le_of_ble_eq_true rfl)⟩ dL_in_6 (fun v3 => ?_)
      refine x_icmp_lt (tgt := 16) dL_in_9 (by decide) (fun hc4 => ?_) (fun hc4 => ?_)
      · refine x_iload_n dL_in_16 rfl ?_
        exact x_iretF zXt.refl rfl rfl ⟨(Nat.le_of_ble_eq_true rfl), (Nat.le_of_ble_eq_true rfl)⟩ dL_in_17
      · refine y_mask (bs := [false, false]) (ls' := [none, none]) rfl ?_
        exact hj2
abbrev kk_Law_begin : Kx := (yL_begin.cls, cL_begin, 9, (some .int), [], false)
set_option maxHeartbeats 4000000 in
set_option maxRecDepth 100000 in
theorem c_Law_begin (ω : Wd) (p1 : Int32) (p2 : Int32) (t3 : Nat) (ht3 : t3 < (oT ω).length) (m : Mm) : Ev ω true 4 0 0 yL_begin cL_begin 9 (some .int) [.int p1, .int p2, .ref (zTd ω t3)] m (fP m) (f_Law_begin p1 p2 t3 m) := by
  refine Ev.of (b := false) (ls := [some (.int p1), some (.int p2), some (.ref (zTd ω t3)), none, none, none, none, none, none]) (plainFor_of_name (by decide +kernel)) (fun h => by cases h) rfl (Nat.le_of_ble_eq_true rfl) rfl ?_
  change Sx ω ω true 4 0 0 kk_Law_begin (fP m) 0 0 m 0 _ _ _
  unfold f_Law_begin
  refine x_iload_n dL_begin_0 rfl ?_
  refine x_sipush (v := 10000) dL_begin_1 (by decide) ?_
  refine x_idiv dL_begin_4 (by decide) ?_
  refine y_letI (fun x1 => ?_)
  refine x_istore_n (ls' := [some (.int p1), some (.int p2), some (.ref (zTd ω t3)), some (.int x1), none, none, none, none, none]) dL_begin_5 (Nat.le_of_ble_eq_true rfl) rfl ?_
  refine x_iload_n dL_begin_6 rfl ?_
  refine x_sipush (v := 10000) dL_begin_7 (by decide) ?_
  refine x_irem dL_begin_10 (by decide) ?_
  refine y_letI (fun x2 => ?_)
  refine x_istore (ls' := [some (.int p1), some (.int p2), some (.ref (zTd ω t3)), some (.int x1), some (.int x2), none, none, none, none]) dL_begin_11 (Nat.le_of_ble_eq_true rfl) rfl ?_
  refine x_iload_n dL_begin_13 rfl ?_
  refine x_iconst (v := 1) dL_begin_14 (by decide) ?_
  refine x_icmp_ne (tgt := 25) dL_begin_15 (by decide) (fun hc3 => ?_) (fun hc3 => ?_)
  · refine x_iload_n dL_begin_18 rfl ?_
    refine x_iload dL_begin_19 rfl ?_
    refine y_callSP (rest := []) (c1 := 0) (s1 := 0) (c_Law_day ω p1 x2 m) ms_RL_28 rfl (Nat.le_of_ble_eq_true rfl) (Nat.le_of_ble_eq_true rfl) (Nat.le_of_ble_eq_true rfl) ⟨rfl, rfl⟩ ⟨(Nat.le_of_ble_eq_true rfl), (Nat.le_of_ble_eq_true rfl)⟩ dL_begin_21 (fun v22 => ?_)
    exact x_iretF zXt.refl rfl rfl ⟨(Nat.le_of_ble_eq_true rfl), (Nat.le_of_ble_eq_true rfl)⟩ dL_begin_24
  · refine x_iload_n dL_begin_25 rfl ?_
    refine x_iconst (v := 4) dL_begin_26 (by decide) ?_
    refine x_icmp_ne (tgt := 35) dL_begin_27 (by decide) (fun hc4 => ?_) (fun hc4 => ?_)
    · refine x_aload_n dL_begin_30 rfl ?_
      refine x_iload dL_begin_31 rfl ?_
      refine y_taild ht3 dL_begin_33 (fun hi => ?_)
      exact x_iretF zXt.refl rfl rfl ⟨(Nat.le_of_ble_eq_true rfl), (Nat.le_of_ble_eq_true rfl)⟩ dL_begin_34
    · refine x_iconst (v := 0) dL_begin_35 (by decide) ?_
      refine x_istore (ls' := [some (.int p1), some (.int p2), some (.ref (zTd ω t3)), some (.int x1), some (.int x2), some (.int 0), none, none, none]) dL_begin_36 (Nat.le_of_ble_eq_true rfl) rfl ?_
      refine x_iconst (v := (-1)) dL_begin_38 (by decide) ?_
      refine x_istore (ls' := [some (.int p1), some (.int p2), some (.ref (zTd ω t3)), some (.int x1), some (.int x2), some (.int 0), some (.int (-1)), none, none]) dL_begin_39 (Nat.le_of_ble_eq_true rfl) rfl ?_
      refine x_iconst (v := 1) dL_begin_41 (by decide) ?_
      refine x_istore (ls' := [some (.int p1), some (.int p2), some (.ref (zTd ω t3)), some (.int x1), some (.int x2), some (.int 0), some (.int (-1)), some (.int 1), none]) dL_begin_42 (Nat.le_of_ble_eq_true rfl) rfl ?_
      refine y_mask (bs := [true, false, false, true, true, true, true, true, false]) (ls' := [some (.int p1), none, none, some (.int x1), some (.int x2), some (.int 0), some (.int (-1)), some (.int 1), none]) rfl ?_
      refine y_Lq3 (fun x5 x6 x7 => [some (.int p1), none, none, some (.int x1), some (.int x2), some (.int x5), some (.int x6), some (.int x7), none]) (fun r8 hr8 x5 x6 x7 => ?_) zFu _ _ _
      refine x_iload dL_begin_44 rfl ?_
      refine x_iload_n dL_begin_46 rfl ?_
      refine x_iload dL_begin_47 rfl ?_
      refine x_bipush (v := 100) dL_begin_49 (by decide) ?_
      refine x_irem dL_begin_51 (by decide) ?_
      refine y_callSP (rest := [.int x7]) (c1 := 0) (s1 := 0) (c_Law_month ω p1 (x2 % 100) m) ms_RL_20 rfl (Nat.le_of_ble_eq_true rfl) (Nat.le_of_ble_eq_true rfl) (Nat.le_of_ble_eq_true rfl) ⟨rfl, rfl⟩ ⟨(Nat.le_of_ble_eq_true rfl), (Nat.le_of_ble_eq_true rfl)⟩ dL_begin_52 (fun v9 => ?_)
      refine x_icmp_gt (tgt := 131) dL_begin_55 (by decide) (fun hc10 => ?_) (fun hc10 => ?_)
      · refine x_iload dL_begin_131 rfl ?_
        exact x_iretF zXt.refl rfl rfl ⟨(Nat.le_of_ble_eq_true rfl), (Nat.le_of_ble_eq_true rfl)⟩ dL_begin_133
      · refine x_iload_n dL_begin_58 rfl ?_
        refine x_iload dL_begin_59 rfl ?_
        refine x_bipush (v := 100) dL_begin_61 (by decide) ?_
        refine x_irem dL_begin_63 (by decide) ?_
        refine x_bipush (v := 100) dL_begin_64 (by decide) ?_
        refine x_imul dL_begin_66 ?_
        refine x_iload dL_begin_67 rfl ?_
        refine x_iadd dL_begin_69 ?_
        refine y_callSP (rest := []) (c1 := 0) (s1 := 0) (c_Law_day ω p1 (((x2 % 100) * 100) + x7) m) ms_RL_28 rfl (Nat.le_of_ble_eq_true rfl) (Nat.le_of_ble_eq_true rfl) (Nat.le_of_ble_eq_true rfl) ⟨rfl, rfl⟩ ⟨(Nat.le_of_ble_eq_true rfl), (Nat.le_of_ble_eq_true rfl)⟩ dL_begin_70 (fun v11 => ?_)
        refine x_istore (ls' := [some (.int p1), none, none, some (.int x1), some (.int x2), some (.int x5), some (.int x6), some (.int x7), some (.int v11)]) dL_begin_73 (Nat.le_of_ble_eq_true rfl) rfl ?_
        refine x_iload_n dL_begin_75 rfl ?_
        refine y_callSP (rest := []) (c1 := 0) (s1 := 0) (c_Law_great ω p1 m) ms_RL_31 rfl (Nat.le_of_ble_eq_true rfl) (Nat.le_of_ble_eq_true rfl) (Nat.le_of_ble_eq_true rfl) ⟨rfl, rfl⟩ ⟨(Nat.le_of_ble_eq_true rfl), (Nat.le_of_ble_eq_true rfl)⟩ dL_begin_76 (fun v12 => ?_)
        refine x_iload dL_begin_79 rfl ?_
        refine x_iadd dL_begin_81 ?_
        refine x_bipush (v := 6) dL_begin_82 (by decide) ?_
        refine x_iadd dL_begin_84 ?_
        refine x_bipush (v := 7) dL_begin_85 (by decide) ?_
        refine x_irem dL_begin_87 (by decide) ?_
        refine x_iload dL_begin_88 rfl ?_
        refine x_bipush (v := 100) dL_begin_90 (by decide) ?_
        refine x_idiv dL_begin_92 (by decide) ?_
        refine x_bipush (v := 10) dL_begin_93 (by decide) ?_
        refine x_irem dL_begin_95 (by decide) ?_
        refine y_join (fun j16 => ∀ (x14 x15 : Int32), Sx ω ω true 4 0 0 kk_Law_begin (fP m) 0 0 m 125 [some (.int p1), none, none, some (.int x1), some (.int x2), some (.int x14), some (.int x15), some (.int x7), none] [] (j16 x14 x15)) ?_ (fun j16 hj16 => ?_)
        · intro x14 x15
          refine y_iinc (w := 1) dL_begin_125 rfl (by decide) (Nat.le_of_ble_eq_true rfl) (fun x17 => ?_)
          refine x_goto (tgt := 44) dL_begin_128 (by decide) ?_
          exact hr8 _ _ _
        · refine x_icmp_eq (tgt := 102) dL_begin_96 (by decide) (fun hc13 => ?_) (fun hc13 => ?_)
          · refine y_iinc (w := 1) dL_begin_102 rfl (by decide) (Nat.le_of_ble_eq_true rfl) (fun x18 => ?_)
            refine x_iload_n dL_begin_105 rfl ?_
            refine x_iconst (v := 3) dL_begin_106 (by decide) ?_
            refine y_join (fun j20 => Sx ω ω true 4 0 0 kk_Law_begin (fP m) 0 0 m 121 [some (.int p1), none, none, some (.int x1), some (.int x2), some (.int x18), none, some (.int x7), some (.int v11)] [] j20) ?_ (fun j20 hj20 => ?_)
            · refine x_iload dL_begin_121 rfl ?_
              refine x_istore (ls' := [some (.int p1), none, none, some (.int x1), some (.int x2), some (.int x18), some (.int v11), some (.int x7), some (.int v11)]) dL_begin_123 (Nat.le_of_ble_eq_true rfl) rfl ?_
              refine y_mask (bs := [true, false, false, true, true, true, true, true, false]) (ls' := [some (.int p1), none, none, some (.int x1), some (.int x2), some (.int x18), some (.int v11), some (.int x7), none]) rfl ?_
              exact hj16 _ _
            · refine x_icmp_eq (tgt := 121) dL_begin_107 (by decide) (fun hc19 => ?_) (fun hc19 => ?_)
              · refine y_mask (bs := [true, false, false, true, true, true, false, true, true]) (ls' := [some (.int p1), none, none, some (.int x1), some (.int x2), some (.int x18), none, some (.int x7), some (.int v11)]) rfl ?_
                exact hj20
              · refine x_iload dL_begin_110 rfl ?_
                refine x_iload dL_begin_112 rfl ?_
                refine x_sipush (v := 1000) dL_begin_114 (by decide) ?_
                refine x_idiv dL_begin_117 (by decide) ?_
                refine x_icmp_ne (tgt := 125) dL_begin_118 (by decide) (fun hc21 => ?_) (fun hc21 => ?_)
                · refine y_mask (bs := [true, false, false, true, true, true, false, true, true]) (ls' := [some (.int p1), none, none, some (.int x1), some (.int x2), some (.int x18), none, some (.int x7), some (.int v11)]) rfl ?_
                  exact hj20
                · refine y_mask (bs := [true, false, false, true, true, true, true, true, false]) (ls' := [some (.int p1), none, none, some (.int x1), some (.int x2), some (.int x18), some (.int x6), some (.int x7), none]) rfl ?_
                  exact hj16 _ _
          · refine x_goto (tgt := 125) dL_begin_99 (by decide) ?_
            refine y_mask (bs := [true, false, false, true, true, true, true, true, false]) (ls' := [some (.int p1), none, none, some (.int x1), some (.int x2), some (.int x5), some (.int x6), some (.int x7), none]) rfl ?_
            exact hj16 _ _
abbrev kk_Law_walk : Kx := (yL_walk.cls, cL_walk, 8, (some .int), [], false)
set_option maxHeartbeats 4000000 in
set_option maxRecDepth 100000 in
theorem c_Law_walk (ω : Wd) (p1 : Int32) (p2 : Int32) (p3 : Int32) (p4 : Int32) (m : Mm) : Ev ω true 4 0 0 yL_walk cL_walk 8 (some .int) [.int p1, .int p2, .int p3, .int p4] m (fP m) (f_Law_walk p1 p2 p3 p4 m) := by
  refine Ev.of (b := false) (ls := [some (.int p1), some (.int p2), some (.int p3), some (.int p4), none, none, none, none]) (plainFor_of_name (by decide +kernel)) (fun h => by cases h) rfl (Nat.le_of_ble_eq_true rfl) rfl ?_
  change Sx ω ω true 4 0 0 kk_Law_walk (fP m) 0 0 m 0 _ _ _
  unfold f_Law_walk
  refine x_iload_n dL_walk_0 rfl ?_
  refine x_sipush (v := 1000) dL_walk_1 (by decide) ?_
  refine x_idiv dL_walk_4 (by decide) ?_
  refine y_letI (fun x1 => ?_)
  refine x_istore (ls' := [some (.int p1), some (.int p2), some (.int p3), some (.int p4), some (.int x1), none, none, none]) dL_walk_5 (Nat.le_of_ble_eq_true rfl) rfl ?_
  refine x_iload_n dL_walk_7 rfl ?_
  refine x_sipush (v := 1000) dL_walk_8 (by decide) ?_
  refine x_irem dL_walk_11 (by decide) ?_
  refine y_letI (fun x2 => ?_)
  refine x_istore (ls' := [some (.int p1), some (.int p2), some (.int p3), some (.int p4), some (.int x1), some (.int x2), none, none]) dL_walk_12 (Nat.le_of_ble_eq_true rfl) rfl ?_
  refine x_iload_n dL_walk_14 rfl ?_
  refine x_if_lt (tgt := 25) dL_walk_15 (by decide) (fun hc3 => ?_) (fun hc3 => ?_)
  · refine x_iconst (v := (-1)) dL_walk_25 (by decide) ?_
    exact x_iretF zXt.refl rfl rfl ⟨(Nat.le_of_ble_eq_true rfl), (Nat.le_of_ble_eq_true rfl)⟩ dL_walk_26
  · refine x_iload dL_walk_18 rfl ?_
    refine x_bipush (v := 8) dL_walk_20 (by decide) ?_
    refine x_icmp_ne (tgt := 27) dL_walk_22 (by decide) (fun hc4 => ?_) (fun hc4 => ?_)
    · refine x_iconst (v := (-1)) dL_walk_25 (by decide) ?_
      exact x_iretF zXt.refl rfl rfl ⟨(Nat.le_of_ble_eq_true rfl), (Nat.le_of_ble_eq_true rfl)⟩ dL_walk_26
    · refine x_iload dL_walk_27 rfl ?_
      refine x_if_ne (tgt := 34) dL_walk_29 (by decide) (fun hc5 => ?_) (fun hc5 => ?_)
      · refine x_iload_n dL_walk_32 rfl ?_
        exact x_iretF zXt.refl rfl rfl ⟨(Nat.le_of_ble_eq_true rfl), (Nat.le_of_ble_eq_true rfl)⟩ dL_walk_33
      · refine x_iload dL_walk_34 rfl ?_
        refine x_iconst (v := 1) dL_walk_36 (by decide) ?_
        refine x_icmp_ne (tgt := 53) dL_walk_37 (by decide) (fun hc6 => ?_) (fun hc6 => ?_)
        · refine x_iload_n dL_walk_40 rfl ?_
          refine x_iload_n dL_walk_41 rfl ?_
          refine x_iload dL_walk_42 rfl ?_
          refine x_iadd dL_walk_44 ?_
          refine x_sipush (v := 400) dL_walk_45 (by decide) ?_
          refine x_isub dL_walk_48 ?_
          refine y_callSP (rest := []) (c1 := 0) (s1 := 0) (c_Law_in ω p1 ((p3 + x2) - 400) m) ms_RL_34 rfl (Nat.le_of_ble_eq_true rfl) (Nat.le_of_ble_eq_true rfl) (Nat.le_of_ble_eq_true rfl) ⟨rfl, rfl⟩ ⟨(Nat.le_of_ble_eq_true rfl), (Nat.le_of_ble_eq_true rfl)⟩ dL_walk_49 (fun v34 => ?_)
          exact x_iretF zXt.refl rfl rfl ⟨(Nat.le_of_ble_eq_true rfl), (Nat.le_of_ble_eq_true rfl)⟩ dL_walk_52
        · refine x_iload_n dL_walk_53 rfl ?_
          refine y_callSP (rest := []) (c1 := 0) (s1 := 0) (c_Law_great ω p1 m) ms_RL_31 rfl (Nat.le_of_ble_eq_true rfl) (Nat.le_of_ble_eq_true rfl) (Nat.le_of_ble_eq_true rfl) ⟨rfl, rfl⟩ ⟨(Nat.le_of_ble_eq_true rfl), (Nat.le_of_ble_eq_true rfl)⟩ dL_walk_54 (fun v7 => ?_)
          refine x_iload_n dL_walk_57 rfl ?_
          refine x_iadd dL_walk_58 ?_
          refine y_letI (fun x8 => ?_)
          refine x_istore (ls' := [some (.int p1), some (.int p2), some (.int p3), some (.int p4), some (.int x1), some (.int x2), some (.int x8), none]) dL_walk_59 (Nat.le_of_ble_eq_true rfl) rfl ?_
          refine x_iload dL_walk_61 rfl ?_
          refine x_iconst (v := 3) dL_walk_63 (by decide) ?_
          refine y_join (fun j11 => ∀ (x10 : Int32), Sx ω ω true 4 0 0 kk_Law_walk (fP m) 0 0 m 78 [some (.int p1), some (.int p2), none, none, some (.int x1), some (.int x2), some (.int x8), none] [.int x10] (j11 x10)) ?_ (fun j11 hj11 => ?_)
          · intro x10
            refine x_istore (ls' := [some (.int p1), some (.int p2), none, none, some (.int x1), some (.int x2), some (.int x8), some (.int x10)]) dL_walk_78 (Nat.le_of_ble_eq_true rfl) rfl ?_
            refine x_iload dL_walk_80 rfl ?_
            refine x_iconst (v := 2) dL_walk_82 (by decide) ?_
            refine y_join (fun j14 => ∀ (x13 : Int32), Sx ω ω true 4 0 0 kk_Law_walk (fP m) 0 0 m 99 [some (.int p1), some (.int p2), none, none, some (.int x1), some (.int x2), some (.int x13), some (.int x10)] [] (j14 x13)) ?_ (fun j14 hj14 => ?_)
            · intro x13
              refine y_Lq1 (fun x15 => [some (.int p1), some (.int p2), none, none, some (.int x1), some (.int x2), some (.int x15), some (.int x10)]) (fun r16 hr16 x15 => ?_) zFu _
              refine x_iload dL_walk_99 rfl ?_
              refine x_bipush (v := 6) dL_walk_101 (by decide) ?_
              refine y_join (fun j18 => Sx ω ω true 4 0 0 kk_Law_walk (fP m) 0 0 m 154 [some (.int p1), none, none, none, none, none, some (.int x15), none] [] j18) ?_ (fun j18 hj18 => ?_)
              · refine x_iload_n dL_walk_154 rfl ?_
                refine x_iload dL_walk_155 rfl ?_
                refine x_iload_n dL_walk_157 rfl ?_
                refine y_callSP (rest := [.int x15, .int p1]) (c1 := 0) (s1 := 0) (c_Law_great ω p1 m) ms_RL_31 rfl (Nat.le_of_ble_eq_true rfl) (Nat.le_of_ble_eq_true rfl) (Nat.le_of_ble_eq_true rfl) ⟨rfl, rfl⟩ ⟨(Nat.le_of_ble_eq_true rfl), (Nat.le_of_ble_eq_true rfl)⟩ dL_walk_158 (fun v19 => ?_)
                refine x_isub dL_walk_161 ?_
                refine y_callSP (rest := []) (c1 := 0) (s1 := 0) (c_Law_in ω p1 (x15 - v19) m) ms_RL_34 rfl (Nat.le_of_ble_eq_true rfl) (Nat.le_of_ble_eq_true rfl) (Nat.le_of_ble_eq_true rfl) ⟨rfl, rfl⟩ ⟨(Nat.le_of_ble_eq_true rfl), (Nat.le_of_ble_eq_true rfl)⟩ dL_walk_162 (fun v20 => ?_)
                exact x_iretF zXt.refl rfl rfl ⟨(Nat.le_of_ble_eq_true rfl), (Nat.le_of_ble_eq_true rfl)⟩ dL_walk_165
              · refine y_join (fun j21 => Sx ω ω true 4 0 0 kk_Law_walk (fP m) 0 0 m 144 [some (.int p1), some (.int p2), none, none, some (.int x1), some (.int x2), some (.int x15), some (.int x10)] [] j21) ?_ (fun j21 hj21 => ?_)
                · refine x_iload dL_walk_144 rfl ?_
                  refine x_iload dL_walk_146 rfl ?_
                  refine x_iadd dL_walk_148 ?_
                  refine y_letI (fun x22 => ?_)
                  refine x_istore (ls' := [some (.int p1), some (.int p2), none, none, some (.int x1), some (.int x2), some (.int x22), some (.int x10)]) dL_walk_149 (Nat.le_of_ble_eq_true rfl) rfl ?_
                  refine x_goto (tgt := 99) dL_walk_151 (by decide) ?_
                  exact hr16 _
                · refine x_icmp_ge (tgt := 122) dL_walk_103 (by decide) (fun hc17 => ?_) (fun hc17 => ?_)
                  · refine x_iload dL_walk_122 rfl ?_
                    refine x_iload_n dL_walk_124 rfl ?_
                    refine y_callSP (rest := []) (c1 := 0) (s1 := 0) (c_Law_age ω x15 p2 m) ms_RL_37 rfl (Nat.le_of_ble_eq_true rfl) (Nat.le_of_ble_eq_true rfl) (Nat.le_of_ble_eq_true rfl) ⟨rfl, rfl⟩ ⟨(Nat.le_of_ble_eq_true rfl), (Nat.le_of_ble_eq_true rfl)⟩ dL_walk_125 (fun v23 => ?_)
                    refine x_iload dL_walk_128 rfl ?_
                    refine x_bipush (v := 6) dL_walk_130 (by decide) ?_
                    refine y_join (fun j26 => ∀ (x25 : Int32), Sx ω ω true 4 0 0 kk_Law_walk (fP m) 0 0 m 141 [some (.int p1), some (.int p2), none, none, some (.int x1), some (.int x2), some (.int x15), some (.int x10)] [.int x25, .int v23] (j26 x25)) ?_ (fun j26 hj26 => ?_)
                    · intro x25
                      refine x_icmp_eq (tgt := 154) dL_walk_141 (by decide) (fun hc27 => ?_) (fun hc27 => ?_)
                      · refine y_mask (bs := [true, false, false, false, false, false, true, false]) (ls' := [some (.int p1), none, none, none, none, none, some (.int x15), none]) rfl ?_
                        exact hj18
                      · exact hj21
                    · refine x_icmp_ne (tgt := 140) dL_walk_132 (by decide) (fun hc24 => ?_) (fun hc24 => ?_)
                      · refine x_bipush (v := 14) dL_walk_135 (by decide) ?_
                        refine x_goto (tgt := 141) dL_walk_137 (by decide) ?_
                        exact hj26 _
                      · refine x_iconst (v := 0) dL_walk_140 (by decide) ?_
                        exact hj26 _
                  · refine x_iload dL_walk_106 rfl ?_
                    refine x_bipush (v := 13) dL_walk_108 (by decide) ?_
                    refine x_iadd dL_walk_110 ?_
                    refine x_bipush (v := 7) dL_walk_111 (by decide) ?_
                    refine x_irem dL_walk_113 (by decide) ?_
                    refine x_iload dL_walk_114 rfl ?_
                    refine x_icmp_eq (tgt := 154) dL_walk_116 (by decide) (fun hc28 => ?_) (fun hc28 => ?_)
                    · refine y_mask (bs := [true, false, false, false, false, false, true, false]) (ls' := [some (.int p1), none, none, none, none, none, some (.int x15), none]) rfl ?_
                      exact hj18
                    · refine x_goto (tgt := 144) dL_walk_119 (by decide) ?_
                      exact hj21
            · refine y_join (fun j29 => Sx ω ω true 4 0 0 kk_Law_walk (fP m) 0 0 m 92 [some (.int p1), some (.int p2), none, none, some (.int x1), some (.int x2), some (.int x8), some (.int x10)] [] j29) ?_ (fun j29 hj29 => ?_)
              · refine x_iload dL_walk_92 rfl ?_
                refine x_iload dL_walk_94 rfl ?_
                refine x_iadd dL_walk_96 ?_
                refine y_letI (fun x30 => ?_)
                refine x_istore (ls' := [some (.int p1), some (.int p2), none, none, some (.int x1), some (.int x2), some (.int x30), some (.int x10)]) dL_walk_97 (Nat.le_of_ble_eq_true rfl) rfl ?_
                exact hj14 _
              · refine x_icmp_eq (tgt := 92) dL_walk_83 (by decide) (fun hc12 => ?_) (fun hc12 => ?_)
                · exact hj29
                · refine x_iload dL_walk_86 rfl ?_
                  refine x_iconst (v := 3) dL_walk_88 (by decide) ?_
                  refine x_icmp_ne (tgt := 99) dL_walk_89 (by decide) (fun hc31 => ?_) (fun hc31 => ?_)
                  · exact hj29
                  · exact hj14 _
          · refine y_join (fun j32 => Sx ω ω true 4 0 0 kk_Law_walk (fP m) 0 0 m 73 [some (.int p1), some (.int p2), none, none, some (.int x1), some (.int x2), some (.int x8), none] [] j32) ?_ (fun j32 hj32 => ?_)
            · refine x_iconst (v := (-1)) dL_walk_73 (by decide) ?_
              refine x_goto (tgt := 78) dL_walk_74 (by decide) ?_
              exact hj11 _
            · refine x_icmp_eq (tgt := 73) dL_walk_64 (by decide) (fun hc9 => ?_) (fun hc9 => ?_)
              · refine y_mask (bs := [true, true, false, false, true, true, true, false]) (ls' := [some (.int p1), some (.int p2), none, none, some (.int x1), some (.int x2), some (.int x8), none]) rfl ?_
                exact hj32
              · refine x_iload dL_walk_67 rfl ?_
                refine x_iconst (v := 5) dL_walk_69 (by decide) ?_
                refine x_icmp_ne (tgt := 77) dL_walk_70 (by decide) (fun hc33 => ?_) (fun hc33 => ?_)
                · refine y_mask (bs := [true, true, false, false, true, true, true, false]) (ls' := [some (.int p1), some (.int p2), none, none, some (.int x1), some (.int x2), some (.int x8), none]) rfl ?_
                  exact hj32
                · refine x_iconst (v := 1) dL_walk_77 (by decide) ?_
                  refine y_mask (bs := [true, true, false, false, true, true, true, false]) (ls' := [some (.int p1), some (.int p2), none, none, some (.int x1), some (.int x2), some (.int x8), none]) rfl ?_
                  exact hj11 _
abbrev kk_Law_holds : Kx := (yL_holds.cls, cL_holds, 6, (some .boolean), [], false)
set_option maxHeartbeats 4000000 in
set_option maxRecDepth 100000 in
theorem c_Law_holds (ω : Wd) (p1 : Int32) (p2 : Int32) (p3 : Int32) (t4 : Nat) (ht4 : t4 < (oT ω).length) (m : Mm) : Ev ω true 4 0 0 yL_holds cL_holds 6 (some .boolean) [.int p1, .int p2, .int p3, .ref (zTd ω t4)] m (fP m) (f_Law_holds p1 p2 p3 t4 m) := by
  refine Ev.of (b := false) (ls := [some (.int p1), some (.int p2), some (.int p3), some (.ref (zTd ω t4)), none, none]) (plainFor_of_name (by decide +kernel)) (fun h => by cases h) rfl (Nat.le_of_ble_eq_true rfl) rfl ?_
  change Sx ω ω true 4 0 0 kk_Law_holds (fP m) 0 0 m 0 _ _ _
  unfold f_Law_holds
  refine x_iload_n dL_holds_0 rfl ?_
  refine x_sipush (v := 10000) dL_holds_1 (by decide) ?_
  refine x_idiv dL_holds_4 (by decide) ?_
  refine y_letI (fun x1 => ?_)
  refine x_istore (ls' := [some (.int p1), some (.int p2), some (.int p3), some (.ref (zTd ω t4)), some (.int x1), none]) dL_holds_5 (Nat.le_of_ble_eq_true rfl) rfl ?_
  refine x_iload_n dL_holds_7 rfl ?_
  refine x_sipush (v := 10000) dL_holds_8 (by decide) ?_
  refine x_irem dL_holds_11 (by decide) ?_
  refine y_letI (fun x2 => ?_)
  refine x_istore (ls' := [some (.int p1), some (.int p2), some (.int p3), some (.ref (zTd ω t4)), some (.int x1), some (.int x2)]) dL_holds_12 (Nat.le_of_ble_eq_true rfl) rfl ?_
  refine x_iload dL_holds_14 rfl ?_
  refine x_bipush (v := 14) dL_holds_16 (by decide) ?_
  refine x_icmp_ne (tgt := 26) dL_holds_18 (by decide) (fun hc3 => ?_) (fun hc3 => ?_)
  · refine x_iload_n dL_holds_21 rfl ?_
    refine y_callSP (rest := []) (c1 := 0) (s1 := 0) (c_Law_leap ω p1 m) ms_RL_10 rfl (Nat.le_of_ble_eq_true rfl) (Nat.le_of_ble_eq_true rfl) (Nat.le_of_ble_eq_true rfl) ⟨rfl, rfl⟩ ⟨(Nat.le_of_ble_eq_true rfl), (Nat.le_of_ble_eq_true rfl)⟩ dL_holds_22 (fun v12 => ?_)
    refine x_guard (fun hv => ?_)
    exact x_zretF zXt.refl rfl rfl (zBo_nar hv) ⟨(Nat.le_of_ble_eq_true rfl), (Nat.le_of_ble_eq_true rfl)⟩ dL_holds_25
  · refine x_iload_n dL_holds_26 rfl ?_
    refine x_if_ge (tgt := 32) dL_holds_27 (by decide) (fun hc4 => ?_) (fun hc4 => ?_)
    · refine x_iload dL_holds_32 rfl ?_
      refine x_bipush (v := 13) dL_holds_34 (by decide) ?_
      refine x_icmp_ne (tgt := 64) dL_holds_36 (by decide) (fun hc5 => ?_) (fun hc5 => ?_)
      · refine x_iload_n dL_holds_39 rfl ?_
        refine y_callSP (rest := []) (c1 := 0) (s1 := 0) (c_Law_great ω p1 m) ms_RL_31 rfl (Nat.le_of_ble_eq_true rfl) (Nat.le_of_ble_eq_true rfl) (Nat.le_of_ble_eq_true rfl) ⟨rfl, rfl⟩ ⟨(Nat.le_of_ble_eq_true rfl), (Nat.le_of_ble_eq_true rfl)⟩ dL_holds_40 (fun v10 => ?_)
        refine x_iload_n dL_holds_43 rfl ?_
        refine x_iadd dL_holds_44 ?_
        refine x_bipush (v := 6) dL_holds_45 (by decide) ?_
        refine x_iadd dL_holds_47 ?_
        refine x_bipush (v := 7) dL_holds_48 (by decide) ?_
        refine x_irem dL_holds_50 (by decide) ?_
        refine x_iload dL_holds_51 rfl ?_
        refine x_icmp_ne (tgt := 60) dL_holds_53 (by decide) (fun hc11 => ?_) (fun hc11 => ?_)
        · refine x_iconst (v := 1) dL_holds_56 (by decide) ?_
          refine x_goto (tgt := 102) dL_holds_57 (by decide) ?_
          exact x_zretF zXt.refl rfl rfl (zBo_nar (by decide)) ⟨(Nat.le_of_ble_eq_true rfl), (Nat.le_of_ble_eq_true rfl)⟩ dL_holds_102
        · refine x_iconst (v := 0) dL_holds_60 (by decide) ?_
          refine x_goto (tgt := 102) dL_holds_61 (by decide) ?_
          exact x_zretF zXt.refl rfl rfl (zBo_nar (by decide)) ⟨(Nat.le_of_ble_eq_true rfl), (Nat.le_of_ble_eq_true rfl)⟩ dL_holds_102
      · refine x_iload dL_holds_64 rfl ?_
        refine x_bipush (v := 15) dL_holds_66 (by decide) ?_
        refine x_icmp_ne (tgt := 87) dL_holds_68 (by decide) (fun hc6 => ?_) (fun hc6 => ?_)
        · refine x_aload_n dL_holds_71 rfl ?_
          refine x_iload dL_holds_72 rfl ?_
          refine y_taild ht4 dL_holds_74 (fun hi => ?_)
          refine x_iload_n dL_holds_75 rfl ?_
          refine x_icmp_ne (tgt := 83) dL_holds_76 (by decide) (fun hc9 => ?_) (fun hc9 => ?_)
          · refine x_iconst (v := 1) dL_holds_79 (by decide) ?_
            refine x_goto (tgt := 102) dL_holds_80 (by decide) ?_
            exact x_zretF zXt.refl rfl rfl (zBo_nar (by decide)) ⟨(Nat.le_of_ble_eq_true rfl), (Nat.le_of_ble_eq_true rfl)⟩ dL_holds_102
          · refine x_iconst (v := 0) dL_holds_83 (by decide) ?_
            refine x_goto (tgt := 102) dL_holds_84 (by decide) ?_
            exact x_zretF zXt.refl rfl rfl (zBo_nar (by decide)) ⟨(Nat.le_of_ble_eq_true rfl), (Nat.le_of_ble_eq_true rfl)⟩ dL_holds_102
        · refine x_iload_n dL_holds_87 rfl ?_
          refine x_iload_n dL_holds_88 rfl ?_
          refine y_callSP (rest := []) (c1 := 0) (s1 := 0) (c_Law_date ω p1 p2 m) ms_RL_40 rfl (Nat.le_of_ble_eq_true rfl) (Nat.le_of_ble_eq_true rfl) (Nat.le_of_ble_eq_true rfl) ⟨rfl, rfl⟩ ⟨(Nat.le_of_ble_eq_true rfl), (Nat.le_of_ble_eq_true rfl)⟩ dL_holds_89 (fun v7 => ?_)
          refine x_iload dL_holds_92 rfl ?_
          refine x_icmp_ge (tgt := 101) dL_holds_94 (by decide) (fun hc8 => ?_) (fun hc8 => ?_)
          · refine x_iconst (v := 0) dL_holds_101 (by decide) ?_
            exact x_zretF zXt.refl rfl rfl (zBo_nar (by decide)) ⟨(Nat.le_of_ble_eq_true rfl), (Nat.le_of_ble_eq_true rfl)⟩ dL_holds_102
          · refine x_iconst (v := 1) dL_holds_97 (by decide) ?_
            refine x_goto (tgt := 102) dL_holds_98 (by decide) ?_
            exact x_zretF zXt.refl rfl rfl (zBo_nar (by decide)) ⟨(Nat.le_of_ble_eq_true rfl), (Nat.le_of_ble_eq_true rfl)⟩ dL_holds_102
    · refine x_iconst (v := 0) dL_holds_30 (by decide) ?_
      exact x_zretF zXt.refl rfl rfl (zBo_nar (by decide)) ⟨(Nat.le_of_ble_eq_true rfl), (Nat.le_of_ble_eq_true rfl)⟩ dL_holds_31
abbrev kk_Law_price : Kx := (yL_price.cls, cL_price, 2, (some .int), [], false)
set_option maxHeartbeats 4000000 in
set_option maxRecDepth 100000 in
theorem c_Law_price (ω : Wd) (p1 : Int32) (m : Mm) : Ev ω true 1 0 0 yL_price cL_price 2 (some .int) [.int p1] m (fP m) (f_Law_price p1 m) := by
  refine Ev.of (b := false) (ls := [some (.int p1), none]) (plainFor_of_name (by decide +kernel)) (fun h => by cases h) rfl (Nat.le_of_ble_eq_true rfl) rfl ?_
  change Sx ω ω true 1 0 0 kk_Law_price (fP m) 0 0 m 0 _ _ _
  unfold f_Law_price
  refine x_iload_n dL_price_0 rfl ?_
  refine x_sipush (v := 1000) dL_price_1 (by decide) ?_
  refine x_idiv dL_price_4 (by decide) ?_
  refine y_letI (fun x1 => ?_)
  refine x_istore_n (ls' := [some (.int p1), some (.int x1)]) dL_price_5 (Nat.le_of_ble_eq_true rfl) rfl ?_
  refine x_iload_n dL_price_6 rfl ?_
  refine y_join (fun j3 => Sx ω ω true 1 0 0 kk_Law_price (fP m) 0 0 m 17 [none, none] [] j3) ?_ (fun j3 hj3 => ?_)
  · refine x_iconst (v := 0) dL_price_17 (by decide) ?_
    refine x_goto (tgt := 48) dL_price_18 (by decide) ?_
    exact x_iretF zXt.refl rfl rfl ⟨(Nat.le_of_ble_eq_true rfl), (Nat.le_of_ble_eq_true rfl)⟩ dL_price_48
  · refine x_if_eq (tgt := 17) dL_price_7 (by decide) (fun hc2 => ?_) (fun hc2 => ?_)
    · refine y_mask (bs := [false, false]) (ls' := [none, none]) rfl ?_
      exact hj3
    · refine x_iload_n dL_price_10 rfl ?_
      refine x_sipush (v := 1400) dL_price_11 (by decide) ?_
      refine x_icmp_ne (tgt := 21) dL_price_14 (by decide) (fun hc4 => ?_) (fun hc4 => ?_)
      · refine y_mask (bs := [false, false]) (ls' := [none, none]) rfl ?_
        exact hj3
      · refine x_iload_n dL_price_21 rfl ?_
        refine x_iconst (v := 1) dL_price_22 (by decide) ?_
        refine y_join (fun j6 => Sx ω ω true 1 0 0 kk_Law_price (fP m) 0 0 m 32 [none, none] [] j6) ?_ (fun j6 hj6 => ?_)
        · refine x_iconst (v := 1) dL_price_32 (by decide) ?_
          refine x_goto (tgt := 48) dL_price_33 (by decide) ?_
          exact x_iretF zXt.refl rfl rfl ⟨(Nat.le_of_ble_eq_true rfl), (Nat.le_of_ble_eq_true rfl)⟩ dL_price_48
        · refine x_icmp_eq (tgt := 32) dL_price_23 (by decide) (fun hc5 => ?_) (fun hc5 => ?_)
          · refine y_mask (bs := [false, false]) (ls' := [none, none]) rfl ?_
            exact hj6
          · refine x_iload_n dL_price_26 rfl ?_
            refine x_bipush (v := 8) dL_price_27 (by decide) ?_
            refine x_icmp_ne (tgt := 36) dL_price_29 (by decide) (fun hc7 => ?_) (fun hc7 => ?_)
            · refine y_mask (bs := [false, false]) (ls' := [none, none]) rfl ?_
              exact hj6
            · refine x_iload_n dL_price_36 rfl ?_
              refine x_bipush (v := 6) dL_price_37 (by decide) ?_
              refine x_icmp_ge (tgt := 46) dL_price_39 (by decide) (fun hc8 => ?_) (fun hc8 => ?_)
              · refine x_bipush (v := 6) dL_price_46 (by decide) ?_
                exact x_iretF zXt.refl rfl rfl ⟨(Nat.le_of_ble_eq_true rfl), (Nat.le_of_ble_eq_true rfl)⟩ dL_price_48
              · refine x_iconst (v := 2) dL_price_42 (by decide) ?_
                refine x_goto (tgt := 48) dL_price_43 (by decide) ?_
                exact x_iretF zXt.refl rfl rfl ⟨(Nat.le_of_ble_eq_true rfl), (Nat.le_of_ble_eq_true rfl)⟩ dL_price_48
abbrev kk_Law_bents : Kx := (yL_bents.cls, cL_bents, 14, none, [], false)
set_option maxHeartbeats 4000000 in
set_option maxRecDepth 100000 in
theorem c_Law_bents (ω : Wd) (p4 : Int32) (p5 : Int32) (t6 : Nat) (ht6 : t6 < (oT ω).length) (t7 : Nat) (ht7 : t7 < (oT ω).length) (m : Mm) : Ev ω true 5 0 0 yL_bents cL_bents 14 none [.ref (zad ω 201), .ref (zad ω 203), .ref (zad ω 204), .int p4, .int p5, .ref (zTd ω t6), .ref (zTd ω t7)] m fV (f_Law_bents p4 p5 t6 t7 m) := by
  refine Ev.of (b := false) (ls := [some (.ref (zad ω 201)), some (.ref (zad ω 203)), some (.ref (zad ω 204)), some (.int p4), some (.int p5), some (.ref (zTd ω t6)), some (.ref (zTd ω t7)), none, none, none, none, none, none, none]) (plainFor_of_name (by decide +kernel)) (fun h => by cases h) rfl (Nat.le_of_ble_eq_true rfl) rfl ?_
  change Sx ω ω true 5 0 0 kk_Law_bents fV 0 0 m 0 _ _ _
  unfold f_Law_bents
  refine x_iconst (v := 0) dL_bents_0 (by decide) ?_
  refine x_istore (ls' := [some (.ref (zad ω 201)), some (.ref (zad ω 203)), some (.ref (zad ω 204)), some (.int p4), some (.int p5), some (.ref (zTd ω t6)), some (.ref (zTd ω t7)), some (.int 0), none, none, none, none, none, none]) dL_bents_1 (Nat.le_of_ble_eq_true rfl) rfl ?_
  refine y_Lp1 (fun x1 => [some (.ref (zad ω 201)), some (.ref (zad ω 203)), some (.ref (zad ω 204)), some (.int p4), some (.int p5), some (.ref (zTd ω t6)), some (.ref (zTd ω t7)), some (.int x1), none, none, none, none, none, none]) (fun r2 hr2 x1 m3 => ?_) zFu _ _
  refine x_iload dL_bents_3 rfl ?_
  refine x_aload_n dL_bents_5 rfl ?_
  refine x_iconst (v := 0) dL_bents_6 (by decide) ?_
  refine y_iald hz_204 hn_204 dL_bents_7 (fun hi => ?_)
  refine x_icmp_ge (tgt := 400) dL_bents_8 (by decide) (fun hc4 => ?_) (fun hc4 => ?_)
  · exact x_vretF zXt.refl rfl rfl ⟨(Nat.le_of_ble_eq_true rfl), (Nat.le_of_ble_eq_true rfl)⟩ dL_bents_400
  · refine x_iload_n dL_bents_11 rfl ?_
    refine x_aload_n dL_bents_12 rfl ?_
    refine x_bipush (v := 6) dL_bents_13 (by decide) ?_
    refine x_iload dL_bents_15 rfl ?_
    refine x_imul dL_bents_17 ?_
    refine y_iald hz_201 hn_201 dL_bents_18 (fun hi => ?_)
    refine x_aload dL_bents_19 rfl ?_
    refine y_callSP (rest := []) (c1 := 0) (s1 := 0) (c_Law_begin ω p4 (zI m3 201 (zIx (6 * x1))) t6 ht6 m3) ms_RL_43 rfl (Nat.le_of_ble_eq_true rfl) (Nat.le_of_ble_eq_true rfl) (Nat.le_of_ble_eq_true rfl) ⟨rfl, rfl⟩ ⟨(Nat.le_of_ble_eq_true rfl), (Nat.le_of_ble_eq_true rfl)⟩ dL_bents_21 (fun v5 => ?_)
    refine x_istore (ls' := [some (.ref (zad ω 201)), some (.ref (zad ω 203)), some (.ref (zad ω 204)), some (.int p4), some (.int p5), some (.ref (zTd ω t6)), some (.ref (zTd ω t7)), some (.int x1), some (.int v5), none, none, none, none, none]) dL_bents_24 (Nat.le_of_ble_eq_true rfl) rfl ?_
    refine x_aload_n dL_bents_26 rfl ?_
    refine x_bipush (v := 6) dL_bents_27 (by decide) ?_
    refine x_iload dL_bents_29 rfl ?_
    refine x_imul dL_bents_31 ?_
    refine x_iconst (v := 1) dL_bents_32 (by decide) ?_
    refine x_iadd dL_bents_33 ?_
    refine y_iald hz_201 hn_201 dL_bents_34 (fun hi => ?_)
    refine y_letI (fun x6 => ?_)
    refine x_istore (ls' := [some (.ref (zad ω 201)), some (.ref (zad ω 203)), some (.ref (zad ω 204)), some (.int p4), some (.int p5), some (.ref (zTd ω t6)), some (.ref (zTd ω t7)), some (.int x1), some (.int v5), some (.int x6), none, none, none, none]) dL_bents_35 (Nat.le_of_ble_eq_true rfl) rfl ?_
    refine x_aload_n dL_bents_37 rfl ?_
    refine x_bipush (v := 6) dL_bents_38 (by decide) ?_
    refine x_iload dL_bents_40 rfl ?_
    refine x_imul dL_bents_42 ?_
    refine y_iald hz_201 hn_201 dL_bents_43 (fun hi => ?_)
    refine x_sipush (v := 10000) dL_bents_44 (by decide) ?_
    refine x_idiv dL_bents_47 (by decide) ?_
    refine x_iconst (v := 1) dL_bents_48 (by decide) ?_
    refine y_join (fun j9 => ∀ (x8 : Int32), Sx ω ω true 5 0 0 kk_Law_bents fV 0 0 m3 76 [some (.ref (zad ω 201)), some (.ref (zad ω 203)), some (.ref (zad ω 204)), some (.int p4), some (.int p5), some (.ref (zTd ω t6)), some (.ref (zTd ω t7)), some (.int x1), some (.int v5), some (.int x6), none, none, none, none] [.int x8] (j9 x8)) ?_ (fun j9 hj9 => ?_)
    · intro x8
      refine x_istore (ls' := [some (.ref (zad ω 201)), some (.ref (zad ω 203)), some (.ref (zad ω 204)), some (.int p4), some (.int p5), some (.ref (zTd ω t6)), some (.ref (zTd ω t7)), some (.int x1), some (.int v5), some (.int x6), some (.int x8), none, none, none]) dL_bents_76 (Nat.le_of_ble_eq_true rfl) rfl ?_
      refine x_aload_n dL_bents_78 rfl ?_
      refine x_bipush (v := 6) dL_bents_79 (by decide) ?_
      refine x_iload dL_bents_81 rfl ?_
      refine x_imul dL_bents_83 ?_
      refine x_iconst (v := 2) dL_bents_84 (by decide) ?_
      refine x_iadd dL_bents_85 ?_
      refine y_iald hz_201 hn_201 dL_bents_86 (fun hi => ?_)
      refine y_letI (fun x10 => ?_)
      refine x_istore (ls' := [some (.ref (zad ω 201)), some (.ref (zad ω 203)), some (.ref (zad ω 204)), some (.int p4), some (.int p5), some (.ref (zTd ω t6)), some (.ref (zTd ω t7)), some (.int x1), some (.int v5), some (.int x6), some (.int x8), some (.int x10), none, none]) dL_bents_87 (Nat.le_of_ble_eq_true rfl) rfl ?_
      refine x_iload dL_bents_89 rfl ?_
      refine y_join (fun j14 => ∀ (x12 x13 : Int32), Sx ω ω true 5 0 0 kk_Law_bents fV 0 0 m3 240 [some (.ref (zad ω 201)), some (.ref (zad ω 203)), some (.ref (zad ω 204)), some (.int p4), some (.int p5), some (.ref (zTd ω t6)), some (.ref (zTd ω t7)), some (.int x1), some (.int v5), none, some (.int x12), some (.int x13), none, none] [] (j14 x12 x13)) ?_ (fun j14 hj14 => ?_)
      · intro x12 x13
        refine x_iconst (v := 0) dL_bents_240 (by decide) ?_
        refine x_istore (ls' := [some (.ref (zad ω 201)), some (.ref (zad ω 203)), some (.ref (zad ω 204)), some (.int p4), some (.int p5), some (.ref (zTd ω t6)), some (.ref (zTd ω t7)), some (.int x1), some (.int v5), none, some (.int x12), some (.int x13), some (.int 0), none]) dL_bents_241 (Nat.le_of_ble_eq_true rfl) rfl ?_
        refine y_Lq3 (fun x15 x16 x17 => [some (.ref (zad ω 201)), some (.ref (zad ω 203)), some (.ref (zad ω 204)), some (.int p4), some (.int p5), some (.ref (zTd ω t6)), some (.ref (zTd ω t7)), some (.int x1), some (.int x15), none, some (.int x16), some (.int x13), some (.int x17), none]) (fun r18 hr18 x15 x16 x17 => ?_) zFu _ _ _
        refine x_iload dL_bents_243 rfl ?_
        refine x_iconst (v := 3) dL_bents_245 (by decide) ?_
        refine x_icmp_ge (tgt := 301) dL_bents_246 (by decide) (fun hc19 => ?_) (fun hc19 => ?_)
        · refine x_iconst (v := 0) dL_bents_301 (by decide) ?_
          refine x_istore (ls' := [some (.ref (zad ω 201)), some (.ref (zad ω 203)), some (.ref (zad ω 204)), some (.int p4), some (.int p5), some (.ref (zTd ω t6)), some (.ref (zTd ω t7)), some (.int x1), some (.int x15), none, some (.int x16), some (.int x13), some (.int 0), none]) dL_bents_302 (Nat.le_of_ble_eq_true rfl) rfl ?_
          refine y_mask (bs := [true, true, true, true, true, true, true, true, true, false, true, false, true, false]) (ls' := [some (.ref (zad ω 201)), some (.ref (zad ω 203)), some (.ref (zad ω 204)), some (.int p4), some (.int p5), some (.ref (zTd ω t6)), some (.ref (zTd ω t7)), some (.int x1), some (.int x15), none, some (.int x16), none, some (.int 0), none]) rfl ?_
          refine y_Lq2 (fun x20 x21 => [some (.ref (zad ω 201)), some (.ref (zad ω 203)), some (.ref (zad ω 204)), some (.int p4), some (.int p5), some (.ref (zTd ω t6)), some (.ref (zTd ω t7)), some (.int x1), some (.int x20), none, some (.int x16), none, some (.int x21), none]) (fun r22 hr22 x20 x21 => ?_) zFu _ _
          refine x_iload dL_bents_304 rfl ?_
          refine x_aload_n dL_bents_306 rfl ?_
          refine x_iconst (v := 1) dL_bents_307 (by decide) ?_
          refine y_iald hz_204 hn_204 dL_bents_308 (fun hi => ?_)
          refine x_icmp_ge (tgt := 380) dL_bents_309 (by decide) (fun hc23 => ?_) (fun hc23 => ?_)
          · refine x_aload dL_bents_380 rfl ?_
            refine x_iload dL_bents_382 rfl ?_
            refine x_iload dL_bents_384 rfl ?_
            refine y_tast ht6 dL_bents_386 (fun hi => ?_)
            refine y_letM (fun m24 => ?_)
            refine x_aload dL_bents_387 rfl ?_
            refine x_iload dL_bents_389 rfl ?_
            refine x_iload dL_bents_391 rfl ?_
            refine y_tast ht7 dL_bents_393 (fun hi => ?_)
            refine y_letM (fun m25 => ?_)
            refine y_iinc (w := 1) dL_bents_394 rfl (by decide) (Nat.le_of_ble_eq_true rfl) (fun x26 => ?_)
            refine x_goto (tgt := 3) dL_bents_397 (by decide) ?_
            refine y_mask (bs := [true, true, true, true, true, true, true, true, false, false, false, false, false, false]) (ls' := [some (.ref (zad ω 201)), some (.ref (zad ω 203)), some (.ref (zad ω 204)), some (.int p4), some (.int p5), some (.ref (zTd ω t6)), some (.ref (zTd ω t7)), some (.int x26), none, none, none, none, none, none]) rfl ?_
            exact hr2 _ _
          · refine x_aload_n dL_bents_312 rfl ?_
            refine x_iconst (v := 3) dL_bents_313 (by decide) ?_
            refine x_iload dL_bents_314 rfl ?_
            refine x_imul dL_bents_316 ?_
            refine y_iald hz_203 hn_203 dL_bents_317 (fun hi => ?_)
            refine x_iload dL_bents_318 rfl ?_
            refine y_join (fun j29 => ∀ (x28 : Int32), Sx ω ω true 5 0 0 kk_Law_bents fV 0 0 m3 374 [some (.ref (zad ω 201)), some (.ref (zad ω 203)), some (.ref (zad ω 204)), some (.int p4), some (.int p5), some (.ref (zTd ω t6)), some (.ref (zTd ω t7)), some (.int x1), some (.int x28), none, some (.int x16), none, some (.int x21), none] [] (j29 x28)) ?_ (fun j29 hj29 => ?_)
            · intro x28
              refine y_iinc (w := 1) dL_bents_374 rfl (by decide) (Nat.le_of_ble_eq_true rfl) (fun x30 => ?_)
              refine x_goto (tgt := 304) dL_bents_377 (by decide) ?_
              exact hr22 _ _
            · refine x_icmp_ne (tgt := 374) dL_bents_320 (by decide) (fun hc27 => ?_) (fun hc27 => ?_)
              · refine x_aload_n dL_bents_323 rfl ?_
                refine x_iconst (v := 3) dL_bents_324 (by decide) ?_
                refine x_iload dL_bents_325 rfl ?_
                refine x_imul dL_bents_327 ?_
                refine x_iconst (v := 1) dL_bents_328 (by decide) ?_
                refine x_iadd dL_bents_329 ?_
                refine y_iald hz_203 hn_203 dL_bents_330 (fun hi => ?_)
                refine x_iload_n dL_bents_331 rfl ?_
                refine x_icmp_ne (tgt := 374) dL_bents_332 (by decide) (fun hc31 => ?_) (fun hc31 => ?_)
                · refine x_iload dL_bents_335 rfl ?_
                  refine x_if_lt (tgt := 374) dL_bents_337 (by decide) (fun hc32 => ?_) (fun hc32 => ?_)
                  · exact hj29 _
                  · refine x_aload_n dL_bents_340 rfl ?_
                    refine x_iconst (v := 3) dL_bents_341 (by decide) ?_
                    refine x_iload dL_bents_342 rfl ?_
                    refine x_imul dL_bents_344 ?_
                    refine x_iconst (v := 2) dL_bents_345 (by decide) ?_
                    refine x_iadd dL_bents_346 ?_
                    refine y_iald hz_203 hn_203 dL_bents_347 (fun hi => ?_)
                    refine x_bipush (v := 99) dL_bents_348 (by decide) ?_
                    refine y_join (fun j35 => ∀ (x34 : Int32), Sx ω ω true 5 0 0 kk_Law_bents fV 0 0 m3 372 [some (.ref (zad ω 201)), some (.ref (zad ω 203)), some (.ref (zad ω 204)), some (.int p4), some (.int p5), some (.ref (zTd ω t6)), some (.ref (zTd ω t7)), some (.int x1), none, none, some (.int x16), none, some (.int x21), none] [.int x34] (j35 x34)) ?_ (fun j35 hj35 => ?_)
                    · intro x34
                      refine x_istore (ls' := [some (.ref (zad ω 201)), some (.ref (zad ω 203)), some (.ref (zad ω 204)), some (.int p4), some (.int p5), some (.ref (zTd ω t6)), some (.ref (zTd ω t7)), some (.int x1), some (.int x34), none, some (.int x16), none, some (.int x21), none]) dL_bents_372 (Nat.le_of_ble_eq_true rfl) rfl ?_
                      exact hj29 _
                    · refine x_icmp_ne (tgt := 357) dL_bents_350 (by decide) (fun hc33 => ?_) (fun hc33 => ?_)
                      · refine x_iconst (v := (-1)) dL_bents_353 (by decide) ?_
                        refine x_goto (tgt := 372) dL_bents_354 (by decide) ?_
                        refine y_mask (bs := [true, true, true, true, true, true, true, true, false, false, true, false, true, false]) (ls' := [some (.ref (zad ω 201)), some (.ref (zad ω 203)), some (.ref (zad ω 204)), some (.int p4), some (.int p5), some (.ref (zTd ω t6)), some (.ref (zTd ω t7)), some (.int x1), none, none, some (.int x16), none, some (.int x21), none]) rfl ?_
                        exact hj35 _
                      · refine x_iload_n dL_bents_357 rfl ?_
                        refine x_iload dL_bents_358 rfl ?_
                        refine x_aload_n dL_bents_360 rfl ?_
                        refine x_iconst (v := 3) dL_bents_361 (by decide) ?_
                        refine x_iload dL_bents_362 rfl ?_
                        refine x_imul dL_bents_364 ?_
                        refine x_iconst (v := 2) dL_bents_365 (by decide) ?_
                        refine x_iadd dL_bents_366 ?_
                        refine y_iald hz_203 hn_203 dL_bents_367 (fun hi => ?_)
                        refine x_iadd dL_bents_368 ?_
                        refine y_callSP (rest := []) (c1 := 0) (s1 := 0) (c_Law_in ω p4 (x20 + (zI m3 203 (zIx ((3 * x21) + 2)))) m3) ms_RL_34 rfl (Nat.le_of_ble_eq_true rfl) (Nat.le_of_ble_eq_true rfl) (Nat.le_of_ble_eq_true rfl) ⟨rfl, rfl⟩ ⟨(Nat.le_of_ble_eq_true rfl), (Nat.le_of_ble_eq_true rfl)⟩ dL_bents_369 (fun v36 => ?_)
                        refine y_mask (bs := [true, true, true, true, true, true, true, true, false, false, true, false, true, false]) (ls' := [some (.ref (zad ω 201)), some (.ref (zad ω 203)), some (.ref (zad ω 204)), some (.int p4), some (.int p5), some (.ref (zTd ω t6)), some (.ref (zTd ω t7)), some (.int x1), none, none, some (.int x16), none, some (.int x21), none]) rfl ?_
                        exact hj35 _
                · exact hj29 _
              · exact hj29 _
        · refine x_iload dL_bents_249 rfl ?_
          refine y_join (fun j39 => ∀ (x38 : Int32), Sx ω ω true 5 0 0 kk_Law_bents fV 0 0 m3 271 [some (.ref (zad ω 201)), some (.ref (zad ω 203)), some (.ref (zad ω 204)), some (.int p4), some (.int p5), some (.ref (zTd ω t6)), some (.ref (zTd ω t7)), some (.int x1), some (.int x15), none, some (.int x16), some (.int x13), some (.int x17), none] [.int x38] (j39 x38)) ?_ (fun j39 hj39 => ?_)
          · intro x38
            refine x_istore (ls' := [some (.ref (zad ω 201)), some (.ref (zad ω 203)), some (.ref (zad ω 204)), some (.int p4), some (.int p5), some (.ref (zTd ω t6)), some (.ref (zTd ω t7)), some (.int x1), some (.int x15), none, some (.int x16), some (.int x13), some (.int x17), some (.int x38)]) dL_bents_271 (Nat.le_of_ble_eq_true rfl) rfl ?_
            refine x_iload_n dL_bents_273 rfl ?_
            refine x_iload dL_bents_274 rfl ?_
            refine x_iload dL_bents_276 rfl ?_
            refine x_iload dL_bents_278 rfl ?_
            refine y_callSP (rest := []) (c1 := 0) (s1 := 0) (c_Law_walk ω p4 p5 x15 x38 m3) ms_RL_51 rfl (Nat.le_of_ble_eq_true rfl) (Nat.le_of_ble_eq_true rfl) (Nat.le_of_ble_eq_true rfl) ⟨rfl, rfl⟩ ⟨(Nat.le_of_ble_eq_true rfl), (Nat.le_of_ble_eq_true rfl)⟩ dL_bents_280 (fun v40 => ?_)
            refine x_istore (ls' := [some (.ref (zad ω 201)), some (.ref (zad ω 203)), some (.ref (zad ω 204)), some (.int p4), some (.int p5), some (.ref (zTd ω t6)), some (.ref (zTd ω t7)), some (.int x1), some (.int v40), none, some (.int x16), some (.int x13), some (.int x17), some (.int x38)]) dL_bents_283 (Nat.le_of_ble_eq_true rfl) rfl ?_
            refine x_iload dL_bents_285 rfl ?_
            refine x_iload dL_bents_287 rfl ?_
            refine y_callSP (rest := [.int x16]) (c1 := 0) (s1 := 0) (c_Law_price ω x38 m3) ms_RL_55 rfl (Nat.le_of_ble_eq_true rfl) (Nat.le_of_ble_eq_true rfl) (Nat.le_of_ble_eq_true rfl) ⟨rfl, rfl⟩ ⟨(Nat.le_of_ble_eq_true rfl), (Nat.le_of_ble_eq_true rfl)⟩ dL_bents_289 (fun v41 => ?_)
            refine x_iadd dL_bents_292 ?_
            refine y_letI (fun x42 => ?_)
            refine x_istore (ls' := [some (.ref (zad ω 201)), some (.ref (zad ω 203)), some (.ref (zad ω 204)), some (.int p4), some (.int p5), some (.ref (zTd ω t6)), some (.ref (zTd ω t7)), some (.int x1), some (.int v40), none, some (.int x42), some (.int x13), some (.int x17), some (.int x38)]) dL_bents_293 (Nat.le_of_ble_eq_true rfl) rfl ?_
            refine y_iinc (w := 1) dL_bents_295 rfl (by decide) (Nat.le_of_ble_eq_true rfl) (fun x43 => ?_)
            refine x_goto (tgt := 243) dL_bents_298 (by decide) ?_
            refine y_mask (bs := [true, true, true, true, true, true, true, true, true, false, true, true, true, false]) (ls' := [some (.ref (zad ω 201)), some (.ref (zad ω 203)), some (.ref (zad ω 204)), some (.int p4), some (.int p5), some (.ref (zTd ω t6)), some (.ref (zTd ω t7)), some (.int x1), some (.int v40), none, some (.int x42), some (.int x13), some (.int x43), none]) rfl ?_
            exact hr18 _ _ _
          · refine x_if_ne (tgt := 259) dL_bents_251 (by decide) (fun hc37 => ?_) (fun hc37 => ?_)
            · refine x_iload dL_bents_254 rfl ?_
              refine x_goto (tgt := 271) dL_bents_256 (by decide) ?_
              exact hj39 _
            · refine x_aload_n dL_bents_259 rfl ?_
              refine x_bipush (v := 6) dL_bents_260 (by decide) ?_
              refine x_iload dL_bents_262 rfl ?_
              refine x_imul dL_bents_264 ?_
              refine x_iconst (v := 3) dL_bents_265 (by decide) ?_
              refine x_iadd dL_bents_266 ?_
              refine x_iload dL_bents_267 rfl ?_
              refine x_iadd dL_bents_269 ?_
              refine y_iald hz_201 hn_201 dL_bents_270 (fun hi => ?_)
              exact hj39 _
      · refine x_if_eq (tgt := 240) dL_bents_91 (by decide) (fun hc11 => ?_) (fun hc11 => ?_)
        · refine y_mask (bs := [true, true, true, true, true, true, true, true, true, false, true, true, false, false]) (ls' := [some (.ref (zad ω 201)), some (.ref (zad ω 203)), some (.ref (zad ω 204)), some (.int p4), some (.int p5), some (.ref (zTd ω t6)), some (.ref (zTd ω t7)), some (.int x1), some (.int v5), none, some (.int x8), some (.int x10), none, none]) rfl ?_
          exact hj14 _ _
        · refine x_iload_n dL_bents_94 rfl ?_
          refine x_iload dL_bents_95 rfl ?_
          refine x_iload dL_bents_97 rfl ?_
          refine y_join (fun j46 => ∀ (x45 : Int32), Sx ω ω true 5 0 0 kk_Law_bents fV 0 0 m3 110 [some (.ref (zad ω 201)), some (.ref (zad ω 203)), some (.ref (zad ω 204)), some (.int p4), some (.int p5), some (.ref (zTd ω t6)), some (.ref (zTd ω t7)), some (.int x1), some (.int v5), some (.int x6), some (.int x8), some (.int x10), none, none] [.int x45, .int v5, .int p4] (j46 x45)) ?_ (fun j46 hj46 => ?_)
          · intro x45
            refine x_aload dL_bents_110 rfl ?_
            refine y_callSP (rest := []) (c1 := 0) (s1 := 0) (c_Law_holds ω p4 v5 x45 t6 ht6 m3) ms_RL_47 rfl (Nat.le_of_ble_eq_true rfl) (Nat.le_of_ble_eq_true rfl) (Nat.le_of_ble_eq_true rfl) ⟨rfl, rfl⟩ ⟨(Nat.le_of_ble_eq_true rfl), (Nat.le_of_ble_eq_true rfl)⟩ dL_bents_112 (fun v47 => ?_)
            refine x_iload dL_bents_115 rfl ?_
            refine y_join (fun j50 => ∀ (x49 : Int32), Sx ω ω true 5 0 0 kk_Law_bents fV 0 0 m3 125 [some (.ref (zad ω 201)), some (.ref (zad ω 203)), some (.ref (zad ω 204)), some (.int p4), some (.int p5), some (.ref (zTd ω t6)), some (.ref (zTd ω t7)), some (.int x1), some (.int v5), some (.int x6), some (.int x8), some (.int x10), none, none] [.int x49, .int v47] (j50 x49)) ?_ (fun j50 hj50 => ?_)
            · intro x49
              refine y_join (fun j53 => ∀ (x52 : Int32), Sx ω ω true 5 0 0 kk_Law_bents fV 0 0 m3 133 [some (.ref (zad ω 201)), some (.ref (zad ω 203)), some (.ref (zad ω 204)), some (.int p4), some (.int p5), some (.ref (zTd ω t6)), some (.ref (zTd ω t7)), some (.int x1), some (.int v5), some (.int x6), some (.int x8), some (.int x10), none, none] [.int x52] (j53 x52)) ?_ (fun j53 hj53 => ?_)
              · intro x52
                refine x_istore (ls' := [some (.ref (zad ω 201)), some (.ref (zad ω 203)), some (.ref (zad ω 204)), some (.int p4), some (.int p5), some (.ref (zTd ω t6)), some (.ref (zTd ω t7)), some (.int x1), some (.int v5), some (.int x6), some (.int x8), some (.int x10), some (.int x52), none]) dL_bents_133 (Nat.le_of_ble_eq_true rfl) rfl ?_
                refine x_iload dL_bents_135 rfl ?_
                refine x_iconst (v := 1) dL_bents_137 (by decide) ?_
                refine x_iload dL_bents_138 rfl ?_
                refine y_join (fun j56 => ∀ (x55 : Int32), Sx ω ω true 5 0 0 kk_Law_bents fV 0 0 m3 148 [some (.ref (zad ω 201)), some (.ref (zad ω 203)), some (.ref (zad ω 204)), some (.int p4), some (.int p5), some (.ref (zTd ω t6)), some (.ref (zTd ω t7)), some (.int x1), some (.int v5), some (.int x6), none, some (.int x10), some (.int x52), none] [.int x55, .int 1, .int x8] (j56 x55)) ?_ (fun j56 hj56 => ?_)
                · intro x55
                  refine x_iadd dL_bents_148 ?_
                  refine x_iload dL_bents_149 rfl ?_
                  refine y_join (fun j59 => ∀ (x58 : Int32), Sx ω ω true 5 0 0 kk_Law_bents fV 0 0 m3 162 [some (.ref (zad ω 201)), some (.ref (zad ω 203)), some (.ref (zad ω 204)), some (.int p4), some (.int p5), some (.ref (zTd ω t6)), some (.ref (zTd ω t7)), some (.int x1), some (.int v5), none, none, some (.int x10), some (.int x52), none] [.int x58, .int (1 + x55), .int x8] (j59 x58)) ?_ (fun j59 hj59 => ?_)
                  · intro x58
                    refine x_sipush (v := 10000) dL_bents_162 (by decide) ?_
                    refine x_idiv dL_bents_165 (by decide) ?_
                    refine x_bipush (v := 15) dL_bents_166 (by decide) ?_
                    refine y_join (fun j62 => ∀ (x61 : Int32), Sx ω ω true 5 0 0 kk_Law_bents fV 0 0 m3 176 [some (.ref (zad ω 201)), some (.ref (zad ω 203)), some (.ref (zad ω 204)), some (.int p4), some (.int p5), some (.ref (zTd ω t6)), some (.ref (zTd ω t7)), some (.int x1), some (.int v5), none, none, some (.int x10), some (.int x52), none] [.int x61, .int (1 + x55), .int x8] (j62 x61)) ?_ (fun j62 hj62 => ?_)
                    · intro x61
                      refine x_iadd dL_bents_176 ?_
                      refine x_iload dL_bents_177 rfl ?_
                      refine y_join (fun j65 => ∀ (x64 : Int32), Sx ω ω true 5 0 0 kk_Law_bents fV 0 0 m3 199 [some (.ref (zad ω 201)), some (.ref (zad ω 203)), some (.ref (zad ω 204)), some (.int p4), some (.int p5), some (.ref (zTd ω t6)), some (.ref (zTd ω t7)), some (.int x1), some (.int v5), none, none, some (.int x10), some (.int x52), none] [.int x64, .int ((1 + x55) + x61), .int x8] (j65 x64)) ?_ (fun j65 hj65 => ?_)
                      · intro x64
                        refine x_iadd dL_bents_199 ?_
                        refine x_iadd dL_bents_200 ?_
                        refine y_letI (fun x66 => ?_)
                        refine x_istore (ls' := [some (.ref (zad ω 201)), some (.ref (zad ω 203)), some (.ref (zad ω 204)), some (.int p4), some (.int p5), some (.ref (zTd ω t6)), some (.ref (zTd ω t7)), some (.int x1), some (.int v5), none, some (.int x66), some (.int x10), some (.int x52), none]) dL_bents_201 (Nat.le_of_ble_eq_true rfl) rfl ?_
                        refine x_iload dL_bents_203 rfl ?_
                        refine y_join (fun j69 => ∀ (x68 : Int32), Sx ω ω true 5 0 0 kk_Law_bents fV 0 0 m3 238 [some (.ref (zad ω 201)), some (.ref (zad ω 203)), some (.ref (zad ω 204)), some (.int p4), some (.int p5), some (.ref (zTd ω t6)), some (.ref (zTd ω t7)), some (.int x1), some (.int v5), none, some (.int x66), none, none, none] [.int x68] (j69 x68)) ?_ (fun j69 hj69 => ?_)
                        · intro x68
                          refine x_istore (ls' := [some (.ref (zad ω 201)), some (.ref (zad ω 203)), some (.ref (zad ω 204)), some (.int p4), some (.int p5), some (.ref (zTd ω t6)), some (.ref (zTd ω t7)), some (.int x1), some (.int v5), none, some (.int x66), some (.int x68), none, none]) dL_bents_238 (Nat.le_of_ble_eq_true rfl) rfl ?_
                          exact hj14 _ _
                        · refine x_if_eq (tgt := 213) dL_bents_205 (by decide) (fun hc67 => ?_) (fun hc67 => ?_)
                          · refine x_aload_n dL_bents_213 rfl ?_
                            refine x_bipush (v := 6) dL_bents_214 (by decide) ?_
                            refine x_iload dL_bents_216 rfl ?_
                            refine x_imul dL_bents_218 ?_
                            refine x_iconst (v := 3) dL_bents_219 (by decide) ?_
                            refine x_iadd dL_bents_220 ?_
                            refine y_iald hz_201 hn_201 dL_bents_221 (fun hi => ?_)
                            refine x_if_ge (tgt := 229) dL_bents_222 (by decide) (fun hc70 => ?_) (fun hc70 => ?_)
                            · refine x_aload_n dL_bents_229 rfl ?_
                              refine x_bipush (v := 6) dL_bents_230 (by decide) ?_
                              refine x_iload dL_bents_232 rfl ?_
                              refine x_imul dL_bents_234 ?_
                              refine x_iconst (v := 3) dL_bents_235 (by decide) ?_
                              refine x_iadd dL_bents_236 ?_
                              refine y_iald hz_201 hn_201 dL_bents_237 (fun hi => ?_)
                              refine y_mask (bs := [true, true, true, true, true, true, true, true, true, false, true, false, false, false]) (ls' := [some (.ref (zad ω 201)), some (.ref (zad ω 203)), some (.ref (zad ω 204)), some (.int p4), some (.int p5), some (.ref (zTd ω t6)), some (.ref (zTd ω t7)), some (.int x1), some (.int v5), none, some (.int x66), none, none, none]) rfl ?_
                              exact hj69 _
                            · refine x_iconst (v := 0) dL_bents_225 (by decide) ?_
                              refine x_goto (tgt := 238) dL_bents_226 (by decide) ?_
                              refine y_mask (bs := [true, true, true, true, true, true, true, true, true, false, true, false, false, false]) (ls' := [some (.ref (zad ω 201)), some (.ref (zad ω 203)), some (.ref (zad ω 204)), some (.int p4), some (.int p5), some (.ref (zTd ω t6)), some (.ref (zTd ω t7)), some (.int x1), some (.int v5), none, some (.int x66), none, none, none]) rfl ?_
                              exact hj69 _
                          · refine x_iload dL_bents_208 rfl ?_
                            refine x_goto (tgt := 238) dL_bents_210 (by decide) ?_
                            refine y_mask (bs := [true, true, true, true, true, true, true, true, true, false, true, false, false, false]) (ls' := [some (.ref (zad ω 201)), some (.ref (zad ω 203)), some (.ref (zad ω 204)), some (.int p4), some (.int p5), some (.ref (zTd ω t6)), some (.ref (zTd ω t7)), some (.int x1), some (.int v5), none, some (.int x66), none, none, none]) rfl ?_
                            exact hj69 _
                      · refine y_join (fun j71 => Sx ω ω true 5 0 0 kk_Law_bents fV 0 0 m3 198 [some (.ref (zad ω 201)), some (.ref (zad ω 203)), some (.ref (zad ω 204)), some (.int p4), some (.int p5), some (.ref (zTd ω t6)), some (.ref (zTd ω t7)), some (.int x1), some (.int v5), none, none, some (.int x10), some (.int x52), none] [.int ((1 + x55) + x61), .int x8] j71) ?_ (fun j71 hj71 => ?_)
                        · refine x_iconst (v := 0) dL_bents_198 (by decide) ?_
                          exact hj65 _
                        · refine x_if_eq (tgt := 198) dL_bents_179 (by decide) (fun hc63 => ?_) (fun hc63 => ?_)
                          · exact hj71
                          · refine x_aload_n dL_bents_182 rfl ?_
                            refine x_bipush (v := 6) dL_bents_183 (by decide) ?_
                            refine x_iload dL_bents_185 rfl ?_
                            refine x_imul dL_bents_187 ?_
                            refine x_iconst (v := 3) dL_bents_188 (by decide) ?_
                            refine x_iadd dL_bents_189 ?_
                            refine y_iald hz_201 hn_201 dL_bents_190 (fun hi => ?_)
                            refine x_if_lt (tgt := 198) dL_bents_191 (by decide) (fun hc72 => ?_) (fun hc72 => ?_)
                            · exact hj71
                            · refine x_iconst (v := 1) dL_bents_194 (by decide) ?_
                              refine x_goto (tgt := 199) dL_bents_195 (by decide) ?_
                              exact hj65 _
                    · refine x_icmp_ne (tgt := 175) dL_bents_168 (by decide) (fun hc60 => ?_) (fun hc60 => ?_)
                      · refine x_iconst (v := 2) dL_bents_171 (by decide) ?_
                        refine x_goto (tgt := 176) dL_bents_172 (by decide) ?_
                        exact hj62 _
                      · refine x_iconst (v := 1) dL_bents_175 (by decide) ?_
                        exact hj62 _
                  · refine x_if_ge (tgt := 160) dL_bents_151 (by decide) (fun hc57 => ?_) (fun hc57 => ?_)
                    · refine x_iload dL_bents_160 rfl ?_
                      refine y_mask (bs := [true, true, true, true, true, true, true, true, true, false, false, true, true, false]) (ls' := [some (.ref (zad ω 201)), some (.ref (zad ω 203)), some (.ref (zad ω 204)), some (.int p4), some (.int p5), some (.ref (zTd ω t6)), some (.ref (zTd ω t7)), some (.int x1), some (.int v5), none, none, some (.int x10), some (.int x52), none]) rfl ?_
                      exact hj59 _
                    · refine x_iload dL_bents_154 rfl ?_
                      refine x_ineg dL_bents_156 ?_
                      refine x_goto (tgt := 162) dL_bents_157 (by decide) ?_
                      refine y_mask (bs := [true, true, true, true, true, true, true, true, true, false, false, true, true, false]) (ls' := [some (.ref (zad ω 201)), some (.ref (zad ω 203)), some (.ref (zad ω 204)), some (.int p4), some (.int p5), some (.ref (zTd ω t6)), some (.ref (zTd ω t7)), some (.int x1), some (.int v5), none, none, some (.int x10), some (.int x52), none]) rfl ?_
                      exact hj59 _
                · refine x_if_ge (tgt := 147) dL_bents_140 (by decide) (fun hc54 => ?_) (fun hc54 => ?_)
                  · refine x_iconst (v := 0) dL_bents_147 (by decide) ?_
                    refine y_mask (bs := [true, true, true, true, true, true, true, true, true, true, false, true, true, false]) (ls' := [some (.ref (zad ω 201)), some (.ref (zad ω 203)), some (.ref (zad ω 204)), some (.int p4), some (.int p5), some (.ref (zTd ω t6)), some (.ref (zTd ω t7)), some (.int x1), some (.int v5), some (.int x6), none, some (.int x10), some (.int x52), none]) rfl ?_
                    exact hj56 _
                  · refine x_iconst (v := 1) dL_bents_143 (by decide) ?_
                    refine x_goto (tgt := 148) dL_bents_144 (by decide) ?_
                    refine y_mask (bs := [true, true, true, true, true, true, true, true, true, true, false, true, true, false]) (ls' := [some (.ref (zad ω 201)), some (.ref (zad ω 203)), some (.ref (zad ω 204)), some (.int p4), some (.int p5), some (.ref (zTd ω t6)), some (.ref (zTd ω t7)), some (.int x1), some (.int v5), some (.int x6), none, some (.int x10), some (.int x52), none]) rfl ?_
                    exact hj56 _
              · refine x_icmp_ne (tgt := 132) dL_bents_125 (by decide) (fun hc51 => ?_) (fun hc51 => ?_)
                · refine x_iconst (v := 1) dL_bents_128 (by decide) ?_
                  refine x_goto (tgt := 133) dL_bents_129 (by decide) ?_
                  exact hj53 _
                · refine x_iconst (v := 0) dL_bents_132 (by decide) ?_
                  exact hj53 _
            · refine x_if_le (tgt := 124) dL_bents_117 (by decide) (fun hc48 => ?_) (fun hc48 => ?_)
              · refine x_iconst (v := 0) dL_bents_124 (by decide) ?_
                exact hj50 _
              · refine x_iconst (v := 1) dL_bents_120 (by decide) ?_
                refine x_goto (tgt := 125) dL_bents_121 (by decide) ?_
                exact hj50 _
          · refine x_if_ge (tgt := 108) dL_bents_99 (by decide) (fun hc44 => ?_) (fun hc44 => ?_)
            · refine x_iload dL_bents_108 rfl ?_
              exact hj46 _
            · refine x_iload dL_bents_102 rfl ?_
              refine x_ineg dL_bents_104 ?_
              refine x_goto (tgt := 110) dL_bents_105 (by decide) ?_
              exact hj46 _
    · refine x_icmp_ne (tgt := 56) dL_bents_49 (by decide) (fun hc7 => ?_) (fun hc7 => ?_)
      · refine x_iconst (v := 1) dL_bents_52 (by decide) ?_
        refine x_goto (tgt := 76) dL_bents_53 (by decide) ?_
        exact hj9 _
      · refine x_aload_n dL_bents_56 rfl ?_
        refine x_bipush (v := 6) dL_bents_57 (by decide) ?_
        refine x_iload dL_bents_59 rfl ?_
        refine x_imul dL_bents_61 ?_
        refine y_iald hz_201 hn_201 dL_bents_62 (fun hi => ?_)
        refine x_sipush (v := 10000) dL_bents_63 (by decide) ?_
        refine x_idiv dL_bents_66 (by decide) ?_
        refine x_iconst (v := 4) dL_bents_67 (by decide) ?_
        refine x_icmp_ne (tgt := 75) dL_bents_68 (by decide) (fun hc73 => ?_) (fun hc73 => ?_)
        · refine x_iconst (v := 2) dL_bents_71 (by decide) ?_
          refine x_goto (tgt := 76) dL_bents_72 (by decide) ?_
          exact hj9 _
        · refine x_iconst (v := 3) dL_bents_75 (by decide) ?_
          exact hj9 _
abbrev kk_Law_place : Kx := (yL_place.cls, cL_place, 10, none, [], false)
set_option maxHeartbeats 4000000 in
set_option maxRecDepth 100000 in
theorem c_Law_place (ω : Wd) (p3 : Int32) (t4 : Nat) (ht4 : t4 < (oT ω).length) (t5 : Nat) (ht5 : t5 < (oT ω).length) (m : Mm) : Ev ω true 3 0 0 yL_place cL_place 10 none [.ref (zad ω 202), .ref (zad ω 204), .int p3, .ref (zTd ω t4), .ref (zTd ω t5)] m fV (f_Law_place p3 t4 t5 m) := by
  refine Ev.of (b := false) (ls := [some (.ref (zad ω 202)), some (.ref (zad ω 204)), some (.int p3), some (.ref (zTd ω t4)), some (.ref (zTd ω t5)), none, none, none, none, none]) (plainFor_of_name (by decide +kernel)) (fun h => by cases h) rfl (Nat.le_of_ble_eq_true rfl) rfl ?_
  change Sx ω ω true 3 0 0 kk_Law_place fV 0 0 m 0 _ _ _
  unfold f_Law_place
  refine x_iconst (v := 0) dL_place_0 (by decide) ?_
  refine x_istore (ls' := [some (.ref (zad ω 202)), some (.ref (zad ω 204)), some (.int p3), some (.ref (zTd ω t4)), some (.ref (zTd ω t5)), some (.int 0), none, none, none, none]) dL_place_1 (Nat.le_of_ble_eq_true rfl) rfl ?_
  refine y_Lp1 (fun x1 => [some (.ref (zad ω 202)), some (.ref (zad ω 204)), some (.int p3), some (.ref (zTd ω t4)), some (.ref (zTd ω t5)), some (.int x1), none, none, none, none]) (fun r2 hr2 x1 m3 => ?_) zFu _ _
  refine x_iload dL_place_3 rfl ?_
  refine x_aload_n dL_place_5 rfl ?_
  refine x_iconst (v := 0) dL_place_6 (by decide) ?_
  refine y_iald hz_204 hn_204 dL_place_7 (fun hi => ?_)
  refine x_icmp_ge (tgt := 23) dL_place_8 (by decide) (fun hc4 => ?_) (fun hc4 => ?_)
  · refine x_bipush (v := 9) dL_place_23 (by decide) ?_
    refine x_istore (ls' := [some (.ref (zad ω 202)), some (.ref (zad ω 204)), some (.int p3), some (.ref (zTd ω t4)), some (.ref (zTd ω t5)), some (.int 9), none, none, none, none]) dL_place_25 (Nat.le_of_ble_eq_true rfl) rfl ?_
    refine y_Lp1 (fun x5 => [some (.ref (zad ω 202)), some (.ref (zad ω 204)), some (.int p3), some (.ref (zTd ω t4)), some (.ref (zTd ω t5)), some (.int x5), none, none, none, none]) (fun r6 hr6 x5 m7 => ?_) zFu _ _
    refine x_iload dL_place_27 rfl ?_
    refine x_if_lt (tgt := 178) dL_place_29 (by decide) (fun hc8 => ?_) (fun hc8 => ?_)
    · exact x_vretF zXt.refl rfl rfl ⟨(Nat.le_of_ble_eq_true rfl), (Nat.le_of_ble_eq_true rfl)⟩ dL_place_178
    · refine x_iconst (v := 0) dL_place_32 (by decide) ?_
      refine x_istore (ls' := [some (.ref (zad ω 202)), some (.ref (zad ω 204)), some (.int p3), some (.ref (zTd ω t4)), some (.ref (zTd ω t5)), some (.int x5), some (.int 0), none, none, none]) dL_place_33 (Nat.le_of_ble_eq_true rfl) rfl ?_
      refine y_Lp1 (fun x9 => [some (.ref (zad ω 202)), some (.ref (zad ω 204)), some (.int p3), some (.ref (zTd ω t4)), some (.ref (zTd ω t5)), some (.int x5), some (.int x9), none, none, none]) (fun r10 hr10 x9 m11 => ?_) zFu _ _
      refine x_iload dL_place_35 rfl ?_
      refine x_aload_n dL_place_37 rfl ?_
      refine x_iconst (v := 0) dL_place_38 (by decide) ?_
      refine y_iald hz_204 hn_204 dL_place_39 (fun hi => ?_)
      refine x_icmp_ge (tgt := 172) dL_place_40 (by decide) (fun hc12 => ?_) (fun hc12 => ?_)
      · refine y_iinc (w := (-1)) dL_place_172 rfl (by decide) (Nat.le_of_ble_eq_true rfl) (fun x13 => ?_)
        refine x_goto (tgt := 27) dL_place_175 (by decide) ?_
        refine y_mask (bs := [true, true, true, true, true, true, false, false, false, false]) (ls' := [some (.ref (zad ω 202)), some (.ref (zad ω 204)), some (.int p3), some (.ref (zTd ω t4)), some (.ref (zTd ω t5)), some (.int x13), none, none, none, none]) rfl ?_
        exact hr6 _ _
      · refine x_aload_n dL_place_43 rfl ?_
        refine x_iload dL_place_44 rfl ?_
        refine y_iald hz_202 hn_202 dL_place_46 (fun hi => ?_)
        refine x_iconst (v := 2) dL_place_47 (by decide) ?_
        refine x_idiv dL_place_48 (by decide) ?_
        refine x_iload dL_place_49 rfl ?_
        refine y_join (fun j16 => ∀ (m15 : Mm), Sx ω ω true 3 0 0 kk_Law_place fV 0 0 m15 166 [some (.ref (zad ω 202)), some (.ref (zad ω 204)), some (.int p3), some (.ref (zTd ω t4)), some (.ref (zTd ω t5)), some (.int x5), some (.int x9), none, none, none] [] (j16 m15)) ?_ (fun j16 hj16 => ?_)
        · intro m15
          refine y_iinc (w := 1) dL_place_166 rfl (by decide) (Nat.le_of_ble_eq_true rfl) (fun x17 => ?_)
          refine x_goto (tgt := 35) dL_place_169 (by decide) ?_
          exact hr10 _ _
        · refine x_icmp_ne (tgt := 166) dL_place_51 (by decide) (fun hc14 => ?_) (fun hc14 => ?_)
          · refine x_aload_n dL_place_54 rfl ?_
            refine x_iload dL_place_55 rfl ?_
            refine y_taild ht4 dL_place_57 (fun hi => ?_)
            refine x_if_ge (tgt := 64) dL_place_58 (by decide) (fun hc18 => ?_) (fun hc18 => ?_)
            · refine x_aload_n dL_place_64 rfl ?_
              refine x_iload dL_place_65 rfl ?_
              refine y_taild ht4 dL_place_67 (fun hi => ?_)
              refine y_letI (fun x19 => ?_)
              refine x_istore (ls' := [some (.ref (zad ω 202)), some (.ref (zad ω 204)), some (.int p3), some (.ref (zTd ω t4)), some (.ref (zTd ω t5)), some (.int x5), some (.int x9), some (.int x19), none, none]) dL_place_68 (Nat.le_of_ble_eq_true rfl) rfl ?_
              refine y_Lp1 (fun x20 => [some (.ref (zad ω 202)), some (.ref (zad ω 204)), some (.int p3), some (.ref (zTd ω t4)), some (.ref (zTd ω t5)), some (.int x5), some (.int x9), some (.int x20), none, none]) (fun r21 hr21 x20 m22 => ?_) zFu _ _
              refine x_iload dL_place_70 rfl ?_
              refine x_aload_n dL_place_72 rfl ?_
              refine x_iload dL_place_73 rfl ?_
              refine y_taild ht4 dL_place_75 (fun hi => ?_)
              refine x_bipush (v := 20) dL_place_76 (by decide) ?_
              refine x_aload_n dL_place_78 rfl ?_
              refine x_iload dL_place_79 rfl ?_
              refine y_iald hz_202 hn_202 dL_place_81 (fun hi => ?_)
              refine x_iconst (v := 2) dL_place_82 (by decide) ?_
              refine x_irem dL_place_83 (by decide) ?_
              refine x_imul dL_place_84 ?_
              refine x_iadd dL_place_85 ?_
              refine x_icmp_gt (tgt := 166) dL_place_86 (by decide) (fun hc23 => ?_) (fun hc23 => ?_)
              · refine y_mask (bs := [true, true, true, true, true, true, true, false, false, false]) (ls' := [some (.ref (zad ω 202)), some (.ref (zad ω 204)), some (.int p3), some (.ref (zTd ω t4)), some (.ref (zTd ω t5)), some (.int x5), some (.int x9), none, none, none]) rfl ?_
                exact hj16 _
              · refine x_iload dL_place_89 rfl ?_
                refine x_iload_n dL_place_91 rfl ?_
                refine y_callSP (rest := [.int x20]) (c1 := 0) (s1 := 0) (c_Law_days ω p3 m22) ms_RL_16 rfl (Nat.le_of_ble_eq_true rfl) (Nat.le_of_ble_eq_true rfl) (Nat.le_of_ble_eq_true rfl) ⟨rfl, rfl⟩ ⟨(Nat.le_of_ble_eq_true rfl), (Nat.le_of_ble_eq_true rfl)⟩ dL_place_92 (fun v24 => ?_)
                refine x_icmp_ge (tgt := 166) dL_place_95 (by decide) (fun hc25 => ?_) (fun hc25 => ?_)
                · refine y_mask (bs := [true, true, true, true, true, true, true, false, false, false]) (ls' := [some (.ref (zad ω 202)), some (.ref (zad ω 204)), some (.int p3), some (.ref (zTd ω t4)), some (.ref (zTd ω t5)), some (.int x5), some (.int x9), none, none, none]) rfl ?_
                  exact hj16 _
                · refine x_aload dL_place_98 rfl ?_
                  refine x_iload dL_place_100 rfl ?_
                  refine y_taild ht5 dL_place_102 (fun hi => ?_)
                  refine x_if_ge (tgt := 166) dL_place_103 (by decide) (fun hc26 => ?_) (fun hc26 => ?_)
                  · refine y_mask (bs := [true, true, true, true, true, true, true, false, false, false]) (ls' := [some (.ref (zad ω 202)), some (.ref (zad ω 204)), some (.int p3), some (.ref (zTd ω t4)), some (.ref (zTd ω t5)), some (.int x5), some (.int x9), none, none, none]) rfl ?_
                    exact hj16 _
                  · refine x_iconst (v := 1) dL_place_106 (by decide) ?_
                    refine x_istore (ls' := [some (.ref (zad ω 202)), some (.ref (zad ω 204)), some (.int p3), some (.ref (zTd ω t4)), some (.ref (zTd ω t5)), some (.int x5), some (.int x9), some (.int x20), some (.int 1), none]) dL_place_107 (Nat.le_of_ble_eq_true rfl) rfl ?_
                    refine x_iconst (v := 0) dL_place_109 (by decide) ?_
                    refine x_istore (ls' := [some (.ref (zad ω 202)), some (.ref (zad ω 204)), some (.int p3), some (.ref (zTd ω t4)), some (.ref (zTd ω t5)), some (.int x5), some (.int x9), some (.int x20), some (.int 1), some (.int 0)]) dL_place_110 (Nat.le_of_ble_eq_true rfl) rfl ?_
                    refine y_Lq2 (fun x27 x28 => [some (.ref (zad ω 202)), some (.ref (zad ω 204)), some (.int p3), some (.ref (zTd ω t4)), some (.ref (zTd ω t5)), some (.int x5), some (.int x9), some (.int x20), some (.int x27), some (.int x28)]) (fun r29 hr29 x27 x28 => ?_) zFu _ _
                    refine x_iload dL_place_112 rfl ?_
                    refine x_aload_n dL_place_114 rfl ?_
                    refine x_iconst (v := 0) dL_place_115 (by decide) ?_
                    refine y_iald hz_204 hn_204 dL_place_116 (fun hi => ?_)
                    refine x_icmp_ge (tgt := 148) dL_place_117 (by decide) (fun hc30 => ?_) (fun hc30 => ?_)
                    · refine x_iload dL_place_148 rfl ?_
                      refine y_join (fun j33 => ∀ (m32 : Mm), Sx ω ω true 3 0 0 kk_Law_place fV 0 0 m32 160 [some (.ref (zad ω 202)), some (.ref (zad ω 204)), some (.int p3), some (.ref (zTd ω t4)), some (.ref (zTd ω t5)), some (.int x5), some (.int x9), some (.int x20), none, none] [] (j33 m32)) ?_ (fun j33 hj33 => ?_)
                      · intro m32
                        refine y_iinc (w := 1) dL_place_160 rfl (by decide) (Nat.le_of_ble_eq_true rfl) (fun x34 => ?_)
                        refine x_goto (tgt := 70) dL_place_163 (by decide) ?_
                        exact hr21 _ _
                      · refine x_if_eq (tgt := 160) dL_place_150 (by decide) (fun hc31 => ?_) (fun hc31 => ?_)
                        · refine y_mask (bs := [true, true, true, true, true, true, true, true, false, false]) (ls' := [some (.ref (zad ω 202)), some (.ref (zad ω 204)), some (.int p3), some (.ref (zTd ω t4)), some (.ref (zTd ω t5)), some (.int x5), some (.int x9), some (.int x20), none, none]) rfl ?_
                          exact hj33 _
                        · refine x_aload dL_place_153 rfl ?_
                          refine x_iload dL_place_155 rfl ?_
                          refine x_iload dL_place_157 rfl ?_
                          refine y_tast ht5 dL_place_159 (fun hi => ?_)
                          refine y_letM (fun m35 => ?_)
                          refine y_mask (bs := [true, true, true, true, true, true, true, true, false, false]) (ls' := [some (.ref (zad ω 202)), some (.ref (zad ω 204)), some (.int p3), some (.ref (zTd ω t4)), some (.ref (zTd ω t5)), some (.int x5), some (.int x9), some (.int x20), none, none]) rfl ?_
                          exact hj33 _
                    · refine x_iload dL_place_120 rfl ?_
                      refine y_join (fun j38 => ∀ (x37 : Int32), Sx ω ω true 3 0 0 kk_Law_place fV 0 0 m22 140 [some (.ref (zad ω 202)), some (.ref (zad ω 204)), some (.int p3), some (.ref (zTd ω t4)), some (.ref (zTd ω t5)), some (.int x5), some (.int x9), some (.int x20), none, some (.int x28)] [.int x37] (j38 x37)) ?_ (fun j38 hj38 => ?_)
                      · intro x37
                        refine x_istore (ls' := [some (.ref (zad ω 202)), some (.ref (zad ω 204)), some (.int p3), some (.ref (zTd ω t4)), some (.ref (zTd ω t5)), some (.int x5), some (.int x9), some (.int x20), some (.int x37), some (.int x28)]) dL_place_140 (Nat.le_of_ble_eq_true rfl) rfl ?_
                        refine y_iinc (w := 1) dL_place_142 rfl (by decide) (Nat.le_of_ble_eq_true rfl) (fun x39 => ?_)
                        refine x_goto (tgt := 112) dL_place_145 (by decide) ?_
                        exact hr29 _ _
                      · refine y_join (fun j40 => Sx ω ω true 3 0 0 kk_Law_place fV 0 0 m22 139 [some (.ref (zad ω 202)), some (.ref (zad ω 204)), some (.int p3), some (.ref (zTd ω t4)), some (.ref (zTd ω t5)), some (.int x5), some (.int x9), some (.int x20), none, some (.int x28)] [] j40) ?_ (fun j40 hj40 => ?_)
                        · refine x_iconst (v := 0) dL_place_139 (by decide) ?_
                          exact hj38 _
                        · refine x_if_eq (tgt := 139) dL_place_122 (by decide) (fun hc36 => ?_) (fun hc36 => ?_)
                          · refine y_mask (bs := [true, true, true, true, true, true, true, true, false, true]) (ls' := [some (.ref (zad ω 202)), some (.ref (zad ω 204)), some (.int p3), some (.ref (zTd ω t4)), some (.ref (zTd ω t5)), some (.int x5), some (.int x9), some (.int x20), none, some (.int x28)]) rfl ?_
                            exact hj40
                          · refine x_aload dL_place_125 rfl ?_
                            refine x_iload dL_place_127 rfl ?_
                            refine y_taild ht5 dL_place_129 (fun hi => ?_)
                            refine x_iload dL_place_130 rfl ?_
                            refine x_icmp_eq (tgt := 139) dL_place_132 (by decide) (fun hc41 => ?_) (fun hc41 => ?_)
                            · refine y_mask (bs := [true, true, true, true, true, true, true, true, false, true]) (ls' := [some (.ref (zad ω 202)), some (.ref (zad ω 204)), some (.int p3), some (.ref (zTd ω t4)), some (.ref (zTd ω t5)), some (.int x5), some (.int x9), some (.int x20), none, some (.int x28)]) rfl ?_
                              exact hj40
                            · refine x_iconst (v := 1) dL_place_135 (by decide) ?_
                              refine x_goto (tgt := 140) dL_place_136 (by decide) ?_
                              refine y_mask (bs := [true, true, true, true, true, true, true, true, false, true]) (ls' := [some (.ref (zad ω 202)), some (.ref (zad ω 204)), some (.int p3), some (.ref (zTd ω t4)), some (.ref (zTd ω t5)), some (.int x5), some (.int x9), some (.int x20), none, some (.int x28)]) rfl ?_
                              exact hj38 _
            · refine x_goto (tgt := 166) dL_place_61 (by decide) ?_
              exact hj16 _
          · exact hj16 _
  · refine x_aload dL_place_11 rfl ?_
    refine x_iload dL_place_13 rfl ?_
    refine x_iconst (v := (-1)) dL_place_15 (by decide) ?_
    refine y_tast ht5 dL_place_16 (fun hi => ?_)
    refine y_letM (fun m42 => ?_)
    refine y_iinc (w := 1) dL_place_17 rfl (by decide) (Nat.le_of_ble_eq_true rfl) (fun x43 => ?_)
    refine x_goto (tgt := 3) dL_place_20 (by decide) ?_
    exact hr2 _ _
abbrev kk_Law_clashes : Kx := (yL_clashes.cls, cL_clashes, 5, (some .int), [], false)
set_option maxHeartbeats 4000000 in
set_option maxRecDepth 100000 in
theorem c_Law_clashes (ω : Wd) (t2 : Nat) (ht2 : t2 < (oT ω).length) (m : Mm) : Ev ω true 1 0 0 yL_clashes cL_clashes 5 (some .int) [.ref (zad ω 204), .ref (zTd ω t2)] m (fP m) (f_Law_clashes t2 m) := by
  refine Ev.of (b := false) (ls := [some (.ref (zad ω 204)), some (.ref (zTd ω t2)), none, none, none]) (plainFor_of_name (by decide +kernel)) (fun h => by cases h) rfl (Nat.le_of_ble_eq_true rfl) rfl ?_
  change Sx ω ω true 1 0 0 kk_Law_clashes (fP m) 0 0 m 0 _ _ _
  unfold f_Law_clashes
  refine x_iconst (v := 0) dL_clashes_0 (by decide) ?_
  refine x_istore_n (ls' := [some (.ref (zad ω 204)), some (.ref (zTd ω t2)), some (.int 0), none, none]) dL_clashes_1 (Nat.le_of_ble_eq_true rfl) rfl ?_
  refine x_iconst (v := 0) dL_clashes_2 (by decide) ?_
  refine x_istore_n (ls' := [some (.ref (zad ω 204)), some (.ref (zTd ω t2)), some (.int 0), some (.int 0), none]) dL_clashes_3 (Nat.le_of_ble_eq_true rfl) rfl ?_
  refine y_Lq2 (fun x1 x2 => [some (.ref (zad ω 204)), some (.ref (zTd ω t2)), some (.int x1), some (.int x2), none]) (fun r3 hr3 x1 x2 => ?_) zFu _ _
  refine x_iload_n dL_clashes_4 rfl ?_
  refine x_aload_n dL_clashes_5 rfl ?_
  refine x_iconst (v := 0) dL_clashes_6 (by decide) ?_
  refine y_iald hz_204 hn_204 dL_clashes_7 (fun hi => ?_)
  refine x_icmp_ge (tgt := 56) dL_clashes_8 (by decide) (fun hc4 => ?_) (fun hc4 => ?_)
  · refine x_iload_n dL_clashes_56 rfl ?_
    exact x_iretF zXt.refl rfl rfl ⟨(Nat.le_of_ble_eq_true rfl), (Nat.le_of_ble_eq_true rfl)⟩ dL_clashes_57
  · refine x_iconst (v := 0) dL_clashes_11 (by decide) ?_
    refine x_istore (ls' := [some (.ref (zad ω 204)), some (.ref (zTd ω t2)), some (.int x1), some (.int x2), some (.int 0)]) dL_clashes_12 (Nat.le_of_ble_eq_true rfl) rfl ?_
    refine y_Lq2 (fun x5 x6 => [some (.ref (zad ω 204)), some (.ref (zTd ω t2)), some (.int x5), some (.int x2), some (.int x6)]) (fun r7 hr7 x5 x6 => ?_) zFu _ _
    refine x_iload dL_clashes_14 rfl ?_
    refine x_iload_n dL_clashes_16 rfl ?_
    refine x_icmp_ge (tgt := 50) dL_clashes_17 (by decide) (fun hc8 => ?_) (fun hc8 => ?_)
    · refine y_iinc (w := 1) dL_clashes_50 rfl (by decide) (Nat.le_of_ble_eq_true rfl) (fun x9 => ?_)
      refine x_goto (tgt := 4) dL_clashes_53 (by decide) ?_
      refine y_mask (bs := [true, true, true, true, false]) (ls' := [some (.ref (zad ω 204)), some (.ref (zTd ω t2)), some (.int x5), some (.int x9), none]) rfl ?_
      exact hr3 _ _
    · refine x_iload_n dL_clashes_20 rfl ?_
      refine x_aload_n dL_clashes_21 rfl ?_
      refine x_iload_n dL_clashes_22 rfl ?_
      refine y_taild ht2 dL_clashes_23 (fun hi => ?_)
      refine y_join (fun j12 => ∀ (x11 : Int32), Sx ω ω true 1 0 0 kk_Law_clashes (fP m) 0 0 m 42 [some (.ref (zad ω 204)), some (.ref (zTd ω t2)), none, some (.int x2), some (.int x6)] [.int x11, .int x5] (j12 x11)) ?_ (fun j12 hj12 => ?_)
      · intro x11
        refine x_iadd dL_clashes_42 ?_
        refine y_letI (fun x13 => ?_)
        refine x_istore_n (ls' := [some (.ref (zad ω 204)), some (.ref (zTd ω t2)), some (.int x13), some (.int x2), some (.int x6)]) dL_clashes_43 (Nat.le_of_ble_eq_true rfl) rfl ?_
        refine y_iinc (w := 1) dL_clashes_44 rfl (by decide) (Nat.le_of_ble_eq_true rfl) (fun x14 => ?_)
        refine x_goto (tgt := 14) dL_clashes_47 (by decide) ?_
        exact hr7 _ _
      · refine y_join (fun j15 => Sx ω ω true 1 0 0 kk_Law_clashes (fP m) 0 0 m 41 [some (.ref (zad ω 204)), some (.ref (zTd ω t2)), none, some (.int x2), some (.int x6)] [.int x5] j15) ?_ (fun j15 hj15 => ?_)
        · refine x_iconst (v := 0) dL_clashes_41 (by decide) ?_
          exact hj12 _
        · refine x_if_lt (tgt := 41) dL_clashes_24 (by decide) (fun hc10 => ?_) (fun hc10 => ?_)
          · refine y_mask (bs := [true, true, false, true, true]) (ls' := [some (.ref (zad ω 204)), some (.ref (zTd ω t2)), none, some (.int x2), some (.int x6)]) rfl ?_
            exact hj15
          · refine x_aload_n dL_clashes_27 rfl ?_
            refine x_iload_n dL_clashes_28 rfl ?_
            refine y_taild ht2 dL_clashes_29 (fun hi => ?_)
            refine x_aload_n dL_clashes_30 rfl ?_
            refine x_iload dL_clashes_31 rfl ?_
            refine y_taild ht2 dL_clashes_33 (fun hi => ?_)
            refine x_icmp_ne (tgt := 41) dL_clashes_34 (by decide) (fun hc16 => ?_) (fun hc16 => ?_)
            · refine x_iconst (v := 1) dL_clashes_37 (by decide) ?_
              refine x_goto (tgt := 42) dL_clashes_38 (by decide) ?_
              refine y_mask (bs := [true, true, false, true, true]) (ls' := [some (.ref (zad ω 204)), some (.ref (zTd ω t2)), none, some (.int x2), some (.int x6)]) rfl ?_
              exact hj12 _
            · refine y_mask (bs := [true, true, false, true, true]) (ls' := [some (.ref (zad ω 204)), some (.ref (zTd ω t2)), none, some (.int x2), some (.int x6)]) rfl ?_
              exact hj15
abbrev kk_Law_asked : Kx := (yL_asked.cls, cL_asked, 10, (some .boolean), [], false)
set_option maxHeartbeats 4000000 in
set_option maxRecDepth 100000 in
theorem c_Law_asked (ω : Wd) (p2 : Int32) (p3 : Int32) (t5 : Nat) (ht5 : t5 < (oT ω).length) (t6 : Nat) (ht6 : t6 < (oT ω).length) (m : Mm) : Ev ω true 4 0 0 yL_asked cL_asked 10 (some .boolean) [.ref (zad ω 205), .int p2, .int p3, .ref (zad ω 204), .ref (zTd ω t5), .ref (zTd ω t6)] m (fP m) (f_Law_asked p2 p3 t5 t6 m) := by
  refine Ev.of (b := false) (ls := [some (.ref (zad ω 205)), some (.int p2), some (.int p3), some (.ref (zad ω 204)), some (.ref (zTd ω t5)), some (.ref (zTd ω t6)), none, none, none, none]) (plainFor_of_name (by decide +kernel)) (fun h => by cases h) rfl (Nat.le_of_ble_eq_true rfl) rfl ?_
  change Sx ω ω true 4 0 0 kk_Law_asked (fP m) 0 0 m 0 _ _ _
  unfold f_Law_asked
  refine x_aload_n dL_asked_0 rfl ?_
  refine x_iload_n dL_asked_1 rfl ?_
  refine x_iconst (v := 1) dL_asked_2 (by decide) ?_
  refine x_iadd dL_asked_3 ?_
  refine y_iald hz_205 hn_205 dL_asked_4 (fun hi => ?_)
  refine y_letI (fun x1 => ?_)
  refine x_istore (ls' := [some (.ref (zad ω 205)), some (.int p2), some (.int p3), some (.ref (zad ω 204)), some (.ref (zTd ω t5)), some (.ref (zTd ω t6)), some (.int x1), none, none, none]) dL_asked_5 (Nat.le_of_ble_eq_true rfl) rfl ?_
  refine x_iload dL_asked_7 rfl ?_
  refine x_iconst (v := 1) dL_asked_9 (by decide) ?_
  refine y_join (fun j4 => ∀ (x3 : Int32), Sx ω ω true 4 0 0 kk_Law_asked (fP m) 0 0 m 25 [some (.ref (zad ω 205)), some (.int p2), some (.int p3), some (.ref (zad ω 204)), some (.ref (zTd ω t5)), some (.ref (zTd ω t6)), some (.int x1), none, none, none] [.int x3] (j4 x3)) ?_ (fun j4 hj4 => ?_)
  · intro x3
    refine x_istore (ls' := [some (.ref (zad ω 205)), some (.int p2), some (.int p3), some (.ref (zad ω 204)), some (.ref (zTd ω t5)), some (.ref (zTd ω t6)), some (.int x1), some (.int x3), none, none]) dL_asked_25 (Nat.le_of_ble_eq_true rfl) rfl ?_
    refine x_aload_n dL_asked_27 rfl ?_
    refine x_iload_n dL_asked_28 rfl ?_
    refine x_iconst (v := 3) dL_asked_29 (by decide) ?_
    refine x_iadd dL_asked_30 ?_
    refine y_iald hz_205 hn_205 dL_asked_31 (fun hi => ?_)
    refine y_letI (fun x5 => ?_)
    refine x_istore (ls' := [some (.ref (zad ω 205)), some (.int p2), some (.int p3), some (.ref (zad ω 204)), some (.ref (zTd ω t5)), some (.ref (zTd ω t6)), some (.int x1), some (.int x3), some (.int x5), none]) dL_asked_32 (Nat.le_of_ble_eq_true rfl) rfl ?_
    refine x_iload dL_asked_34 rfl ?_
    refine x_iconst (v := 1) dL_asked_36 (by decide) ?_
    refine y_join (fun j8 => ∀ (x7 : Int32), Sx ω ω true 4 0 0 kk_Law_asked (fP m) 0 0 m 143 [some (.ref (zad ω 205)), some (.int p2), none, none, none, none, none, none, none, none] [.int x7] (j8 x7)) ?_ (fun j8 hj8 => ?_)
    · intro x7
      refine x_istore (ls' := [some (.ref (zad ω 205)), some (.int p2), none, none, none, none, none, none, none, some (.int x7)]) dL_asked_143 (Nat.le_of_ble_eq_true rfl) rfl ?_
      refine x_iload dL_asked_145 rfl ?_
      refine x_aload_n dL_asked_147 rfl ?_
      refine x_iload_n dL_asked_148 rfl ?_
      refine y_iald hz_205 hn_205 dL_asked_149 (fun hi => ?_)
      refine x_iconst (v := 1) dL_asked_150 (by decide) ?_
      refine y_join (fun j11 => ∀ (x10 : Int32), Sx ω ω true 4 0 0 kk_Law_asked (fP m) 0 0 m 159 [none, none, none, none, none, none, none, none, none, none] [.int x10, .int x7] (j11 x10)) ?_ (fun j11 hj11 => ?_)
      · intro x10
        refine x_icmp_eq (tgt := 166) dL_asked_159 (by decide) (fun hc12 => ?_) (fun hc12 => ?_)
        · refine x_iconst (v := 0) dL_asked_166 (by decide) ?_
          exact x_zretF zXt.refl rfl rfl (zBo_nar (by decide)) ⟨(Nat.le_of_ble_eq_true rfl), (Nat.le_of_ble_eq_true rfl)⟩ dL_asked_167
        · refine x_iconst (v := 1) dL_asked_162 (by decide) ?_
          refine x_goto (tgt := 167) dL_asked_163 (by decide) ?_
          exact x_zretF zXt.refl rfl rfl (zBo_nar (by decide)) ⟨(Nat.le_of_ble_eq_true rfl), (Nat.le_of_ble_eq_true rfl)⟩ dL_asked_167
      · refine x_icmp_ne (tgt := 158) dL_asked_151 (by decide) (fun hc9 => ?_) (fun hc9 => ?_)
        · refine x_iconst (v := 1) dL_asked_154 (by decide) ?_
          refine x_goto (tgt := 159) dL_asked_155 (by decide) ?_
          refine y_mask (bs := [false, false, false, false, false, false, false, false, false, false]) (ls' := [none, none, none, none, none, none, none, none, none, none]) rfl ?_
          exact hj11 _
        · refine x_iconst (v := 0) dL_asked_158 (by decide) ?_
          refine y_mask (bs := [false, false, false, false, false, false, false, false, false, false]) (ls' := [none, none, none, none, none, none, none, none, none, none]) rfl ?_
          exact hj11 _
    · refine x_icmp_ne (tgt := 57) dL_asked_37 (by decide) (fun hc6 => ?_) (fun hc6 => ?_)
      · refine x_aload_n dL_asked_40 rfl ?_
        refine x_aload dL_asked_41 rfl ?_
        refine y_callSP (rest := []) (c1 := 0) (s1 := 0) (c_Law_clashes ω t5 ht5 m) ms_RL_58 rfl (Nat.le_of_ble_eq_true rfl) (Nat.le_of_ble_eq_true rfl) (Nat.le_of_ble_eq_true rfl) ⟨rfl, rfl⟩ ⟨(Nat.le_of_ble_eq_true rfl), (Nat.le_of_ble_eq_true rfl)⟩ dL_asked_43 (fun v25 => ?_)
        refine x_if_ne (tgt := 53) dL_asked_46 (by decide) (fun hc26 => ?_) (fun hc26 => ?_)
        · refine x_iconst (v := 1) dL_asked_49 (by decide) ?_
          refine x_goto (tgt := 143) dL_asked_50 (by decide) ?_
          refine y_mask (bs := [true, true, false, false, false, false, false, false, false, false]) (ls' := [some (.ref (zad ω 205)), some (.int p2), none, none, none, none, none, none, none, none]) rfl ?_
          exact hj8 _
        · refine x_iconst (v := 0) dL_asked_53 (by decide) ?_
          refine x_goto (tgt := 143) dL_asked_54 (by decide) ?_
          refine y_mask (bs := [true, true, false, false, false, false, false, false, false, false]) (ls' := [some (.ref (zad ω 205)), some (.int p2), none, none, none, none, none, none, none, none]) rfl ?_
          exact hj8 _
      · refine x_iload dL_asked_57 rfl ?_
        refine x_iconst (v := 4) dL_asked_59 (by decide) ?_
        refine x_icmp_ne (tgt := 76) dL_asked_60 (by decide) (fun hc13 => ?_) (fun hc13 => ?_)
        · refine x_iload dL_asked_63 rfl ?_
          refine x_if_ge (tgt := 72) dL_asked_65 (by decide) (fun hc24 => ?_) (fun hc24 => ?_)
          · refine x_iconst (v := 0) dL_asked_72 (by decide) ?_
            refine x_goto (tgt := 143) dL_asked_73 (by decide) ?_
            refine y_mask (bs := [true, true, false, false, false, false, false, false, false, false]) (ls' := [some (.ref (zad ω 205)), some (.int p2), none, none, none, none, none, none, none, none]) rfl ?_
            exact hj8 _
          · refine x_iconst (v := 1) dL_asked_68 (by decide) ?_
            refine x_goto (tgt := 143) dL_asked_69 (by decide) ?_
            refine y_mask (bs := [true, true, false, false, false, false, false, false, false, false]) (ls' := [some (.ref (zad ω 205)), some (.int p2), none, none, none, none, none, none, none, none]) rfl ?_
            exact hj8 _
        · refine x_iload dL_asked_76 rfl ?_
          refine y_join (fun j15 => Sx ω ω true 4 0 0 kk_Law_asked (fP m) 0 0 m 142 [some (.ref (zad ω 205)), some (.int p2), none, none, none, none, none, none, none, none] [] j15) ?_ (fun j15 hj15 => ?_)
          · refine x_iconst (v := 0) dL_asked_142 (by decide) ?_
            exact hj8 _
          · refine x_if_lt (tgt := 142) dL_asked_78 (by decide) (fun hc14 => ?_) (fun hc14 => ?_)
            · refine y_mask (bs := [true, true, false, false, false, false, false, false, false, false]) (ls' := [some (.ref (zad ω 205)), some (.int p2), none, none, none, none, none, none, none, none]) rfl ?_
              exact hj15
            · refine x_iload dL_asked_81 rfl ?_
              refine x_iconst (v := 2) dL_asked_83 (by decide) ?_
              refine y_join (fun j17 => Sx ω ω true 4 0 0 kk_Law_asked (fP m) 0 0 m 138 [some (.ref (zad ω 205)), some (.int p2), none, none, none, none, none, none, none, none] [] j17) ?_ (fun j17 hj17 => ?_)
              · refine x_iconst (v := 1) dL_asked_138 (by decide) ?_
                refine x_goto (tgt := 143) dL_asked_139 (by decide) ?_
                exact hj8 _
              · refine x_icmp_ne (tgt := 101) dL_asked_84 (by decide) (fun hc16 => ?_) (fun hc16 => ?_)
                · refine x_iload_n dL_asked_87 rfl ?_
                  refine x_iload dL_asked_88 rfl ?_
                  refine y_callSP (rest := []) (c1 := 0) (s1 := 0) (c_Law_date ω p3 x3 m) ms_RL_40 rfl (Nat.le_of_ble_eq_true rfl) (Nat.le_of_ble_eq_true rfl) (Nat.le_of_ble_eq_true rfl) ⟨rfl, rfl⟩ ⟨(Nat.le_of_ble_eq_true rfl), (Nat.le_of_ble_eq_true rfl)⟩ dL_asked_90 (fun v22 => ?_)
                  refine x_iload dL_asked_93 rfl ?_
                  refine x_icmp_ne (tgt := 142) dL_asked_95 (by decide) (fun hc23 => ?_) (fun hc23 => ?_)
                  · refine x_goto (tgt := 138) dL_asked_98 (by decide) ?_
                    refine y_mask (bs := [true, true, false, false, false, false, false, false, false, false]) (ls' := [some (.ref (zad ω 205)), some (.int p2), none, none, none, none, none, none, none, none]) rfl ?_
                    exact hj17
                  · refine y_mask (bs := [true, true, false, false, false, false, false, false, false, false]) (ls' := [some (.ref (zad ω 205)), some (.int p2), none, none, none, none, none, none, none, none]) rfl ?_
                    exact hj15
                · refine x_iload dL_asked_101 rfl ?_
                  refine x_iconst (v := 3) dL_asked_103 (by decide) ?_
                  refine x_icmp_ne (tgt := 128) dL_asked_104 (by decide) (fun hc18 => ?_) (fun hc18 => ?_)
                  · refine x_iload_n dL_asked_107 rfl ?_
                    refine y_callSP (rest := []) (c1 := 0) (s1 := 0) (c_Law_great ω p3 m) ms_RL_31 rfl (Nat.le_of_ble_eq_true rfl) (Nat.le_of_ble_eq_true rfl) (Nat.le_of_ble_eq_true rfl) ⟨rfl, rfl⟩ ⟨(Nat.le_of_ble_eq_true rfl), (Nat.le_of_ble_eq_true rfl)⟩ dL_asked_108 (fun v20 => ?_)
                    refine x_iload dL_asked_111 rfl ?_
                    refine x_iadd dL_asked_113 ?_
                    refine x_bipush (v := 6) dL_asked_114 (by decide) ?_
                    refine x_iadd dL_asked_116 ?_
                    refine x_bipush (v := 7) dL_asked_117 (by decide) ?_
                    refine x_irem dL_asked_119 (by decide) ?_
                    refine x_iload dL_asked_120 rfl ?_
                    refine x_icmp_ne (tgt := 142) dL_asked_122 (by decide) (fun hc21 => ?_) (fun hc21 => ?_)
                    · refine x_goto (tgt := 138) dL_asked_125 (by decide) ?_
                      refine y_mask (bs := [true, true, false, false, false, false, false, false, false, false]) (ls' := [some (.ref (zad ω 205)), some (.int p2), none, none, none, none, none, none, none, none]) rfl ?_
                      exact hj17
                    · refine y_mask (bs := [true, true, false, false, false, false, false, false, false, false]) (ls' := [some (.ref (zad ω 205)), some (.int p2), none, none, none, none, none, none, none, none]) rfl ?_
                      exact hj15
                  · refine x_aload dL_asked_128 rfl ?_
                    refine x_iload dL_asked_130 rfl ?_
                    refine y_taild ht6 dL_asked_132 (fun hi => ?_)
                    refine x_iload dL_asked_133 rfl ?_
                    refine x_icmp_le (tgt := 142) dL_asked_135 (by decide) (fun hc19 => ?_) (fun hc19 => ?_)
                    · refine y_mask (bs := [true, true, false, false, false, false, false, false, false, false]) (ls' := [some (.ref (zad ω 205)), some (.int p2), none, none, none, none, none, none, none, none]) rfl ?_
                      exact hj15
                    · refine y_mask (bs := [true, true, false, false, false, false, false, false, false, false]) (ls' := [some (.ref (zad ω 205)), some (.int p2), none, none, none, none, none, none, none, none]) rfl ?_
                      exact hj17
  · refine x_icmp_ne (tgt := 17) dL_asked_10 (by decide) (fun hc2 => ?_) (fun hc2 => ?_)
    · refine x_iconst (v := (-1)) dL_asked_13 (by decide) ?_
      refine x_goto (tgt := 25) dL_asked_14 (by decide) ?_
      exact hj4 _
    · refine x_aload dL_asked_17 rfl ?_
      refine x_aload_n dL_asked_19 rfl ?_
      refine x_iload_n dL_asked_20 rfl ?_
      refine x_iconst (v := 2) dL_asked_21 (by decide) ?_
      refine x_iadd dL_asked_22 ?_
      refine y_iald hz_205 hn_205 dL_asked_23 (fun hi => ?_)
      refine y_taild ht6 dL_asked_24 (fun hi => ?_)
      exact hj4 _
abbrev kk_Law_digits : Kx := (yL_digits.cls, cL_digits, 5, none, [], false)
set_option maxHeartbeats 4000000 in
set_option maxRecDepth 100000 in
theorem c_Law_digits (ω : Wd) (p2 : Int32) (p3 : Int32) (m : Mm) : Ev ω true 9 0 0 yL_digits cL_digits 5 none [.ref (zad ω 16), .int p2, .int p3] m fV (f_Law_digits p2 p3 m) := by
  refine Ev.of (b := false) (ls := [some (.ref (zad ω 16)), some (.int p2), some (.int p3), none, none]) (plainFor_of_name (by decide +kernel)) (fun h => by cases h) rfl (Nat.le_of_ble_eq_true rfl) rfl ?_
  change Sx ω ω true 9 0 0 kk_Law_digits fV 0 0 m 0 _ _ _
  unfold f_Law_digits
  refine x_iload_n dL_digits_0 rfl ?_
  refine x_iconst (v := 4) dL_digits_1 (by decide) ?_
  refine y_join (fun j3 => ∀ (x2 : Int32), Sx ω ω true 9 0 0 kk_Law_digits fV 0 0 m 32 [some (.ref (zad ω 16)), some (.int p2), none, none, none] [.int x2] (j3 x2)) ?_ (fun j3 hj3 => ?_)
  · intro x2
    refine x_istore_n (ls' := [some (.ref (zad ω 16)), some (.int p2), none, some (.int x2), none]) dL_digits_32 (Nat.le_of_ble_eq_true rfl) rfl ?_
    refine x_iload_n dL_digits_33 rfl ?_
    refine x_istore (ls' := [some (.ref (zad ω 16)), some (.int p2), none, some (.int x2), some (.int x2)]) dL_digits_34 (Nat.le_of_ble_eq_true rfl) rfl ?_
    refine y_mask (bs := [true, true, false, false, true]) (ls' := [some (.ref (zad ω 16)), some (.int p2), none, none, some (.int x2)]) rfl ?_
    refine y_Lp1 (fun x4 => [some (.ref (zad ω 16)), some (.int p2), none, none, some (.int x4)]) (fun r5 hr5 x4 m6 => ?_) zFu _ _
    refine x_iload dL_digits_36 rfl ?_
    refine x_if_le (tgt := 67) dL_digits_38 (by decide) (fun hc7 => ?_) (fun hc7 => ?_)
    · exact x_vretF zXt.refl rfl rfl ⟨(Nat.le_of_ble_eq_true rfl), (Nat.le_of_ble_eq_true rfl)⟩ dL_digits_67
    · refine x_aload_n dL_digits_41 rfl ?_
      refine x_bipush (v := 48) dL_digits_42 (by decide) ?_
      refine x_iload_n dL_digits_44 rfl ?_
      refine x_iload dL_digits_45 rfl ?_
      refine x_guard (fun hz => ?_)
      refine x_idiv dL_digits_47 hz ?_
      refine x_bipush (v := 10) dL_digits_48 (by decide) ?_
      refine x_irem dL_digits_50 (by decide) ?_
      refine x_iadd dL_digits_51 ?_
      refine x_i2c dL_digits_52 ?_
      refine y_callVI (rest := []) (c1 := 0) (s1 := 0) (cn_Loo_type ω (((48 + ((p2 / x4) % 10)).toUInt32 % 65536).toInt32) m6) mv_RL_62 hz_16 rfl (Nat.le_of_ble_eq_true rfl) (Nat.le_of_ble_eq_true rfl) (Nat.le_of_ble_eq_true rfl) ⟨rfl, rfl⟩ ⟨(Nat.le_of_ble_eq_true rfl), (Nat.le_of_ble_eq_true rfl)⟩ dL_digits_53 (fun v9 m8 => ?_)
      refine x_pop dL_digits_56 rfl ?_
      refine x_iload dL_digits_57 rfl ?_
      refine x_bipush (v := 10) dL_digits_59 (by decide) ?_
      refine x_idiv dL_digits_61 (by decide) ?_
      refine y_letI (fun x10 => ?_)
      refine x_istore (ls' := [some (.ref (zad ω 16)), some (.int p2), none, none, some (.int x10)]) dL_digits_62 (Nat.le_of_ble_eq_true rfl) rfl ?_
      refine x_goto (tgt := 36) dL_digits_64 (by decide) ?_
      exact hr5 _ _
  · refine x_icmp_ne (tgt := 11) dL_digits_2 (by decide) (fun hc1 => ?_) (fun hc1 => ?_)
    · refine x_sipush (v := 1000) dL_digits_5 (by decide) ?_
      refine x_goto (tgt := 32) dL_digits_8 (by decide) ?_
      refine y_mask (bs := [true, true, false, false, false]) (ls' := [some (.ref (zad ω 16)), some (.int p2), none, none, none]) rfl ?_
      exact hj3 _
    · refine x_iload_n dL_digits_11 rfl ?_
      refine x_iconst (v := 3) dL_digits_12 (by decide) ?_
      refine x_icmp_ne (tgt := 21) dL_digits_13 (by decide) (fun hc11 => ?_) (fun hc11 => ?_)
      · refine x_bipush (v := 100) dL_digits_16 (by decide) ?_
        refine x_goto (tgt := 32) dL_digits_18 (by decide) ?_
        refine y_mask (bs := [true, true, false, false, false]) (ls' := [some (.ref (zad ω 16)), some (.int p2), none, none, none]) rfl ?_
        exact hj3 _
      · refine x_iload_n dL_digits_21 rfl ?_
        refine x_iconst (v := 2) dL_digits_22 (by decide) ?_
        refine x_icmp_ne (tgt := 31) dL_digits_23 (by decide) (fun hc12 => ?_) (fun hc12 => ?_)
        · refine x_bipush (v := 10) dL_digits_26 (by decide) ?_
          refine x_goto (tgt := 32) dL_digits_28 (by decide) ?_
          refine y_mask (bs := [true, true, false, false, false]) (ls' := [some (.ref (zad ω 16)), some (.int p2), none, none, none]) rfl ?_
          exact hj3 _
        · refine x_iconst (v := 1) dL_digits_31 (by decide) ?_
          refine y_mask (bs := [true, true, false, false, false]) (ls' := [some (.ref (zad ω 16)), some (.int p2), none, none, none]) rfl ?_
          exact hj3 _
abbrev kk_Law_step : Kx := (yL_step.cls, cL_step, 5, none, [], false)
set_option maxHeartbeats 4000000 in
set_option maxRecDepth 100000 in
theorem c_Law_step (ω : Wd) (p2 : Int32) (m : Mm) : Ev ω true 10 0 0 yL_step cL_step 5 none [.ref (zad ω 16), .int p2] m fV (f_Law_step p2 m) := by
  refine Ev.of (b := false) (ls := [some (.ref (zad ω 16)), some (.int p2), none, none, none]) (plainFor_of_name (by decide +kernel)) (fun h => by cases h) rfl (Nat.le_of_ble_eq_true rfl) rfl ?_
  change Sx ω ω true 10 0 0 kk_Law_step fV 0 0 m 0 _ _ _
  unfold f_Law_step
  refine x_iload_n dL_step_0 rfl ?_
  refine x_sipush (v := 1000) dL_step_1 (by decide) ?_
  refine x_idiv dL_step_4 (by decide) ?_
  refine y_letI (fun x1 => ?_)
  refine x_istore_n (ls' := [some (.ref (zad ω 16)), some (.int p2), some (.int x1), none, none]) dL_step_5 (Nat.le_of_ble_eq_true rfl) rfl ?_
  refine x_iload_n dL_step_6 rfl ?_
  refine x_sipush (v := 1000) dL_step_7 (by decide) ?_
  refine x_irem dL_step_10 (by decide) ?_
  refine y_letI (fun x2 => ?_)
  refine x_istore_n (ls' := [some (.ref (zad ω 16)), some (.int p2), some (.int x1), some (.int x2), none]) dL_step_11 (Nat.le_of_ble_eq_true rfl) rfl ?_
  refine x_iload_n dL_step_12 rfl ?_
  refine x_if_ne (tgt := 17) dL_step_13 (by decide) (fun hc3 => ?_) (fun hc3 => ?_)
  · exact x_vretF zXt.refl rfl rfl ⟨(Nat.le_of_ble_eq_true rfl), (Nat.le_of_ble_eq_true rfl)⟩ dL_step_16
  · refine x_iload_n dL_step_17 rfl ?_
    refine x_iconst (v := 1) dL_step_18 (by decide) ?_
    refine x_icmp_ne (tgt := 93) dL_step_19 (by decide) (fun hc4 => ?_) (fun hc4 => ?_)
    · refine x_iload_n dL_step_22 rfl ?_
      refine x_sipush (v := 400) dL_step_23 (by decide) ?_
      refine y_join (fun j19 => ∀ (x18 : Int32), Sx ω ω true 10 0 0 kk_Law_step fV 0 0 m 42 [some (.ref (zad ω 16)), none, none, some (.int x2), none] [.int x18] (j19 x18)) ?_ (fun j19 hj19 => ?_)
      · intro x18
        refine x_istore (ls' := [some (.ref (zad ω 16)), none, none, some (.int x2), some (.int x18)]) dL_step_42 (Nat.le_of_ble_eq_true rfl) rfl ?_
        refine x_aload_n dL_step_44 rfl ?_
        refine x_iload_n dL_step_45 rfl ?_
        refine x_sipush (v := 400) dL_step_46 (by decide) ?_
        refine y_join (fun j22 => ∀ (x21 : Int32), Sx ω ω true 10 0 0 kk_Law_step fV 0 0 m 59 [some (.ref (zad ω 16)), none, none, none, some (.int x18)] [.int x21, .ref (zad ω 16)] (j22 x21)) ?_ (fun j22 hj22 => ?_)
        · intro x21
          refine y_callVI (rest := []) (c1 := 0) (s1 := 0) (cn_Loo_type ω x21 m) mv_RL_62 hz_16 rfl (Nat.le_of_ble_eq_true rfl) (Nat.le_of_ble_eq_true rfl) (Nat.le_of_ble_eq_true rfl) ⟨rfl, rfl⟩ ⟨(Nat.le_of_ble_eq_true rfl), (Nat.le_of_ble_eq_true rfl)⟩ dL_step_59 (fun v24 m23 => ?_)
          refine x_pop dL_step_62 rfl ?_
          refine x_aload_n dL_step_63 rfl ?_
          refine x_iload dL_step_64 rfl ?_
          refine x_iload dL_step_66 rfl ?_
          refine x_bipush (v := 99) dL_step_68 (by decide) ?_
          refine y_join (fun j27 => ∀ (x26 : Int32), Sx ω ω true 10 0 0 kk_Law_step fV 0 0 m23 89 [none, none, none, none, none] [.int x26, .int x18, .ref (zad ω 16)] (j27 x26)) ?_ (fun j27 hj27 => ?_)
          · intro x26
            refine y_callSV (rest := []) (c1 := 0) (s1 := 0) (c_Law_digits ω x18 x26 m23) ms_RL_68 rfl (Nat.le_of_ble_eq_true rfl) (Nat.le_of_ble_eq_true rfl) (Nat.le_of_ble_eq_true rfl) ⟨rfl, rfl⟩ ⟨(Nat.le_of_ble_eq_true rfl), (Nat.le_of_ble_eq_true rfl)⟩ dL_step_89 (fun m28 => ?_)
            exact x_vretF zXt.refl rfl rfl ⟨(Nat.le_of_ble_eq_true rfl), (Nat.le_of_ble_eq_true rfl)⟩ dL_step_92
          · refine x_icmp_le (tgt := 77) dL_step_70 (by decide) (fun hc25 => ?_) (fun hc25 => ?_)
            · refine x_iload dL_step_77 rfl ?_
              refine x_bipush (v := 9) dL_step_79 (by decide) ?_
              refine x_icmp_le (tgt := 88) dL_step_81 (by decide) (fun hc29 => ?_) (fun hc29 => ?_)
              · refine x_iconst (v := 1) dL_step_88 (by decide) ?_
                refine y_mask (bs := [false, false, false, false, false]) (ls' := [none, none, none, none, none]) rfl ?_
                exact hj27 _
              · refine x_iconst (v := 2) dL_step_84 (by decide) ?_
                refine x_goto (tgt := 89) dL_step_85 (by decide) ?_
                refine y_mask (bs := [false, false, false, false, false]) (ls' := [none, none, none, none, none]) rfl ?_
                exact hj27 _
            · refine x_iconst (v := 3) dL_step_73 (by decide) ?_
              refine x_goto (tgt := 89) dL_step_74 (by decide) ?_
              refine y_mask (bs := [false, false, false, false, false]) (ls' := [none, none, none, none, none]) rfl ?_
              exact hj27 _
        · refine x_icmp_ge (tgt := 57) dL_step_49 (by decide) (fun hc20 => ?_) (fun hc20 => ?_)
          · refine x_bipush (v := 43) dL_step_57 (by decide) ?_
            refine y_mask (bs := [true, false, false, false, true]) (ls' := [some (.ref (zad ω 16)), none, none, none, some (.int x18)]) rfl ?_
            exact hj22 _
          · refine x_bipush (v := 45) dL_step_52 (by decide) ?_
            refine x_goto (tgt := 59) dL_step_54 (by decide) ?_
            refine y_mask (bs := [true, false, false, false, true]) (ls' := [some (.ref (zad ω 16)), none, none, none, some (.int x18)]) rfl ?_
            exact hj22 _
      · refine x_icmp_ge (tgt := 37) dL_step_26 (by decide) (fun hc17 => ?_) (fun hc17 => ?_)
        · refine x_iload_n dL_step_37 rfl ?_
          refine x_sipush (v := 400) dL_step_38 (by decide) ?_
          refine x_isub dL_step_41 ?_
          refine y_mask (bs := [true, false, false, true, false]) (ls' := [some (.ref (zad ω 16)), none, none, some (.int x2), none]) rfl ?_
          exact hj19 _
        · refine x_sipush (v := 400) dL_step_29 (by decide) ?_
          refine x_iload_n dL_step_32 rfl ?_
          refine x_isub dL_step_33 ?_
          refine x_goto (tgt := 42) dL_step_34 (by decide) ?_
          refine y_mask (bs := [true, false, false, true, false]) (ls' := [some (.ref (zad ω 16)), none, none, some (.int x2), none]) rfl ?_
          exact hj19 _
    · refine x_aload_n dL_step_93 rfl ?_
      refine x_iload_n dL_step_94 rfl ?_
      refine x_iconst (v := 2) dL_step_95 (by decide) ?_
      refine y_join (fun j7 => ∀ (x6 : Int32), Sx ω ω true 10 0 0 kk_Law_step fV 0 0 m 158 [some (.ref (zad ω 16)), none, some (.int x1), some (.int x2), none] [.int x6, .ref (zad ω 16)] (j7 x6)) ?_ (fun j7 hj7 => ?_)
      · intro x6
        refine y_callVI (rest := []) (c1 := 0) (s1 := 0) (cn_Loo_type ω x6 m) mv_RL_62 hz_16 rfl (Nat.le_of_ble_eq_true rfl) (Nat.le_of_ble_eq_true rfl) (Nat.le_of_ble_eq_true rfl) ⟨rfl, rfl⟩ ⟨(Nat.le_of_ble_eq_true rfl), (Nat.le_of_ble_eq_true rfl)⟩ dL_step_158 (fun v9 m8 => ?_)
        refine x_pop dL_step_161 rfl ?_
        refine x_iload_n dL_step_162 rfl ?_
        refine x_bipush (v := 6) dL_step_163 (by decide) ?_
        refine x_icmp_ge (tgt := 174) dL_step_165 (by decide) (fun hc10 => ?_) (fun hc10 => ?_)
        · exact x_vretF zXt.refl rfl rfl ⟨(Nat.le_of_ble_eq_true rfl), (Nat.le_of_ble_eq_true rfl)⟩ dL_step_174
        · refine x_aload_n dL_step_168 rfl ?_
          refine x_iload_n dL_step_169 rfl ?_
          refine x_iconst (v := 1) dL_step_170 (by decide) ?_
          refine y_callSV (rest := []) (c1 := 0) (s1 := 0) (c_Law_digits ω x2 1 m8) ms_RL_68 rfl (Nat.le_of_ble_eq_true rfl) (Nat.le_of_ble_eq_true rfl) (Nat.le_of_ble_eq_true rfl) ⟨rfl, rfl⟩ ⟨(Nat.le_of_ble_eq_true rfl), (Nat.le_of_ble_eq_true rfl)⟩ dL_step_171 (fun m11 => ?_)
          exact x_vretF zXt.refl rfl rfl ⟨(Nat.le_of_ble_eq_true rfl), (Nat.le_of_ble_eq_true rfl)⟩ dL_step_174
      · refine x_icmp_ne (tgt := 104) dL_step_96 (by decide) (fun hc5 => ?_) (fun hc5 => ?_)
        · refine x_bipush (v := 62) dL_step_99 (by decide) ?_
          refine x_goto (tgt := 158) dL_step_101 (by decide) ?_
          refine y_mask (bs := [true, false, true, true, false]) (ls' := [some (.ref (zad ω 16)), none, some (.int x1), some (.int x2), none]) rfl ?_
          exact hj7 _
        · refine x_iload_n dL_step_104 rfl ?_
          refine x_iconst (v := 3) dL_step_105 (by decide) ?_
          refine x_icmp_ne (tgt := 114) dL_step_106 (by decide) (fun hc12 => ?_) (fun hc12 => ?_)
          · refine x_bipush (v := 60) dL_step_109 (by decide) ?_
            refine x_goto (tgt := 158) dL_step_111 (by decide) ?_
            refine y_mask (bs := [true, false, true, true, false]) (ls' := [some (.ref (zad ω 16)), none, some (.int x1), some (.int x2), none]) rfl ?_
            exact hj7 _
          · refine x_iload_n dL_step_114 rfl ?_
            refine x_iconst (v := 4) dL_step_115 (by decide) ?_
            refine x_icmp_ne (tgt := 124) dL_step_116 (by decide) (fun hc13 => ?_) (fun hc13 => ?_)
            · refine x_bipush (v := 93) dL_step_119 (by decide) ?_
              refine x_goto (tgt := 158) dL_step_121 (by decide) ?_
              refine y_mask (bs := [true, false, true, true, false]) (ls' := [some (.ref (zad ω 16)), none, some (.int x1), some (.int x2), none]) rfl ?_
              exact hj7 _
            · refine x_iload_n dL_step_124 rfl ?_
              refine x_iconst (v := 5) dL_step_125 (by decide) ?_
              refine x_icmp_ne (tgt := 134) dL_step_126 (by decide) (fun hc14 => ?_) (fun hc14 => ?_)
              · refine x_bipush (v := 91) dL_step_129 (by decide) ?_
                refine x_goto (tgt := 158) dL_step_131 (by decide) ?_
                refine y_mask (bs := [true, false, true, true, false]) (ls' := [some (.ref (zad ω 16)), none, some (.int x1), some (.int x2), none]) rfl ?_
                exact hj7 _
              · refine x_iload_n dL_step_134 rfl ?_
                refine x_bipush (v := 6) dL_step_135 (by decide) ?_
                refine x_icmp_ne (tgt := 145) dL_step_137 (by decide) (fun hc15 => ?_) (fun hc15 => ?_)
                · refine x_bipush (v := 79) dL_step_140 (by decide) ?_
                  refine x_goto (tgt := 158) dL_step_142 (by decide) ?_
                  refine y_mask (bs := [true, false, true, true, false]) (ls' := [some (.ref (zad ω 16)), none, some (.int x1), some (.int x2), none]) rfl ?_
                  exact hj7 _
                · refine x_iload_n dL_step_145 rfl ?_
                  refine x_bipush (v := 7) dL_step_146 (by decide) ?_
                  refine x_icmp_ne (tgt := 156) dL_step_148 (by decide) (fun hc16 => ?_) (fun hc16 => ?_)
                  · refine x_bipush (v := 81) dL_step_151 (by decide) ?_
                    refine x_goto (tgt := 158) dL_step_153 (by decide) ?_
                    refine y_mask (bs := [true, false, true, true, false]) (ls' := [some (.ref (zad ω 16)), none, some (.int x1), some (.int x2), none]) rfl ?_
                    exact hj7 _
                  · refine x_bipush (v := 88) dL_step_156 (by decide) ?_
                    refine y_mask (bs := [true, false, true, true, false]) (ls' := [some (.ref (zad ω 16)), none, some (.int x1), some (.int x2), none]) rfl ?_
                    exact hj7 _
abbrev kk_Law_rule : Kx := (yL_rule.cls, cL_rule, 7, none, [], false)
set_option maxHeartbeats 4000000 in
set_option maxRecDepth 100000 in
theorem c_Law_rule (ω : Wd) (p3 : Int32) (m : Mm) : Ev ω true 11 0 0 yL_rule cL_rule 7 none [.ref (zad ω 16), .ref (zad ω 201), .int p3] m fV (f_Law_rule p3 m) := by
  refine Ev.of (b := false) (ls := [some (.ref (zad ω 16)), some (.ref (zad ω 201)), some (.int p3), none, none, none, none]) (plainFor_of_name (by decide +kernel)) (fun h => by cases h) rfl (Nat.le_of_ble_eq_true rfl) rfl ?_
  change Sx ω ω true 11 0 0 kk_Law_rule fV 0 0 m 0 _ _ _
  unfold f_Law_rule
  refine x_aload_n dL_rule_0 rfl ?_
  refine x_bipush (v := 6) dL_rule_1 (by decide) ?_
  refine x_iload_n dL_rule_3 rfl ?_
  refine x_imul dL_rule_4 ?_
  refine y_iald hz_201 hn_201 dL_rule_5 (fun hi => ?_)
  refine x_sipush (v := 10000) dL_rule_6 (by decide) ?_
  refine x_idiv dL_rule_9 (by decide) ?_
  refine y_letI (fun x1 => ?_)
  refine x_istore_n (ls' := [some (.ref (zad ω 16)), some (.ref (zad ω 201)), some (.int p3), some (.int x1), none, none, none]) dL_rule_10 (Nat.le_of_ble_eq_true rfl) rfl ?_
  refine x_aload_n dL_rule_11 rfl ?_
  refine x_iload_n dL_rule_12 rfl ?_
  refine x_iconst (v := 1) dL_rule_13 (by decide) ?_
  refine y_join (fun j4 => ∀ (x3 : Int32), Sx ω ω true 11 0 0 kk_Law_rule fV 0 0 m 44 [some (.ref (zad ω 16)), some (.ref (zad ω 201)), some (.int p3), some (.int x1), none, none, none] [.int x3, .ref (zad ω 16)] (j4 x3)) ?_ (fun j4 hj4 => ?_)
  · intro x3
    refine y_callVI (rest := []) (c1 := 0) (s1 := 0) (cn_Loo_type ω x3 m) mv_RL_62 hz_16 rfl (Nat.le_of_ble_eq_true rfl) (Nat.le_of_ble_eq_true rfl) (Nat.le_of_ble_eq_true rfl) ⟨rfl, rfl⟩ ⟨(Nat.le_of_ble_eq_true rfl), (Nat.le_of_ble_eq_true rfl)⟩ dL_rule_44 (fun v6 m5 => ?_)
    refine x_pop dL_rule_47 rfl ?_
    refine x_aload_n dL_rule_48 rfl ?_
    refine x_aload_n dL_rule_49 rfl ?_
    refine x_bipush (v := 6) dL_rule_50 (by decide) ?_
    refine x_iload_n dL_rule_52 rfl ?_
    refine x_imul dL_rule_53 ?_
    refine y_iald hz_201 hn_201 dL_rule_54 (fun hi => ?_)
    refine x_sipush (v := 10000) dL_rule_55 (by decide) ?_
    refine x_irem dL_rule_58 (by decide) ?_
    refine x_iload_n dL_rule_59 rfl ?_
    refine x_iconst (v := 3) dL_rule_60 (by decide) ?_
    refine y_join (fun j9 => ∀ (x8 : Int32), Sx ω ω true 11 0 0 kk_Law_rule fV 0 0 m5 78 [some (.ref (zad ω 16)), some (.ref (zad ω 201)), some (.int p3), none, none, none, none] [.int x8, .int ((zI m5 201 (zIx (6 * p3))) % 10000), .ref (zad ω 16)] (j9 x8)) ?_ (fun j9 hj9 => ?_)
    · intro x8
      refine y_callSV (rest := []) (c1 := 0) (s1 := 0) (c_Law_digits ω ((zI m5 201 (zIx (6 * p3))) % 10000) x8 m5) ms_RL_68 rfl (Nat.le_of_ble_eq_true rfl) (Nat.le_of_ble_eq_true rfl) (Nat.le_of_ble_eq_true rfl) ⟨rfl, rfl⟩ ⟨(Nat.le_of_ble_eq_true rfl), (Nat.le_of_ble_eq_true rfl)⟩ dL_rule_78 (fun m10 => ?_)
      refine x_aload_n dL_rule_81 rfl ?_
      refine x_bipush (v := 6) dL_rule_82 (by decide) ?_
      refine x_iload_n dL_rule_84 rfl ?_
      refine x_imul dL_rule_85 ?_
      refine x_iconst (v := 1) dL_rule_86 (by decide) ?_
      refine x_iadd dL_rule_87 ?_
      refine y_iald hz_201 hn_201 dL_rule_88 (fun hi => ?_)
      refine y_letI (fun x11 => ?_)
      refine x_istore (ls' := [some (.ref (zad ω 16)), some (.ref (zad ω 201)), some (.int p3), none, some (.int x11), none, none]) dL_rule_89 (Nat.le_of_ble_eq_true rfl) rfl ?_
      refine x_iload dL_rule_91 rfl ?_
      refine y_join (fun j14 => ∀ (m13 : Mm), Sx ω ω true 11 0 0 kk_Law_rule fV 0 0 m13 228 [some (.ref (zad ω 16)), some (.ref (zad ω 201)), some (.int p3), none, some (.int x11), none, none] [] (j14 m13)) ?_ (fun j14 hj14 => ?_)
      · intro m13
        refine x_aload_n dL_rule_228 rfl ?_
        refine x_aload_n dL_rule_229 rfl ?_
        refine x_bipush (v := 6) dL_rule_230 (by decide) ?_
        refine x_iload_n dL_rule_232 rfl ?_
        refine x_imul dL_rule_233 ?_
        refine x_iconst (v := 2) dL_rule_234 (by decide) ?_
        refine x_iadd dL_rule_235 ?_
        refine y_iald hz_201 hn_201 dL_rule_236 (fun hi => ?_)
        refine y_callSV (rest := []) (c1 := 0) (s1 := 0) (c_Law_step ω (zI m13 201 (zIx ((6 * p3) + 2))) m13) ms_RL_72 rfl (Nat.le_of_ble_eq_true rfl) (Nat.le_of_ble_eq_true rfl) (Nat.le_of_ble_eq_true rfl) ⟨rfl, rfl⟩ ⟨(Nat.le_of_ble_eq_true rfl), (Nat.le_of_ble_eq_true rfl)⟩ dL_rule_237 (fun m15 => ?_)
        refine x_iload dL_rule_240 rfl ?_
        refine y_join (fun j18 => ∀ (m17 : Mm), Sx ω ω true 11 0 0 kk_Law_rule fV 0 0 m17 252 [some (.ref (zad ω 16)), some (.ref (zad ω 201)), some (.int p3), none, some (.int x11), none, none] [] (j18 m17)) ?_ (fun j18 hj18 => ?_)
        · intro m17
          refine x_iload dL_rule_252 rfl ?_
          refine y_join (fun j21 => ∀ (m20 : Mm), Sx ω ω true 11 0 0 kk_Law_rule fV 0 0 m20 294 [some (.ref (zad ω 16)), some (.ref (zad ω 201)), some (.int p3), none, none, none, none] [] (j21 m20)) ?_ (fun j21 hj21 => ?_)
          · intro m20
            refine x_aload_n dL_rule_294 rfl ?_
            refine x_aload_n dL_rule_295 rfl ?_
            refine x_bipush (v := 6) dL_rule_296 (by decide) ?_
            refine x_iload_n dL_rule_298 rfl ?_
            refine x_imul dL_rule_299 ?_
            refine x_iconst (v := 4) dL_rule_300 (by decide) ?_
            refine x_iadd dL_rule_301 ?_
            refine y_iald hz_201 hn_201 dL_rule_302 (fun hi => ?_)
            refine y_callSV (rest := []) (c1 := 0) (s1 := 0) (c_Law_step ω (zI m20 201 (zIx ((6 * p3) + 4))) m20) ms_RL_72 rfl (Nat.le_of_ble_eq_true rfl) (Nat.le_of_ble_eq_true rfl) (Nat.le_of_ble_eq_true rfl) ⟨rfl, rfl⟩ ⟨(Nat.le_of_ble_eq_true rfl), (Nat.le_of_ble_eq_true rfl)⟩ dL_rule_303 (fun m22 => ?_)
            refine x_aload_n dL_rule_306 rfl ?_
            refine x_aload_n dL_rule_307 rfl ?_
            refine x_bipush (v := 6) dL_rule_308 (by decide) ?_
            refine x_iload_n dL_rule_310 rfl ?_
            refine x_imul dL_rule_311 ?_
            refine x_iconst (v := 5) dL_rule_312 (by decide) ?_
            refine x_iadd dL_rule_313 ?_
            refine y_iald hz_201 hn_201 dL_rule_314 (fun hi => ?_)
            refine y_callSV (rest := []) (c1 := 0) (s1 := 0) (c_Law_step ω (zI m22 201 (zIx ((6 * p3) + 5))) m22) ms_RL_72 rfl (Nat.le_of_ble_eq_true rfl) (Nat.le_of_ble_eq_true rfl) (Nat.le_of_ble_eq_true rfl) ⟨rfl, rfl⟩ ⟨(Nat.le_of_ble_eq_true rfl), (Nat.le_of_ble_eq_true rfl)⟩ dL_rule_315 (fun m23 => ?_)
            exact x_vretF zXt.refl rfl rfl ⟨(Nat.le_of_ble_eq_true rfl), (Nat.le_of_ble_eq_true rfl)⟩ dL_rule_318
          · refine x_if_eq (tgt := 294) dL_rule_254 (by decide) (fun hc19 => ?_) (fun hc19 => ?_)
            · refine y_mask (bs := [true, true, true, false, false, false, false]) (ls' := [some (.ref (zad ω 16)), some (.ref (zad ω 201)), some (.int p3), none, none, none, none]) rfl ?_
              exact hj21 _
            · refine x_aload_n dL_rule_257 rfl ?_
              refine x_bipush (v := 6) dL_rule_258 (by decide) ?_
              refine x_iload_n dL_rule_260 rfl ?_
              refine x_imul dL_rule_261 ?_
              refine x_iconst (v := 3) dL_rule_262 (by decide) ?_
              refine x_iadd dL_rule_263 ?_
              refine y_iald hz_201 hn_201 dL_rule_264 (fun hi => ?_)
              refine x_if_lt (tgt := 294) dL_rule_265 (by decide) (fun hc24 => ?_) (fun hc24 => ?_)
              · refine y_mask (bs := [true, true, true, false, false, false, false]) (ls' := [some (.ref (zad ω 16)), some (.ref (zad ω 201)), some (.int p3), none, none, none, none]) rfl ?_
                exact hj21 _
              · refine x_aload_n dL_rule_268 rfl ?_
                refine x_bipush (v := 123) dL_rule_269 (by decide) ?_
                refine y_callVI (rest := []) (c1 := 0) (s1 := 0) (cn_Loo_type ω 123 m17) mv_RL_62 hz_16 rfl (Nat.le_of_ble_eq_true rfl) (Nat.le_of_ble_eq_true rfl) (Nat.le_of_ble_eq_true rfl) ⟨rfl, rfl⟩ ⟨(Nat.le_of_ble_eq_true rfl), (Nat.le_of_ble_eq_true rfl)⟩ dL_rule_271 (fun v26 m25 => ?_)
                refine x_pop dL_rule_274 rfl ?_
                refine x_aload_n dL_rule_275 rfl ?_
                refine x_aload_n dL_rule_276 rfl ?_
                refine x_bipush (v := 6) dL_rule_277 (by decide) ?_
                refine x_iload_n dL_rule_279 rfl ?_
                refine x_imul dL_rule_280 ?_
                refine x_iconst (v := 3) dL_rule_281 (by decide) ?_
                refine x_iadd dL_rule_282 ?_
                refine y_iald hz_201 hn_201 dL_rule_283 (fun hi => ?_)
                refine y_callSV (rest := []) (c1 := 0) (s1 := 0) (c_Law_step ω (zI m25 201 (zIx ((6 * p3) + 3))) m25) ms_RL_72 rfl (Nat.le_of_ble_eq_true rfl) (Nat.le_of_ble_eq_true rfl) (Nat.le_of_ble_eq_true rfl) ⟨rfl, rfl⟩ ⟨(Nat.le_of_ble_eq_true rfl), (Nat.le_of_ble_eq_true rfl)⟩ dL_rule_284 (fun m27 => ?_)
                refine x_aload_n dL_rule_287 rfl ?_
                refine x_bipush (v := 125) dL_rule_288 (by decide) ?_
                refine y_callVI (rest := []) (c1 := 0) (s1 := 0) (cn_Loo_type ω 125 m27) mv_RL_62 hz_16 rfl (Nat.le_of_ble_eq_true rfl) (Nat.le_of_ble_eq_true rfl) (Nat.le_of_ble_eq_true rfl) ⟨rfl, rfl⟩ ⟨(Nat.le_of_ble_eq_true rfl), (Nat.le_of_ble_eq_true rfl)⟩ dL_rule_290 (fun v29 m28 => ?_)
                refine x_pop dL_rule_293 rfl ?_
                refine y_mask (bs := [true, true, true, false, false, false, false]) (ls' := [some (.ref (zad ω 16)), some (.ref (zad ω 201)), some (.int p3), none, none, none, none]) rfl ?_
                exact hj21 _
        · refine x_if_eq (tgt := 252) dL_rule_242 (by decide) (fun hc16 => ?_) (fun hc16 => ?_)
          · exact hj18 _
          · refine x_aload_n dL_rule_245 rfl ?_
            refine x_bipush (v := 125) dL_rule_246 (by decide) ?_
            refine y_callVI (rest := []) (c1 := 0) (s1 := 0) (cn_Loo_type ω 125 m15) mv_RL_62 hz_16 rfl (Nat.le_of_ble_eq_true rfl) (Nat.le_of_ble_eq_true rfl) (Nat.le_of_ble_eq_true rfl) ⟨rfl, rfl⟩ ⟨(Nat.le_of_ble_eq_true rfl), (Nat.le_of_ble_eq_true rfl)⟩ dL_rule_248 (fun v31 m30 => ?_)
            refine x_pop dL_rule_251 rfl ?_
            exact hj18 _
      · refine x_if_eq (tgt := 228) dL_rule_93 (by decide) (fun hc12 => ?_) (fun hc12 => ?_)
        · exact hj14 _
        · refine x_iload dL_rule_96 rfl ?_
          refine y_join (fun j34 => ∀ (x33 : Int32), Sx ω ω true 11 0 0 kk_Law_rule fV 0 0 m10 109 [some (.ref (zad ω 16)), some (.ref (zad ω 201)), some (.int p3), none, some (.int x11), none, none] [.int x33] (j34 x33)) ?_ (fun j34 hj34 => ?_)
          · intro x33
            refine x_istore (ls' := [some (.ref (zad ω 16)), some (.ref (zad ω 201)), some (.int p3), none, some (.int x11), some (.int x33), none]) dL_rule_109 (Nat.le_of_ble_eq_true rfl) rfl ?_
            refine x_iload dL_rule_111 rfl ?_
            refine x_sipush (v := 10000) dL_rule_113 (by decide) ?_
            refine x_idiv dL_rule_116 (by decide) ?_
            refine y_letI (fun x35 => ?_)
            refine x_istore (ls' := [some (.ref (zad ω 16)), some (.ref (zad ω 201)), some (.int p3), none, some (.int x11), some (.int x33), some (.int x35)]) dL_rule_117 (Nat.le_of_ble_eq_true rfl) rfl ?_
            refine x_aload_n dL_rule_119 rfl ?_
            refine x_bipush (v := 63) dL_rule_120 (by decide) ?_
            refine y_callVI (rest := []) (c1 := 0) (s1 := 0) (cn_Loo_type ω 63 m10) mv_RL_62 hz_16 rfl (Nat.le_of_ble_eq_true rfl) (Nat.le_of_ble_eq_true rfl) (Nat.le_of_ble_eq_true rfl) ⟨rfl, rfl⟩ ⟨(Nat.le_of_ble_eq_true rfl), (Nat.le_of_ble_eq_true rfl)⟩ dL_rule_122 (fun v37 m36 => ?_)
            refine x_pop dL_rule_125 rfl ?_
            refine x_iload dL_rule_126 rfl ?_
            refine y_join (fun j40 => ∀ (m39 : Mm), Sx ω ω true 11 0 0 kk_Law_rule fV 0 0 m39 138 [some (.ref (zad ω 16)), some (.ref (zad ω 201)), some (.int p3), none, some (.int x11), some (.int x33), some (.int x35)] [] (j40 m39)) ?_ (fun j40 hj40 => ?_)
            · intro m39
              refine x_aload_n dL_rule_138 rfl ?_
              refine x_iload dL_rule_139 rfl ?_
              refine x_bipush (v := 13) dL_rule_141 (by decide) ?_
              refine y_join (fun j43 => ∀ (x42 : Int32), Sx ω ω true 11 0 0 kk_Law_rule fV 0 0 m39 177 [some (.ref (zad ω 16)), some (.ref (zad ω 201)), some (.int p3), none, some (.int x11), some (.int x33), some (.int x35)] [.int x42, .ref (zad ω 16)] (j43 x42)) ?_ (fun j43 hj43 => ?_)
              · intro x42
                refine y_callVI (rest := []) (c1 := 0) (s1 := 0) (cn_Loo_type ω x42 m39) mv_RL_62 hz_16 rfl (Nat.le_of_ble_eq_true rfl) (Nat.le_of_ble_eq_true rfl) (Nat.le_of_ble_eq_true rfl) ⟨rfl, rfl⟩ ⟨(Nat.le_of_ble_eq_true rfl), (Nat.le_of_ble_eq_true rfl)⟩ dL_rule_177 (fun v45 m44 => ?_)
                refine x_pop dL_rule_180 rfl ?_
                refine x_iload dL_rule_181 rfl ?_
                refine x_bipush (v := 14) dL_rule_183 (by decide) ?_
                refine y_join (fun j48 => ∀ (m47 : Mm), Sx ω ω true 11 0 0 kk_Law_rule fV 0 0 m47 221 [some (.ref (zad ω 16)), some (.ref (zad ω 201)), some (.int p3), none, some (.int x11), none, none] [] (j48 m47)) ?_ (fun j48 hj48 => ?_)
                · intro m47
                  refine x_aload_n dL_rule_221 rfl ?_
                  refine x_bipush (v := 123) dL_rule_222 (by decide) ?_
                  refine y_callVI (rest := []) (c1 := 0) (s1 := 0) (cn_Loo_type ω 123 m47) mv_RL_62 hz_16 rfl (Nat.le_of_ble_eq_true rfl) (Nat.le_of_ble_eq_true rfl) (Nat.le_of_ble_eq_true rfl) ⟨rfl, rfl⟩ ⟨(Nat.le_of_ble_eq_true rfl), (Nat.le_of_ble_eq_true rfl)⟩ dL_rule_224 (fun v50 m49 => ?_)
                  refine x_pop dL_rule_227 rfl ?_
                  exact hj14 _
                · refine x_icmp_eq (tgt := 221) dL_rule_185 (by decide) (fun hc46 => ?_) (fun hc46 => ?_)
                  · refine y_mask (bs := [true, true, true, false, true, false, false]) (ls' := [some (.ref (zad ω 16)), some (.ref (zad ω 201)), some (.int p3), none, some (.int x11), none, none]) rfl ?_
                    exact hj48 _
                  · refine x_aload_n dL_rule_188 rfl ?_
                    refine x_iload dL_rule_189 rfl ?_
                    refine x_sipush (v := 10000) dL_rule_191 (by decide) ?_
                    refine x_irem dL_rule_194 (by decide) ?_
                    refine x_iload dL_rule_195 rfl ?_
                    refine x_bipush (v := 13) dL_rule_197 (by decide) ?_
                    refine y_join (fun j53 => ∀ (x52 : Int32), Sx ω ω true 11 0 0 kk_Law_rule fV 0 0 m44 218 [some (.ref (zad ω 16)), some (.ref (zad ω 201)), some (.int p3), none, some (.int x11), none, none] [.int x52, .int (x33 % 10000), .ref (zad ω 16)] (j53 x52)) ?_ (fun j53 hj53 => ?_)
                    · intro x52
                      refine y_callSV (rest := []) (c1 := 0) (s1 := 0) (c_Law_digits ω (x33 % 10000) x52 m44) ms_RL_68 rfl (Nat.le_of_ble_eq_true rfl) (Nat.le_of_ble_eq_true rfl) (Nat.le_of_ble_eq_true rfl) ⟨rfl, rfl⟩ ⟨(Nat.le_of_ble_eq_true rfl), (Nat.le_of_ble_eq_true rfl)⟩ dL_rule_218 (fun m54 => ?_)
                      exact hj48 _
                    · refine x_icmp_ne (tgt := 206) dL_rule_199 (by decide) (fun hc51 => ?_) (fun hc51 => ?_)
                      · refine x_iconst (v := 1) dL_rule_202 (by decide) ?_
                        refine x_goto (tgt := 218) dL_rule_203 (by decide) ?_
                        refine y_mask (bs := [true, true, true, false, true, false, false]) (ls' := [some (.ref (zad ω 16)), some (.ref (zad ω 201)), some (.int p3), none, some (.int x11), none, none]) rfl ?_
                        exact hj53 _
                      · refine x_iload dL_rule_206 rfl ?_
                        refine x_bipush (v := 15) dL_rule_208 (by decide) ?_
                        refine x_icmp_ne (tgt := 217) dL_rule_210 (by decide) (fun hc55 => ?_) (fun hc55 => ?_)
                        · refine x_iconst (v := 2) dL_rule_213 (by decide) ?_
                          refine x_goto (tgt := 218) dL_rule_214 (by decide) ?_
                          refine y_mask (bs := [true, true, true, false, true, false, false]) (ls' := [some (.ref (zad ω 16)), some (.ref (zad ω 201)), some (.int p3), none, some (.int x11), none, none]) rfl ?_
                          exact hj53 _
                        · refine x_iconst (v := 4) dL_rule_217 (by decide) ?_
                          refine y_mask (bs := [true, true, true, false, true, false, false]) (ls' := [some (.ref (zad ω 16)), some (.ref (zad ω 201)), some (.int p3), none, some (.int x11), none, none]) rfl ?_
                          exact hj53 _
              · refine x_icmp_ne (tgt := 151) dL_rule_143 (by decide) (fun hc41 => ?_) (fun hc41 => ?_)
                · refine x_bipush (v := 87) dL_rule_146 (by decide) ?_
                  refine x_goto (tgt := 177) dL_rule_148 (by decide) ?_
                  exact hj43 _
                · refine x_iload dL_rule_151 rfl ?_
                  refine x_bipush (v := 14) dL_rule_153 (by decide) ?_
                  refine x_icmp_ne (tgt := 163) dL_rule_155 (by decide) (fun hc56 => ?_) (fun hc56 => ?_)
                  · refine x_bipush (v := 89) dL_rule_158 (by decide) ?_
                    refine x_goto (tgt := 177) dL_rule_160 (by decide) ?_
                    exact hj43 _
                  · refine x_iload dL_rule_163 rfl ?_
                    refine x_bipush (v := 15) dL_rule_165 (by decide) ?_
                    refine x_icmp_ne (tgt := 175) dL_rule_167 (by decide) (fun hc57 => ?_) (fun hc57 => ?_)
                    · refine x_bipush (v := 65) dL_rule_170 (by decide) ?_
                      refine x_goto (tgt := 177) dL_rule_172 (by decide) ?_
                      exact hj43 _
                    · refine x_bipush (v := 69) dL_rule_175 (by decide) ?_
                      exact hj43 _
            · refine x_if_ge (tgt := 138) dL_rule_128 (by decide) (fun hc38 => ?_) (fun hc38 => ?_)
              · exact hj40 _
              · refine x_aload_n dL_rule_131 rfl ?_
                refine x_bipush (v := 33) dL_rule_132 (by decide) ?_
                refine y_callVI (rest := []) (c1 := 0) (s1 := 0) (cn_Loo_type ω 33 m36) mv_RL_62 hz_16 rfl (Nat.le_of_ble_eq_true rfl) (Nat.le_of_ble_eq_true rfl) (Nat.le_of_ble_eq_true rfl) ⟨rfl, rfl⟩ ⟨(Nat.le_of_ble_eq_true rfl), (Nat.le_of_ble_eq_true rfl)⟩ dL_rule_134 (fun v59 m58 => ?_)
                refine x_pop dL_rule_137 rfl ?_
                exact hj40 _
          · refine x_if_ge (tgt := 107) dL_rule_98 (by decide) (fun hc32 => ?_) (fun hc32 => ?_)
            · refine x_iload dL_rule_107 rfl ?_
              exact hj34 _
            · refine x_iload dL_rule_101 rfl ?_
              refine x_ineg dL_rule_103 ?_
              refine x_goto (tgt := 109) dL_rule_104 (by decide) ?_
              exact hj34 _
    · refine x_icmp_ne (tgt := 68) dL_rule_61 (by decide) (fun hc7 => ?_) (fun hc7 => ?_)
      · refine x_iconst (v := 3) dL_rule_64 (by decide) ?_
        refine x_goto (tgt := 78) dL_rule_65 (by decide) ?_
        refine y_mask (bs := [true, true, true, false, false, false, false]) (ls' := [some (.ref (zad ω 16)), some (.ref (zad ω 201)), some (.int p3), none, none, none, none]) rfl ?_
        exact hj9 _
      · refine x_iload_n dL_rule_68 rfl ?_
        refine x_iconst (v := 4) dL_rule_69 (by decide) ?_
        refine x_icmp_ne (tgt := 77) dL_rule_70 (by decide) (fun hc60 => ?_) (fun hc60 => ?_)
        · refine x_iconst (v := 2) dL_rule_73 (by decide) ?_
          refine x_goto (tgt := 78) dL_rule_74 (by decide) ?_
          refine y_mask (bs := [true, true, true, false, false, false, false]) (ls' := [some (.ref (zad ω 16)), some (.ref (zad ω 201)), some (.int p3), none, none, none, none]) rfl ?_
          exact hj9 _
        · refine x_iconst (v := 4) dL_rule_77 (by decide) ?_
          refine y_mask (bs := [true, true, true, false, false, false, false]) (ls' := [some (.ref (zad ω 16)), some (.ref (zad ω 201)), some (.int p3), none, none, none, none]) rfl ?_
          exact hj9 _
  · refine x_icmp_ne (tgt := 22) dL_rule_14 (by decide) (fun hc2 => ?_) (fun hc2 => ?_)
    · refine x_bipush (v := 68) dL_rule_17 (by decide) ?_
      refine x_goto (tgt := 44) dL_rule_19 (by decide) ?_
      exact hj4 _
    · refine x_iload_n dL_rule_22 rfl ?_
      refine x_iconst (v := 2) dL_rule_23 (by decide) ?_
      refine x_icmp_ne (tgt := 32) dL_rule_24 (by decide) (fun hc61 => ?_) (fun hc61 => ?_)
      · refine x_bipush (v := 78) dL_rule_27 (by decide) ?_
        refine x_goto (tgt := 44) dL_rule_29 (by decide) ?_
        exact hj4 _
      · refine x_iload_n dL_rule_32 rfl ?_
        refine x_iconst (v := 3) dL_rule_33 (by decide) ?_
        refine x_icmp_ne (tgt := 42) dL_rule_34 (by decide) (fun hc62 => ?_) (fun hc62 => ?_)
        · refine x_bipush (v := 76) dL_rule_37 (by decide) ?_
          refine x_goto (tgt := 44) dL_rule_39 (by decide) ?_
          exact hj4 _
        · refine x_bipush (v := 70) dL_rule_42 (by decide) ?_
          exact hj4 _
abbrev kk_Law_ask : Kx := (yL_ask.cls, cL_ask, 4, none, [], false)
set_option maxHeartbeats 4000000 in
set_option maxRecDepth 100000 in
theorem c_Law_ask (ω : Wd) (p3 : Int32) (m : Mm) : Ev ω true 10 0 0 yL_ask cL_ask 4 none [.ref (zad ω 16), .ref (zad ω 205), .int p3] m fV (f_Law_ask p3 m) := by
  refine Ev.of (b := false) (ls := [some (.ref (zad ω 16)), some (.ref (zad ω 205)), some (.int p3), none]) (plainFor_of_name (by decide +kernel)) (fun h => by cases h) rfl (Nat.le_of_ble_eq_true rfl) rfl ?_
  change Sx ω ω true 10 0 0 kk_Law_ask fV 0 0 m 0 _ _ _
  unfold f_Law_ask
  refine x_aload_n dL_ask_0 rfl ?_
  refine x_iload_n dL_ask_1 rfl ?_
  refine y_iald hz_205 hn_205 dL_ask_2 (fun hi => ?_)
  refine x_iconst (v := 1) dL_ask_3 (by decide) ?_
  refine y_join (fun j3 => ∀ (m2 : Mm), Sx ω ω true 10 0 0 kk_Law_ask fV 0 0 m2 14 [some (.ref (zad ω 16)), some (.ref (zad ω 205)), some (.int p3), none] [] (j3 m2)) ?_ (fun j3 hj3 => ?_)
  · intro m2
    refine x_aload_n dL_ask_14 rfl ?_
    refine x_iload_n dL_ask_15 rfl ?_
    refine x_iconst (v := 1) dL_ask_16 (by decide) ?_
    refine x_iadd dL_ask_17 ?_
    refine y_iald hz_205 hn_205 dL_ask_18 (fun hi => ?_)
    refine y_letI (fun x4 => ?_)
    refine x_istore_n (ls' := [some (.ref (zad ω 16)), some (.ref (zad ω 205)), some (.int p3), some (.int x4)]) dL_ask_19 (Nat.le_of_ble_eq_true rfl) rfl ?_
    refine x_aload_n dL_ask_20 rfl ?_
    refine x_iload_n dL_ask_21 rfl ?_
    refine x_iconst (v := 1) dL_ask_22 (by decide) ?_
    refine y_join (fun j7 => ∀ (x6 : Int32), Sx ω ω true 10 0 0 kk_Law_ask fV 0 0 m2 63 [some (.ref (zad ω 16)), some (.ref (zad ω 205)), some (.int p3), some (.int x4)] [.int x6, .ref (zad ω 16)] (j7 x6)) ?_ (fun j7 hj7 => ?_)
    · intro x6
      refine y_callVI (rest := []) (c1 := 0) (s1 := 0) (cn_Loo_type ω x6 m2) mv_RL_62 hz_16 rfl (Nat.le_of_ble_eq_true rfl) (Nat.le_of_ble_eq_true rfl) (Nat.le_of_ble_eq_true rfl) ⟨rfl, rfl⟩ ⟨(Nat.le_of_ble_eq_true rfl), (Nat.le_of_ble_eq_true rfl)⟩ dL_ask_63 (fun v9 m8 => ?_)
      refine x_pop dL_ask_66 rfl ?_
      refine x_iload_n dL_ask_67 rfl ?_
      refine x_iconst (v := 1) dL_ask_68 (by decide) ?_
      refine y_join (fun j12 => ∀ (m11 : Mm), Sx ω ω true 10 0 0 kk_Law_ask fV 0 0 m11 82 [some (.ref (zad ω 16)), some (.ref (zad ω 205)), some (.int p3), some (.int x4)] [] (j12 m11)) ?_ (fun j12 hj12 => ?_)
      · intro m11
        refine x_iload_n dL_ask_82 rfl ?_
        refine x_iconst (v := 2) dL_ask_83 (by decide) ?_
        refine y_join (fun j15 => ∀ (m14 : Mm), Sx ω ω true 10 0 0 kk_Law_ask fV 0 0 m14 97 [some (.ref (zad ω 16)), some (.ref (zad ω 205)), some (.int p3), some (.int x4)] [] (j15 m14)) ?_ (fun j15 hj15 => ?_)
        · intro m14
          refine x_iload_n dL_ask_97 rfl ?_
          refine x_iconst (v := 3) dL_ask_98 (by decide) ?_
          refine y_join (fun j18 => ∀ (m17 : Mm), Sx ω ω true 10 0 0 kk_Law_ask fV 0 0 m17 112 [some (.ref (zad ω 16)), some (.ref (zad ω 205)), some (.int p3), some (.int x4)] [] (j18 m17)) ?_ (fun j18 hj18 => ?_)
          · intro m17
            refine x_iload_n dL_ask_112 rfl ?_
            refine x_iconst (v := 5) dL_ask_113 (by decide) ?_
            refine x_icmp_ne (tgt := 127) dL_ask_114 (by decide) (fun hc19 => ?_) (fun hc19 => ?_)
            · refine x_aload_n dL_ask_117 rfl ?_
              refine x_aload_n dL_ask_118 rfl ?_
              refine x_iload_n dL_ask_119 rfl ?_
              refine x_iconst (v := 3) dL_ask_120 (by decide) ?_
              refine x_iadd dL_ask_121 ?_
              refine y_iald hz_205 hn_205 dL_ask_122 (fun hi => ?_)
              refine x_iconst (v := 2) dL_ask_123 (by decide) ?_
              refine y_callSV (rest := []) (c1 := 0) (s1 := 0) (c_Law_digits ω (zI m17 205 (zIx (p3 + 3))) 2 m17) ms_RL_68 rfl (Nat.le_of_ble_eq_true rfl) (Nat.le_of_ble_eq_true rfl) (Nat.le_of_ble_eq_true rfl) ⟨rfl, rfl⟩ ⟨(Nat.le_of_ble_eq_true rfl), (Nat.le_of_ble_eq_true rfl)⟩ dL_ask_124 (fun m20 => ?_)
              exact x_vretF zXt.refl rfl rfl ⟨(Nat.le_of_ble_eq_true rfl), (Nat.le_of_ble_eq_true rfl)⟩ dL_ask_127
            · exact x_vretF zXt.refl rfl rfl ⟨(Nat.le_of_ble_eq_true rfl), (Nat.le_of_ble_eq_true rfl)⟩ dL_ask_127
          · refine x_icmp_ne (tgt := 112) dL_ask_99 (by decide) (fun hc16 => ?_) (fun hc16 => ?_)
            · refine x_aload_n dL_ask_102 rfl ?_
              refine x_aload_n dL_ask_103 rfl ?_
              refine x_iload_n dL_ask_104 rfl ?_
              refine x_iconst (v := 3) dL_ask_105 (by decide) ?_
              refine x_iadd dL_ask_106 ?_
              refine y_iald hz_205 hn_205 dL_ask_107 (fun hi => ?_)
              refine x_iconst (v := 1) dL_ask_108 (by decide) ?_
              refine y_callSV (rest := []) (c1 := 0) (s1 := 0) (c_Law_digits ω (zI m14 205 (zIx (p3 + 3))) 1 m14) ms_RL_68 rfl (Nat.le_of_ble_eq_true rfl) (Nat.le_of_ble_eq_true rfl) (Nat.le_of_ble_eq_true rfl) ⟨rfl, rfl⟩ ⟨(Nat.le_of_ble_eq_true rfl), (Nat.le_of_ble_eq_true rfl)⟩ dL_ask_109 (fun m21 => ?_)
              exact hj18 _
            · exact hj18 _
        · refine x_icmp_ne (tgt := 97) dL_ask_84 (by decide) (fun hc13 => ?_) (fun hc13 => ?_)
          · refine x_aload_n dL_ask_87 rfl ?_
            refine x_aload_n dL_ask_88 rfl ?_
            refine x_iload_n dL_ask_89 rfl ?_
            refine x_iconst (v := 3) dL_ask_90 (by decide) ?_
            refine x_iadd dL_ask_91 ?_
            refine y_iald hz_205 hn_205 dL_ask_92 (fun hi => ?_)
            refine x_iconst (v := 4) dL_ask_93 (by decide) ?_
            refine y_callSV (rest := []) (c1 := 0) (s1 := 0) (c_Law_digits ω (zI m11 205 (zIx (p3 + 3))) 4 m11) ms_RL_68 rfl (Nat.le_of_ble_eq_true rfl) (Nat.le_of_ble_eq_true rfl) (Nat.le_of_ble_eq_true rfl) ⟨rfl, rfl⟩ ⟨(Nat.le_of_ble_eq_true rfl), (Nat.le_of_ble_eq_true rfl)⟩ dL_ask_94 (fun m22 => ?_)
            exact hj15 _
          · exact hj15 _
      · refine x_icmp_le (tgt := 82) dL_ask_69 (by decide) (fun hc10 => ?_) (fun hc10 => ?_)
        · exact hj12 _
        · refine x_aload_n dL_ask_72 rfl ?_
          refine x_aload_n dL_ask_73 rfl ?_
          refine x_iload_n dL_ask_74 rfl ?_
          refine x_iconst (v := 2) dL_ask_75 (by decide) ?_
          refine x_iadd dL_ask_76 ?_
          refine y_iald hz_205 hn_205 dL_ask_77 (fun hi => ?_)
          refine x_iconst (v := 2) dL_ask_78 (by decide) ?_
          refine y_callSV (rest := []) (c1 := 0) (s1 := 0) (c_Law_digits ω (zI m8 205 (zIx (p3 + 2))) 2 m8) ms_RL_68 rfl (Nat.le_of_ble_eq_true rfl) (Nat.le_of_ble_eq_true rfl) (Nat.le_of_ble_eq_true rfl) ⟨rfl, rfl⟩ ⟨(Nat.le_of_ble_eq_true rfl), (Nat.le_of_ble_eq_true rfl)⟩ dL_ask_79 (fun m23 => ?_)
          exact hj12 _
    · refine x_icmp_ne (tgt := 31) dL_ask_23 (by decide) (fun hc5 => ?_) (fun hc5 => ?_)
      · refine x_bipush (v := 67) dL_ask_26 (by decide) ?_
        refine x_goto (tgt := 63) dL_ask_28 (by decide) ?_
        exact hj7 _
      · refine x_iload_n dL_ask_31 rfl ?_
        refine x_iconst (v := 2) dL_ask_32 (by decide) ?_
        refine x_icmp_ne (tgt := 41) dL_ask_33 (by decide) (fun hc24 => ?_) (fun hc24 => ?_)
        · refine x_bipush (v := 68) dL_ask_36 (by decide) ?_
          refine x_goto (tgt := 63) dL_ask_38 (by decide) ?_
          exact hj7 _
        · refine x_iload_n dL_ask_41 rfl ?_
          refine x_iconst (v := 3) dL_ask_42 (by decide) ?_
          refine x_icmp_ne (tgt := 51) dL_ask_43 (by decide) (fun hc25 => ?_) (fun hc25 => ?_)
          · refine x_bipush (v := 87) dL_ask_46 (by decide) ?_
            refine x_goto (tgt := 63) dL_ask_48 (by decide) ?_
            exact hj7 _
          · refine x_iload_n dL_ask_51 rfl ?_
            refine x_iconst (v := 4) dL_ask_52 (by decide) ?_
            refine x_icmp_ne (tgt := 61) dL_ask_53 (by decide) (fun hc26 => ?_) (fun hc26 => ?_)
            · refine x_bipush (v := 78) dL_ask_56 (by decide) ?_
              refine x_goto (tgt := 63) dL_ask_58 (by decide) ?_
              exact hj7 _
            · refine x_bipush (v := 66) dL_ask_61 (by decide) ?_
              exact hj7 _
  · refine x_icmp_ne (tgt := 14) dL_ask_4 (by decide) (fun hc1 => ?_) (fun hc1 => ?_)
    · refine x_aload_n dL_ask_7 rfl ?_
      refine x_bipush (v := 33) dL_ask_8 (by decide) ?_
      refine y_callVI (rest := []) (c1 := 0) (s1 := 0) (cn_Loo_type ω 33 m) mv_RL_62 hz_16 rfl (Nat.le_of_ble_eq_true rfl) (Nat.le_of_ble_eq_true rfl) (Nat.le_of_ble_eq_true rfl) ⟨rfl, rfl⟩ ⟨(Nat.le_of_ble_eq_true rfl), (Nat.le_of_ble_eq_true rfl)⟩ dL_ask_10 (fun v28 m27 => ?_)
      refine x_pop dL_ask_13 rfl ?_
      exact hj3 _
    · exact hj3 _
abbrev kk_Law_drawDate : Kx := (yL_drawDate.cls, cL_drawDate, 2, (some .int), [], false)
set_option maxHeartbeats 4000000 in
set_option maxRecDepth 100000 in
theorem c_Law_drawDate (ω : Wd) (p1 : Int32) (m : Mm) : Ev ω true 2 0 0 yL_drawDate cL_drawDate 2 (some .int) [.int p1] m (fP m) (f_Law_drawDate p1 m) := by
  refine Ev.of (b := false) (ls := [some (.int p1), none]) (plainFor_of_name (by decide +kernel)) (fun h => by cases h) rfl (Nat.le_of_ble_eq_true rfl) rfl ?_
  change Sx ω ω true 2 0 0 kk_Law_drawDate (fP m) 0 0 m 0 _ _ _
  unfold f_Law_drawDate
  refine x_iconst (v := 1) dL_drawDate_0 (by decide) ?_
  refine x_iload_n dL_drawDate_1 rfl ?_
  refine x_bipush (v := 6) dL_drawDate_2 (by decide) ?_
  refine x_ishr dL_drawDate_4 ?_
  refine x_bipush (v := 12) dL_drawDate_5 (by decide) ?_
  refine y_callSP (rest := [.int 1]) (c1 := 0) (s1 := 0) (c_Law_low ω (p1 >>> (6 &&& 31)) 12 m) ms_RL_76 rfl (Nat.le_of_ble_eq_true rfl) (Nat.le_of_ble_eq_true rfl) (Nat.le_of_ble_eq_true rfl) ⟨rfl, rfl⟩ ⟨(Nat.le_of_ble_eq_true rfl), (Nat.le_of_ble_eq_true rfl)⟩ dL_drawDate_7 (fun v1 => ?_)
  refine x_iadd dL_drawDate_10 ?_
  refine y_letI (fun x2 => ?_)
  refine x_istore_n (ls' := [some (.int p1), some (.int x2)]) dL_drawDate_11 (Nat.le_of_ble_eq_true rfl) rfl ?_
  refine x_bipush (v := 100) dL_drawDate_12 (by decide) ?_
  refine x_iload_n dL_drawDate_14 rfl ?_
  refine x_imul dL_drawDate_15 ?_
  refine x_iconst (v := 1) dL_drawDate_16 (by decide) ?_
  refine x_iadd dL_drawDate_17 ?_
  refine x_iload_n dL_drawDate_18 rfl ?_
  refine x_iload_n dL_drawDate_19 rfl ?_
  refine x_iconst (v := 2) dL_drawDate_20 (by decide) ?_
  refine y_join (fun j5 => ∀ (x4 : Int32), Sx ω ω true 2 0 0 kk_Law_drawDate (fP m) 0 0 m 59 [none, none] [.int x4, .int p1, .int ((100 * x2) + 1)] (j5 x4)) ?_ (fun j5 hj5 => ?_)
  · intro x4
    refine y_callSP (rest := [.int ((100 * x2) + 1)]) (c1 := 0) (s1 := 0) (c_Law_low ω p1 x4 m) ms_RL_76 rfl (Nat.le_of_ble_eq_true rfl) (Nat.le_of_ble_eq_true rfl) (Nat.le_of_ble_eq_true rfl) ⟨rfl, rfl⟩ ⟨(Nat.le_of_ble_eq_true rfl), (Nat.le_of_ble_eq_true rfl)⟩ dL_drawDate_59 (fun v6 => ?_)
    refine x_iadd dL_drawDate_62 ?_
    exact x_iretF zXt.refl rfl rfl ⟨(Nat.le_of_ble_eq_true rfl), (Nat.le_of_ble_eq_true rfl)⟩ dL_drawDate_63
  · refine x_icmp_ne (tgt := 29) dL_drawDate_21 (by decide) (fun hc3 => ?_) (fun hc3 => ?_)
    · refine x_bipush (v := 29) dL_drawDate_24 (by decide) ?_
      refine x_goto (tgt := 59) dL_drawDate_26 (by decide) ?_
      refine y_mask (bs := [false, false]) (ls' := [none, none]) rfl ?_
      exact hj5 _
    · refine x_iload_n dL_drawDate_29 rfl ?_
      refine x_iconst (v := 4) dL_drawDate_30 (by decide) ?_
      refine y_join (fun j8 => Sx ω ω true 2 0 0 kk_Law_drawDate (fP m) 0 0 m 52 [none, none] [.int p1, .int ((100 * x2) + 1)] j8) ?_ (fun j8 hj8 => ?_)
      · refine x_bipush (v := 30) dL_drawDate_52 (by decide) ?_
        refine x_goto (tgt := 59) dL_drawDate_54 (by decide) ?_
        exact hj5 _
      · refine x_icmp_eq (tgt := 52) dL_drawDate_31 (by decide) (fun hc7 => ?_) (fun hc7 => ?_)
        · refine y_mask (bs := [false, false]) (ls' := [none, none]) rfl ?_
          exact hj8
        · refine x_iload_n dL_drawDate_34 rfl ?_
          refine x_bipush (v := 6) dL_drawDate_35 (by decide) ?_
          refine x_icmp_eq (tgt := 52) dL_drawDate_37 (by decide) (fun hc9 => ?_) (fun hc9 => ?_)
          · refine y_mask (bs := [false, false]) (ls' := [none, none]) rfl ?_
            exact hj8
          · refine x_iload_n dL_drawDate_40 rfl ?_
            refine x_bipush (v := 9) dL_drawDate_41 (by decide) ?_
            refine x_icmp_eq (tgt := 52) dL_drawDate_43 (by decide) (fun hc10 => ?_) (fun hc10 => ?_)
            · refine y_mask (bs := [false, false]) (ls' := [none, none]) rfl ?_
              exact hj8
            · refine x_iload_n dL_drawDate_46 rfl ?_
              refine x_bipush (v := 11) dL_drawDate_47 (by decide) ?_
              refine x_icmp_ne (tgt := 57) dL_drawDate_49 (by decide) (fun hc11 => ?_) (fun hc11 => ?_)
              · refine y_mask (bs := [false, false]) (ls' := [none, none]) rfl ?_
                exact hj8
              · refine x_bipush (v := 31) dL_drawDate_57 (by decide) ?_
                refine y_mask (bs := [false, false]) (ls' := [none, none]) rfl ?_
                exact hj5 _
abbrev kk_Law_drawStep : Kx := (yL_drawStep.cls, cL_drawStep, 2, (some .int), [], false)
set_option maxHeartbeats 4000000 in
set_option maxRecDepth 100000 in
theorem c_Law_drawStep (ω : Wd) (p1 : Int32) (m : Mm) : Ev ω true 2 0 0 yL_drawStep cL_drawStep 2 (some .int) [.int p1] m (fP m) (f_Law_drawStep p1 m) := by
  refine Ev.of (b := false) (ls := [some (.int p1), none]) (plainFor_of_name (by decide +kernel)) (fun h => by cases h) rfl (Nat.le_of_ble_eq_true rfl) rfl ?_
  change Sx ω ω true 2 0 0 kk_Law_drawStep (fP m) 0 0 m 0 _ _ _
  unfold f_Law_drawStep
  refine x_iload_n dL_drawStep_0 rfl ?_
  refine x_bipush (v := 9) dL_drawStep_1 (by decide) ?_
  refine y_callSP (rest := []) (c1 := 0) (s1 := 0) (c_Law_low ω p1 9 m) ms_RL_76 rfl (Nat.le_of_ble_eq_true rfl) (Nat.le_of_ble_eq_true rfl) (Nat.le_of_ble_eq_true rfl) ⟨rfl, rfl⟩ ⟨(Nat.le_of_ble_eq_true rfl), (Nat.le_of_ble_eq_true rfl)⟩ dL_drawStep_3 (fun v1 => ?_)
  refine x_istore_n (ls' := [some (.int p1), some (.int v1)]) dL_drawStep_6 (Nat.le_of_ble_eq_true rfl) rfl ?_
  refine x_iload_n dL_drawStep_7 rfl ?_
  refine x_iconst (v := 1) dL_drawStep_8 (by decide) ?_
  refine x_icmp_ne (tgt := 62) dL_drawStep_9 (by decide) (fun hc2 => ?_) (fun hc2 => ?_)
  · refine x_sipush (v := 1400) dL_drawStep_12 (by decide) ?_
    refine x_iload_n dL_drawStep_15 rfl ?_
    refine x_iconst (v := 5) dL_drawStep_16 (by decide) ?_
    refine x_ishr dL_drawStep_17 ?_
    refine x_iload_n dL_drawStep_18 rfl ?_
    refine x_iconst (v := 4) dL_drawStep_19 (by decide) ?_
    refine x_ishr dL_drawStep_20 ?_
    refine x_iconst (v := 3) dL_drawStep_21 (by decide) ?_
    refine y_callSP (rest := [.int (p1 >>> (5 &&& 31)), .int 1400]) (c1 := 0) (s1 := 0) (c_Law_low ω (p1 >>> (4 &&& 31)) 3 m) ms_RL_76 rfl (Nat.le_of_ble_eq_true rfl) (Nat.le_of_ble_eq_true rfl) (Nat.le_of_ble_eq_true rfl) ⟨rfl, rfl⟩ ⟨(Nat.le_of_ble_eq_true rfl), (Nat.le_of_ble_eq_true rfl)⟩ dL_drawStep_22 (fun v7 => ?_)
    refine y_join (fun j10 => ∀ (x9 : Int32), Sx ω ω true 2 0 0 kk_Law_drawStep (fP m) 0 0 m 36 [some (.int p1), none] [.int x9, .int (p1 >>> (5 &&& 31)), .int 1400] (j10 x9)) ?_ (fun j10 hj10 => ?_)
    · intro x9
      refine y_callSP (rest := [.int 1400]) (c1 := 0) (s1 := 0) (c_Law_low ω (p1 >>> (5 &&& 31)) x9 m) ms_RL_76 rfl (Nat.le_of_ble_eq_true rfl) (Nat.le_of_ble_eq_true rfl) (Nat.le_of_ble_eq_true rfl) ⟨rfl, rfl⟩ ⟨(Nat.le_of_ble_eq_true rfl), (Nat.le_of_ble_eq_true rfl)⟩ dL_drawStep_36 (fun v11 => ?_)
      refine x_iadd dL_drawStep_39 ?_
      refine x_iload_n dL_drawStep_40 rfl ?_
      refine x_iconst (v := 4) dL_drawStep_41 (by decide) ?_
      refine x_ishr dL_drawStep_42 ?_
      refine x_iconst (v := 3) dL_drawStep_43 (by decide) ?_
      refine y_callSP (rest := [.int (1400 + v11)]) (c1 := 0) (s1 := 0) (c_Law_low ω (p1 >>> (4 &&& 31)) 3 m) ms_RL_76 rfl (Nat.le_of_ble_eq_true rfl) (Nat.le_of_ble_eq_true rfl) (Nat.le_of_ble_eq_true rfl) ⟨rfl, rfl⟩ ⟨(Nat.le_of_ble_eq_true rfl), (Nat.le_of_ble_eq_true rfl)⟩ dL_drawStep_44 (fun v12 => ?_)
      refine y_join (fun j15 => ∀ (x14 : Int32), Sx ω ω true 2 0 0 kk_Law_drawStep (fP m) 0 0 m 58 [none, none] [.int x14, .int (1400 + v11)] (j15 x14)) ?_ (fun j15 hj15 => ?_)
      · intro x14
        refine x_isub dL_drawStep_58 ?_
        refine x_goto (tgt := 94) dL_drawStep_59 (by decide) ?_
        exact x_iretF zXt.refl rfl rfl ⟨(Nat.le_of_ble_eq_true rfl), (Nat.le_of_ble_eq_true rfl)⟩ dL_drawStep_94
      · refine x_if_ne (tgt := 56) dL_drawStep_47 (by decide) (fun hc13 => ?_) (fun hc13 => ?_)
        · refine x_sipush (v := 366) dL_drawStep_50 (by decide) ?_
          refine x_goto (tgt := 58) dL_drawStep_53 (by decide) ?_
          refine y_mask (bs := [false, false]) (ls' := [none, none]) rfl ?_
          exact hj15 _
        · refine x_bipush (v := 20) dL_drawStep_56 (by decide) ?_
          refine y_mask (bs := [false, false]) (ls' := [none, none]) rfl ?_
          exact hj15 _
    · refine x_if_ne (tgt := 34) dL_drawStep_25 (by decide) (fun hc8 => ?_) (fun hc8 => ?_)
      · refine x_sipush (v := 733) dL_drawStep_28 (by decide) ?_
        refine x_goto (tgt := 36) dL_drawStep_31 (by decide) ?_
        refine y_mask (bs := [true, false]) (ls' := [some (.int p1), none]) rfl ?_
        exact hj10 _
      · refine x_bipush (v := 41) dL_drawStep_34 (by decide) ?_
        refine y_mask (bs := [true, false]) (ls' := [some (.int p1), none]) rfl ?_
        exact hj10 _
  · refine x_iload_n dL_drawStep_62 rfl ?_
    refine x_bipush (v := 6) dL_drawStep_63 (by decide) ?_
    refine y_join (fun j4 => Sx ω ω true 2 0 0 kk_Law_drawStep (fP m) 0 0 m 89 [none, some (.int v1)] [] j4) ?_ (fun j4 hj4 => ?_)
    · refine x_sipush (v := 1000) dL_drawStep_89 (by decide) ?_
      refine x_iload_n dL_drawStep_92 rfl ?_
      refine x_imul dL_drawStep_93 ?_
      exact x_iretF zXt.refl rfl rfl ⟨(Nat.le_of_ble_eq_true rfl), (Nat.le_of_ble_eq_true rfl)⟩ dL_drawStep_94
    · refine x_icmp_ge (tgt := 89) dL_drawStep_65 (by decide) (fun hc3 => ?_) (fun hc3 => ?_)
      · refine y_mask (bs := [false, true]) (ls' := [none, some (.int v1)]) rfl ?_
        exact hj4
      · refine x_iload_n dL_drawStep_68 rfl ?_
        refine x_if_le (tgt := 89) dL_drawStep_69 (by decide) (fun hc5 => ?_) (fun hc5 => ?_)
        · refine y_mask (bs := [false, true]) (ls' := [none, some (.int v1)]) rfl ?_
          exact hj4
        · refine x_sipush (v := 1000) dL_drawStep_72 (by decide) ?_
          refine x_iload_n dL_drawStep_75 rfl ?_
          refine x_imul dL_drawStep_76 ?_
          refine x_iload_n dL_drawStep_77 rfl ?_
          refine x_iconst (v := 5) dL_drawStep_78 (by decide) ?_
          refine x_ishr dL_drawStep_79 ?_
          refine x_bipush (v := 7) dL_drawStep_80 (by decide) ?_
          refine y_callSP (rest := [.int (1000 * v1)]) (c1 := 0) (s1 := 0) (c_Law_low ω (p1 >>> (5 &&& 31)) 7 m) ms_RL_76 rfl (Nat.le_of_ble_eq_true rfl) (Nat.le_of_ble_eq_true rfl) (Nat.le_of_ble_eq_true rfl) ⟨rfl, rfl⟩ ⟨(Nat.le_of_ble_eq_true rfl), (Nat.le_of_ble_eq_true rfl)⟩ dL_drawStep_82 (fun v6 => ?_)
          refine x_iadd dL_drawStep_85 ?_
          refine x_goto (tgt := 94) dL_drawStep_86 (by decide) ?_
          exact x_iretF zXt.refl rfl rfl ⟨(Nat.le_of_ble_eq_true rfl), (Nat.le_of_ble_eq_true rfl)⟩ dL_drawStep_94
