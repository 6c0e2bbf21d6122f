abbrev kk_Cal_firstDayOf : Kx := (yX2_firstDayOf.cls, cX2_firstDayOf, 2, (some .int), [], false)
set_option maxHeartbeats 4000000 in
set_option maxRecDepth 100000 in
theorem c_Cal_firstDayOf (ω : Wd) (p1 : Int32) (m : Mm) : Ev ω true 1 0 0 yX2_firstDayOf cX2_firstDayOf 2 (some .int) [.int p1] m (fP m) (f_Cal_firstDayOf p1 m) := by
  refine Ev.of (b := false) (ls := [some (.int p1), none]) (plainFor_of_name (by decide +kernel)) (fun h => by cases h) rfl (Nat.le_of_ble_eq_true rfl) rfl ?_
  change Sx ω ω true 1 0 0 kk_Cal_firstDayOf (fP m) 0 0 m 0 _ _ _
  unfold f_Cal_firstDayOf
  refine x_iload_n dX2_firstDayOf_0 rfl ?_
  refine x_iconst (v := 3) dX2_firstDayOf_1 (by decide) ?_
  refine x_iadd dX2_firstDayOf_2 ?_
  refine x_iconst (v := 4) dX2_firstDayOf_3 (by decide) ?_
  refine x_idiv dX2_firstDayOf_4 (by decide) ?_
  refine x_iload_n dX2_firstDayOf_5 rfl ?_
  refine x_bipush (v := 99) dX2_firstDayOf_6 (by decide) ?_
  refine x_iadd dX2_firstDayOf_8 ?_
  refine x_bipush (v := 100) dX2_firstDayOf_9 (by decide) ?_
  refine x_idiv dX2_firstDayOf_11 (by decide) ?_
  refine x_isub dX2_firstDayOf_12 ?_
  refine x_iload_n dX2_firstDayOf_13 rfl ?_
  refine x_sipush (v := 399) dX2_firstDayOf_14 (by decide) ?_
  refine x_iadd dX2_firstDayOf_17 ?_
  refine x_sipush (v := 400) dX2_firstDayOf_18 (by decide) ?_
  refine x_idiv dX2_firstDayOf_21 (by decide) ?_
  refine x_iadd dX2_firstDayOf_22 ?_
  refine y_letI (fun x1 => ?_)
  refine x_istore_n (ls' := [some (.int p1), some (.int x1)]) dX2_firstDayOf_23 (Nat.le_of_ble_eq_true rfl) rfl ?_
  refine x_sipush (v := 365) dX2_firstDayOf_24 (by decide) ?_
  refine x_iload_n dX2_firstDayOf_27 rfl ?_
  refine x_imul dX2_firstDayOf_28 ?_
  refine x_iload_n dX2_firstDayOf_29 rfl ?_
  refine x_iadd dX2_firstDayOf_30 ?_
  exact x_iret rfl rfl ⟨(Nat.le_of_ble_eq_true rfl), (Nat.le_of_ble_eq_true rfl)⟩ dX2_firstDayOf_31
abbrev kk_Cal_isLeap : Kx := (yX2_isLeap.cls, cX2_isLeap, 1, (some .boolean), [], false)
set_option maxHeartbeats 4000000 in
set_option maxRecDepth 100000 in
theorem c_Cal_isLeap (ω : Wd) (p1 : Int32) (m : Mm) : Ev ω true 1 0 0 yX2_isLeap cX2_isLeap 1 (some .boolean) [.int p1] m (fP m) (f_Cal_isLeap p1 m) := by
  refine Ev.of (b := false) (ls := [some (.int p1)]) (plainFor_of_name (by decide +kernel)) (fun h => by cases h) rfl (Nat.le_of_ble_eq_true rfl) rfl ?_
  change Sx ω ω true 1 0 0 kk_Cal_isLeap (fP m) 0 0 m 0 _ _ _
  unfold f_Cal_isLeap
  refine x_iload_n dX2_isLeap_0 rfl ?_
  refine x_iconst (v := 4) dX2_isLeap_1 (by decide) ?_
  refine x_irem dX2_isLeap_2 (by decide) ?_
  refine y_join (fun j2 => Sx ω ω true 1 0 0 kk_Cal_isLeap (fP m) 0 0 m 21 [none] [] j2) ?_ (fun j2 hj2 => ?_)
  · refine x_iconst (v := 1) dX2_isLeap_21 (by decide) ?_
    refine x_goto (tgt := 26) dX2_isLeap_22 (by decide) ?_
    exact x_zret rfl rfl (zBo_nar (by decide)) ⟨(Nat.le_of_ble_eq_true rfl), (Nat.le_of_ble_eq_true rfl)⟩ dX2_isLeap_26
  · refine y_join (fun j3 => Sx ω ω true 1 0 0 kk_Cal_isLeap (fP m) 0 0 m 13 [some (.int p1)] [] j3) ?_ (fun j3 hj3 => ?_)
    · refine x_iload_n dX2_isLeap_13 rfl ?_
      refine x_sipush (v := 400) dX2_isLeap_14 (by decide) ?_
      refine x_irem dX2_isLeap_17 (by decide) ?_
      refine x_if_ne (tgt := 25) dX2_isLeap_18 (by decide) (fun hc4 => ?_) (fun hc4 => ?_)
      · refine y_mask (bs := [false]) (ls' := [none]) rfl ?_
        exact hj2
      · refine x_iconst (v := 0) dX2_isLeap_25 (by decide) ?_
        exact x_zret rfl rfl (zBo_nar (by decide)) ⟨(Nat.le_of_ble_eq_true rfl), (Nat.le_of_ble_eq_true rfl)⟩ dX2_isLeap_26
    · refine x_if_ne (tgt := 13) dX2_isLeap_3 (by decide) (fun hc1 => ?_) (fun hc1 => ?_)
      · refine x_iload_n dX2_isLeap_6 rfl ?_
        refine x_bipush (v := 100) dX2_isLeap_7 (by decide) ?_
        refine x_irem dX2_isLeap_9 (by decide) ?_
        refine x_if_ne (tgt := 21) dX2_isLeap_10 (by decide) (fun hc5 => ?_) (fun hc5 => ?_)
        · exact hj3
        · refine y_mask (bs := [false]) (ls' := [none]) rfl ?_
          exact hj2
      · exact hj3
abbrev kk_Cal_monthStart : Kx := (yX2_monthStart.cls, cX2_monthStart, 2, (some .int), [], false)
set_option maxHeartbeats 4000000 in
set_option maxRecDepth 100000 in
theorem c_Cal_monthStart (ω : Wd) (p1 : Int32) (p2 : Int32) (m : Mm) : Ev ω true 1 0 0 yX2_monthStart cX2_monthStart 2 (some .int) [.int p1, .int p2] m (fP m) (f_Cal_monthStart p1 p2 m) := by
  refine Ev.of (b := false) (ls := [some (.int p1), some (.int p2)]) (plainFor_of_name (by decide +kernel)) (fun h => by cases h) rfl (Nat.le_of_ble_eq_true rfl) rfl ?_
  change Sx ω ω true 1 0 0 kk_Cal_monthStart (fP m) 0 0 m 0 _ _ _
  unfold f_Cal_monthStart
  refine x_iload_n dX2_monthStart_0 rfl ?_
  refine x_iconst (v := 1) dX2_monthStart_1 (by decide) ?_
  refine x_icmp_lt (tgt := 11) dX2_monthStart_2 (by decide) (fun hc1 => ?_) (fun hc1 => ?_)
  · refine x_iconst (v := (-1)) dX2_monthStart_11 (by decide) ?_
    exact x_iret rfl rfl ⟨(Nat.le_of_ble_eq_true rfl), (Nat.le_of_ble_eq_true rfl)⟩ dX2_monthStart_12
  · refine x_iload_n dX2_monthStart_5 rfl ?_
    refine x_bipush (v := 13) dX2_monthStart_6 (by decide) ?_
    refine x_icmp_le (tgt := 13) dX2_monthStart_8 (by decide) (fun hc2 => ?_) (fun hc2 => ?_)
    · refine x_getMon st_RX2_15 dX2_monthStart_13 ?_
      refine x_iload_n dX2_monthStart_16 rfl ?_
      refine x_iconst (v := 1) dX2_monthStart_17 (by decide) ?_
      refine x_isub dX2_monthStart_18 ?_
      refine x_ialdMon dX2_monthStart_19 (fun hi => ?_)
      refine x_iload_n dX2_monthStart_20 rfl ?_
      refine y_join (fun j4 => Sx ω ω true 1 0 0 kk_Cal_monthStart (fP m) 0 0 m 33 [none, none] [.int (zMon (p2 - 1))] j4) ?_ (fun j4 hj4 => ?_)
      · refine x_iconst (v := 0) dX2_monthStart_33 (by decide) ?_
        refine x_iadd dX2_monthStart_34 ?_
        exact x_iret rfl rfl ⟨(Nat.le_of_ble_eq_true rfl), (Nat.le_of_ble_eq_true rfl)⟩ dX2_monthStart_35
      · refine x_if_eq (tgt := 33) dX2_monthStart_21 (by decide) (fun hc3 => ?_) (fun hc3 => ?_)
        · refine y_mask (bs := [false, false]) (ls' := [none, none]) rfl ?_
          exact hj4
        · refine x_iload_n dX2_monthStart_24 rfl ?_
          refine x_iconst (v := 2) dX2_monthStart_25 (by decide) ?_
          refine x_icmp_le (tgt := 33) dX2_monthStart_26 (by decide) (fun hc5 => ?_) (fun hc5 => ?_)
          · refine y_mask (bs := [false, false]) (ls' := [none, none]) rfl ?_
            exact hj4
          · refine x_iconst (v := 1) dX2_monthStart_29 (by decide) ?_
            refine x_goto (tgt := 34) dX2_monthStart_30 (by decide) ?_
            refine x_iadd dX2_monthStart_34 ?_
            exact x_iret rfl rfl ⟨(Nat.le_of_ble_eq_true rfl), (Nat.le_of_ble_eq_true rfl)⟩ dX2_monthStart_35
    · refine x_iconst (v := (-1)) dX2_monthStart_11 (by decide) ?_
      exact x_iret rfl rfl ⟨(Nat.le_of_ble_eq_true rfl), (Nat.le_of_ble_eq_true rfl)⟩ dX2_monthStart_12
abbrev kk_Cal_dateOf : Kx := (yX2_dateOf.cls, cX2_dateOf, 5, (some .int), [], false)
set_option maxHeartbeats 4000000 in
set_option maxRecDepth 100000 in
theorem c_Cal_dateOf (ω : Wd) (p1 : Int32) (p2 : Int32) (m : Mm) : Ev ω true 2 0 0 yX2_dateOf cX2_dateOf 5 (some .int) [.int p1, .int p2] m (fP m) (f_Cal_dateOf p1 p2 m) := by
  refine Ev.of (b := false) (ls := [some (.int p1), some (.int p2), none, none, none]) (plainFor_of_name (by decide +kernel)) (fun h => by cases h) rfl (Nat.le_of_ble_eq_true rfl) rfl ?_
  change Sx ω ω true 2 0 0 kk_Cal_dateOf (fP m) 0 0 m 0 _ _ _
  unfold f_Cal_dateOf
  refine x_iload_n dX2_dateOf_0 rfl ?_
  refine y_callSP (rest := []) (c1 := 0) (s1 := 0) (c_Cal_isLeap ω p1 m) ms_RX2_9 rfl (Nat.le_of_ble_eq_true rfl) (Nat.le_of_ble_eq_true rfl) (Nat.le_of_ble_eq_true rfl) ⟨rfl, rfl⟩ ⟨(Nat.le_of_ble_eq_true rfl), (Nat.le_of_ble_eq_true rfl)⟩ dX2_dateOf_1 (fun v1 => ?_)
  refine x_istore_n (ls' := [some (.int p1), some (.int p2), some (.int v1), none, none]) dX2_dateOf_4 (Nat.le_of_ble_eq_true rfl) rfl ?_
  refine x_iload_n dX2_dateOf_5 rfl ?_
  refine x_iload_n dX2_dateOf_6 rfl ?_
  refine x_bipush (v := 13) dX2_dateOf_7 (by decide) ?_
  refine y_callSP (rest := [.int p2]) (c1 := 0) (s1 := 0) (c_Cal_monthStart ω v1 13 m) ms_RX2_19 rfl (Nat.le_of_ble_eq_true rfl) (Nat.le_of_ble_eq_true rfl) (Nat.le_of_ble_eq_true rfl) ⟨rfl, rfl⟩ ⟨(Nat.le_of_ble_eq_true rfl), (Nat.le_of_ble_eq_true rfl)⟩ dX2_dateOf_9 (fun v2 => ?_)
  refine x_icmp_lt (tgt := 17) dX2_dateOf_12 (by decide) (fun hc3 => ?_) (fun hc3 => ?_)
  · refine x_bipush (v := 12) dX2_dateOf_17 (by decide) ?_
    refine x_istore_n (ls' := [some (.int p1), some (.int p2), some (.int v1), some (.int 12), none]) dX2_dateOf_19 (Nat.le_of_ble_eq_true rfl) rfl ?_
    refine y_mask (bs := [false, true, true, true, false]) (ls' := [none, some (.int p2), some (.int v1), some (.int 12), none]) rfl ?_
    refine y_Lq1 (fun x4 => [none, some (.int p2), some (.int v1), some (.int x4), none]) (fun r5 hr5 x4 => ?_) zFu _
    refine x_iload_n dX2_dateOf_20 rfl ?_
    refine x_iconst (v := 1) dX2_dateOf_21 (by decide) ?_
    refine x_icmp_lt (tgt := 56) dX2_dateOf_22 (by decide) (fun hc6 => ?_) (fun hc6 => ?_)
    · refine x_iconst (v := (-1)) dX2_dateOf_56 (by decide) ?_
      exact x_iret rfl rfl ⟨(Nat.le_of_ble_eq_true rfl), (Nat.le_of_ble_eq_true rfl)⟩ dX2_dateOf_57
    · refine x_iload_n dX2_dateOf_25 rfl ?_
      refine x_iload_n dX2_dateOf_26 rfl ?_
      refine y_callSP (rest := []) (c1 := 0) (s1 := 0) (c_Cal_monthStart ω v1 x4 m) ms_RX2_19 rfl (Nat.le_of_ble_eq_true rfl) (Nat.le_of_ble_eq_true rfl) (Nat.le_of_ble_eq_true rfl) ⟨rfl, rfl⟩ ⟨(Nat.le_of_ble_eq_true rfl), (Nat.le_of_ble_eq_true rfl)⟩ dX2_dateOf_27 (fun v7 => ?_)
      refine x_istore (ls' := [none, some (.int p2), some (.int v1), some (.int x4), some (.int v7)]) dX2_dateOf_30 (Nat.le_of_ble_eq_true rfl) rfl ?_
      refine x_iload_n dX2_dateOf_32 rfl ?_
      refine x_iload dX2_dateOf_33 rfl ?_
      refine x_icmp_lt (tgt := 50) dX2_dateOf_35 (by decide) (fun hc8 => ?_) (fun hc8 => ?_)
      · refine y_iinc (w := (-1)) dX2_dateOf_50 rfl (by decide) (Nat.le_of_ble_eq_true rfl) (fun x9 => ?_)
        refine x_goto (tgt := 20) dX2_dateOf_53 (by decide) ?_
        refine y_mask (bs := [false, true, true, true, false]) (ls' := [none, some (.int p2), some (.int v1), some (.int x9), none]) rfl ?_
        exact hr5 _
      · refine x_bipush (v := 100) dX2_dateOf_38 (by decide) ?_
        refine x_iload_n dX2_dateOf_40 rfl ?_
        refine x_imul dX2_dateOf_41 ?_
        refine x_iload_n dX2_dateOf_42 rfl ?_
        refine x_iadd dX2_dateOf_43 ?_
        refine x_iload dX2_dateOf_44 rfl ?_
        refine x_isub dX2_dateOf_46 ?_
        refine x_iconst (v := 1) dX2_dateOf_47 (by decide) ?_
        refine x_iadd dX2_dateOf_48 ?_
        exact x_iret rfl rfl ⟨(Nat.le_of_ble_eq_true rfl), (Nat.le_of_ble_eq_true rfl)⟩ dX2_dateOf_49
  · refine x_iconst (v := (-1)) dX2_dateOf_15 (by decide) ?_
    exact x_iret rfl rfl ⟨(Nat.le_of_ble_eq_true rfl), (Nat.le_of_ble_eq_true rfl)⟩ dX2_dateOf_16
abbrev kk_Mat_floorDiv : Kx := (yJ9_floorDiv_7cf53.cls, cJ9_floorDiv_7cf53, 3, (some .int), [], false)
set_option maxHeartbeats 4000000 in
set_option maxRecDepth 100000 in
theorem c_Mat_floorDiv (ω : Wd) (p1 : Int32) (p2 : Int32) (m : Mm) : Ev ω true 1 0 0 yJ9_floorDiv_7cf53 cJ9_floorDiv_7cf53 3 (some .int) [.int p1, .int p2] m (fP m) (f_Mat_floorDiv p1 p2 m) := by
  refine Ev.of (b := false) (ls := [some (.int p1), some (.int p2), none]) (by decide +kernel) (fun h => by cases h) rfl (Nat.le_of_ble_eq_true rfl) rfl ?_
  change Sx ω ω true 1 0 0 kk_Mat_floorDiv (fP m) 0 0 m 0 _ _ _
  unfold f_Mat_floorDiv
  refine x_iload_n dJ9_floorDiv_7cf53_0 rfl ?_
  refine x_iload_n dJ9_floorDiv_7cf53_1 rfl ?_
  refine x_guard (fun hz => ?_)
  refine x_idiv dJ9_floorDiv_7cf53_2 hz ?_
  refine y_letI (fun x1 => ?_)
  refine x_istore_n (ls' := [some (.int p1), some (.int p2), some (.int x1)]) dJ9_floorDiv_7cf53_3 (Nat.le_of_ble_eq_true rfl) rfl ?_
  refine x_iload_n dJ9_floorDiv_7cf53_4 rfl ?_
  refine x_iload_n dJ9_floorDiv_7cf53_5 rfl ?_
  refine x_ixor dJ9_floorDiv_7cf53_6 ?_
  refine x_if_ge (tgt := 21) dJ9_floorDiv_7cf53_7 (by decide) (fun hc2 => ?_) (fun hc2 => ?_)
  · refine x_iload_n dJ9_floorDiv_7cf53_21 rfl ?_
    exact x_iret rfl rfl ⟨(Nat.le_of_ble_eq_true rfl), (Nat.le_of_ble_eq_true rfl)⟩ dJ9_floorDiv_7cf53_22
  · refine x_iload_n dJ9_floorDiv_7cf53_10 rfl ?_
    refine x_iload_n dJ9_floorDiv_7cf53_11 rfl ?_
    refine x_imul dJ9_floorDiv_7cf53_12 ?_
    refine x_iload_n dJ9_floorDiv_7cf53_13 rfl ?_
    refine x_icmp_eq (tgt := 21) dJ9_floorDiv_7cf53_14 (by decide) (fun hc3 => ?_) (fun hc3 => ?_)
    · refine x_iload_n dJ9_floorDiv_7cf53_21 rfl ?_
      exact x_iret rfl rfl ⟨(Nat.le_of_ble_eq_true rfl), (Nat.le_of_ble_eq_true rfl)⟩ dJ9_floorDiv_7cf53_22
    · refine x_iload_n dJ9_floorDiv_7cf53_17 rfl ?_
      refine x_iconst (v := 1) dJ9_floorDiv_7cf53_18 (by decide) ?_
      refine x_isub dJ9_floorDiv_7cf53_19 ?_
      exact x_iret rfl rfl ⟨(Nat.le_of_ble_eq_true rfl), (Nat.le_of_ble_eq_true rfl)⟩ dJ9_floorDiv_7cf53_20
abbrev kk_Cal_lastMoon : Kx := (yX2_lastMoon.cls, cX2_lastMoon, 2, (some .int), [], false)
set_option maxHeartbeats 4000000 in
set_option maxRecDepth 100000 in
theorem c_Cal_lastMoon (ω : Wd) (p1 : Int32) (p2 : Int32) (m : Mm) : Ev ω true 2 0 0 yX2_lastMoon cX2_lastMoon 2 (some .int) [.int p1, .int p2] m (fP m) (f_Cal_lastMoon p1 p2 m) := by
  refine Ev.of (b := false) (ls := [some (.int p1), some (.int p2)]) (plainFor_of_name (by decide +kernel)) (fun h => by cases h) rfl (Nat.le_of_ble_eq_true rfl) rfl ?_
  change Sx ω ω true 2 0 0 kk_Cal_lastMoon (fP m) 0 0 m 0 _ _ _
  unfold f_Cal_lastMoon
  refine x_iload_n dX2_lastMoon_0 rfl ?_
  refine x_if_ne (tgt := 23) dX2_lastMoon_1 (by decide) (fun hc1 => ?_) (fun hc1 => ?_)
  · refine x_bipush (v := 32) dX2_lastMoon_4 (by decide) ?_
    refine x_iload_n dX2_lastMoon_6 rfl ?_
    refine x_iconst (v := 5) dX2_lastMoon_7 (by decide) ?_
    refine x_isub dX2_lastMoon_8 ?_
    refine x_iconst (v := 1) dX2_lastMoon_9 (by decide) ?_
    refine x_iadd dX2_lastMoon_10 ?_
    refine x_imul dX2_lastMoon_11 ?_
    refine x_iconst (v := 1) dX2_lastMoon_12 (by decide) ?_
    refine x_isub dX2_lastMoon_13 ?_
    refine x_sipush (v := 945) dX2_lastMoon_14 (by decide) ?_
    refine y_callSP (rest := []) (c1 := 0) (s1 := 0) (c_Mat_floorDiv ω ((32 * ((p1 - 5) + 1)) - 1) 945 m) ms_RX2_35 rfl (Nat.le_of_ble_eq_true rfl) (Nat.le_of_ble_eq_true rfl) (Nat.le_of_ble_eq_true rfl) ⟨rfl, rfl⟩ ⟨(Nat.le_of_ble_eq_true rfl), (Nat.le_of_ble_eq_true rfl)⟩ dX2_lastMoon_17 (fun v3 => ?_)
    refine x_goto (tgt := 41) dX2_lastMoon_20 (by decide) ?_
    exact x_iret rfl rfl ⟨(Nat.le_of_ble_eq_true rfl), (Nat.le_of_ble_eq_true rfl)⟩ dX2_lastMoon_41
  · refine x_sipush (v := 235) dX2_lastMoon_23 (by decide) ?_
    refine x_iload_n dX2_lastMoon_26 rfl ?_
    refine x_bipush (v := 6) dX2_lastMoon_27 (by decide) ?_
    refine x_isub dX2_lastMoon_29 ?_
    refine x_iconst (v := 1) dX2_lastMoon_30 (by decide) ?_
    refine x_iadd dX2_lastMoon_31 ?_
    refine x_imul dX2_lastMoon_32 ?_
    refine x_iconst (v := 1) dX2_lastMoon_33 (by decide) ?_
    refine x_isub dX2_lastMoon_34 ?_
    refine x_sipush (v := 6940) dX2_lastMoon_35 (by decide) ?_
    refine y_callSP (rest := []) (c1 := 0) (s1 := 0) (c_Mat_floorDiv ω ((235 * ((p1 - 6) + 1)) - 1) 6940 m) ms_RX2_35 rfl (Nat.le_of_ble_eq_true rfl) (Nat.le_of_ble_eq_true rfl) (Nat.le_of_ble_eq_true rfl) ⟨rfl, rfl⟩ ⟨(Nat.le_of_ble_eq_true rfl), (Nat.le_of_ble_eq_true rfl)⟩ dX2_lastMoon_38 (fun v2 => ?_)
    exact x_iret rfl rfl ⟨(Nat.le_of_ble_eq_true rfl), (Nat.le_of_ble_eq_true rfl)⟩ dX2_lastMoon_41
abbrev kk_Cal_newMoon : Kx := (yX2_newMoon.cls, cX2_newMoon, 2, (some .int), [], false)
set_option maxHeartbeats 4000000 in
set_option maxRecDepth 100000 in
theorem c_Cal_newMoon (ω : Wd) (p1 : Int32) (p2 : Int32) (m : Mm) : Ev ω true 2 0 0 yX2_newMoon cX2_newMoon 2 (some .int) [.int p1, .int p2] m (fP m) (f_Cal_newMoon p1 p2 m) := by
  refine Ev.of (b := false) (ls := [some (.int p1), some (.int p2)]) (plainFor_of_name (by decide +kernel)) (fun h => by cases h) rfl (Nat.le_of_ble_eq_true rfl) rfl ?_
  change Sx ω ω true 2 0 0 kk_Cal_newMoon (fP m) 0 0 m 0 _ _ _
  unfold f_Cal_newMoon
  refine x_iload_n dX2_newMoon_0 rfl ?_
  refine x_if_ne (tgt := 19) dX2_newMoon_1 (by decide) (fun hc1 => ?_) (fun hc1 => ?_)
  · refine x_sipush (v := 945) dX2_newMoon_4 (by decide) ?_
    refine x_iload_n dX2_newMoon_7 rfl ?_
    refine x_imul dX2_newMoon_8 ?_
    refine x_bipush (v := 32) dX2_newMoon_9 (by decide) ?_
    refine y_callSP (rest := []) (c1 := 0) (s1 := 0) (c_Mat_floorDiv ω (945 * p1) 32 m) ms_RX2_35 rfl (Nat.le_of_ble_eq_true rfl) (Nat.le_of_ble_eq_true rfl) (Nat.le_of_ble_eq_true rfl) ⟨rfl, rfl⟩ ⟨(Nat.le_of_ble_eq_true rfl), (Nat.le_of_ble_eq_true rfl)⟩ dX2_newMoon_11 (fun v3 => ?_)
    refine x_iconst (v := 5) dX2_newMoon_14 (by decide) ?_
    refine x_iadd dX2_newMoon_15 ?_
    refine x_goto (tgt := 33) dX2_newMoon_16 (by decide) ?_
    exact x_iret rfl rfl ⟨(Nat.le_of_ble_eq_true rfl), (Nat.le_of_ble_eq_true rfl)⟩ dX2_newMoon_33
  · refine x_sipush (v := 6940) dX2_newMoon_19 (by decide) ?_
    refine x_iload_n dX2_newMoon_22 rfl ?_
    refine x_imul dX2_newMoon_23 ?_
    refine x_sipush (v := 235) dX2_newMoon_24 (by decide) ?_
    refine y_callSP (rest := []) (c1 := 0) (s1 := 0) (c_Mat_floorDiv ω (6940 * p1) 235 m) ms_RX2_35 rfl (Nat.le_of_ble_eq_true rfl) (Nat.le_of_ble_eq_true rfl) (Nat.le_of_ble_eq_true rfl) ⟨rfl, rfl⟩ ⟨(Nat.le_of_ble_eq_true rfl), (Nat.le_of_ble_eq_true rfl)⟩ dX2_newMoon_27 (fun v2 => ?_)
    refine x_bipush (v := 6) dX2_newMoon_30 (by decide) ?_
    refine x_iadd dX2_newMoon_32 ?_
    exact x_iret rfl rfl ⟨(Nat.le_of_ble_eq_true rfl), (Nat.le_of_ble_eq_true rfl)⟩ dX2_newMoon_33
abbrev kk_Cal_ageOf : Kx := (yX2_ageOf.cls, cX2_ageOf, 2, (some .int), [], false)
set_option maxHeartbeats 4000000 in
set_option maxRecDepth 100000 in
theorem c_Cal_ageOf (ω : Wd) (p1 : Int32) (p2 : Int32) (m : Mm) : Ev ω true 3 0 0 yX2_ageOf cX2_ageOf 2 (some .int) [.int p1, .int p2] m (fP m) (f_Cal_ageOf p1 p2 m) := by
  refine Ev.of (b := false) (ls := [some (.int p1), some (.int p2)]) (plainFor_of_name (by decide +kernel)) (fun h => by cases h) rfl (Nat.le_of_ble_eq_true rfl) rfl ?_
  change Sx ω ω true 3 0 0 kk_Cal_ageOf (fP m) 0 0 m 0 _ _ _
  unfold f_Cal_ageOf
  refine x_iload_n dX2_ageOf_0 rfl ?_
  refine x_iload_n dX2_ageOf_1 rfl ?_
  refine x_iload_n dX2_ageOf_2 rfl ?_
  refine y_callSP (rest := [.int p1]) (c1 := 0) (s1 := 0) (c_Cal_lastMoon ω p1 p2 m) ms_RX2_29 rfl (Nat.le_of_ble_eq_true rfl) (Nat.le_of_ble_eq_true rfl) (Nat.le_of_ble_eq_true rfl) ⟨rfl, rfl⟩ ⟨(Nat.le_of_ble_eq_true rfl), (Nat.le_of_ble_eq_true rfl)⟩ dX2_ageOf_3 (fun v1 => ?_)
  refine x_iload_n dX2_ageOf_6 rfl ?_
  refine y_callSP (rest := [.int p1]) (c1 := 0) (s1 := 0) (c_Cal_newMoon ω v1 p2 m) ms_RX2_32 rfl (Nat.le_of_ble_eq_true rfl) (Nat.le_of_ble_eq_true rfl) (Nat.le_of_ble_eq_true rfl) ⟨rfl, rfl⟩ ⟨(Nat.le_of_ble_eq_true rfl), (Nat.le_of_ble_eq_true rfl)⟩ dX2_ageOf_7 (fun v2 => ?_)
  refine x_isub dX2_ageOf_10 ?_
  exact x_iret rfl rfl ⟨(Nat.le_of_ble_eq_true rfl), (Nat.le_of_ble_eq_true rfl)⟩ dX2_ageOf_11
abbrev kk_Cal_mostDaysOf : Kx := (yX2_mostDaysOf.cls, cX2_mostDaysOf, 1, (some .int), [], false)
set_option maxHeartbeats 4000000 in
set_option maxRecDepth 100000 in
theorem c_Cal_mostDaysOf (ω : Wd) (p1 : Int32) (m : Mm) : Ev ω true 2 0 0 yX2_mostDaysOf cX2_mostDaysOf 1 (some .int) [.int p1] m (fP m) (f_Cal_mostDaysOf p1 m) := by
  refine Ev.of (b := false) (ls := [some (.int p1)]) (plainFor_of_name (by decide +kernel)) (fun h => by cases h) rfl (Nat.le_of_ble_eq_true rfl) rfl ?_
  change Sx ω ω true 2 0 0 kk_Cal_mostDaysOf (fP m) 0 0 m 0 _ _ _
  unfold f_Cal_mostDaysOf
  refine x_iconst (v := 1) dX2_mostDaysOf_0 (by decide) ?_
  refine x_iload_n dX2_mostDaysOf_1 rfl ?_
  refine x_iconst (v := 1) dX2_mostDaysOf_2 (by decide) ?_
  refine x_iadd dX2_mostDaysOf_3 ?_
  refine y_callSP (rest := []) (c1 := 0) (s1 := 0) (c_Cal_monthStart ω 1 (p1 + 1) m) ms_RX2_19 rfl (Nat.le_of_ble_eq_true rfl) (Nat.le_of_ble_eq_true rfl) (Nat.le_of_ble_eq_true rfl) ⟨rfl, rfl⟩ ⟨(Nat.le_of_ble_eq_true rfl), (Nat.le_of_ble_eq_true rfl)⟩ dX2_mostDaysOf_4 (fun v1 => ?_)
  refine x_iconst (v := 1) dX2_mostDaysOf_7 (by decide) ?_
  refine x_iload_n dX2_mostDaysOf_8 rfl ?_
  refine y_callSP (rest := [.int v1]) (c1 := 0) (s1 := 0) (c_Cal_monthStart ω 1 p1 m) ms_RX2_19 rfl (Nat.le_of_ble_eq_true rfl) (Nat.le_of_ble_eq_true rfl) (Nat.le_of_ble_eq_true rfl) ⟨rfl, rfl⟩ ⟨(Nat.le_of_ble_eq_true rfl), (Nat.le_of_ble_eq_true rfl)⟩ dX2_mostDaysOf_9 (fun v2 => ?_)
  refine x_isub dX2_mostDaysOf_12 ?_
  exact x_iret rfl rfl ⟨(Nat.le_of_ble_eq_true rfl), (Nat.le_of_ble_eq_true rfl)⟩ dX2_mostDaysOf_13
abbrev kk_Mat_min : Kx := (yJ9_min_7cf53.cls, cJ9_min_7cf53, 2, (some .int), [], false)
set_option maxHeartbeats 4000000 in
set_option maxRecDepth 100000 in
theorem c_Mat_min (ω : Wd) (p1 : Int32) (p2 : Int32) (m : Mm) : Ev ω true 1 0 0 yJ9_min_7cf53 cJ9_min_7cf53 2 (some .int) [.int p1, .int p2] m (fP m) (f_Mat_min p1 p2 m) := by
  refine Ev.of (b := false) (ls := [some (.int p1), some (.int p2)]) (by decide +kernel) (fun h => by cases h) rfl (Nat.le_of_ble_eq_true rfl) rfl ?_
  change Sx ω ω true 1 0 0 kk_Mat_min (fP m) 0 0 m 0 _ _ _
  unfold f_Mat_min
  refine x_iload_n dJ9_min_7cf53_0 rfl ?_
  refine x_iload_n dJ9_min_7cf53_1 rfl ?_
  refine x_icmp_gt (tgt := 9) dJ9_min_7cf53_2 (by decide) (fun hc1 => ?_) (fun hc1 => ?_)
  · refine x_iload_n dJ9_min_7cf53_9 rfl ?_
    exact x_iret rfl rfl ⟨(Nat.le_of_ble_eq_true rfl), (Nat.le_of_ble_eq_true rfl)⟩ dJ9_min_7cf53_10
  · refine x_iload_n dJ9_min_7cf53_5 rfl ?_
    refine x_goto (tgt := 10) dJ9_min_7cf53_6 (by decide) ?_
    exact x_iret rfl rfl ⟨(Nat.le_of_ble_eq_true rfl), (Nat.le_of_ble_eq_true rfl)⟩ dJ9_min_7cf53_10
abbrev kk_Mat_abs : Kx := (yJ9_abs_0f7a4.cls, cJ9_abs_0f7a4, 1, (some .int), [], false)
set_option maxHeartbeats 4000000 in
set_option maxRecDepth 100000 in
theorem c_Mat_abs (ω : Wd) (p1 : Int32) (m : Mm) : Ev ω true 1 0 0 yJ9_abs_0f7a4 cJ9_abs_0f7a4 1 (some .int) [.int p1] m (fP m) (f_Mat_abs p1 m) := by
  refine Ev.of (b := false) (ls := [some (.int p1)]) (by decide +kernel) (fun h => by cases h) rfl (Nat.le_of_ble_eq_true rfl) rfl ?_
  change Sx ω ω true 1 0 0 kk_Mat_abs (fP m) 0 0 m 0 _ _ _
  unfold f_Mat_abs
  refine x_iload_n dJ9_abs_0f7a4_0 rfl ?_
  refine x_if_ge (tgt := 9) dJ9_abs_0f7a4_1 (by decide) (fun hc1 => ?_) (fun hc1 => ?_)
  · refine x_iload_n dJ9_abs_0f7a4_9 rfl ?_
    exact x_iret rfl rfl ⟨(Nat.le_of_ble_eq_true rfl), (Nat.le_of_ble_eq_true rfl)⟩ dJ9_abs_0f7a4_10
  · refine x_iload_n dJ9_abs_0f7a4_4 rfl ?_
    refine x_ineg dJ9_abs_0f7a4_5 ?_
    refine x_goto (tgt := 10) dJ9_abs_0f7a4_6 (by decide) ?_
    exact x_iret rfl rfl ⟨(Nat.le_of_ble_eq_true rfl), (Nat.le_of_ble_eq_true rfl)⟩ dJ9_abs_0f7a4_10
abbrev kk_Cal_lengthOf : Kx := (yX2_lengthOf.cls, cX2_lengthOf, 1, (some .int), [], false)
set_option maxHeartbeats 4000000 in
set_option maxRecDepth 100000 in
theorem c_Cal_lengthOf (ω : Wd) (p1 : Int32) (m : Mm) : Ev ω true 2 0 0 yX2_lengthOf cX2_lengthOf 1 (some .int) [.int p1] m (fP m) (f_Cal_lengthOf p1 m) := by
  refine Ev.of (b := false) (ls := [some (.int p1)]) (plainFor_of_name (by decide +kernel)) (fun h => by cases h) rfl (Nat.le_of_ble_eq_true rfl) rfl ?_
  change Sx ω ω true 2 0 0 kk_Cal_lengthOf (fP m) 0 0 m 0 _ _ _
  unfold f_Cal_lengthOf
  refine x_iload_n dX2_lengthOf_0 rfl ?_
  refine y_callSP (rest := []) (c1 := 0) (s1 := 0) (c_Cal_isLeap ω p1 m) ms_RX2_9 rfl (Nat.le_of_ble_eq_true rfl) (Nat.le_of_ble_eq_true rfl) (Nat.le_of_ble_eq_true rfl) ⟨rfl, rfl⟩ ⟨(Nat.le_of_ble_eq_true rfl), (Nat.le_of_ble_eq_true rfl)⟩ dX2_lengthOf_1 (fun v1 => ?_)
  refine x_if_eq (tgt := 13) dX2_lengthOf_4 (by decide) (fun hc2 => ?_) (fun hc2 => ?_)
  · refine x_sipush (v := 365) dX2_lengthOf_13 (by decide) ?_
    exact x_iret rfl rfl ⟨(Nat.le_of_ble_eq_true rfl), (Nat.le_of_ble_eq_true rfl)⟩ dX2_lengthOf_16
  · refine x_sipush (v := 366) dX2_lengthOf_7 (by decide) ?_
    refine x_goto (tgt := 16) dX2_lengthOf_10 (by decide) ?_
    exact x_iret rfl rfl ⟨(Nat.le_of_ble_eq_true rfl), (Nat.le_of_ble_eq_true rfl)⟩ dX2_lengthOf_16
abbrev kk_Mat_floorMod : Kx := (yJ9_floorMod_7cf53.cls, cJ9_floorMod_7cf53, 3, (some .int), [], false)
set_option maxHeartbeats 4000000 in
set_option maxRecDepth 100000 in
theorem c_Mat_floorMod (ω : Wd) (p1 : Int32) (p2 : Int32) (m : Mm) : Ev ω true 1 0 0 yJ9_floorMod_7cf53 cJ9_floorMod_7cf53 3 (some .int) [.int p1, .int p2] m (fP m) (f_Mat_floorMod p1 p2 m) := by
  refine Ev.of (b := false) (ls := [some (.int p1), some (.int p2), none]) (by decide +kernel) (fun h => by cases h) rfl (Nat.le_of_ble_eq_true rfl) rfl ?_
  change Sx ω ω true 1 0 0 kk_Mat_floorMod (fP m) 0 0 m 0 _ _ _
  unfold f_Mat_floorMod
  refine x_iload_n dJ9_floorMod_7cf53_0 rfl ?_
  refine x_iload_n dJ9_floorMod_7cf53_1 rfl ?_
  refine x_guard (fun hz => ?_)
  refine x_irem dJ9_floorMod_7cf53_2 hz ?_
  refine y_letI (fun x1 => ?_)
  refine x_istore_n (ls' := [some (.int p1), some (.int p2), some (.int x1)]) dJ9_floorMod_7cf53_3 (Nat.le_of_ble_eq_true rfl) rfl ?_
  refine x_iload_n dJ9_floorMod_7cf53_4 rfl ?_
  refine x_iload_n dJ9_floorMod_7cf53_5 rfl ?_
  refine x_ixor dJ9_floorMod_7cf53_6 ?_
  refine x_if_ge (tgt := 18) dJ9_floorMod_7cf53_7 (by decide) (fun hc2 => ?_) (fun hc2 => ?_)
  · refine x_iload_n dJ9_floorMod_7cf53_18 rfl ?_
    exact x_iret rfl rfl ⟨(Nat.le_of_ble_eq_true rfl), (Nat.le_of_ble_eq_true rfl)⟩ dJ9_floorMod_7cf53_19
  · refine x_iload_n dJ9_floorMod_7cf53_10 rfl ?_
    refine x_if_eq (tgt := 18) dJ9_floorMod_7cf53_11 (by decide) (fun hc3 => ?_) (fun hc3 => ?_)
    · refine x_iload_n dJ9_floorMod_7cf53_18 rfl ?_
      exact x_iret rfl rfl ⟨(Nat.le_of_ble_eq_true rfl), (Nat.le_of_ble_eq_true rfl)⟩ dJ9_floorMod_7cf53_19
    · refine x_iload_n dJ9_floorMod_7cf53_14 rfl ?_
      refine x_iload_n dJ9_floorMod_7cf53_15 rfl ?_
      refine x_iadd dJ9_floorMod_7cf53_16 ?_
      exact x_iret rfl rfl ⟨(Nat.le_of_ble_eq_true rfl), (Nat.le_of_ble_eq_true rfl)⟩ dJ9_floorMod_7cf53_17
abbrev kk_Cal_weekdayOf : Kx := (yX2_weekdayOf.cls, cX2_weekdayOf, 1, (some .int), [], false)
set_option maxHeartbeats 4000000 in
set_option maxRecDepth 100000 in
theorem c_Cal_weekdayOf (ω : Wd) (p1 : Int32) (m : Mm) : Ev ω true 2 0 0 yX2_weekdayOf cX2_weekdayOf 1 (some .int) [.int p1] m (fP m) (f_Cal_weekdayOf p1 m) := by
  refine Ev.of (b := false) (ls := [some (.int p1)]) (plainFor_of_name (by decide +kernel)) (fun h => by cases h) rfl (Nat.le_of_ble_eq_true rfl) rfl ?_
  change Sx ω ω true 2 0 0 kk_Cal_weekdayOf (fP m) 0 0 m 0 _ _ _
  unfold f_Cal_weekdayOf
  refine x_iload_n dX2_weekdayOf_0 rfl ?_
  refine x_bipush (v := 6) dX2_weekdayOf_1 (by decide) ?_
  refine x_iadd dX2_weekdayOf_3 ?_
  refine x_bipush (v := 7) dX2_weekdayOf_4 (by decide) ?_
  refine y_callSP (rest := []) (c1 := 0) (s1 := 0) (c_Mat_floorMod ω (p1 + 6) 7 m) ms_RX2_23 rfl (Nat.le_of_ble_eq_true rfl) (Nat.le_of_ble_eq_true rfl) (Nat.le_of_ble_eq_true rfl) ⟨rfl, rfl⟩ ⟨(Nat.le_of_ble_eq_true rfl), (Nat.le_of_ble_eq_true rfl)⟩ dX2_weekdayOf_6 (fun v1 => ?_)
  exact x_iret rfl rfl ⟨(Nat.le_of_ble_eq_true rfl), (Nat.le_of_ble_eq_true rfl)⟩ dX2_weekdayOf_9
abbrev kk_Cal_dayOf : Kx := (yX2_dayOf.cls, cX2_dayOf, 4, (some .int), [], false)
set_option maxHeartbeats 4000000 in
set_option maxRecDepth 100000 in
theorem c_Cal_dayOf (ω : Wd) (p1 : Int32) (p2 : Int32) (m : Mm) : Ev ω true 2 0 0 yX2_dayOf cX2_dayOf 4 (some .int) [.int p1, .int p2] m (fP m) (f_Cal_dayOf p1 p2 m) := by
  refine Ev.of (b := false) (ls := [some (.int p1), some (.int p2), none, none]) (plainFor_of_name (by decide +kernel)) (fun h => by cases h) rfl (Nat.le_of_ble_eq_true rfl) rfl ?_
  change Sx ω ω true 2 0 0 kk_Cal_dayOf (fP m) 0 0 m 0 _ _ _
  unfold f_Cal_dayOf
  refine x_iload_n dX2_dayOf_0 rfl ?_
  refine x_bipush (v := 100) dX2_dayOf_1 (by decide) ?_
  refine x_idiv dX2_dayOf_3 (by decide) ?_
  refine y_letI (fun x1 => ?_)
  refine x_istore_n (ls' := [some (.int p1), some (.int p2), some (.int x1), none]) dX2_dayOf_4 (Nat.le_of_ble_eq_true rfl) rfl ?_
  refine x_iload_n dX2_dayOf_5 rfl ?_
  refine x_iload_n dX2_dayOf_6 rfl ?_
  refine y_callSP (rest := []) (c1 := 0) (s1 := 0) (c_Cal_monthStart ω p1 x1 m) ms_RX2_19 rfl (Nat.le_of_ble_eq_true rfl) (Nat.le_of_ble_eq_true rfl) (Nat.le_of_ble_eq_true rfl) ⟨rfl, rfl⟩ ⟨(Nat.le_of_ble_eq_true rfl), (Nat.le_of_ble_eq_true rfl)⟩ dX2_dayOf_7 (fun v2 => ?_)
  refine x_iload_n dX2_dayOf_10 rfl ?_
  refine x_bipush (v := 100) dX2_dayOf_11 (by decide) ?_
  refine x_irem dX2_dayOf_13 (by decide) ?_
  refine x_iadd dX2_dayOf_14 ?_
  refine x_iconst (v := 1) dX2_dayOf_15 (by decide) ?_
  refine x_isub dX2_dayOf_16 ?_
  refine y_letI (fun x3 => ?_)
  refine x_istore_n (ls' := [some (.int p1), some (.int p2), some (.int x1), some (.int x3)]) dX2_dayOf_17 (Nat.le_of_ble_eq_true rfl) rfl ?_
  refine x_iload_n dX2_dayOf_18 rfl ?_
  refine x_iload_n dX2_dayOf_19 rfl ?_
  refine x_iload_n dX2_dayOf_20 rfl ?_
  refine x_iconst (v := 1) dX2_dayOf_21 (by decide) ?_
  refine x_iadd dX2_dayOf_22 ?_
  refine y_callSP (rest := [.int x3]) (c1 := 0) (s1 := 0) (c_Cal_monthStart ω p1 (x1 + 1) m) ms_RX2_19 rfl (Nat.le_of_ble_eq_true rfl) (Nat.le_of_ble_eq_true rfl) (Nat.le_of_ble_eq_true rfl) ⟨rfl, rfl⟩ ⟨(Nat.le_of_ble_eq_true rfl), (Nat.le_of_ble_eq_true rfl)⟩ dX2_dayOf_23 (fun v4 => ?_)
  refine x_icmp_ge (tgt := 33) dX2_dayOf_26 (by decide) (fun hc5 => ?_) (fun hc5 => ?_)
  · refine x_iconst (v := (-1)) dX2_dayOf_33 (by decide) ?_
    exact x_iret rfl rfl ⟨(Nat.le_of_ble_eq_true rfl), (Nat.le_of_ble_eq_true rfl)⟩ dX2_dayOf_34
  · refine x_iload_n dX2_dayOf_29 rfl ?_
    refine x_goto (tgt := 34) dX2_dayOf_30 (by decide) ?_
    exact x_iret rfl rfl ⟨(Nat.le_of_ble_eq_true rfl), (Nat.le_of_ble_eq_true rfl)⟩ dX2_dayOf_34
