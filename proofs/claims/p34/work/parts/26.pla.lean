abbrev kk_Pla_nextSign : Kx := (yX6_nextSign.cls, cX6_nextSign, 2, (some .char), [], false)
set_option maxHeartbeats 4000000 in
set_option maxRecDepth 100000 in
theorem c_Pla_nextSign (ω : Wd) (m : Mm) : Ev ω true 2 0 0 yX6_nextSign cX6_nextSign 2 (some .char) [.ref (zad ω 164)] m fI (f_Pla_nextSign m) := by
  refine Ev.of (b := false) (ls := [some (.ref (zad ω 164)), none]) (plainFor_of_name (by decide +kernel)) (fun h => by cases h) rfl (Nat.le_of_ble_eq_true rfl) rfl ?_
  change Sx ω ω true 2 0 0 kk_Pla_nextSign fI 0 0 m 0 _ _ _
  unfold f_Pla_nextSign
  refine x_aload_n dX6_nextSign_0 rfl ?_
  refine y_getR fl_RX6_34 hz_164 (by decide) dX6_nextSign_1 (fun q1 hq1 => ?_)
  refine x_aload_n dX6_nextSign_4 rfl ?_
  refine y_getI fl_RX6_53 hz_164 dX6_nextSign_5 ?_
  refine y_callVP (rest := []) (c1 := 0) (s1 := 0) (c_Txt_at ω q1 hq1 (zI m 164 5) m) mv_RX6_95 hq1 rfl (Nat.le_of_ble_eq_true rfl) (Nat.le_of_ble_eq_true rfl) (Nat.le_of_ble_eq_true rfl) ⟨rfl, rfl⟩ ⟨(Nat.le_of_ble_eq_true rfl), (Nat.le_of_ble_eq_true rfl)⟩ dX6_nextSign_8 (fun v2 => ?_)
  refine x_istore_n (ls' := [some (.ref (zad ω 164)), some (.int v2)]) dX6_nextSign_11 (Nat.le_of_ble_eq_true rfl) rfl ?_
  refine x_aload_n dX6_nextSign_12 rfl ?_
  refine x_dup dX6_nextSign_13 rfl ?_
  refine y_getI fl_RX6_53 hz_164 dX6_nextSign_14 ?_
  refine x_iconst (v := 1) dX6_nextSign_17 (by decide) ?_
  refine x_iadd dX6_nextSign_18 ?_
  refine y_putI fp_RX6_53 hz_164 dX6_nextSign_19 ?_
  refine y_letM (fun m3 => ?_)
  refine x_iload_n dX6_nextSign_22 rfl ?_
  refine x_guard (fun hv => ?_)
  exact x_zret rfl rfl (zCh_nar hv) ⟨(Nat.le_of_ble_eq_true rfl), (Nat.le_of_ble_eq_true rfl)⟩ dX6_nextSign_23
abbrev kk_Pla_nextNumber : Kx := (yX6_nextNumber.cls, cX6_nextNumber, 5, (some .int), [], false)
set_option maxHeartbeats 4000000 in
set_option maxRecDepth 100000 in
theorem c_Pla_nextNumber (ω : Wd) (p1 : Int32) (m : Mm) : Ev ω true 2 0 0 yX6_nextNumber cX6_nextNumber 5 (some .int) [.ref (zad ω 164), .int p1] m fI (f_Pla_nextNumber p1 m) := by
  refine Ev.of (b := false) (ls := [some (.ref (zad ω 164)), some (.int p1), none, none, none]) (plainFor_of_name (by decide +kernel)) (fun h => by cases h) rfl (Nat.le_of_ble_eq_true rfl) rfl ?_
  change Sx ω ω true 2 0 0 kk_Pla_nextNumber fI 0 0 m 0 _ _ _
  unfold f_Pla_nextNumber
  refine x_iconst (v := 0) dX6_nextNumber_0 (by decide) ?_
  refine x_istore_n (ls' := [some (.ref (zad ω 164)), some (.int p1), some (.int 0), none, none]) dX6_nextNumber_1 (Nat.le_of_ble_eq_true rfl) rfl ?_
  refine x_iconst (v := 0) dX6_nextNumber_2 (by decide) ?_
  refine x_istore_n (ls' := [some (.ref (zad ω 164)), some (.int p1), some (.int 0), some (.int 0), none]) dX6_nextNumber_3 (Nat.le_of_ble_eq_true rfl) rfl ?_
  refine y_Lp2 (fun x1 x2 => [some (.ref (zad ω 164)), some (.int p1), some (.int x1), some (.int x2), none]) (fun r3 hr3 x1 x2 m4 => ?_) zFu _ _ _
  refine x_iload_n dX6_nextNumber_4 rfl ?_
  refine x_iload_n dX6_nextNumber_5 rfl ?_
  refine x_icmp_ge (tgt := 66) dX6_nextNumber_6 (by decide) (fun hc5 => ?_) (fun hc5 => ?_)
  · refine x_iload_n dX6_nextNumber_66 rfl ?_
    exact x_iret rfl rfl ⟨(Nat.le_of_ble_eq_true rfl), (Nat.le_of_ble_eq_true rfl)⟩ dX6_nextNumber_67
  · refine x_aload_n dX6_nextNumber_9 rfl ?_
    refine y_getR fl_RX6_34 hz_164 (by decide) dX6_nextNumber_10 (fun q6 hq6 => ?_)
    refine x_aload_n dX6_nextNumber_13 rfl ?_
    refine y_getI fl_RX6_53 hz_164 dX6_nextNumber_14 ?_
    refine y_callVP (rest := []) (c1 := 0) (s1 := 0) (c_Txt_at ω q6 hq6 (zI m4 164 5) m4) mv_RX6_95 hq6 rfl (Nat.le_of_ble_eq_true rfl) (Nat.le_of_ble_eq_true rfl) (Nat.le_of_ble_eq_true rfl) ⟨rfl, rfl⟩ ⟨(Nat.le_of_ble_eq_true rfl), (Nat.le_of_ble_eq_true rfl)⟩ dX6_nextNumber_17 (fun v7 => ?_)
    refine x_istore (ls' := [some (.ref (zad ω 164)), some (.int p1), some (.int x1), some (.int x2), some (.int v7)]) dX6_nextNumber_20 (Nat.le_of_ble_eq_true rfl) rfl ?_
    refine x_iload dX6_nextNumber_22 rfl ?_
    refine x_bipush (v := 48) dX6_nextNumber_24 (by decide) ?_
    refine x_icmp_lt (tgt := 66) dX6_nextNumber_26 (by decide) (fun hc8 => ?_) (fun hc8 => ?_)
    · refine x_iload_n dX6_nextNumber_66 rfl ?_
      exact x_iret rfl rfl ⟨(Nat.le_of_ble_eq_true rfl), (Nat.le_of_ble_eq_true rfl)⟩ dX6_nextNumber_67
    · refine x_iload dX6_nextNumber_29 rfl ?_
      refine x_bipush (v := 57) dX6_nextNumber_31 (by decide) ?_
      refine x_icmp_le (tgt := 39) dX6_nextNumber_33 (by decide) (fun hc9 => ?_) (fun hc9 => ?_)
      · refine x_bipush (v := 10) dX6_nextNumber_39 (by decide) ?_
        refine x_iload_n dX6_nextNumber_41 rfl ?_
        refine x_imul dX6_nextNumber_42 ?_
        refine x_iload dX6_nextNumber_43 rfl ?_
        refine x_iadd dX6_nextNumber_45 ?_
        refine x_bipush (v := 48) dX6_nextNumber_46 (by decide) ?_
        refine x_isub dX6_nextNumber_48 ?_
        refine y_letI (fun x10 => ?_)
        refine x_istore_n (ls' := [some (.ref (zad ω 164)), some (.int p1), some (.int x10), some (.int x2), some (.int v7)]) dX6_nextNumber_49 (Nat.le_of_ble_eq_true rfl) rfl ?_
        refine x_aload_n dX6_nextNumber_50 rfl ?_
        refine x_dup dX6_nextNumber_51 rfl ?_
        refine y_getI fl_RX6_53 hz_164 dX6_nextNumber_52 ?_
        refine x_iconst (v := 1) dX6_nextNumber_55 (by decide) ?_
        refine x_iadd dX6_nextNumber_56 ?_
        refine y_putI fp_RX6_53 hz_164 dX6_nextNumber_57 ?_
        refine y_letM (fun m11 => ?_)
        refine y_iinc (w := 1) dX6_nextNumber_60 rfl (by decide) (Nat.le_of_ble_eq_true rfl) (fun x12 => ?_)
        refine x_goto (tgt := 4) dX6_nextNumber_63 (by decide) ?_
        refine y_mask (bs := [true, true, true, true, false]) (ls' := [some (.ref (zad ω 164)), some (.int p1), some (.int x10), some (.int x12), none]) rfl ?_
        exact hr3 _ _ _
      · refine x_goto (tgt := 66) dX6_nextNumber_36 (by decide) ?_
        refine x_iload_n dX6_nextNumber_66 rfl ?_
        exact x_iret rfl rfl ⟨(Nat.le_of_ble_eq_true rfl), (Nat.le_of_ble_eq_true rfl)⟩ dX6_nextNumber_67
abbrev kk_Pla_bentDay : Kx := (yX6_bentDay.cls, cX6_bentDay, 2, (some .int), [], false)
set_option maxHeartbeats 4000000 in
set_option maxRecDepth 100000 in
theorem c_Pla_bentDay (ω : Wd) (p1 : Int32) (m : Mm) : Ev ω true 1 0 0 yX6_bentDay cX6_bentDay 2 (some .int) [.ref (zad ω 164), .int p1] m (fP m) (f_Pla_bentDay p1 m) := by
  refine Ev.of (b := false) (ls := [some (.ref (zad ω 164)), some (.int p1)]) (plainFor_of_name (by decide +kernel)) (fun h => by cases h) rfl (Nat.le_of_ble_eq_true rfl) rfl ?_
  change Sx ω ω true 1 0 0 kk_Pla_bentDay (fP m) 0 0 m 0 _ _ _
  unfold f_Pla_bentDay
  refine x_iload_n dX6_bentDay_0 rfl ?_
  refine y_join (fun j2 => Sx ω ω true 1 0 0 kk_Pla_bentDay (fP m) 0 0 m 22 [none, none] [] j2) ?_ (fun j2 hj2 => ?_)
  · refine x_iconst (v := (-1)) dX6_bentDay_22 (by decide) ?_
    exact x_iret rfl rfl ⟨(Nat.le_of_ble_eq_true rfl), (Nat.le_of_ble_eq_true rfl)⟩ dX6_bentDay_23
  · refine x_if_lt (tgt := 22) dX6_bentDay_1 (by decide) (fun hc1 => ?_) (fun hc1 => ?_)
    · refine y_mask (bs := [false, false]) (ls' := [none, none]) rfl ?_
      exact hj2
    · refine x_iload_n dX6_bentDay_4 rfl ?_
      refine x_aload_n dX6_bentDay_5 rfl ?_
      refine y_getF fl_RX6_22 hz_164 hq_164_2 (by rw [hz_166]; decide) dX6_bentDay_6 ?_
      refine y_alen (t0 := 0) (v := 20) (by decide) hz_166 hn_166 (by decide) dX6_bentDay_9 ?_
      refine x_icmp_ge (tgt := 22) dX6_bentDay_10 (by decide) (fun hc3 => ?_) (fun hc3 => ?_)
      · refine y_mask (bs := [false, false]) (ls' := [none, none]) rfl ?_
        exact hj2
      · refine x_aload_n dX6_bentDay_13 rfl ?_
        refine y_getF fl_RX6_22 hz_164 hq_164_2 (by rw [hz_166]; decide) dX6_bentDay_14 ?_
        refine x_iload_n dX6_bentDay_17 rfl ?_
        refine y_iald hz_166 hn_166 dX6_bentDay_18 (fun hi => ?_)
        refine x_goto (tgt := 23) dX6_bentDay_19 (by decide) ?_
        exact x_iret rfl rfl ⟨(Nat.le_of_ble_eq_true rfl), (Nat.le_of_ble_eq_true rfl)⟩ dX6_bentDay_23
abbrev kk_Pla_readStart : Kx := (yX6_readStart.cls, cX6_readStart, 4, none, [], false)
set_option maxHeartbeats 4000000 in
set_option maxRecDepth 100000 in
theorem c_Pla_readStart (ω : Wd) (m : Mm) : Ev ω true 4 0 0 yX6_readStart cX6_readStart 4 none [.ref (zad ω 164)] m fV (f_Pla_readStart m) := by
  refine Ev.of (b := false) (ls := [some (.ref (zad ω 164)), none, none, none]) (plainFor_of_name (by decide +kernel)) (fun h => by cases h) rfl (Nat.le_of_ble_eq_true rfl) rfl ?_
  change Sx ω ω true 4 0 0 kk_Pla_readStart fV 0 0 m 0 _ _ _
  unfold f_Pla_readStart
  refine x_aload_n dX6_readStart_0 rfl ?_
  refine y_callVI (rest := []) (c1 := 0) (s1 := 0) (c_Pla_nextSign ω m) mv_RX6_71 hz_164 rfl (Nat.le_of_ble_eq_true rfl) (Nat.le_of_ble_eq_true rfl) (Nat.le_of_ble_eq_true rfl) ⟨rfl, rfl⟩ ⟨(Nat.le_of_ble_eq_true rfl), (Nat.le_of_ble_eq_true rfl)⟩ dX6_readStart_1 (fun v2 m1 => ?_)
  refine x_cases (c := v2 = 68) (fun hc3 => ?_) (fun hc3 => ?_)
  · refine x_lookup (tgt := 40) dX6_readStart_4 (by decide) (by rw [hc3] <;> decide) (by decide) ?_
    refine x_aload_n dX6_readStart_40 rfl ?_
    refine y_getF fl_RX6_14 hz_164 hq_164_1 (by rw [hz_165]; decide) dX6_readStart_41 ?_
    refine x_aload_n dX6_readStart_44 rfl ?_
    refine x_iconst (v := 4) dX6_readStart_45 (by decide) ?_
    refine y_callVI (rest := [.ref (zad ω 165)]) (c1 := 0) (s1 := 0) (c_Pla_nextNumber ω 4 m1) mv_RX6_75 hz_164 rfl (Nat.le_of_ble_eq_true rfl) (Nat.le_of_ble_eq_true rfl) (Nat.le_of_ble_eq_true rfl) ⟨rfl, rfl⟩ ⟨(Nat.le_of_ble_eq_true rfl), (Nat.le_of_ble_eq_true rfl)⟩ dX6_readStart_46 (fun v5 m4 => ?_)
    refine y_callVV (rest := []) (c1 := 0) (s1 := 0) (c_Wal_toDate ω 165 hz_165 v5 m4) mv_RX6_78 hz_165 rfl (Nat.le_of_ble_eq_true rfl) (Nat.le_of_ble_eq_true rfl) (Nat.le_of_ble_eq_true rfl) ⟨rfl, rfl⟩ ⟨(Nat.le_of_ble_eq_true rfl), (Nat.le_of_ble_eq_true rfl)⟩ dX6_readStart_49 (fun m6 => ?_)
    refine x_goto (tgt := 122) dX6_readStart_52 (by decide) ?_
    exact x_vret rfl rfl ⟨(Nat.le_of_ble_eq_true rfl), (Nat.le_of_ble_eq_true rfl)⟩ dX6_readStart_122
  · refine x_cases (c := v2 = 76) (fun hc7 => ?_) (fun hc7 => ?_)
    · refine x_lookup (tgt := 84) dX6_readStart_4 (by decide) (by rw [hc7] <;> decide) (by decide) ?_
      refine x_aload_n dX6_readStart_84 rfl ?_
      refine x_iconst (v := 1) dX6_readStart_85 (by decide) ?_
      refine y_callVI (rest := []) (c1 := 0) (s1 := 0) (c_Pla_nextNumber ω 1 m1) mv_RX6_75 hz_164 rfl (Nat.le_of_ble_eq_true rfl) (Nat.le_of_ble_eq_true rfl) (Nat.le_of_ble_eq_true rfl) ⟨rfl, rfl⟩ ⟨(Nat.le_of_ble_eq_true rfl), (Nat.le_of_ble_eq_true rfl)⟩ dX6_readStart_86 (fun v9 m8 => ?_)
      refine x_istore_n (ls' := [some (.ref (zad ω 164)), none, none, some (.int v9)]) dX6_readStart_89 (Nat.le_of_ble_eq_true rfl) rfl ?_
      refine x_aload_n dX6_readStart_90 rfl ?_
      refine y_getF fl_RX6_14 hz_164 hq_164_1 (by rw [hz_165]; decide) dX6_readStart_91 ?_
      refine x_iload_n dX6_readStart_94 rfl ?_
      refine x_aload_n dX6_readStart_95 rfl ?_
      refine x_iconst (v := 2) dX6_readStart_96 (by decide) ?_
      refine y_callVI (rest := [.int v9, .ref (zad ω 165)]) (c1 := 0) (s1 := 0) (c_Pla_nextNumber ω 2 m8) mv_RX6_75 hz_164 rfl (Nat.le_of_ble_eq_true rfl) (Nat.le_of_ble_eq_true rfl) (Nat.le_of_ble_eq_true rfl) ⟨rfl, rfl⟩ ⟨(Nat.le_of_ble_eq_true rfl), (Nat.le_of_ble_eq_true rfl)⟩ dX6_readStart_97 (fun v11 m10 => ?_)
      refine y_callVV (rest := []) (c1 := 0) (s1 := 0) (c_Wal_toLastWeekday ω 165 hz_165 v9 v11 m10) mv_RX6_86 hz_165 rfl (Nat.le_of_ble_eq_true rfl) (Nat.le_of_ble_eq_true rfl) (Nat.le_of_ble_eq_true rfl) ⟨rfl, rfl⟩ ⟨(Nat.le_of_ble_eq_true rfl), (Nat.le_of_ble_eq_true rfl)⟩ dX6_readStart_100 (fun m12 => ?_)
      refine x_goto (tgt := 122) dX6_readStart_103 (by decide) ?_
      exact x_vret rfl rfl ⟨(Nat.le_of_ble_eq_true rfl), (Nat.le_of_ble_eq_true rfl)⟩ dX6_readStart_122
    · refine x_cases (c := v2 = 78) (fun hc13 => ?_) (fun hc13 => ?_)
      · refine x_lookup (tgt := 55) dX6_readStart_4 (by decide) (by rw [hc13] <;> decide) (by decide) ?_
        refine x_aload_n dX6_readStart_55 rfl ?_
        refine x_iconst (v := 1) dX6_readStart_56 (by decide) ?_
        refine y_callVI (rest := []) (c1 := 0) (s1 := 0) (c_Pla_nextNumber ω 1 m1) mv_RX6_75 hz_164 rfl (Nat.le_of_ble_eq_true rfl) (Nat.le_of_ble_eq_true rfl) (Nat.le_of_ble_eq_true rfl) ⟨rfl, rfl⟩ ⟨(Nat.le_of_ble_eq_true rfl), (Nat.le_of_ble_eq_true rfl)⟩ dX6_readStart_57 (fun v15 m14 => ?_)
        refine x_istore_n (ls' := [some (.ref (zad ω 164)), some (.int v15), none, none]) dX6_readStart_60 (Nat.le_of_ble_eq_true rfl) rfl ?_
        refine x_aload_n dX6_readStart_61 rfl ?_
        refine x_iconst (v := 1) dX6_readStart_62 (by decide) ?_
        refine y_callVI (rest := []) (c1 := 0) (s1 := 0) (c_Pla_nextNumber ω 1 m14) mv_RX6_75 hz_164 rfl (Nat.le_of_ble_eq_true rfl) (Nat.le_of_ble_eq_true rfl) (Nat.le_of_ble_eq_true rfl) ⟨rfl, rfl⟩ ⟨(Nat.le_of_ble_eq_true rfl), (Nat.le_of_ble_eq_true rfl)⟩ dX6_readStart_63 (fun v17 m16 => ?_)
        refine x_istore_n (ls' := [some (.ref (zad ω 164)), some (.int v15), some (.int v17), none]) dX6_readStart_66 (Nat.le_of_ble_eq_true rfl) rfl ?_
        refine x_aload_n dX6_readStart_67 rfl ?_
        refine y_getF fl_RX6_14 hz_164 hq_164_1 (by rw [hz_165]; decide) dX6_readStart_68 ?_
        refine x_iload_n dX6_readStart_71 rfl ?_
        refine x_iload_n dX6_readStart_72 rfl ?_
        refine x_aload_n dX6_readStart_73 rfl ?_
        refine x_iconst (v := 2) dX6_readStart_74 (by decide) ?_
        refine y_callVI (rest := [.int v17, .int v15, .ref (zad ω 165)]) (c1 := 0) (s1 := 0) (c_Pla_nextNumber ω 2 m16) mv_RX6_75 hz_164 rfl (Nat.le_of_ble_eq_true rfl) (Nat.le_of_ble_eq_true rfl) (Nat.le_of_ble_eq_true rfl) ⟨rfl, rfl⟩ ⟨(Nat.le_of_ble_eq_true rfl), (Nat.le_of_ble_eq_true rfl)⟩ dX6_readStart_75 (fun v19 m18 => ?_)
        refine y_callVV (rest := []) (c1 := 0) (s1 := 0) (c_Wal_toNthWeekday ω 165 hz_165 v15 v17 v19 m18) mv_RX6_82 hz_165 rfl (Nat.le_of_ble_eq_true rfl) (Nat.le_of_ble_eq_true rfl) (Nat.le_of_ble_eq_true rfl) ⟨rfl, rfl⟩ ⟨(Nat.le_of_ble_eq_true rfl), (Nat.le_of_ble_eq_true rfl)⟩ dX6_readStart_78 (fun m20 => ?_)
        refine x_goto (tgt := 122) dX6_readStart_81 (by decide) ?_
        exact x_vret rfl rfl ⟨(Nat.le_of_ble_eq_true rfl), (Nat.le_of_ble_eq_true rfl)⟩ dX6_readStart_122
      · refine x_lookup (tgt := 106) dX6_readStart_4 (by decide) (zsw_n [68, 76, 78] (by decide +kernel) (zfc hc3 (zfc hc7 (zfc hc13 zfn)))) (by decide) ?_
        refine x_aload_n dX6_readStart_106 rfl ?_
        refine y_getF fl_RX6_14 hz_164 hq_164_1 (by rw [hz_165]; decide) dX6_readStart_107 ?_
        refine x_aload_n dX6_readStart_110 rfl ?_
        refine x_aload_n dX6_readStart_111 rfl ?_
        refine x_iconst (v := 2) dX6_readStart_112 (by decide) ?_
        refine y_callVI (rest := [.ref (zad ω 164), .ref (zad ω 165)]) (c1 := 0) (s1 := 0) (c_Pla_nextNumber ω 2 m1) mv_RX6_75 hz_164 rfl (Nat.le_of_ble_eq_true rfl) (Nat.le_of_ble_eq_true rfl) (Nat.le_of_ble_eq_true rfl) ⟨rfl, rfl⟩ ⟨(Nat.le_of_ble_eq_true rfl), (Nat.le_of_ble_eq_true rfl)⟩ dX6_readStart_113 (fun v22 m21 => ?_)
        refine y_callVP (rest := [.ref (zad ω 165)]) (c1 := 0) (s1 := 0) (c_Pla_bentDay ω v22 m21) mv_RX6_89 hz_164 rfl (Nat.le_of_ble_eq_true rfl) (Nat.le_of_ble_eq_true rfl) (Nat.le_of_ble_eq_true rfl) ⟨rfl, rfl⟩ ⟨(Nat.le_of_ble_eq_true rfl), (Nat.le_of_ble_eq_true rfl)⟩ dX6_readStart_116 (fun v23 => ?_)
        refine y_callVV (rest := []) (c1 := 0) (s1 := 0) (c_Wal_toDay ω 165 hz_165 v23 m21) mv_RX6_92 hz_165 rfl (Nat.le_of_ble_eq_true rfl) (Nat.le_of_ble_eq_true rfl) (Nat.le_of_ble_eq_true rfl) ⟨rfl, rfl⟩ ⟨(Nat.le_of_ble_eq_true rfl), (Nat.le_of_ble_eq_true rfl)⟩ dX6_readStart_119 (fun m24 => ?_)
        exact x_vret rfl rfl ⟨(Nat.le_of_ble_eq_true rfl), (Nat.le_of_ble_eq_true rfl)⟩ dX6_readStart_122
abbrev kk_Pla_readDays : Kx := (yX6_readDays.cls, cX6_readDays, 6, none, [], false)
set_option maxHeartbeats 4000000 in
set_option maxRecDepth 100000 in
theorem c_Pla_readDays (ω : Wd) (p1 : Int32) (m : Mm) : Ev ω true 3 0 0 yX6_readDays cX6_readDays 6 none [.ref (zad ω 164), .int p1] m fV (f_Pla_readDays p1 m) := by
  refine Ev.of (b := false) (ls := [some (.ref (zad ω 164)), some (.int p1), none, none, none, none]) (plainFor_of_name (by decide +kernel)) (fun h => by cases h) rfl (Nat.le_of_ble_eq_true rfl) rfl ?_
  change Sx ω ω true 3 0 0 kk_Pla_readDays fV 0 0 m 0 _ _ _
  unfold f_Pla_readDays
  refine x_iconst (v := 0) dX6_readDays_0 (by decide) ?_
  refine x_istore_n (ls' := [some (.ref (zad ω 164)), some (.int p1), some (.int 0), none, none, none]) dX6_readDays_1 (Nat.le_of_ble_eq_true rfl) rfl ?_
  refine x_iconst (v := 0) dX6_readDays_2 (by decide) ?_
  refine x_istore_n (ls' := [some (.ref (zad ω 164)), some (.int p1), some (.int 0), some (.int 0), none, none]) dX6_readDays_3 (Nat.le_of_ble_eq_true rfl) rfl ?_
  refine y_Lp2 (fun x1 x2 => [some (.ref (zad ω 164)), some (.int p1), some (.int x1), some (.int x2), none, none]) (fun r3 hr3 x1 x2 m4 => ?_) zFu _ _ _
  refine x_iload_n dX6_readDays_4 rfl ?_
  refine x_bipush (v := 40) dX6_readDays_5 (by decide) ?_
  refine y_join (fun j6 => Sx ω ω true 3 0 0 kk_Pla_readDays fV 0 0 m4 87 [some (.ref (zad ω 164)), some (.int p1), some (.int x1), none, none, none] [] j6) ?_ (fun j6 hj6 => ?_)
  · refine x_iload_n dX6_readDays_87 rfl ?_
    refine x_if_eq (tgt := 99) dX6_readDays_88 (by decide) (fun hc7 => ?_) (fun hc7 => ?_)
    · exact x_vret rfl rfl ⟨(Nat.le_of_ble_eq_true rfl), (Nat.le_of_ble_eq_true rfl)⟩ dX6_readDays_99
    · refine x_aload_n dX6_readDays_91 rfl ?_
      refine y_getF fl_RX6_14 hz_164 hq_164_1 (by rw [hz_165]; decide) dX6_readDays_92 ?_
      refine x_iload_n dX6_readDays_95 rfl ?_
      refine y_callVV (rest := []) (c1 := 0) (s1 := 0) (c_Wal_toLater ω 165 hz_165 x1 m4) mv_RX6_114 hz_165 rfl (Nat.le_of_ble_eq_true rfl) (Nat.le_of_ble_eq_true rfl) (Nat.le_of_ble_eq_true rfl) ⟨rfl, rfl⟩ ⟨(Nat.le_of_ble_eq_true rfl), (Nat.le_of_ble_eq_true rfl)⟩ dX6_readDays_96 (fun m8 => ?_)
      exact x_vret rfl rfl ⟨(Nat.le_of_ble_eq_true rfl), (Nat.le_of_ble_eq_true rfl)⟩ dX6_readDays_99
  · refine x_icmp_ge (tgt := 87) dX6_readDays_7 (by decide) (fun hc5 => ?_) (fun hc5 => ?_)
    · refine y_mask (bs := [true, true, true, false, false, false]) (ls' := [some (.ref (zad ω 164)), some (.int p1), some (.int x1), none, none, none]) rfl ?_
      exact hj6
    · refine x_aload_n dX6_readDays_10 rfl ?_
      refine y_getR fl_RX6_34 hz_164 (by decide) dX6_readDays_11 (fun q9 hq9 => ?_)
      refine x_aload_n dX6_readDays_14 rfl ?_
      refine y_getI fl_RX6_53 hz_164 dX6_readDays_15 ?_
      refine y_callVP (rest := []) (c1 := 0) (s1 := 0) (c_Txt_at ω q9 hq9 (zI m4 164 5) m4) mv_RX6_95 hq9 rfl (Nat.le_of_ble_eq_true rfl) (Nat.le_of_ble_eq_true rfl) (Nat.le_of_ble_eq_true rfl) ⟨rfl, rfl⟩ ⟨(Nat.le_of_ble_eq_true rfl), (Nat.le_of_ble_eq_true rfl)⟩ dX6_readDays_18 (fun v10 => ?_)
      refine x_bipush (v := 43) dX6_readDays_21 (by decide) ?_
      refine y_join (fun j12 => Sx ω ω true 3 0 0 kk_Pla_readDays fV 0 0 m4 42 [some (.ref (zad ω 164)), some (.int p1), some (.int x1), some (.int x2), none, none] [] j12) ?_ (fun j12 hj12 => ?_)
      · refine x_aload_n dX6_readDays_42 rfl ?_
        refine y_callVI (rest := []) (c1 := 0) (s1 := 0) (c_Pla_nextSign ω m4) mv_RX6_71 hz_164 rfl (Nat.le_of_ble_eq_true rfl) (Nat.le_of_ble_eq_true rfl) (Nat.le_of_ble_eq_true rfl) ⟨rfl, rfl⟩ ⟨(Nat.le_of_ble_eq_true rfl), (Nat.le_of_ble_eq_true rfl)⟩ dX6_readDays_43 (fun v14 m13 => ?_)
        refine x_bipush (v := 43) dX6_readDays_46 (by decide) ?_
        refine y_join (fun j17 => ∀ (x16 : Int32), Sx ω ω true 3 0 0 kk_Pla_readDays fV 0 0 m13 56 [some (.ref (zad ω 164)), some (.int p1), some (.int x1), some (.int x2), none, none] [.int x16] (j17 x16)) ?_ (fun j17 hj17 => ?_)
        · intro x16
          refine x_istore (ls' := [some (.ref (zad ω 164)), some (.int p1), some (.int x1), some (.int x2), some (.int x16), none]) dX6_readDays_56 (Nat.le_of_ble_eq_true rfl) rfl ?_
          refine x_aload_n dX6_readDays_58 rfl ?_
          refine x_iconst (v := 3) dX6_readDays_59 (by decide) ?_
          refine y_callVI (rest := []) (c1 := 0) (s1 := 0) (c_Pla_nextNumber ω 3 m13) mv_RX6_75 hz_164 rfl (Nat.le_of_ble_eq_true rfl) (Nat.le_of_ble_eq_true rfl) (Nat.le_of_ble_eq_true rfl) ⟨rfl, rfl⟩ ⟨(Nat.le_of_ble_eq_true rfl), (Nat.le_of_ble_eq_true rfl)⟩ dX6_readDays_60 (fun v19 m18 => ?_)
          refine x_istore (ls' := [some (.ref (zad ω 164)), some (.int p1), some (.int x1), some (.int x2), some (.int x16), some (.int v19)]) dX6_readDays_63 (Nat.le_of_ble_eq_true rfl) rfl ?_
          refine x_iload_n dX6_readDays_65 rfl ?_
          refine x_iload dX6_readDays_66 rfl ?_
          refine y_join (fun j22 => ∀ (x21 : Int32), Sx ω ω true 3 0 0 kk_Pla_readDays fV 0 0 m18 79 [some (.ref (zad ω 164)), some (.int p1), none, some (.int x2), none, none] [.int x21, .int x1] (j22 x21)) ?_ (fun j22 hj22 => ?_)
          · intro x21
            refine x_iadd dX6_readDays_79 ?_
            refine y_letI (fun x23 => ?_)
            refine x_istore_n (ls' := [some (.ref (zad ω 164)), some (.int p1), some (.int x23), some (.int x2), none, none]) dX6_readDays_80 (Nat.le_of_ble_eq_true rfl) rfl ?_
            refine y_iinc (w := 1) dX6_readDays_81 rfl (by decide) (Nat.le_of_ble_eq_true rfl) (fun x24 => ?_)
            refine x_goto (tgt := 4) dX6_readDays_84 (by decide) ?_
            exact hr3 _ _ _
          · refine x_if_eq (tgt := 76) dX6_readDays_68 (by decide) (fun hc20 => ?_) (fun hc20 => ?_)
            · refine x_iload dX6_readDays_76 rfl ?_
              refine x_ineg dX6_readDays_78 ?_
              refine y_mask (bs := [true, true, false, true, false, false]) (ls' := [some (.ref (zad ω 164)), some (.int p1), none, some (.int x2), none, none]) rfl ?_
              exact hj22 _
            · refine x_iload dX6_readDays_71 rfl ?_
              refine x_goto (tgt := 79) dX6_readDays_73 (by decide) ?_
              refine y_mask (bs := [true, true, false, true, false, false]) (ls' := [some (.ref (zad ω 164)), some (.int p1), none, some (.int x2), none, none]) rfl ?_
              exact hj22 _
        · refine x_icmp_ne (tgt := 55) dX6_readDays_48 (by decide) (fun hc15 => ?_) (fun hc15 => ?_)
          · refine x_iconst (v := 1) dX6_readDays_51 (by decide) ?_
            refine x_goto (tgt := 56) dX6_readDays_52 (by decide) ?_
            exact hj17 _
          · refine x_iconst (v := 0) dX6_readDays_55 (by decide) ?_
            exact hj17 _
      · refine x_icmp_eq (tgt := 42) dX6_readDays_23 (by decide) (fun hc11 => ?_) (fun hc11 => ?_)
        · exact hj12
        · refine x_aload_n dX6_readDays_26 rfl ?_
          refine y_getR fl_RX6_34 hz_164 (by decide) dX6_readDays_27 (fun q25 hq25 => ?_)
          refine x_aload_n dX6_readDays_30 rfl ?_
          refine y_getI fl_RX6_53 hz_164 dX6_readDays_31 ?_
          refine y_callVP (rest := []) (c1 := 0) (s1 := 0) (c_Txt_at ω q25 hq25 (zI m4 164 5) m4) mv_RX6_95 hq25 rfl (Nat.le_of_ble_eq_true rfl) (Nat.le_of_ble_eq_true rfl) (Nat.le_of_ble_eq_true rfl) ⟨rfl, rfl⟩ ⟨(Nat.le_of_ble_eq_true rfl), (Nat.le_of_ble_eq_true rfl)⟩ dX6_readDays_34 (fun v26 => ?_)
          refine x_bipush (v := 45) dX6_readDays_37 (by decide) ?_
          refine x_icmp_ne (tgt := 87) dX6_readDays_39 (by decide) (fun hc27 => ?_) (fun hc27 => ?_)
          · exact hj12
          · refine y_mask (bs := [true, true, true, false, false, false]) (ls' := [some (.ref (zad ω 164)), some (.int p1), some (.int x1), none, none, none]) rfl ?_
            exact hj6
abbrev kk_Pla_readMove : Kx := (yX6_readMove.cls, cX6_readMove, 5, none, [], false)
set_option maxHeartbeats 4000000 in
set_option maxRecDepth 100000 in
theorem c_Pla_readMove (ω : Wd) (p1 : Int32) (p2 : Int32) (m : Mm) : Ev ω true 4 0 0 yX6_readMove cX6_readMove 5 none [.ref (zad ω 164), .int p1, .int p2] m fV (f_Pla_readMove p1 p2 m) := by
  refine Ev.of (b := false) (ls := [some (.ref (zad ω 164)), some (.int p1), some (.int p2), none, none]) (plainFor_of_name (by decide +kernel)) (fun h => by cases h) rfl (Nat.le_of_ble_eq_true rfl) rfl ?_
  change Sx ω ω true 4 0 0 kk_Pla_readMove fV 0 0 m 0 _ _ _
  unfold f_Pla_readMove
  refine x_iload_n dX6_readMove_0 rfl ?_
  refine x_bipush (v := 62) dX6_readMove_1 (by decide) ?_
  refine y_join (fun j3 => ∀ (x2 : Int32), Sx ω ω true 4 0 0 kk_Pla_readMove fV 0 0 m 29 [some (.ref (zad ω 164)), some (.int p1), some (.int p2), none, none] [.int x2] (j3 x2)) ?_ (fun j3 hj3 => ?_)
  · intro x2
    refine x_istore_n (ls' := [some (.ref (zad ω 164)), some (.int p1), some (.int p2), some (.int x2), none]) dX6_readMove_29 (Nat.le_of_ble_eq_true rfl) rfl ?_
    refine x_iload_n dX6_readMove_30 rfl ?_
    refine y_join (fun j7 => ∀ (x5 : Int32) (m6 : Mm), Sx ω ω true 4 0 0 kk_Pla_readMove fV 0 0 m6 43 [some (.ref (zad ω 164)), some (.int p1), some (.int p2), none, none] [.int x5] (j7 x5 m6)) ?_ (fun j7 hj7 => ?_)
    · intro x5 m6
      refine x_istore (ls' := [some (.ref (zad ω 164)), some (.int p1), some (.int p2), none, some (.int x5)]) dX6_readMove_43 (Nat.le_of_ble_eq_true rfl) rfl ?_
      refine x_iload_n dX6_readMove_45 rfl ?_
      refine x_if_ne (tgt := 50) dX6_readMove_46 (by decide) (fun hc8 => ?_) (fun hc8 => ?_)
      · exact x_vret rfl rfl ⟨(Nat.le_of_ble_eq_true rfl), (Nat.le_of_ble_eq_true rfl)⟩ dX6_readMove_49
      · refine x_iload_n dX6_readMove_50 rfl ?_
        refine x_cases (c := p1 = 60) (fun hc9 => ?_) (fun hc9 => ?_)
        · refine x_lookup (tgt := 120) dX6_readMove_51 (by decide) (by rw [hc9] <;> decide) (by decide) ?_
          refine x_aload_n dX6_readMove_120 rfl ?_
          refine y_getF fl_RX6_14 hz_164 hq_164_1 (by rw [hz_165]; decide) dX6_readMove_121 ?_
          refine x_iload dX6_readMove_124 rfl ?_
          refine y_callVV (rest := []) (c1 := 0) (s1 := 0) (c_Wal_toWeekdayAhead ω 165 hz_165 x5 m6) mv_RX6_120 hz_165 rfl (Nat.le_of_ble_eq_true rfl) (Nat.le_of_ble_eq_true rfl) (Nat.le_of_ble_eq_true rfl) ⟨rfl, rfl⟩ ⟨(Nat.le_of_ble_eq_true rfl), (Nat.le_of_ble_eq_true rfl)⟩ dX6_readMove_126 (fun m10 => ?_)
          refine x_goto (tgt := 186) dX6_readMove_129 (by decide) ?_
          exact x_vret rfl rfl ⟨(Nat.le_of_ble_eq_true rfl), (Nat.le_of_ble_eq_true rfl)⟩ dX6_readMove_186
        · refine x_cases (c := p1 = 62) (fun hc11 => ?_) (fun hc11 => ?_)
          · refine x_lookup (tgt := 108) dX6_readMove_51 (by decide) (by rw [hc11] <;> decide) (by decide) ?_
            refine x_aload_n dX6_readMove_108 rfl ?_
            refine y_getF fl_RX6_14 hz_164 hq_164_1 (by rw [hz_165]; decide) dX6_readMove_109 ?_
            refine x_iload dX6_readMove_112 rfl ?_
            refine y_callVV (rest := []) (c1 := 0) (s1 := 0) (c_Wal_toWeekdayBehind ω 165 hz_165 x5 m6) mv_RX6_117 hz_165 rfl (Nat.le_of_ble_eq_true rfl) (Nat.le_of_ble_eq_true rfl) (Nat.le_of_ble_eq_true rfl) ⟨rfl, rfl⟩ ⟨(Nat.le_of_ble_eq_true rfl), (Nat.le_of_ble_eq_true rfl)⟩ dX6_readMove_114 (fun m12 => ?_)
            refine x_goto (tgt := 186) dX6_readMove_117 (by decide) ?_
            exact x_vret rfl rfl ⟨(Nat.le_of_ble_eq_true rfl), (Nat.le_of_ble_eq_true rfl)⟩ dX6_readMove_186
          · refine x_cases (c := p1 = 79) (fun hc13 => ?_) (fun hc13 => ?_)
            · refine x_lookup (tgt := 156) dX6_readMove_51 (by decide) (by rw [hc13] <;> decide) (by decide) ?_
              refine x_aload_n dX6_readMove_156 rfl ?_
              refine y_getF fl_RX6_14 hz_164 hq_164_1 (by rw [hz_165]; decide) dX6_readMove_157 ?_
              refine x_bipush (v := 14) dX6_readMove_160 (by decide) ?_
              refine y_callVV (rest := []) (c1 := 0) (s1 := 0) (c_Wal_toMoonOfAge ω 165 hz_165 14 m6) mv_RX6_131 hz_165 rfl (Nat.le_of_ble_eq_true rfl) (Nat.le_of_ble_eq_true rfl) (Nat.le_of_ble_eq_true rfl) ⟨rfl, rfl⟩ ⟨(Nat.le_of_ble_eq_true rfl), (Nat.le_of_ble_eq_true rfl)⟩ dX6_readMove_162 (fun m14 => ?_)
              refine x_goto (tgt := 186) dX6_readMove_165 (by decide) ?_
              exact x_vret rfl rfl ⟨(Nat.le_of_ble_eq_true rfl), (Nat.le_of_ble_eq_true rfl)⟩ dX6_readMove_186
            · refine x_cases (c := p1 = 81) (fun hc15 => ?_) (fun hc15 => ?_)
              · refine x_lookup (tgt := 168) dX6_readMove_51 (by decide) (by rw [hc15] <;> decide) (by decide) ?_
                refine x_aload_n dX6_readMove_168 rfl ?_
                refine y_getF fl_RX6_14 hz_164 hq_164_1 (by rw [hz_165]; decide) dX6_readMove_169 ?_
                refine x_iconst (v := 0) dX6_readMove_172 (by decide) ?_
                refine y_callVV (rest := []) (c1 := 0) (s1 := 0) (c_Wal_toMoonOfAge ω 165 hz_165 0 m6) mv_RX6_131 hz_165 rfl (Nat.le_of_ble_eq_true rfl) (Nat.le_of_ble_eq_true rfl) (Nat.le_of_ble_eq_true rfl) ⟨rfl, rfl⟩ ⟨(Nat.le_of_ble_eq_true rfl), (Nat.le_of_ble_eq_true rfl)⟩ dX6_readMove_173 (fun m16 => ?_)
                refine x_goto (tgt := 186) dX6_readMove_176 (by decide) ?_
                exact x_vret rfl rfl ⟨(Nat.le_of_ble_eq_true rfl), (Nat.le_of_ble_eq_true rfl)⟩ dX6_readMove_186
              · refine x_cases (c := p1 = 91) (fun hc17 => ?_) (fun hc17 => ?_)
                · refine x_lookup (tgt := 144) dX6_readMove_51 (by decide) (by rw [hc17] <;> decide) (by decide) ?_
                  refine x_aload_n dX6_readMove_144 rfl ?_
                  refine y_getF fl_RX6_14 hz_164 hq_164_1 (by rw [hz_165]; decide) dX6_readMove_145 ?_
                  refine x_iload dX6_readMove_148 rfl ?_
                  refine y_callVV (rest := []) (c1 := 0) (s1 := 0) (c_Wal_toWeekdayNotBehind ω 165 hz_165 x5 m6) mv_RX6_126 hz_165 rfl (Nat.le_of_ble_eq_true rfl) (Nat.le_of_ble_eq_true rfl) (Nat.le_of_ble_eq_true rfl) ⟨rfl, rfl⟩ ⟨(Nat.le_of_ble_eq_true rfl), (Nat.le_of_ble_eq_true rfl)⟩ dX6_readMove_150 (fun m18 => ?_)
                  refine x_goto (tgt := 186) dX6_readMove_153 (by decide) ?_
                  exact x_vret rfl rfl ⟨(Nat.le_of_ble_eq_true rfl), (Nat.le_of_ble_eq_true rfl)⟩ dX6_readMove_186
                · refine x_cases (c := p1 = 93) (fun hc19 => ?_) (fun hc19 => ?_)
                  · refine x_lookup (tgt := 132) dX6_readMove_51 (by decide) (by rw [hc19] <;> decide) (by decide) ?_
                    refine x_aload_n dX6_readMove_132 rfl ?_
                    refine y_getF fl_RX6_14 hz_164 hq_164_1 (by rw [hz_165]; decide) dX6_readMove_133 ?_
                    refine x_iload dX6_readMove_136 rfl ?_
                    refine y_callVV (rest := []) (c1 := 0) (s1 := 0) (c_Wal_toWeekdayNotAhead ω 165 hz_165 x5 m6) mv_RX6_123 hz_165 rfl (Nat.le_of_ble_eq_true rfl) (Nat.le_of_ble_eq_true rfl) (Nat.le_of_ble_eq_true rfl) ⟨rfl, rfl⟩ ⟨(Nat.le_of_ble_eq_true rfl), (Nat.le_of_ble_eq_true rfl)⟩ dX6_readMove_138 (fun m20 => ?_)
                    refine x_goto (tgt := 186) dX6_readMove_141 (by decide) ?_
                    exact x_vret rfl rfl ⟨(Nat.le_of_ble_eq_true rfl), (Nat.le_of_ble_eq_true rfl)⟩ dX6_readMove_186
                  · refine x_lookup (tgt := 179) dX6_readMove_51 (by decide) (zsw_n [60, 62, 79, 81, 91, 93] (by decide +kernel) (zfc hc9 (zfc hc11 (zfc hc13 (zfc hc15 (zfc hc17 (zfc hc19 zfn))))))) (by decide) ?_
                    refine x_aload_n dX6_readMove_179 rfl ?_
                    refine y_getF fl_RX6_14 hz_164 hq_164_1 (by rw [hz_165]; decide) dX6_readMove_180 ?_
                    refine y_callVV (rest := []) (c1 := 0) (s1 := 0) (c_Wal_toNone ω 165 hz_165 m6) mv_RX6_134 hz_165 rfl (Nat.le_of_ble_eq_true rfl) (Nat.le_of_ble_eq_true rfl) (Nat.le_of_ble_eq_true rfl) ⟨rfl, rfl⟩ ⟨(Nat.le_of_ble_eq_true rfl), (Nat.le_of_ble_eq_true rfl)⟩ dX6_readMove_183 (fun m21 => ?_)
                    exact x_vret rfl rfl ⟨(Nat.le_of_ble_eq_true rfl), (Nat.le_of_ble_eq_true rfl)⟩ dX6_readMove_186
    · refine x_if_eq (tgt := 42) dX6_readMove_31 (by decide) (fun hc4 => ?_) (fun hc4 => ?_)
      · refine x_iconst (v := (-1)) dX6_readMove_42 (by decide) ?_
        refine y_mask (bs := [true, true, true, false, false]) (ls' := [some (.ref (zad ω 164)), some (.int p1), some (.int p2), none, none]) rfl ?_
        exact hj7 _ _
      · refine x_aload_n dX6_readMove_34 rfl ?_
        refine x_iconst (v := 1) dX6_readMove_35 (by decide) ?_
        refine y_callVI (rest := []) (c1 := 0) (s1 := 0) (c_Pla_nextNumber ω 1 m) mv_RX6_75 hz_164 rfl (Nat.le_of_ble_eq_true rfl) (Nat.le_of_ble_eq_true rfl) (Nat.le_of_ble_eq_true rfl) ⟨rfl, rfl⟩ ⟨(Nat.le_of_ble_eq_true rfl), (Nat.le_of_ble_eq_true rfl)⟩ dX6_readMove_36 (fun v23 m22 => ?_)
        refine x_goto (tgt := 43) dX6_readMove_39 (by decide) ?_
        refine y_mask (bs := [true, true, true, false, false]) (ls' := [some (.ref (zad ω 164)), some (.int p1), some (.int p2), none, none]) rfl ?_
        exact hj7 _ _
  · refine y_join (fun j24 => Sx ω ω true 4 0 0 kk_Pla_readMove fV 0 0 m 24 [some (.ref (zad ω 164)), some (.int p1), some (.int p2), none, none] [] j24) ?_ (fun j24 hj24 => ?_)
    · refine x_iconst (v := 1) dX6_readMove_24 (by decide) ?_
      refine x_goto (tgt := 29) dX6_readMove_25 (by decide) ?_
      exact hj3 _
    · refine x_icmp_eq (tgt := 24) dX6_readMove_3 (by decide) (fun hc1 => ?_) (fun hc1 => ?_)
      · exact hj24
      · refine x_iload_n dX6_readMove_6 rfl ?_
        refine x_bipush (v := 60) dX6_readMove_7 (by decide) ?_
        refine x_icmp_eq (tgt := 24) dX6_readMove_9 (by decide) (fun hc25 => ?_) (fun hc25 => ?_)
        · exact hj24
        · refine x_iload_n dX6_readMove_12 rfl ?_
          refine x_bipush (v := 93) dX6_readMove_13 (by decide) ?_
          refine x_icmp_eq (tgt := 24) dX6_readMove_15 (by decide) (fun hc26 => ?_) (fun hc26 => ?_)
          · exact hj24
          · refine x_iload_n dX6_readMove_18 rfl ?_
            refine x_bipush (v := 91) dX6_readMove_19 (by decide) ?_
            refine x_icmp_ne (tgt := 28) dX6_readMove_21 (by decide) (fun hc27 => ?_) (fun hc27 => ?_)
            · exact hj24
            · refine x_iconst (v := 0) dX6_readMove_28 (by decide) ?_
              exact hj3 _
abbrev kk_Pla_readSteps : Kx := (yX6_readSteps.cls, cX6_readSteps, 5, none, [], false)
set_option maxHeartbeats 4000000 in
set_option maxRecDepth 100000 in
theorem c_Pla_readSteps (ω : Wd) (Dn : Nat) (hDn : 5 ≤ Dn) (c_readBranch : Int32 → Int32 → Mm → Option Mm) (h_readBranch : ∀ (y0 y1 : Int32) (m : Mm), Ev ω true Dn 0 0 yX6_readBranch cX6_readBranch 4 none [.ref (zad ω 164), .int y0, .int y1] m fV (c_readBranch y0 y1 m)) (p1 : Int32) (p2 : Int32) (m : Mm) : Ev ω true (Dn + 1) 0 0 yX6_readSteps cX6_readSteps 5 none [.ref (zad ω 164), .int p1, .int p2] m fV (g_Pla_readSteps c_readBranch p1 p2 m) := by
  refine Ev.of (b := false) (ls := [some (.ref (zad ω 164)), some (.int p1), some (.int p2), none, none]) (plainFor_of_name (by decide +kernel)) (fun h => by cases h) rfl (Nat.le_of_ble_eq_true rfl) rfl ?_
  change Sx ω ω true (Dn + 1) 0 0 kk_Pla_readSteps fV 0 0 m 0 _ _ _
  unfold g_Pla_readSteps
  refine x_iconst (v := 0) dX6_readSteps_0 (by decide) ?_
  refine x_istore_n (ls' := [some (.ref (zad ω 164)), some (.int p1), some (.int p2), some (.int 0), none]) dX6_readSteps_1 (Nat.le_of_ble_eq_true rfl) rfl ?_
  refine y_Lp1 (fun x1 => [some (.ref (zad ω 164)), some (.int p1), some (.int p2), some (.int x1), none]) (fun r2 hr2 x1 m3 => ?_) zFu _ _
  refine x_iload_n dX6_readSteps_2 rfl ?_
  refine x_bipush (v := 40) dX6_readSteps_3 (by decide) ?_
  refine x_icmp_ge (tgt := 113) dX6_readSteps_5 (by decide) (fun hc4 => ?_) (fun hc4 => ?_)
  · exact x_vret rfl rfl ⟨(Nat.le_of_ble_eq_true rfl), (Nat.le_of_ble_eq_true rfl)⟩ dX6_readSteps_113
  · refine x_iload_n dX6_readSteps_8 rfl ?_
    refine x_bipush (v := 41) dX6_readSteps_9 (by decide) ?_
    refine x_icmp_gt (tgt := 113) dX6_readSteps_11 (by decide) (fun hc5 => ?_) (fun hc5 => ?_)
    · exact x_vret rfl rfl ⟨(Nat.le_of_ble_eq_true rfl), (Nat.le_of_ble_eq_true rfl)⟩ dX6_readSteps_113
    · refine x_aload_n dX6_readSteps_14 rfl ?_
      refine y_getR fl_RX6_34 hz_164 (by decide) dX6_readSteps_15 (fun q6 hq6 => ?_)
      refine x_aload_n dX6_readSteps_18 rfl ?_
      refine y_getI fl_RX6_53 hz_164 dX6_readSteps_19 ?_
      refine y_callVP (rest := []) (c1 := 0) (s1 := 0) (c_Txt_at ω q6 hq6 (zI m3 164 5) m3) mv_RX6_95 hq6 rfl (Nat.le_of_ble_eq_true rfl) (Nat.succ_le_succ (Nat.le_trans (Nat.le_of_ble_eq_true rfl) hDn)) (Nat.le_of_ble_eq_true rfl) ⟨rfl, rfl⟩ ⟨(Nat.le_of_ble_eq_true rfl), (Nat.le_of_ble_eq_true rfl)⟩ dX6_readSteps_22 (fun v7 => ?_)
      refine x_istore (ls' := [some (.ref (zad ω 164)), some (.int p1), some (.int p2), some (.int x1), some (.int v7)]) dX6_readSteps_25 (Nat.le_of_ble_eq_true rfl) rfl ?_
      refine x_iload dX6_readSteps_27 rfl ?_
      refine x_bipush (v := 125) dX6_readSteps_29 (by decide) ?_
      refine x_icmp_eq (tgt := 39) dX6_readSteps_31 (by decide) (fun hc8 => ?_) (fun hc8 => ?_)
      · exact x_vret rfl rfl ⟨(Nat.le_of_ble_eq_true rfl), (Nat.le_of_ble_eq_true rfl)⟩ dX6_readSteps_39
      · refine x_iload dX6_readSteps_34 rfl ?_
        refine x_if_ne (tgt := 40) dX6_readSteps_36 (by decide) (fun hc9 => ?_) (fun hc9 => ?_)
        · exact x_vret rfl rfl ⟨(Nat.le_of_ble_eq_true rfl), (Nat.le_of_ble_eq_true rfl)⟩ dX6_readSteps_39
        · refine x_iload dX6_readSteps_40 rfl ?_
          refine x_bipush (v := 63) dX6_readSteps_42 (by decide) ?_
          refine y_join (fun j12 => ∀ (m11 : Mm), Sx ω ω true (Dn + 1) 0 0 kk_Pla_readSteps fV 0 0 m11 107 [some (.ref (zad ω 164)), some (.int p1), some (.int p2), some (.int x1), none] [] (j12 m11)) ?_ (fun j12 hj12 => ?_)
          · intro m11
            refine y_iinc (w := 1) dX6_readSteps_107 rfl (by decide) (Nat.le_of_ble_eq_true rfl) (fun x13 => ?_)
            refine x_goto (tgt := 2) dX6_readSteps_110 (by decide) ?_
            exact hr2 _ _
          · refine x_icmp_ne (tgt := 68) dX6_readSteps_44 (by decide) (fun hc10 => ?_) (fun hc10 => ?_)
            · refine x_aload_n dX6_readSteps_47 rfl ?_
              refine x_dup dX6_readSteps_48 rfl ?_
              refine y_getI fl_RX6_53 hz_164 dX6_readSteps_49 ?_
              refine x_iconst (v := 1) dX6_readSteps_52 (by decide) ?_
              refine x_iadd dX6_readSteps_53 ?_
              refine y_putI fp_RX6_53 hz_164 dX6_readSteps_54 ?_
              refine y_letM (fun m20 => ?_)
              refine x_aload_n dX6_readSteps_57 rfl ?_
              refine x_iload_n dX6_readSteps_58 rfl ?_
              refine x_iload_n dX6_readSteps_59 rfl ?_
              refine x_iconst (v := 1) dX6_readSteps_60 (by decide) ?_
              refine x_iadd dX6_readSteps_61 ?_
              refine y_callVV (rest := []) (c1 := 0) (s1 := 0) (h_readBranch p1 (p2 + 1) m20) mv_RX6_99 hz_164 rfl (Nat.le_of_ble_eq_true rfl) (Nat.le_refl _) (Nat.le_of_ble_eq_true rfl) ⟨rfl, rfl⟩ ⟨(Nat.le_of_ble_eq_true rfl), (Nat.le_of_ble_eq_true rfl)⟩ dX6_readSteps_62 (fun m21 => ?_)
              refine x_goto (tgt := 107) dX6_readSteps_65 (by decide) ?_
              refine y_mask (bs := [true, true, true, true, false]) (ls' := [some (.ref (zad ω 164)), some (.int p1), some (.int p2), some (.int x1), none]) rfl ?_
              exact hj12 _
            · refine x_iload dX6_readSteps_68 rfl ?_
              refine x_bipush (v := 43) dX6_readSteps_70 (by decide) ?_
              refine y_join (fun j15 => Sx ω ω true (Dn + 1) 0 0 kk_Pla_readSteps fV 0 0 m3 82 [some (.ref (zad ω 164)), some (.int p1), some (.int p2), some (.int x1), none] [] j15) ?_ (fun j15 hj15 => ?_)
              · refine x_aload_n dX6_readSteps_82 rfl ?_
                refine x_iload_n dX6_readSteps_83 rfl ?_
                refine y_callVV (rest := []) (c1 := 0) (s1 := 0) (c_Pla_readDays ω p1 m3) mv_RX6_102 hz_164 rfl (Nat.le_of_ble_eq_true rfl) (Nat.succ_le_succ (Nat.le_trans (Nat.le_of_ble_eq_true rfl) hDn)) (Nat.le_of_ble_eq_true rfl) ⟨rfl, rfl⟩ ⟨(Nat.le_of_ble_eq_true rfl), (Nat.le_of_ble_eq_true rfl)⟩ dX6_readSteps_84 (fun m16 => ?_)
                refine x_goto (tgt := 107) dX6_readSteps_87 (by decide) ?_
                exact hj12 _
              · refine x_icmp_eq (tgt := 82) dX6_readSteps_72 (by decide) (fun hc14 => ?_) (fun hc14 => ?_)
                · refine y_mask (bs := [true, true, true, true, false]) (ls' := [some (.ref (zad ω 164)), some (.int p1), some (.int p2), some (.int x1), none]) rfl ?_
                  exact hj15
                · refine x_iload dX6_readSteps_75 rfl ?_
                  refine x_bipush (v := 45) dX6_readSteps_77 (by decide) ?_
                  refine x_icmp_ne (tgt := 90) dX6_readSteps_79 (by decide) (fun hc17 => ?_) (fun hc17 => ?_)
                  · refine y_mask (bs := [true, true, true, true, false]) (ls' := [some (.ref (zad ω 164)), some (.int p1), some (.int p2), some (.int x1), none]) rfl ?_
                    exact hj15
                  · refine x_aload_n dX6_readSteps_90 rfl ?_
                    refine x_dup dX6_readSteps_91 rfl ?_
                    refine y_getI fl_RX6_53 hz_164 dX6_readSteps_92 ?_
                    refine x_iconst (v := 1) dX6_readSteps_95 (by decide) ?_
                    refine x_iadd dX6_readSteps_96 ?_
                    refine y_putI fp_RX6_53 hz_164 dX6_readSteps_97 ?_
                    refine y_letM (fun m18 => ?_)
                    refine x_aload_n dX6_readSteps_100 rfl ?_
                    refine x_iload dX6_readSteps_101 rfl ?_
                    refine x_iload_n dX6_readSteps_103 rfl ?_
                    refine y_callVV (rest := []) (c1 := 0) (s1 := 0) (c_Pla_readMove ω v7 p1 m18) mv_RX6_106 hz_164 rfl (Nat.le_of_ble_eq_true rfl) (Nat.succ_le_succ (Nat.le_trans (Nat.le_of_ble_eq_true rfl) hDn)) (Nat.le_of_ble_eq_true rfl) ⟨rfl, rfl⟩ ⟨(Nat.le_of_ble_eq_true rfl), (Nat.le_of_ble_eq_true rfl)⟩ dX6_readSteps_104 (fun m19 => ?_)
                    refine y_mask (bs := [true, true, true, true, false]) (ls' := [some (.ref (zad ω 164)), some (.int p1), some (.int p2), some (.int x1), none]) rfl ?_
                    exact hj12 _
abbrev kk_Pla_readBranch : Kx := (yX6_readBranch.cls, cX6_readBranch, 4, none, [], false)
set_option maxHeartbeats 4000000 in
set_option maxRecDepth 100000 in
theorem c_Pla_readBranch (ω : Wd) (Dn : Nat) (hDn : 5 ≤ Dn) (c_readCondition : Int32 → Mm → Option (Int32 × Mm)) (h_readCondition : ∀ (y0 : Int32) (m : Mm), Ev ω true Dn 0 0 yX6_readCondition cX6_readCondition 5 (some .boolean) [.ref (zad ω 164), .int y0] m fI (c_readCondition y0 m)) (c_readSteps : Int32 → Int32 → Mm → Option Mm) (h_readSteps : ∀ (y0 y1 : Int32) (m : Mm), Ev ω true Dn 0 0 yX6_readSteps cX6_readSteps 5 none [.ref (zad ω 164), .int y0, .int y1] m fV (c_readSteps y0 y1 m)) (p1 : Int32) (p2 : Int32) (m : Mm) : Ev ω true (Dn + 1) 0 0 yX6_readBranch cX6_readBranch 4 none [.ref (zad ω 164), .int p1, .int p2] m fV (g_Pla_readBranch c_readCondition c_readSteps p1 p2 m) := by
  refine Ev.of (b := false) (ls := [some (.ref (zad ω 164)), some (.int p1), some (.int p2), none]) (plainFor_of_name (by decide +kernel)) (fun h => by cases h) rfl (Nat.le_of_ble_eq_true rfl) rfl ?_
  change Sx ω ω true (Dn + 1) 0 0 kk_Pla_readBranch fV 0 0 m 0 _ _ _
  unfold g_Pla_readBranch
  refine x_aload_n dX6_readBranch_0 rfl ?_
  refine x_iload_n dX6_readBranch_1 rfl ?_
  refine y_callVI (rest := []) (c1 := 0) (s1 := 0) (h_readCondition p2 m) mv_RX6_110 hz_164 rfl (Nat.le_of_ble_eq_true rfl) (Nat.le_refl _) (Nat.le_of_ble_eq_true rfl) ⟨rfl, rfl⟩ ⟨(Nat.le_of_ble_eq_true rfl), (Nat.le_of_ble_eq_true rfl)⟩ dX6_readBranch_2 (fun v2 m1 => ?_)
  refine x_istore_n (ls' := [some (.ref (zad ω 164)), some (.int p1), some (.int p2), some (.int v2)]) dX6_readBranch_5 (Nat.le_of_ble_eq_true rfl) rfl ?_
  refine x_aload_n dX6_readBranch_6 rfl ?_
  refine x_dup dX6_readBranch_7 rfl ?_
  refine y_getI fl_RX6_53 hz_164 dX6_readBranch_8 ?_
  refine x_iconst (v := 1) dX6_readBranch_11 (by decide) ?_
  refine x_iadd dX6_readBranch_12 ?_
  refine y_putI fp_RX6_53 hz_164 dX6_readBranch_13 ?_
  refine y_letM (fun m3 => ?_)
  refine x_aload_n dX6_readBranch_16 rfl ?_
  refine x_iload_n dX6_readBranch_17 rfl ?_
  refine y_join (fun j6 => ∀ (x5 : Int32), Sx ω ω true (Dn + 1) 0 0 kk_Pla_readBranch fV 0 0 m3 30 [some (.ref (zad ω 164)), some (.int p1), some (.int p2), some (.int v2)] [.int x5, .ref (zad ω 164)] (j6 x5)) ?_ (fun j6 hj6 => ?_)
  · intro x5
    refine x_iload_n dX6_readBranch_30 rfl ?_
    refine y_callVV (rest := []) (c1 := 0) (s1 := 0) (h_readSteps x5 p2 m3) mv_RX6_60 hz_164 rfl (Nat.le_of_ble_eq_true rfl) (Nat.le_refl _) (Nat.le_of_ble_eq_true rfl) ⟨rfl, rfl⟩ ⟨(Nat.le_of_ble_eq_true rfl), (Nat.le_of_ble_eq_true rfl)⟩ dX6_readBranch_31 (fun m7 => ?_)
    refine x_aload_n dX6_readBranch_34 rfl ?_
    refine x_dup dX6_readBranch_35 rfl ?_
    refine y_getI fl_RX6_53 hz_164 dX6_readBranch_36 ?_
    refine x_iconst (v := 1) dX6_readBranch_39 (by decide) ?_
    refine x_iadd dX6_readBranch_40 ?_
    refine y_putI fp_RX6_53 hz_164 dX6_readBranch_41 ?_
    refine y_letM (fun m8 => ?_)
    refine x_aload_n dX6_readBranch_44 rfl ?_
    refine y_getR fl_RX6_34 hz_164 (by decide) dX6_readBranch_45 (fun q9 hq9 => ?_)
    refine x_aload_n dX6_readBranch_48 rfl ?_
    refine y_getI fl_RX6_53 hz_164 dX6_readBranch_49 ?_
    refine y_callVP (rest := []) (c1 := 0) (s1 := 0) (c_Txt_at ω q9 hq9 (zI m8 164 5) m8) mv_RX6_95 hq9 rfl (Nat.le_of_ble_eq_true rfl) (Nat.succ_le_succ (Nat.le_trans (Nat.le_of_ble_eq_true rfl) hDn)) (Nat.le_of_ble_eq_true rfl) ⟨rfl, rfl⟩ ⟨(Nat.le_of_ble_eq_true rfl), (Nat.le_of_ble_eq_true rfl)⟩ dX6_readBranch_52 (fun v10 => ?_)
    refine x_bipush (v := 123) dX6_readBranch_55 (by decide) ?_
    refine x_icmp_ne (tgt := 98) dX6_readBranch_57 (by decide) (fun hc11 => ?_) (fun hc11 => ?_)
    · refine x_aload_n dX6_readBranch_60 rfl ?_
      refine x_dup dX6_readBranch_61 rfl ?_
      refine y_getI fl_RX6_53 hz_164 dX6_readBranch_62 ?_
      refine x_iconst (v := 1) dX6_readBranch_65 (by decide) ?_
      refine x_iadd dX6_readBranch_66 ?_
      refine y_putI fp_RX6_53 hz_164 dX6_readBranch_67 ?_
      refine y_letM (fun m12 => ?_)
      refine x_aload_n dX6_readBranch_70 rfl ?_
      refine x_iload_n dX6_readBranch_71 rfl ?_
      refine y_join (fun j15 => ∀ (x14 : Int32), Sx ω ω true (Dn + 1) 0 0 kk_Pla_readBranch fV 0 0 m12 84 [some (.ref (zad ω 164)), none, some (.int p2), none] [.int x14, .ref (zad ω 164)] (j15 x14)) ?_ (fun j15 hj15 => ?_)
      · intro x14
        refine x_iload_n dX6_readBranch_84 rfl ?_
        refine y_callVV (rest := []) (c1 := 0) (s1 := 0) (h_readSteps x14 p2 m12) mv_RX6_60 hz_164 rfl (Nat.le_of_ble_eq_true rfl) (Nat.le_refl _) (Nat.le_of_ble_eq_true rfl) ⟨rfl, rfl⟩ ⟨(Nat.le_of_ble_eq_true rfl), (Nat.le_of_ble_eq_true rfl)⟩ dX6_readBranch_85 (fun m16 => ?_)
        refine x_aload_n dX6_readBranch_88 rfl ?_
        refine x_dup dX6_readBranch_89 rfl ?_
        refine y_getI fl_RX6_53 hz_164 dX6_readBranch_90 ?_
        refine x_iconst (v := 1) dX6_readBranch_93 (by decide) ?_
        refine x_iadd dX6_readBranch_94 ?_
        refine y_putI fp_RX6_53 hz_164 dX6_readBranch_95 ?_
        refine y_letM (fun m17 => ?_)
        exact x_vret rfl rfl ⟨(Nat.le_of_ble_eq_true rfl), (Nat.le_of_ble_eq_true rfl)⟩ dX6_readBranch_98
      · refine y_join (fun j18 => Sx ω ω true (Dn + 1) 0 0 kk_Pla_readBranch fV 0 0 m12 83 [some (.ref (zad ω 164)), none, some (.int p2), none] [.ref (zad ω 164)] j18) ?_ (fun j18 hj18 => ?_)
        · refine x_iconst (v := 0) dX6_readBranch_83 (by decide) ?_
          exact hj15 _
        · refine x_if_eq (tgt := 83) dX6_readBranch_72 (by decide) (fun hc13 => ?_) (fun hc13 => ?_)
          · refine y_mask (bs := [true, false, true, false]) (ls' := [some (.ref (zad ω 164)), none, some (.int p2), none]) rfl ?_
            exact hj18
          · refine x_iload_n dX6_readBranch_75 rfl ?_
            refine x_if_ne (tgt := 83) dX6_readBranch_76 (by decide) (fun hc19 => ?_) (fun hc19 => ?_)
            · refine x_iconst (v := 1) dX6_readBranch_79 (by decide) ?_
              refine x_goto (tgt := 84) dX6_readBranch_80 (by decide) ?_
              refine y_mask (bs := [true, false, true, false]) (ls' := [some (.ref (zad ω 164)), none, some (.int p2), none]) rfl ?_
              exact hj15 _
            · refine y_mask (bs := [true, false, true, false]) (ls' := [some (.ref (zad ω 164)), none, some (.int p2), none]) rfl ?_
              exact hj18
    · exact x_vret rfl rfl ⟨(Nat.le_of_ble_eq_true rfl), (Nat.le_of_ble_eq_true rfl)⟩ dX6_readBranch_98
  · refine y_join (fun j20 => Sx ω ω true (Dn + 1) 0 0 kk_Pla_readBranch fV 0 0 m3 29 [some (.ref (zad ω 164)), some (.int p1), some (.int p2), some (.int v2)] [.ref (zad ω 164)] j20) ?_ (fun j20 hj20 => ?_)
    · refine x_iconst (v := 0) dX6_readBranch_29 (by decide) ?_
      exact hj6 _
    · refine x_if_eq (tgt := 29) dX6_readBranch_18 (by decide) (fun hc4 => ?_) (fun hc4 => ?_)
      · exact hj20
      · refine x_iload_n dX6_readBranch_21 rfl ?_
        refine x_if_eq (tgt := 29) dX6_readBranch_22 (by decide) (fun hc21 => ?_) (fun hc21 => ?_)
        · exact hj20
        · refine x_iconst (v := 1) dX6_readBranch_25 (by decide) ?_
          refine x_goto (tgt := 30) dX6_readBranch_26 (by decide) ?_
          exact hj6 _
abbrev kk_Pla_readCondition : Kx := (yX6_readCondition.cls, cX6_readCondition, 5, (some .boolean), [], false)
set_option maxHeartbeats 4000000 in
set_option maxRecDepth 100000 in
theorem c_Pla_readCondition (ω : Wd) (Dn : Nat) (hDn : 5 ≤ Dn) (c_readCondition : Int32 → Mm → Option (Int32 × Mm)) (h_readCondition : ∀ (y0 : Int32) (m : Mm), Ev ω true Dn 0 0 yX6_readCondition cX6_readCondition 5 (some .boolean) [.ref (zad ω 164), .int y0] m fI (c_readCondition y0 m)) (p1 : Int32) (m : Mm) : Ev ω true (Dn + 1) 0 0 yX6_readCondition cX6_readCondition 5 (some .boolean) [.ref (zad ω 164), .int p1] m fI (g_Pla_readCondition c_readCondition p1 m) := by
  refine Ev.of (b := false) (ls := [some (.ref (zad ω 164)), some (.int p1), none, none, none]) (plainFor_of_name (by decide +kernel)) (fun h => by cases h) rfl (Nat.le_of_ble_eq_true rfl) rfl ?_
  change Sx ω ω true (Dn + 1) 0 0 kk_Pla_readCondition fI 0 0 m 0 _ _ _
  unfold g_Pla_readCondition
  refine x_iload_n dX6_readCondition_0 rfl ?_
  refine x_bipush (v := 41) dX6_readCondition_1 (by decide) ?_
  refine x_icmp_le (tgt := 8) dX6_readCondition_3 (by decide) (fun hc1 => ?_) (fun hc1 => ?_)
  · refine x_aload_n dX6_readCondition_8 rfl ?_
    refine y_callVI (rest := []) (c1 := 0) (s1 := 0) (c_Pla_nextSign ω m) mv_RX6_71 hz_164 rfl (Nat.le_of_ble_eq_true rfl) (Nat.succ_le_succ (Nat.le_trans (Nat.le_of_ble_eq_true rfl) hDn)) (Nat.le_of_ble_eq_true rfl) ⟨rfl, rfl⟩ ⟨(Nat.le_of_ble_eq_true rfl), (Nat.le_of_ble_eq_true rfl)⟩ dX6_readCondition_9 (fun v3 m2 => ?_)
    refine x_cases (c := v3 = 33) (fun hc4 => ?_) (fun hc4 => ?_)
    · refine x_lookup (tgt := 115) dX6_readCondition_12 (by decide) (by rw [hc4] <;> decide) (by decide) ?_
      refine x_aload_n dX6_readCondition_115 rfl ?_
      refine x_iload_n dX6_readCondition_116 rfl ?_
      refine x_iconst (v := 1) dX6_readCondition_117 (by decide) ?_
      refine x_iadd dX6_readCondition_118 ?_
      refine y_callVI (rest := []) (c1 := 0) (s1 := 0) (h_readCondition (p1 + 1) m2) mv_RX6_110 hz_164 rfl (Nat.le_of_ble_eq_true rfl) (Nat.le_refl _) (Nat.le_of_ble_eq_true rfl) ⟨rfl, rfl⟩ ⟨(Nat.le_of_ble_eq_true rfl), (Nat.le_of_ble_eq_true rfl)⟩ dX6_readCondition_119 (fun v6 m5 => ?_)
      refine x_if_ne (tgt := 129) dX6_readCondition_122 (by decide) (fun hc7 => ?_) (fun hc7 => ?_)
      · refine x_iconst (v := 1) dX6_readCondition_125 (by decide) ?_
        refine x_goto (tgt := 130) dX6_readCondition_126 (by decide) ?_
        exact x_zret rfl rfl (zBo_nar (by decide)) ⟨(Nat.le_of_ble_eq_true rfl), (Nat.le_of_ble_eq_true rfl)⟩ dX6_readCondition_130
      · refine x_iconst (v := 0) dX6_readCondition_129 (by decide) ?_
        exact x_zret rfl rfl (zBo_nar (by decide)) ⟨(Nat.le_of_ble_eq_true rfl), (Nat.le_of_ble_eq_true rfl)⟩ dX6_readCondition_130
    · refine x_cases (c := v3 = 65) (fun hc8 => ?_) (fun hc8 => ?_)
      · refine x_lookup (tgt := 85) dX6_readCondition_12 (by decide) (by rw [hc8] <;> decide) (by decide) ?_
        refine x_aload_n dX6_readCondition_85 rfl ?_
        refine y_getF fl_RX6_14 hz_164 hq_164_1 (by rw [hz_165]; decide) dX6_readCondition_86 ?_
        refine x_aload_n dX6_readCondition_89 rfl ?_
        refine x_aload_n dX6_readCondition_90 rfl ?_
        refine x_iconst (v := 2) dX6_readCondition_91 (by decide) ?_
        refine y_callVI (rest := [.ref (zad ω 164), .ref (zad ω 165)]) (c1 := 0) (s1 := 0) (c_Pla_nextNumber ω 2 m2) mv_RX6_75 hz_164 rfl (Nat.le_of_ble_eq_true rfl) (Nat.succ_le_succ (Nat.le_trans (Nat.le_of_ble_eq_true rfl) hDn)) (Nat.le_of_ble_eq_true rfl) ⟨rfl, rfl⟩ ⟨(Nat.le_of_ble_eq_true rfl), (Nat.le_of_ble_eq_true rfl)⟩ dX6_readCondition_92 (fun v10 m9 => ?_)
        refine y_callVP (rest := [.ref (zad ω 165)]) (c1 := 0) (s1 := 0) (c_Pla_bentDay ω v10 m9) mv_RX6_89 hz_164 rfl (Nat.le_of_ble_eq_true rfl) (Nat.succ_le_succ (Nat.le_trans (Nat.le_of_ble_eq_true rfl) hDn)) (Nat.le_of_ble_eq_true rfl) ⟨rfl, rfl⟩ ⟨(Nat.le_of_ble_eq_true rfl), (Nat.le_of_ble_eq_true rfl)⟩ dX6_readCondition_95 (fun v11 => ?_)
        refine y_callVP (rest := []) (c1 := 0) (s1 := 0) (c_Wal_isOnDay ω 165 hz_165 v11 m9) mv_RX6_144 hz_165 rfl (Nat.le_of_ble_eq_true rfl) (Nat.succ_le_succ (Nat.le_trans (Nat.le_of_ble_eq_true rfl) hDn)) (Nat.le_of_ble_eq_true rfl) ⟨rfl, rfl⟩ ⟨(Nat.le_of_ble_eq_true rfl), (Nat.le_of_ble_eq_true rfl)⟩ dX6_readCondition_98 (fun v12 => ?_)
        refine x_guard (fun hv => ?_)
        exact x_zret rfl rfl (zBo_nar hv) ⟨(Nat.le_of_ble_eq_true rfl), (Nat.le_of_ble_eq_true rfl)⟩ dX6_readCondition_101
      · refine x_cases (c := v3 = 69) (fun hc13 => ?_) (fun hc13 => ?_)
        · refine x_lookup (tgt := 102) dX6_readCondition_12 (by decide) (by rw [hc13] <;> decide) (by decide) ?_
          refine x_aload_n dX6_readCondition_102 rfl ?_
          refine y_getF fl_RX6_14 hz_164 hq_164_1 (by rw [hz_165]; decide) dX6_readCondition_103 ?_
          refine x_aload_n dX6_readCondition_106 rfl ?_
          refine x_iconst (v := 4) dX6_readCondition_107 (by decide) ?_
          refine y_callVI (rest := [.ref (zad ω 165)]) (c1 := 0) (s1 := 0) (c_Pla_nextNumber ω 4 m2) mv_RX6_75 hz_164 rfl (Nat.le_of_ble_eq_true rfl) (Nat.succ_le_succ (Nat.le_trans (Nat.le_of_ble_eq_true rfl) hDn)) (Nat.le_of_ble_eq_true rfl) ⟨rfl, rfl⟩ ⟨(Nat.le_of_ble_eq_true rfl), (Nat.le_of_ble_eq_true rfl)⟩ dX6_readCondition_108 (fun v15 m14 => ?_)
          refine y_callVP (rest := []) (c1 := 0) (s1 := 0) (c_Wal_isBeforeDate ω 165 hz_165 v15 m14) mv_RX6_147 hz_165 rfl (Nat.le_of_ble_eq_true rfl) (Nat.succ_le_succ (Nat.le_trans (Nat.le_of_ble_eq_true rfl) hDn)) (Nat.le_of_ble_eq_true rfl) ⟨rfl, rfl⟩ ⟨(Nat.le_of_ble_eq_true rfl), (Nat.le_of_ble_eq_true rfl)⟩ dX6_readCondition_111 (fun v16 => ?_)
          refine x_guard (fun hv => ?_)
          exact x_zret rfl rfl (zBo_nar hv) ⟨(Nat.le_of_ble_eq_true rfl), (Nat.le_of_ble_eq_true rfl)⟩ dX6_readCondition_114
        · refine x_cases (c := v3 = 87) (fun hc17 => ?_) (fun hc17 => ?_)
          · refine x_lookup (tgt := 64) dX6_readCondition_12 (by decide) (by rw [hc17] <;> decide) (by decide) ?_
            refine x_aload_n dX6_readCondition_64 rfl ?_
            refine y_getF fl_RX6_14 hz_164 hq_164_1 (by rw [hz_165]; decide) dX6_readCondition_65 ?_
            refine x_aload_n dX6_readCondition_68 rfl ?_
            refine x_iconst (v := 1) dX6_readCondition_69 (by decide) ?_
            refine y_callVI (rest := [.ref (zad ω 165)]) (c1 := 0) (s1 := 0) (c_Pla_nextNumber ω 1 m2) mv_RX6_75 hz_164 rfl (Nat.le_of_ble_eq_true rfl) (Nat.succ_le_succ (Nat.le_trans (Nat.le_of_ble_eq_true rfl) hDn)) (Nat.le_of_ble_eq_true rfl) ⟨rfl, rfl⟩ ⟨(Nat.le_of_ble_eq_true rfl), (Nat.le_of_ble_eq_true rfl)⟩ dX6_readCondition_70 (fun v19 m18 => ?_)
            refine y_callVP (rest := []) (c1 := 0) (s1 := 0) (c_Wal_isOnWeekday ω 165 hz_165 v19 m18) mv_RX6_137 hz_165 rfl (Nat.le_of_ble_eq_true rfl) (Nat.succ_le_succ (Nat.le_trans (Nat.le_of_ble_eq_true rfl) hDn)) (Nat.le_of_ble_eq_true rfl) ⟨rfl, rfl⟩ ⟨(Nat.le_of_ble_eq_true rfl), (Nat.le_of_ble_eq_true rfl)⟩ dX6_readCondition_73 (fun v20 => ?_)
            refine x_guard (fun hv => ?_)
            exact x_zret rfl rfl (zBo_nar hv) ⟨(Nat.le_of_ble_eq_true rfl), (Nat.le_of_ble_eq_true rfl)⟩ dX6_readCondition_76
          · refine x_cases (c := v3 = 89) (fun hc21 => ?_) (fun hc21 => ?_)
            · refine x_lookup (tgt := 77) dX6_readCondition_12 (by decide) (by rw [hc21] <;> decide) (by decide) ?_
              refine x_aload_n dX6_readCondition_77 rfl ?_
              refine y_getF fl_RX6_14 hz_164 hq_164_1 (by rw [hz_165]; decide) dX6_readCondition_78 ?_
              refine y_callVP (rest := []) (c1 := 0) (s1 := 0) (c_Wal_isInLeapYear ω 165 hz_165 m2) mv_RX6_140 hz_165 rfl (Nat.le_of_ble_eq_true rfl) (Nat.succ_le_succ (Nat.le_trans (Nat.le_of_ble_eq_true rfl) hDn)) (Nat.le_of_ble_eq_true rfl) ⟨rfl, rfl⟩ ⟨(Nat.le_of_ble_eq_true rfl), (Nat.le_of_ble_eq_true rfl)⟩ dX6_readCondition_81 (fun v22 => ?_)
              refine x_guard (fun hv => ?_)
              exact x_zret rfl rfl (zBo_nar hv) ⟨(Nat.le_of_ble_eq_true rfl), (Nat.le_of_ble_eq_true rfl)⟩ dX6_readCondition_84
            · refine x_lookup (tgt := 131) dX6_readCondition_12 (by decide) (zsw_n [33, 65, 69, 87, 89] (by decide +kernel) (zfc hc4 (zfc hc8 (zfc hc13 (zfc hc17 (zfc hc21 zfn)))))) (by decide) ?_
              refine x_aload_n dX6_readCondition_131 rfl ?_
              refine x_iload_n dX6_readCondition_132 rfl ?_
              refine x_iconst (v := 1) dX6_readCondition_133 (by decide) ?_
              refine x_iadd dX6_readCondition_134 ?_
              refine y_callVI (rest := []) (c1 := 0) (s1 := 0) (h_readCondition (p1 + 1) m2) mv_RX6_110 hz_164 rfl (Nat.le_of_ble_eq_true rfl) (Nat.le_refl _) (Nat.le_of_ble_eq_true rfl) ⟨rfl, rfl⟩ ⟨(Nat.le_of_ble_eq_true rfl), (Nat.le_of_ble_eq_true rfl)⟩ dX6_readCondition_135 (fun v24 m23 => ?_)
              refine x_istore_n (ls' := [some (.ref (zad ω 164)), some (.int p1), some (.int v24), none, none]) dX6_readCondition_138 (Nat.le_of_ble_eq_true rfl) rfl ?_
              refine x_aload_n dX6_readCondition_139 rfl ?_
              refine y_callVI (rest := []) (c1 := 0) (s1 := 0) (c_Pla_nextSign ω m23) mv_RX6_71 hz_164 rfl (Nat.le_of_ble_eq_true rfl) (Nat.succ_le_succ (Nat.le_trans (Nat.le_of_ble_eq_true rfl) hDn)) (Nat.le_of_ble_eq_true rfl) ⟨rfl, rfl⟩ ⟨(Nat.le_of_ble_eq_true rfl), (Nat.le_of_ble_eq_true rfl)⟩ dX6_readCondition_140 (fun v26 m25 => ?_)
              refine x_bipush (v := 38) dX6_readCondition_143 (by decide) ?_
              refine y_join (fun j29 => ∀ (x28 : Int32), Sx ω ω true (Dn + 1) 0 0 kk_Pla_readCondition fI 0 0 m25 153 [some (.ref (zad ω 164)), some (.int p1), some (.int v24), none, none] [.int x28] (j29 x28)) ?_ (fun j29 hj29 => ?_)
              · intro x28
                refine x_istore_n (ls' := [some (.ref (zad ω 164)), some (.int p1), some (.int v24), some (.int x28), none]) dX6_readCondition_153 (Nat.le_of_ble_eq_true rfl) rfl ?_
                refine x_aload_n dX6_readCondition_154 rfl ?_
                refine x_iload_n dX6_readCondition_155 rfl ?_
                refine x_iconst (v := 1) dX6_readCondition_156 (by decide) ?_
                refine x_iadd dX6_readCondition_157 ?_
                refine y_callVI (rest := []) (c1 := 0) (s1 := 0) (h_readCondition (p1 + 1) m25) mv_RX6_110 hz_164 rfl (Nat.le_of_ble_eq_true rfl) (Nat.le_refl _) (Nat.le_of_ble_eq_true rfl) ⟨rfl, rfl⟩ ⟨(Nat.le_of_ble_eq_true rfl), (Nat.le_of_ble_eq_true rfl)⟩ dX6_readCondition_158 (fun v31 m30 => ?_)
                refine x_istore (ls' := [some (.ref (zad ω 164)), some (.int p1), some (.int v24), some (.int x28), some (.int v31)]) dX6_readCondition_161 (Nat.le_of_ble_eq_true rfl) rfl ?_
                refine x_aload_n dX6_readCondition_163 rfl ?_
                refine x_dup dX6_readCondition_164 rfl ?_
                refine y_getI fl_RX6_53 hz_164 dX6_readCondition_165 ?_
                refine x_iconst (v := 1) dX6_readCondition_168 (by decide) ?_
                refine x_iadd dX6_readCondition_169 ?_
                refine y_putI fp_RX6_53 hz_164 dX6_readCondition_170 ?_
                refine y_letM (fun m32 => ?_)
                refine x_iload_n dX6_readCondition_173 rfl ?_
                refine x_if_eq (tgt := 194) dX6_readCondition_174 (by decide) (fun hc33 => ?_) (fun hc33 => ?_)
                · refine x_iload_n dX6_readCondition_194 rfl ?_
                  refine y_join (fun j35 => Sx ω ω true (Dn + 1) 0 0 kk_Pla_readCondition fI 0 0 m32 203 [none, none, none, none, none] [] j35) ?_ (fun j35 hj35 => ?_)
                  · refine x_iconst (v := 1) dX6_readCondition_203 (by decide) ?_
                    refine x_goto (tgt := 208) dX6_readCondition_204 (by decide) ?_
                    exact x_zret rfl rfl (zBo_nar (by decide)) ⟨(Nat.le_of_ble_eq_true rfl), (Nat.le_of_ble_eq_true rfl)⟩ dX6_readCondition_208
                  · refine x_if_ne (tgt := 203) dX6_readCondition_195 (by decide) (fun hc34 => ?_) (fun hc34 => ?_)
                    · refine x_iload dX6_readCondition_198 rfl ?_
                      refine x_if_eq (tgt := 207) dX6_readCondition_200 (by decide) (fun hc36 => ?_) (fun hc36 => ?_)
                      · refine x_iconst (v := 0) dX6_readCondition_207 (by decide) ?_
                        exact x_zret rfl rfl (zBo_nar (by decide)) ⟨(Nat.le_of_ble_eq_true rfl), (Nat.le_of_ble_eq_true rfl)⟩ dX6_readCondition_208
                      · refine y_mask (bs := [false, false, false, false, false]) (ls' := [none, none, none, none, none]) rfl ?_
                        exact hj35
                    · refine y_mask (bs := [false, false, false, false, false]) (ls' := [none, none, none, none, none]) rfl ?_
                      exact hj35
                · refine x_iload_n dX6_readCondition_177 rfl ?_
                  refine y_join (fun j38 => Sx ω ω true (Dn + 1) 0 0 kk_Pla_readCondition fI 0 0 m32 190 [none, none, none, none, none] [] j38) ?_ (fun j38 hj38 => ?_)
                  · refine x_iconst (v := 0) dX6_readCondition_190 (by decide) ?_
                    refine x_goto (tgt := 208) dX6_readCondition_191 (by decide) ?_
                    exact x_zret rfl rfl (zBo_nar (by decide)) ⟨(Nat.le_of_ble_eq_true rfl), (Nat.le_of_ble_eq_true rfl)⟩ dX6_readCondition_208
                  · refine x_if_eq (tgt := 190) dX6_readCondition_178 (by decide) (fun hc37 => ?_) (fun hc37 => ?_)
                    · refine y_mask (bs := [false, false, false, false, false]) (ls' := [none, none, none, none, none]) rfl ?_
                      exact hj38
                    · refine x_iload dX6_readCondition_181 rfl ?_
                      refine x_if_eq (tgt := 190) dX6_readCondition_183 (by decide) (fun hc39 => ?_) (fun hc39 => ?_)
                      · refine y_mask (bs := [false, false, false, false, false]) (ls' := [none, none, none, none, none]) rfl ?_
                        exact hj38
                      · refine x_iconst (v := 1) dX6_readCondition_186 (by decide) ?_
                        refine x_goto (tgt := 208) dX6_readCondition_187 (by decide) ?_
                        exact x_zret rfl rfl (zBo_nar (by decide)) ⟨(Nat.le_of_ble_eq_true rfl), (Nat.le_of_ble_eq_true rfl)⟩ dX6_readCondition_208
              · refine x_icmp_ne (tgt := 152) dX6_readCondition_145 (by decide) (fun hc27 => ?_) (fun hc27 => ?_)
                · refine x_iconst (v := 1) dX6_readCondition_148 (by decide) ?_
                  refine x_goto (tgt := 153) dX6_readCondition_149 (by decide) ?_
                  exact hj29 _
                · refine x_iconst (v := 0) dX6_readCondition_152 (by decide) ?_
                  exact hj29 _
  · refine x_iconst (v := 0) dX6_readCondition_6 (by decide) ?_
    exact x_zret rfl rfl (zBo_nar (by decide)) ⟨(Nat.le_of_ble_eq_true rfl), (Nat.le_of_ble_eq_true rfl)⟩ dX6_readCondition_7
theorem ct_Pla_all (ω : Wd) : ∀ n : Nat, (∀ (y0 y1 : Int32) (m : Mm), Ev ω true (5 + n) 0 0 yX6_readSteps cX6_readSteps 5 none [.ref (zad ω 164), .int y0, .int y1] m fV ((zP_Pla n).1 y0 y1 m)) ∧ (∀ (y0 y1 : Int32) (m : Mm), Ev ω true (5 + n) 0 0 yX6_readBranch cX6_readBranch 4 none [.ref (zad ω 164), .int y0, .int y1] m fV ((zP_Pla n).2.1 y0 y1 m)) ∧ (∀ (y0 : Int32) (m : Mm), Ev ω true (5 + n) 0 0 yX6_readCondition cX6_readCondition 5 (some .boolean) [.ref (zad ω 164), .int y0] m fI ((zP_Pla n).2.2 y0 m)) := by
  intro n
  induction n with
  | zero => exact ⟨fun _ _ _ r hr => absurd (show none = some r from hr) (fun h => nomatch h), fun _ _ _ r hr => absurd (show none = some r from hr) (fun h => nomatch h), fun _ _ r hr => absurd (show none = some r from hr) (fun h => nomatch h)⟩
  | succ n ih =>
    exact ⟨c_Pla_readSteps ω (5 + n) (Nat.le_add_right _ _) _ (ih.2.1), c_Pla_readBranch ω (5 + n) (Nat.le_add_right _ _) _ (ih.2.2) _ (ih.1), c_Pla_readCondition ω (5 + n) (Nat.le_add_right _ _) _ (ih.2.2)⟩
theorem ct_Pla_readSteps (ω : Wd) : ∀ (y0 y1 : Int32) (m : Mm), Ev ω true (105) 0 0 yX6_readSteps cX6_readSteps 5 none [.ref (zad ω 164), .int y0, .int y1] m fV (f_Pla_readSteps y0 y1 m) := (ct_Pla_all ω 100).1
theorem ct_Pla_readBranch (ω : Wd) : ∀ (y0 y1 : Int32) (m : Mm), Ev ω true (105) 0 0 yX6_readBranch cX6_readBranch 4 none [.ref (zad ω 164), .int y0, .int y1] m fV (f_Pla_readBranch y0 y1 m) := (ct_Pla_all ω 100).2.1
theorem ct_Pla_readCondition (ω : Wd) : ∀ (y0 : Int32) (m : Mm), Ev ω true (105) 0 0 yX6_readCondition cX6_readCondition 5 (some .boolean) [.ref (zad ω 164), .int y0] m fI (f_Pla_readCondition y0 m) := (ct_Pla_all ω 100).2.2
abbrev kk_Pla_readAll : Kx := (yX6_readAll.cls, cX6_readAll, 5, none, [], false)
set_option maxHeartbeats 4000000 in
set_option maxRecDepth 100000 in
theorem c_Pla_readAll (ω : Wd) (p1 : Int32) (p2 : Int32) (m : Mm) : Ev ω true 106 0 0 yX6_readAll cX6_readAll 5 none [.ref (zad ω 164), .int p1, .int p2] m fV (f_Pla_readAll p1 p2 m) := by
  refine Ev.of (b := false) (ls := [some (.ref (zad ω 164)), some (.int p1), some (.int p2), none, none]) (plainFor_of_name (by decide +kernel)) (fun h => by cases h) rfl (Nat.le_of_ble_eq_true rfl) rfl ?_
  change Sx ω ω true 106 0 0 kk_Pla_readAll fV 0 0 m 0 _ _ _
  unfold f_Pla_readAll
  refine x_iconst (v := 0) dX6_readAll_0 (by decide) ?_
  refine x_istore_n (ls' := [some (.ref (zad ω 164)), some (.int p1), some (.int p2), some (.int 0), none]) dX6_readAll_1 (Nat.le_of_ble_eq_true rfl) rfl ?_
  refine y_Lp1 (fun x1 => [some (.ref (zad ω 164)), some (.int p1), some (.int p2), some (.int x1), none]) (fun r2 hr2 x1 m3 => ?_) zFu _ _
  refine x_iload_n dX6_readAll_2 rfl ?_
  refine x_aload_n dX6_readAll_3 rfl ?_
  refine y_getF fl_RX6_29 hz_164 hq_164_0 (by rw [hz_25]; decide) dX6_readAll_4 ?_
  refine y_callVP (rest := [.int x1]) (c1 := 0) (s1 := 0) (c_Alm_size ω m3) mv_RX6_38 hz_25 rfl (Nat.le_of_ble_eq_true rfl) (Nat.le_of_ble_eq_true rfl) (Nat.le_of_ble_eq_true rfl) ⟨rfl, rfl⟩ ⟨(Nat.le_of_ble_eq_true rfl), (Nat.le_of_ble_eq_true rfl)⟩ dX6_readAll_7 (fun v4 => ?_)
  refine x_icmp_ge (tgt := 90) dX6_readAll_10 (by decide) (fun hc5 => ?_) (fun hc5 => ?_)
  · exact x_vret rfl rfl ⟨(Nat.le_of_ble_eq_true rfl), (Nat.le_of_ble_eq_true rfl)⟩ dX6_readAll_90
  · refine x_aload_n dX6_readAll_13 rfl ?_
    refine y_getF fl_RX6_29 hz_164 hq_164_0 (by rw [hz_25]; decide) dX6_readAll_14 ?_
    refine x_iload_n dX6_readAll_17 rfl ?_
    refine y_callVP (rest := []) (c1 := 0) (s1 := 0) (c_Alm_inOrder ω x1 m3) mv_RX6_42 hz_25 rfl (Nat.le_of_ble_eq_true rfl) (Nat.le_of_ble_eq_true rfl) (Nat.le_of_ble_eq_true rfl) ⟨rfl, rfl⟩ ⟨(Nat.le_of_ble_eq_true rfl), (Nat.le_of_ble_eq_true rfl)⟩ dX6_readAll_18 (fun v6 => ?_)
    refine x_istore (ls' := [some (.ref (zad ω 164)), some (.int p1), some (.int p2), some (.int x1), some (.int v6)]) dX6_readAll_21 (Nat.le_of_ble_eq_true rfl) rfl ?_
    refine x_aload_n dX6_readAll_23 rfl ?_
    refine y_getF fl_RX6_14 hz_164 hq_164_1 (by rw [hz_165]; decide) dX6_readAll_24 ?_
    refine x_iload_n dX6_readAll_27 rfl ?_
    refine x_iload_n dX6_readAll_28 rfl ?_
    refine y_callVV (rest := []) (c1 := 0) (s1 := 0) (c_Wal_enter ω 165 hz_165 p1 p2 m3) mv_RX6_46 hz_165 rfl (Nat.le_of_ble_eq_true rfl) (Nat.le_of_ble_eq_true rfl) (Nat.le_of_ble_eq_true rfl) ⟨rfl, rfl⟩ ⟨(Nat.le_of_ble_eq_true rfl), (Nat.le_of_ble_eq_true rfl)⟩ dX6_readAll_29 (fun m7 => ?_)
    refine x_aload_n dX6_readAll_32 rfl ?_
    refine x_aload_n dX6_readAll_33 rfl ?_
    refine y_getF fl_RX6_29 hz_164 hq_164_0 (by rw [hz_25]; decide) dX6_readAll_34 ?_
    refine x_iload dX6_readAll_37 rfl ?_
    refine y_callVQ (c9 := 8) (rest := [.ref (zad ω 164)]) (c1 := 0) (s1 := 0) (c_Alm_rule ω v6 m7) mv_RX6_50 hz_25 rfl (Nat.le_of_ble_eq_true rfl) (Nat.le_of_ble_eq_true rfl) (Nat.le_of_ble_eq_true rfl) ⟨rfl, rfl⟩ ⟨(Nat.le_of_ble_eq_true rfl), (Nat.le_of_ble_eq_true rfl)⟩ dX6_readAll_39 (fun q8 hq8 => ?_)
    refine y_putR fp_RX6_34 hz_164 (by rw [hq8]; decide) (by decide +kernel) dX6_readAll_42 ?_
    refine y_letM (fun m9 => ?_)
    refine x_aload_n dX6_readAll_45 rfl ?_
    refine x_iconst (v := 0) dX6_readAll_46 (by decide) ?_
    refine y_putI fp_RX6_53 hz_164 dX6_readAll_47 ?_
    refine y_letM (fun m10 => ?_)
    refine x_aload_n dX6_readAll_50 rfl ?_
    refine y_callVV (rest := []) (c1 := 0) (s1 := 0) (c_Pla_readStart ω m10) mv_RX6_57 hz_164 rfl (Nat.le_of_ble_eq_true rfl) (Nat.le_of_ble_eq_true rfl) (Nat.le_of_ble_eq_true rfl) ⟨rfl, rfl⟩ ⟨(Nat.le_of_ble_eq_true rfl), (Nat.le_of_ble_eq_true rfl)⟩ dX6_readAll_51 (fun m11 => ?_)
    refine x_aload_n dX6_readAll_54 rfl ?_
    refine x_iconst (v := 1) dX6_readAll_55 (by decide) ?_
    refine x_iconst (v := 0) dX6_readAll_56 (by decide) ?_
    refine y_callVV (rest := []) (c1 := 0) (s1 := 0) (ct_Pla_readSteps ω 1 0 m11) mv_RX6_60 hz_164 rfl (Nat.le_of_ble_eq_true rfl) (Nat.le_of_ble_eq_true rfl) (Nat.le_of_ble_eq_true rfl) ⟨rfl, rfl⟩ ⟨(Nat.le_of_ble_eq_true rfl), (Nat.le_of_ble_eq_true rfl)⟩ dX6_readAll_57 (fun m12 => ?_)
    refine x_aload_n dX6_readAll_60 rfl ?_
    refine y_getF fl_RX6_22 hz_164 hq_164_2 (by rw [hz_166]; decide) dX6_readAll_61 ?_
    refine x_iload dX6_readAll_64 rfl ?_
    refine x_aload_n dX6_readAll_66 rfl ?_
    refine y_getF fl_RX6_29 hz_164 hq_164_0 (by rw [hz_25]; decide) dX6_readAll_67 ?_
    refine x_iload dX6_readAll_70 rfl ?_
    refine x_iload_n dX6_readAll_72 rfl ?_
    refine x_aload_n dX6_readAll_73 rfl ?_
    refine y_getF fl_RX6_14 hz_164 hq_164_1 (by rw [hz_165]; decide) dX6_readAll_74 ?_
    refine y_callVP (rest := [.int p1, .int v6, .ref (zad ω 25), .int v6, .ref (zad ω 166)]) (c1 := 0) (s1 := 0) (c_Wal_today ω 165 hz_165 m12) mv_RX6_64 hz_165 rfl (Nat.le_of_ble_eq_true rfl) (Nat.le_of_ble_eq_true rfl) (Nat.le_of_ble_eq_true rfl) ⟨rfl, rfl⟩ ⟨(Nat.le_of_ble_eq_true rfl), (Nat.le_of_ble_eq_true rfl)⟩ dX6_readAll_77 (fun v13 => ?_)
    refine y_callVP (rest := [.int v6, .ref (zad ω 166)]) (c1 := 0) (s1 := 0) (c_Alm_bend ω v6 p1 v13 m12) mv_RX6_67 hz_25 rfl (Nat.le_of_ble_eq_true rfl) (Nat.le_of_ble_eq_true rfl) (Nat.le_of_ble_eq_true rfl) ⟨rfl, rfl⟩ ⟨(Nat.le_of_ble_eq_true rfl), (Nat.le_of_ble_eq_true rfl)⟩ dX6_readAll_80 (fun v14 => ?_)
    refine y_iast hz_166 hn_166 dX6_readAll_83 (fun hi => ?_)
    refine y_letM (fun m15 => ?_)
    refine y_iinc (w := 1) dX6_readAll_84 rfl (by decide) (Nat.le_of_ble_eq_true rfl) (fun x16 => ?_)
    refine x_goto (tgt := 2) dX6_readAll_87 (by decide) ?_
    refine y_mask (bs := [true, true, true, true, false]) (ls' := [some (.ref (zad ω 164)), some (.int p1), some (.int p2), some (.int x16), none]) rfl ?_
    exact hr2 _ _
abbrev kk_Pla_asksFor : Kx := (yX6_asksFor.cls, cX6_asksFor, 5, (some .boolean), [], false)
set_option maxHeartbeats 4000000 in
set_option maxRecDepth 100000 in
theorem c_Pla_asksFor (ω : Wd) (p1 : Int32) (p2 : Int32) (m : Mm) : Ev ω true 2 0 0 yX6_asksFor cX6_asksFor 5 (some .boolean) [.ref (zad ω 164), .int p1, .int p2] m (fP m) (f_Pla_asksFor p1 p2 m) := by
  refine Ev.of (b := false) (ls := [some (.ref (zad ω 164)), some (.int p1), some (.int p2), none, none]) (plainFor_of_name (by decide +kernel)) (fun h => by cases h) rfl (Nat.le_of_ble_eq_true rfl) rfl ?_
  change Sx ω ω true 2 0 0 kk_Pla_asksFor (fP m) 0 0 m 0 _ _ _
  unfold f_Pla_asksFor
  refine x_aload_n dX6_asksFor_0 rfl ?_
  refine y_getF fl_RX6_22 hz_164 hq_164_2 (by rw [hz_166]; decide) dX6_asksFor_1 ?_
  refine x_iload_n dX6_asksFor_4 rfl ?_
  refine y_iald hz_166 hn_166 dX6_asksFor_5 (fun hi => ?_)
  refine y_letI (fun x1 => ?_)
  refine x_istore_n (ls' := [some (.ref (zad ω 164)), some (.int p1), some (.int p2), some (.int x1), none]) dX6_asksFor_6 (Nat.le_of_ble_eq_true rfl) rfl ?_
  refine x_iload_n dX6_asksFor_7 rfl ?_
  refine x_iconst (v := (-1)) dX6_asksFor_8 (by decide) ?_
  refine x_icmp_eq (tgt := 22) dX6_asksFor_9 (by decide) (fun hc2 => ?_) (fun hc2 => ?_)
  · refine x_iconst (v := 0) dX6_asksFor_22 (by decide) ?_
    exact x_zret rfl rfl (zBo_nar (by decide)) ⟨(Nat.le_of_ble_eq_true rfl), (Nat.le_of_ble_eq_true rfl)⟩ dX6_asksFor_23
  · refine x_aload_n dX6_asksFor_12 rfl ?_
    refine y_getF fl_RX6_26 hz_164 hq_164_3 (by rw [hz_167]; decide) dX6_asksFor_13 ?_
    refine x_iload_n dX6_asksFor_16 rfl ?_
    refine y_iald hz_167 hn_167 dX6_asksFor_17 (fun hi => ?_)
    refine x_iconst (v := (-1)) dX6_asksFor_18 (by decide) ?_
    refine x_icmp_eq (tgt := 24) dX6_asksFor_19 (by decide) (fun hc3 => ?_) (fun hc3 => ?_)
    · refine x_aload_n dX6_asksFor_24 rfl ?_
      refine y_getF fl_RX6_29 hz_164 hq_164_0 (by rw [hz_25]; decide) dX6_asksFor_25 ?_
      refine x_iload_n dX6_asksFor_28 rfl ?_
      refine y_callVP (rest := []) (c1 := 0) (s1 := 0) (c_Alm_canMove ω p1 m) mv_RX6_165 hz_25 rfl (Nat.le_of_ble_eq_true rfl) (Nat.le_of_ble_eq_true rfl) (Nat.le_of_ble_eq_true rfl) ⟨rfl, rfl⟩ ⟨(Nat.le_of_ble_eq_true rfl), (Nat.le_of_ble_eq_true rfl)⟩ dX6_asksFor_29 (fun v4 => ?_)
      refine y_join (fun j7 => ∀ (x6 : Int32), Sx ω ω true 2 0 0 kk_Pla_asksFor (fP m) 0 0 m 43 [none, none, some (.int p2), some (.int x1), none] [.int x6] (j7 x6)) ?_ (fun j7 hj7 => ?_)
      · intro x6
        refine x_istore (ls' := [none, none, some (.int p2), some (.int x1), some (.int x6)]) dX6_asksFor_43 (Nat.le_of_ble_eq_true rfl) rfl ?_
        refine x_iload_n dX6_asksFor_45 rfl ?_
        refine x_iload_n dX6_asksFor_46 rfl ?_
        refine y_join (fun j9 => Sx ω ω true 2 0 0 kk_Pla_asksFor (fP m) 0 0 m 60 [none, none, none, none, none] [] j9) ?_ (fun j9 hj9 => ?_)
        · refine x_iconst (v := 0) dX6_asksFor_60 (by decide) ?_
          exact x_zret rfl rfl (zBo_nar (by decide)) ⟨(Nat.le_of_ble_eq_true rfl), (Nat.le_of_ble_eq_true rfl)⟩ dX6_asksFor_61
        · refine x_icmp_lt (tgt := 60) dX6_asksFor_47 (by decide) (fun hc8 => ?_) (fun hc8 => ?_)
          · refine y_mask (bs := [false, false, false, false, false]) (ls' := [none, none, none, none, none]) rfl ?_
            exact hj9
          · refine x_iload_n dX6_asksFor_50 rfl ?_
            refine x_iload dX6_asksFor_51 rfl ?_
            refine x_icmp_gt (tgt := 60) dX6_asksFor_53 (by decide) (fun hc10 => ?_) (fun hc10 => ?_)
            · refine y_mask (bs := [false, false, false, false, false]) (ls' := [none, none, none, none, none]) rfl ?_
              exact hj9
            · refine x_iconst (v := 1) dX6_asksFor_56 (by decide) ?_
              refine x_goto (tgt := 61) dX6_asksFor_57 (by decide) ?_
              exact x_zret rfl rfl (zBo_nar (by decide)) ⟨(Nat.le_of_ble_eq_true rfl), (Nat.le_of_ble_eq_true rfl)⟩ dX6_asksFor_61
      · refine x_if_eq (tgt := 42) dX6_asksFor_32 (by decide) (fun hc5 => ?_) (fun hc5 => ?_)
        · refine x_iload_n dX6_asksFor_42 rfl ?_
          refine y_mask (bs := [false, false, true, true, false]) (ls' := [none, none, some (.int p2), some (.int x1), none]) rfl ?_
          exact hj7 _
        · refine x_iload_n dX6_asksFor_35 rfl ?_
          refine x_bipush (v := 20) dX6_asksFor_36 (by decide) ?_
          refine x_iadd dX6_asksFor_38 ?_
          refine x_goto (tgt := 43) dX6_asksFor_39 (by decide) ?_
          refine y_mask (bs := [false, false, true, true, false]) (ls' := [none, none, some (.int p2), some (.int x1), none]) rfl ?_
          exact hj7 _
    · refine x_iconst (v := 0) dX6_asksFor_22 (by decide) ?_
      exact x_zret rfl rfl (zBo_nar (by decide)) ⟨(Nat.le_of_ble_eq_true rfl), (Nat.le_of_ble_eq_true rfl)⟩ dX6_asksFor_23
abbrev kk_Pla_bestOn : Kx := (yX6_bestOn.cls, cX6_bestOn, 4, (some .int), [], false)
set_option maxHeartbeats 4000000 in
set_option maxRecDepth 100000 in
theorem c_Pla_bestOn (ω : Wd) (p1 : Int32) (m : Mm) : Ev ω true 3 0 0 yX6_bestOn cX6_bestOn 4 (some .int) [.ref (zad ω 164), .int p1] m (fP m) (f_Pla_bestOn p1 m) := by
  refine Ev.of (b := false) (ls := [some (.ref (zad ω 164)), some (.int p1), none, none]) (plainFor_of_name (by decide +kernel)) (fun h => by cases h) rfl (Nat.le_of_ble_eq_true rfl) rfl ?_
  change Sx ω ω true 3 0 0 kk_Pla_bestOn (fP m) 0 0 m 0 _ _ _
  unfold f_Pla_bestOn
  refine x_iconst (v := (-1)) dX6_bestOn_0 (by decide) ?_
  refine x_istore_n (ls' := [some (.ref (zad ω 164)), some (.int p1), some (.int (-1)), none]) dX6_bestOn_1 (Nat.le_of_ble_eq_true rfl) rfl ?_
  refine x_iconst (v := 0) dX6_bestOn_2 (by decide) ?_
  refine x_istore_n (ls' := [some (.ref (zad ω 164)), some (.int p1), some (.int (-1)), some (.int 0)]) dX6_bestOn_3 (Nat.le_of_ble_eq_true rfl) rfl ?_
  refine y_Lq2 (fun x1 x2 => [some (.ref (zad ω 164)), some (.int p1), some (.int x1), some (.int x2)]) (fun r3 hr3 x1 x2 => ?_) zFu _ _
  refine x_iload_n dX6_bestOn_4 rfl ?_
  refine x_aload_n dX6_bestOn_5 rfl ?_
  refine y_getF fl_RX6_29 hz_164 hq_164_0 (by rw [hz_25]; decide) dX6_bestOn_6 ?_
  refine y_callVP (rest := [.int x2]) (c1 := 0) (s1 := 0) (c_Alm_size ω m) mv_RX6_38 hz_25 rfl (Nat.le_of_ble_eq_true rfl) (Nat.le_of_ble_eq_true rfl) (Nat.le_of_ble_eq_true rfl) ⟨rfl, rfl⟩ ⟨(Nat.le_of_ble_eq_true rfl), (Nat.le_of_ble_eq_true rfl)⟩ dX6_bestOn_9 (fun v4 => ?_)
  refine x_icmp_ge (tgt := 56) dX6_bestOn_12 (by decide) (fun hc5 => ?_) (fun hc5 => ?_)
  · refine x_iload_n dX6_bestOn_56 rfl ?_
    exact x_iret rfl rfl ⟨(Nat.le_of_ble_eq_true rfl), (Nat.le_of_ble_eq_true rfl)⟩ dX6_bestOn_57
  · refine x_aload_n dX6_bestOn_15 rfl ?_
    refine x_iload_n dX6_bestOn_16 rfl ?_
    refine x_iload_n dX6_bestOn_17 rfl ?_
    refine y_callVP (rest := []) (c1 := 0) (s1 := 0) (c_Pla_asksFor ω x2 p1 m) mv_RX6_158 hz_164 rfl (Nat.le_of_ble_eq_true rfl) (Nat.le_of_ble_eq_true rfl) (Nat.le_of_ble_eq_true rfl) ⟨rfl, rfl⟩ ⟨(Nat.le_of_ble_eq_true rfl), (Nat.le_of_ble_eq_true rfl)⟩ dX6_bestOn_18 (fun v6 => ?_)
    refine y_join (fun j9 => ∀ (x8 : Int32), Sx ω ω true 3 0 0 kk_Pla_bestOn (fP m) 0 0 m 50 [some (.ref (zad ω 164)), some (.int p1), some (.int x8), some (.int x2)] [] (j9 x8)) ?_ (fun j9 hj9 => ?_)
    · intro x8
      refine y_iinc (w := 1) dX6_bestOn_50 rfl (by decide) (Nat.le_of_ble_eq_true rfl) (fun x10 => ?_)
      refine x_goto (tgt := 4) dX6_bestOn_53 (by decide) ?_
      exact hr3 _ _
    · refine x_if_eq (tgt := 50) dX6_bestOn_21 (by decide) (fun hc7 => ?_) (fun hc7 => ?_)
      · exact hj9 _
      · refine x_iload_n dX6_bestOn_24 rfl ?_
        refine x_iconst (v := (-1)) dX6_bestOn_25 (by decide) ?_
        refine y_join (fun j12 => Sx ω ω true 3 0 0 kk_Pla_bestOn (fP m) 0 0 m 48 [some (.ref (zad ω 164)), some (.int p1), none, some (.int x2)] [] j12) ?_ (fun j12 hj12 => ?_)
        · refine x_iload_n dX6_bestOn_48 rfl ?_
          refine x_istore_n (ls' := [some (.ref (zad ω 164)), some (.int p1), some (.int x2), some (.int x2)]) dX6_bestOn_49 (Nat.le_of_ble_eq_true rfl) rfl ?_
          exact hj9 _
        · refine x_icmp_eq (tgt := 48) dX6_bestOn_26 (by decide) (fun hc11 => ?_) (fun hc11 => ?_)
          · refine y_mask (bs := [true, true, false, true]) (ls' := [some (.ref (zad ω 164)), some (.int p1), none, some (.int x2)]) rfl ?_
            exact hj12
          · refine x_aload_n dX6_bestOn_29 rfl ?_
            refine y_getF fl_RX6_29 hz_164 hq_164_0 (by rw [hz_25]; decide) dX6_bestOn_30 ?_
            refine x_iload_n dX6_bestOn_33 rfl ?_
            refine y_callVP (rest := []) (c1 := 0) (s1 := 0) (c_Alm_rankOf ω x2 m) mv_RX6_162 hz_25 rfl (Nat.le_of_ble_eq_true rfl) (Nat.le_of_ble_eq_true rfl) (Nat.le_of_ble_eq_true rfl) ⟨rfl, rfl⟩ ⟨(Nat.le_of_ble_eq_true rfl), (Nat.le_of_ble_eq_true rfl)⟩ dX6_bestOn_34 (fun v13 => ?_)
            refine x_aload_n dX6_bestOn_37 rfl ?_
            refine y_getF fl_RX6_29 hz_164 hq_164_0 (by rw [hz_25]; decide) dX6_bestOn_38 ?_
            refine x_iload_n dX6_bestOn_41 rfl ?_
            refine y_callVP (rest := [.int v13]) (c1 := 0) (s1 := 0) (c_Alm_rankOf ω x1 m) mv_RX6_162 hz_25 rfl (Nat.le_of_ble_eq_true rfl) (Nat.le_of_ble_eq_true rfl) (Nat.le_of_ble_eq_true rfl) ⟨rfl, rfl⟩ ⟨(Nat.le_of_ble_eq_true rfl), (Nat.le_of_ble_eq_true rfl)⟩ dX6_bestOn_42 (fun v14 => ?_)
            refine x_icmp_le (tgt := 50) dX6_bestOn_45 (by decide) (fun hc15 => ?_) (fun hc15 => ?_)
            · exact hj9 _
            · refine y_mask (bs := [true, true, false, true]) (ls' := [some (.ref (zad ω 164)), some (.int p1), none, some (.int x2)]) rfl ?_
              exact hj12
abbrev kk_Pla_goThroughDays : Kx := (yX6_goThroughDays.cls, cX6_goThroughDays, 5, none, [], false)
set_option maxHeartbeats 4000000 in
set_option maxRecDepth 100000 in
theorem c_Pla_goThroughDays (ω : Wd) (p1 : Int32) (m : Mm) : Ev ω true 4 0 0 yX6_goThroughDays cX6_goThroughDays 5 none [.ref (zad ω 164), .int p1] m fV (f_Pla_goThroughDays p1 m) := by
  refine Ev.of (b := false) (ls := [some (.ref (zad ω 164)), some (.int p1), none, none, none]) (plainFor_of_name (by decide +kernel)) (fun h => by cases h) rfl (Nat.le_of_ble_eq_true rfl) rfl ?_
  change Sx ω ω true 4 0 0 kk_Pla_goThroughDays fV 0 0 m 0 _ _ _
  unfold f_Pla_goThroughDays
  refine x_iconst (v := 0) dX6_goThroughDays_0 (by decide) ?_
  refine x_istore_n (ls' := [some (.ref (zad ω 164)), some (.int p1), some (.int 0), none, none]) dX6_goThroughDays_1 (Nat.le_of_ble_eq_true rfl) rfl ?_
  refine y_Lp1 (fun x1 => [some (.ref (zad ω 164)), some (.int p1), some (.int x1), none, none]) (fun r2 hr2 x1 m3 => ?_) zFu _ _
  refine x_iload_n dX6_goThroughDays_2 rfl ?_
  refine x_aload_n dX6_goThroughDays_3 rfl ?_
  refine y_getF fl_RX6_29 hz_164 hq_164_0 (by rw [hz_25]; decide) dX6_goThroughDays_4 ?_
  refine y_callVP (rest := [.int x1]) (c1 := 0) (s1 := 0) (c_Alm_size ω m3) mv_RX6_38 hz_25 rfl (Nat.le_of_ble_eq_true rfl) (Nat.le_of_ble_eq_true rfl) (Nat.le_of_ble_eq_true rfl) ⟨rfl, rfl⟩ ⟨(Nat.le_of_ble_eq_true rfl), (Nat.le_of_ble_eq_true rfl)⟩ dX6_goThroughDays_7 (fun v4 => ?_)
  refine x_icmp_ge (tgt := 26) dX6_goThroughDays_10 (by decide) (fun hc5 => ?_) (fun hc5 => ?_)
  · refine x_iload_n dX6_goThroughDays_26 rfl ?_
    refine y_callSP (rest := []) (c1 := 0) (s1 := 0) (c_Cal_lengthOf ω p1 m3) ms_RX6_150 rfl (Nat.le_of_ble_eq_true rfl) (Nat.le_of_ble_eq_true rfl) (Nat.le_of_ble_eq_true rfl) ⟨rfl, rfl⟩ ⟨(Nat.le_of_ble_eq_true rfl), (Nat.le_of_ble_eq_true rfl)⟩ dX6_goThroughDays_27 (fun v6 => ?_)
    refine x_istore_n (ls' := [some (.ref (zad ω 164)), some (.int p1), some (.int v6), none, none]) dX6_goThroughDays_30 (Nat.le_of_ble_eq_true rfl) rfl ?_
    refine x_iconst (v := 0) dX6_goThroughDays_31 (by decide) ?_
    refine x_istore_n (ls' := [some (.ref (zad ω 164)), some (.int p1), some (.int v6), some (.int 0), none]) dX6_goThroughDays_32 (Nat.le_of_ble_eq_true rfl) rfl ?_
    refine y_mask (bs := [true, false, true, true, false]) (ls' := [some (.ref (zad ω 164)), none, some (.int v6), some (.int 0), none]) rfl ?_
    refine y_Lp1 (fun x7 => [some (.ref (zad ω 164)), none, some (.int v6), some (.int x7), none]) (fun r8 hr8 x7 m9 => ?_) zFu _ _
    refine x_iload_n dX6_goThroughDays_33 rfl ?_
    refine x_iload_n dX6_goThroughDays_34 rfl ?_
    refine x_icmp_ge (tgt := 65) dX6_goThroughDays_35 (by decide) (fun hc10 => ?_) (fun hc10 => ?_)
    · exact x_vret rfl rfl ⟨(Nat.le_of_ble_eq_true rfl), (Nat.le_of_ble_eq_true rfl)⟩ dX6_goThroughDays_65
    · refine x_aload_n dX6_goThroughDays_38 rfl ?_
      refine x_iload_n dX6_goThroughDays_39 rfl ?_
      refine y_callVP (rest := []) (c1 := 0) (s1 := 0) (c_Pla_bestOn ω x7 m9) mv_RX6_155 hz_164 rfl (Nat.le_of_ble_eq_true rfl) (Nat.le_of_ble_eq_true rfl) (Nat.le_of_ble_eq_true rfl) ⟨rfl, rfl⟩ ⟨(Nat.le_of_ble_eq_true rfl), (Nat.le_of_ble_eq_true rfl)⟩ dX6_goThroughDays_40 (fun v11 => ?_)
      refine x_istore (ls' := [some (.ref (zad ω 164)), none, some (.int v6), some (.int x7), some (.int v11)]) dX6_goThroughDays_43 (Nat.le_of_ble_eq_true rfl) rfl ?_
      refine x_iload dX6_goThroughDays_45 rfl ?_
      refine x_iconst (v := (-1)) dX6_goThroughDays_47 (by decide) ?_
      refine y_join (fun j14 => ∀ (m13 : Mm), Sx ω ω true 4 0 0 kk_Pla_goThroughDays fV 0 0 m13 59 [some (.ref (zad ω 164)), none, some (.int v6), some (.int x7), none] [] (j14 m13)) ?_ (fun j14 hj14 => ?_)
      · intro m13
        refine y_iinc (w := 1) dX6_goThroughDays_59 rfl (by decide) (Nat.le_of_ble_eq_true rfl) (fun x15 => ?_)
        refine x_goto (tgt := 33) dX6_goThroughDays_62 (by decide) ?_
        exact hr8 _ _
      · refine x_icmp_eq (tgt := 59) dX6_goThroughDays_48 (by decide) (fun hc12 => ?_) (fun hc12 => ?_)
        · refine y_mask (bs := [true, false, true, true, false]) (ls' := [some (.ref (zad ω 164)), none, some (.int v6), some (.int x7), none]) rfl ?_
          exact hj14 _
        · refine x_aload_n dX6_goThroughDays_51 rfl ?_
          refine y_getF fl_RX6_26 hz_164 hq_164_3 (by rw [hz_167]; decide) dX6_goThroughDays_52 ?_
          refine x_iload dX6_goThroughDays_55 rfl ?_
          refine x_iload_n dX6_goThroughDays_57 rfl ?_
          refine y_iast hz_167 hn_167 dX6_goThroughDays_58 (fun hi => ?_)
          refine y_letM (fun m16 => ?_)
          refine y_mask (bs := [true, false, true, true, false]) (ls' := [some (.ref (zad ω 164)), none, some (.int v6), some (.int x7), none]) rfl ?_
          exact hj14 _
  · refine x_aload_n dX6_goThroughDays_13 rfl ?_
    refine y_getF fl_RX6_26 hz_164 hq_164_3 (by rw [hz_167]; decide) dX6_goThroughDays_14 ?_
    refine x_iload_n dX6_goThroughDays_17 rfl ?_
    refine x_iconst (v := (-1)) dX6_goThroughDays_18 (by decide) ?_
    refine y_iast hz_167 hn_167 dX6_goThroughDays_19 (fun hi => ?_)
    refine y_letM (fun m17 => ?_)
    refine y_iinc (w := 1) dX6_goThroughDays_20 rfl (by decide) (Nat.le_of_ble_eq_true rfl) (fun x18 => ?_)
    refine x_goto (tgt := 2) dX6_goThroughDays_23 (by decide) ?_
    exact hr2 _ _
abbrev kk_Pla_placedDay : Kx := (yX6_placedDay.cls, cX6_placedDay, 2, (some .int), [], false)
set_option maxHeartbeats 4000000 in
set_option maxRecDepth 100000 in
theorem c_Pla_placedDay (ω : Wd) (p1 : Int32) (m : Mm) : Ev ω true 1 0 0 yX6_placedDay cX6_placedDay 2 (some .int) [.ref (zad ω 164), .int p1] m (fP m) (f_Pla_placedDay p1 m) := by
  refine Ev.of (b := false) (ls := [some (.ref (zad ω 164)), some (.int p1)]) (plainFor_of_name (by decide +kernel)) (fun h => by cases h) rfl (Nat.le_of_ble_eq_true rfl) rfl ?_
  change Sx ω ω true 1 0 0 kk_Pla_placedDay (fP m) 0 0 m 0 _ _ _
  unfold f_Pla_placedDay
  refine x_iload_n dX6_placedDay_0 rfl ?_
  refine y_join (fun j2 => Sx ω ω true 1 0 0 kk_Pla_placedDay (fP m) 0 0 m 22 [none, none] [] j2) ?_ (fun j2 hj2 => ?_)
  · refine x_iconst (v := (-1)) dX6_placedDay_22 (by decide) ?_
    exact x_iret rfl rfl ⟨(Nat.le_of_ble_eq_true rfl), (Nat.le_of_ble_eq_true rfl)⟩ dX6_placedDay_23
  · refine x_if_lt (tgt := 22) dX6_placedDay_1 (by decide) (fun hc1 => ?_) (fun hc1 => ?_)
    · refine y_mask (bs := [false, false]) (ls' := [none, none]) rfl ?_
      exact hj2
    · refine x_iload_n dX6_placedDay_4 rfl ?_
      refine x_aload_n dX6_placedDay_5 rfl ?_
      refine y_getF fl_RX6_26 hz_164 hq_164_3 (by rw [hz_167]; decide) dX6_placedDay_6 ?_
      refine y_alen (t0 := 0) (v := 20) (by decide) hz_167 hn_167 (by decide) dX6_placedDay_9 ?_
      refine x_icmp_ge (tgt := 22) dX6_placedDay_10 (by decide) (fun hc3 => ?_) (fun hc3 => ?_)
      · refine y_mask (bs := [false, false]) (ls' := [none, none]) rfl ?_
        exact hj2
      · refine x_aload_n dX6_placedDay_13 rfl ?_
        refine y_getF fl_RX6_26 hz_164 hq_164_3 (by rw [hz_167]; decide) dX6_placedDay_14 ?_
        refine x_iload_n dX6_placedDay_17 rfl ?_
        refine y_iald hz_167 hn_167 dX6_placedDay_18 (fun hi => ?_)
        refine x_goto (tgt := 23) dX6_placedDay_19 (by decide) ?_
        exact x_iret rfl rfl ⟨(Nat.le_of_ble_eq_true rfl), (Nat.le_of_ble_eq_true rfl)⟩ dX6_placedDay_23
