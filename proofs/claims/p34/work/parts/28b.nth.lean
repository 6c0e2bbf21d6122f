abbrev kn_Loo_checkYear : Kx := (yX11_checkYear.cls, cX11_checkYear, 1, none, [], false)
set_option maxHeartbeats 4000000 in
set_option maxRecDepth 100000 in
theorem cn_Loo_checkYear (ω : Wd) (p1 : Int32) (m : Mm) : Ev ω true 8 0 0 yX11_checkYear cX11_checkYear 1 none [.int p1] m fV (n_Loo_checkYear p1 m) := by
  refine Ev.of (b := false) (ls := [some (.int p1)]) (plainFor_of_name (by decide +kernel)) (fun h => by cases h) rfl (Nat.le_of_ble_eq_true rfl) rfl ?_
  change Sx ω ω true 8 0 0 kn_Loo_checkYear fV 0 0 m 0 _ _ _
  unfold n_Loo_checkYear
  refine x_iload_n dX11_checkYear_0 rfl ?_
  refine y_join (fun j2 => Sx ω ω true 8 0 0 kn_Loo_checkYear fV 0 0 m 11 [none] [] j2) ?_ (fun j2 hj2 => ?_)
  · exact x_none
  · refine x_if_lt (tgt := 11) dX11_checkYear_1 (by decide) (fun hc1 => ?_) (fun hc1 => ?_)
    · refine y_mask (bs := [false]) (ls' := [none]) rfl ?_
      exact hj2
    · refine x_iload_n dX11_checkYear_4 rfl ?_
      refine x_sipush (v := 399) dX11_checkYear_5 (by decide) ?_
      refine x_icmp_le (tgt := 22) dX11_checkYear_8 (by decide) (fun hc3 => ?_) (fun hc3 => ?_)
      · exact x_vret rfl rfl ⟨(Nat.le_of_ble_eq_true rfl), (Nat.le_of_ble_eq_true rfl)⟩ dX11_checkYear_22
      · refine y_mask (bs := [false]) (ls' := [none]) rfl ?_
        exact hj2
abbrev kn_Loo_begin : Kx := (yX11_begin.cls, cX11_begin, 2, (some .int), [], false)
set_option maxHeartbeats 4000000 in
set_option maxRecDepth 100000 in
theorem cn_Loo_begin (ω : Wd) (p1 : Int32) (m : Mm) : Ev ω true 9 0 0 yX11_begin cX11_begin 2 (some .int) [.ref (zad ω 16), .int p1] m fI (n_Loo_begin p1 m) := by
  refine Ev.of (b := false) (ls := [some (.ref (zad ω 16)), some (.int p1)]) (plainFor_of_name (by decide +kernel)) (fun h => by cases h) rfl (Nat.le_of_ble_eq_true rfl) rfl ?_
  change Sx ω ω true 9 0 0 kn_Loo_begin fI 0 0 m 0 _ _ _
  unfold n_Loo_begin
  refine x_iload_n dX11_begin_0 rfl ?_
  refine y_callSV (rest := []) (c1 := 0) (s1 := 0) (cn_Loo_checkYear ω p1 m) ms_RX11_67 rfl (Nat.le_of_ble_eq_true rfl) (Nat.le_of_ble_eq_true rfl) (Nat.le_of_ble_eq_true rfl) ⟨rfl, rfl⟩ ⟨(Nat.le_of_ble_eq_true rfl), (Nat.le_of_ble_eq_true rfl)⟩ dX11_begin_1 (fun m1 => ?_)
  refine x_iload_n dX11_begin_4 rfl ?_
  refine y_callSP (rest := []) (c1 := 0) (s1 := 0) (c_Cal_firstDayOf ω p1 m1) ms_RX11_71 rfl (Nat.le_of_ble_eq_true rfl) (Nat.le_of_ble_eq_true rfl) (Nat.le_of_ble_eq_true rfl) ⟨rfl, rfl⟩ ⟨(Nat.le_of_ble_eq_true rfl), (Nat.le_of_ble_eq_true rfl)⟩ dX11_begin_5 (fun v2 => ?_)
  exact x_iret rfl rfl ⟨(Nat.le_of_ble_eq_true rfl), (Nat.le_of_ble_eq_true rfl)⟩ dX11_begin_8
abbrev kn_Loo_date : Kx := (yX11_date.cls, cX11_date, 3, (some .int), [], false)
set_option maxHeartbeats 4000000 in
set_option maxRecDepth 100000 in
theorem cn_Loo_date (ω : Wd) (p1 : Int32) (p2 : Int32) (m : Mm) : Ev ω true 9 0 0 yX11_date cX11_date 3 (some .int) [.ref (zad ω 16), .int p1, .int p2] m fI (n_Loo_date p1 p2 m) := by
  refine Ev.of (b := false) (ls := [some (.ref (zad ω 16)), some (.int p1), some (.int p2)]) (plainFor_of_name (by decide +kernel)) (fun h => by cases h) rfl (Nat.le_of_ble_eq_true rfl) rfl ?_
  change Sx ω ω true 9 0 0 kn_Loo_date fI 0 0 m 0 _ _ _
  unfold n_Loo_date
  refine x_iload_n dX11_date_0 rfl ?_
  refine y_callSV (rest := []) (c1 := 0) (s1 := 0) (cn_Loo_checkYear ω p1 m) ms_RX11_67 rfl (Nat.le_of_ble_eq_true rfl) (Nat.le_of_ble_eq_true rfl) (Nat.le_of_ble_eq_true rfl) ⟨rfl, rfl⟩ ⟨(Nat.le_of_ble_eq_true rfl), (Nat.le_of_ble_eq_true rfl)⟩ dX11_date_1 (fun m1 => ?_)
  refine x_iload_n dX11_date_4 rfl ?_
  refine y_join (fun j3 => Sx ω ω true 9 0 0 kn_Loo_date fI 0 0 m1 15 [none, none, none] [] j3) ?_ (fun j3 hj3 => ?_)
  · exact x_none
  · refine x_if_lt (tgt := 15) dX11_date_5 (by decide) (fun hc2 => ?_) (fun hc2 => ?_)
    · refine y_mask (bs := [false, false, false]) (ls' := [none, none, none]) rfl ?_
      exact hj3
    · refine x_iload_n dX11_date_8 rfl ?_
      refine x_sipush (v := 365) dX11_date_9 (by decide) ?_
      refine x_icmp_le (tgt := 25) dX11_date_12 (by decide) (fun hc4 => ?_) (fun hc4 => ?_)
      · refine x_iload_n dX11_date_25 rfl ?_
        refine x_iload_n dX11_date_26 rfl ?_
        refine y_callSP (rest := []) (c1 := 0) (s1 := 0) (c_Cal_dateOf ω p1 p2 m1) ms_RX11_84 rfl (Nat.le_of_ble_eq_true rfl) (Nat.le_of_ble_eq_true rfl) (Nat.le_of_ble_eq_true rfl) ⟨rfl, rfl⟩ ⟨(Nat.le_of_ble_eq_true rfl), (Nat.le_of_ble_eq_true rfl)⟩ dX11_date_27 (fun v5 => ?_)
        exact x_iret rfl rfl ⟨(Nat.le_of_ble_eq_true rfl), (Nat.le_of_ble_eq_true rfl)⟩ dX11_date_30
      · refine y_mask (bs := [false, false, false]) (ls' := [none, none, none]) rfl ?_
        exact hj3
abbrev kn_Loo_checkTable : Kx := (yX11_checkTable.cls, cX11_checkTable, 1, none, [], false)
set_option maxHeartbeats 4000000 in
set_option maxRecDepth 100000 in
theorem cn_Loo_checkTable (ω : Wd) (p1 : Int32) (m : Mm) : Ev ω true 8 0 0 yX11_checkTable cX11_checkTable 1 none [.int p1] m fV (n_Loo_checkTable p1 m) := by
  refine Ev.of (b := false) (ls := [some (.int p1)]) (plainFor_of_name (by decide +kernel)) (fun h => by cases h) rfl (Nat.le_of_ble_eq_true rfl) rfl ?_
  change Sx ω ω true 8 0 0 kn_Loo_checkTable fV 0 0 m 0 _ _ _
  unfold n_Loo_checkTable
  refine x_iload_n dX11_checkTable_0 rfl ?_
  refine x_if_eq (tgt := 20) dX11_checkTable_1 (by decide) (fun hc1 => ?_) (fun hc1 => ?_)
  · exact x_vret rfl rfl ⟨(Nat.le_of_ble_eq_true rfl), (Nat.le_of_ble_eq_true rfl)⟩ dX11_checkTable_20
  · refine x_iload_n dX11_checkTable_4 rfl ?_
    refine x_iconst (v := 1) dX11_checkTable_5 (by decide) ?_
    refine x_icmp_eq (tgt := 20) dX11_checkTable_6 (by decide) (fun hc2 => ?_) (fun hc2 => ?_)
    · exact x_vret rfl rfl ⟨(Nat.le_of_ble_eq_true rfl), (Nat.le_of_ble_eq_true rfl)⟩ dX11_checkTable_20
    · exact x_none
abbrev kn_Loo_age : Kx := (yX11_age.cls, cX11_age, 3, (some .int), [], false)
set_option maxHeartbeats 4000000 in
set_option maxRecDepth 100000 in
theorem cn_Loo_age (ω : Wd) (p1 : Int32) (p2 : Int32) (m : Mm) : Ev ω true 9 0 0 yX11_age cX11_age 3 (some .int) [.ref (zad ω 16), .int p1, .int p2] m fI (n_Loo_age p1 p2 m) := by
  refine Ev.of (b := false) (ls := [some (.ref (zad ω 16)), some (.int p1), some (.int p2)]) (plainFor_of_name (by decide +kernel)) (fun h => by cases h) rfl (Nat.le_of_ble_eq_true rfl) rfl ?_
  change Sx ω ω true 9 0 0 kn_Loo_age fI 0 0 m 0 _ _ _
  unfold n_Loo_age
  refine x_iload_n dX11_age_0 rfl ?_
  refine y_join (fun j2 => Sx ω ω true 9 0 0 kn_Loo_age fI 0 0 m 10 [none, none, none] [] j2) ?_ (fun j2 hj2 => ?_)
  · exact x_none
  · refine x_if_lt (tgt := 10) dX11_age_1 (by decide) (fun hc1 => ?_) (fun hc1 => ?_)
    · refine y_mask (bs := [false, false, false]) (ls' := [none, none, none]) rfl ?_
      exact hj2
    · refine x_iload_n dX11_age_4 rfl ?_
      refine x_ldcI (v := 146096) ci_RX11_88 dX11_age_5 ?_
      refine x_icmp_le (tgt := 20) dX11_age_7 (by decide) (fun hc3 => ?_) (fun hc3 => ?_)
      · refine x_iload_n dX11_age_20 rfl ?_
        refine y_callSV (rest := []) (c1 := 0) (s1 := 0) (cn_Loo_checkTable ω p2 m) ms_RX11_91 rfl (Nat.le_of_ble_eq_true rfl) (Nat.le_of_ble_eq_true rfl) (Nat.le_of_ble_eq_true rfl) ⟨rfl, rfl⟩ ⟨(Nat.le_of_ble_eq_true rfl), (Nat.le_of_ble_eq_true rfl)⟩ dX11_age_21 (fun m4 => ?_)
        refine x_iload_n dX11_age_24 rfl ?_
        refine x_iload_n dX11_age_25 rfl ?_
        refine y_callSP (rest := []) (c1 := 0) (s1 := 0) (c_Cal_ageOf ω p1 p2 m4) ms_RX11_94 rfl (Nat.le_of_ble_eq_true rfl) (Nat.le_of_ble_eq_true rfl) (Nat.le_of_ble_eq_true rfl) ⟨rfl, rfl⟩ ⟨(Nat.le_of_ble_eq_true rfl), (Nat.le_of_ble_eq_true rfl)⟩ dX11_age_26 (fun v5 => ?_)
        exact x_iret rfl rfl ⟨(Nat.le_of_ble_eq_true rfl), (Nat.le_of_ble_eq_true rfl)⟩ dX11_age_29
      · refine y_mask (bs := [false, false, false]) (ls' := [none, none, none]) rfl ?_
        exact hj2
abbrev kn_Loo_table : Kx := (yX11_table.cls, cX11_table, 3, (some .int), [], false)
set_option maxHeartbeats 4000000 in
set_option maxRecDepth 100000 in
theorem cn_Loo_table (ω : Wd) (p1 : Int32) (m : Mm) : Ev ω true 9 0 0 yX11_table cX11_table 3 (some .int) [.ref (zad ω 16), .int p1] m fI (n_Loo_table p1 m) := by
  refine Ev.of (b := false) (ls := [some (.ref (zad ω 16)), some (.int p1), none]) (plainFor_of_name (by decide +kernel)) (fun h => by cases h) rfl (Nat.le_of_ble_eq_true rfl) rfl ?_
  change Sx ω ω true 9 0 0 kn_Loo_table fI 0 0 m 0 _ _ _
  unfold n_Loo_table
  refine x_iload_n dX11_table_0 rfl ?_
  refine y_callSV (rest := []) (c1 := 0) (s1 := 0) (cn_Loo_checkTable ω p1 m) ms_RX11_91 rfl (Nat.le_of_ble_eq_true rfl) (Nat.le_of_ble_eq_true rfl) (Nat.le_of_ble_eq_true rfl) ⟨rfl, rfl⟩ ⟨(Nat.le_of_ble_eq_true rfl), (Nat.le_of_ble_eq_true rfl)⟩ dX11_table_1 (fun m1 => ?_)
  refine x_aload_n dX11_table_4 rfl ?_
  refine y_getI fl_RX11_63 hz_16 dX11_table_5 ?_
  refine y_letI (fun x2 => ?_)
  refine x_istore_n (ls' := [some (.ref (zad ω 16)), some (.int p1), some (.int x2)]) dX11_table_8 (Nat.le_of_ble_eq_true rfl) rfl ?_
  refine x_aload_n dX11_table_9 rfl ?_
  refine x_iload_n dX11_table_10 rfl ?_
  refine y_putI fp_RX11_63 hz_16 dX11_table_11 ?_
  refine y_letM (fun m3 => ?_)
  refine x_iload_n dX11_table_14 rfl ?_
  exact x_iret rfl rfl ⟨(Nat.le_of_ble_eq_true rfl), (Nat.le_of_ble_eq_true rfl)⟩ dX11_table_15
abbrev kn_Loo_type : Kx := (yX11_type.cls, cX11_type, 2, (some .int), [], false)
set_option maxHeartbeats 4000000 in
set_option maxRecDepth 100000 in
theorem cn_Loo_type (ω : Wd) (p1 : Int32) (m : Mm) : Ev ω true 8 0 0 yX11_type cX11_type 2 (some .int) [.ref (zad ω 16), .int p1] m fI (n_Loo_type p1 m) := by
  refine Ev.of (b := false) (ls := [some (.ref (zad ω 16)), some (.int p1)]) (plainFor_of_name (by decide +kernel)) (fun h => by cases h) rfl (Nat.le_of_ble_eq_true rfl) rfl ?_
  change Sx ω ω true 8 0 0 kn_Loo_type fI 0 0 m 0 _ _ _
  unfold n_Loo_type
  refine x_iload_n dX11_type_0 rfl ?_
  refine x_bipush (v := 33) dX11_type_1 (by decide) ?_
  refine y_join (fun j2 => Sx ω ω true 8 0 0 kn_Loo_type fI 0 0 m 12 [none, none] [] j2) ?_ (fun j2 hj2 => ?_)
  · exact x_none
  · refine x_icmp_lt (tgt := 12) dX11_type_3 (by decide) (fun hc1 => ?_) (fun hc1 => ?_)
    · refine y_mask (bs := [false, false]) (ls' := [none, none]) rfl ?_
      exact hj2
    · refine x_iload_n dX11_type_6 rfl ?_
      refine x_bipush (v := 126) dX11_type_7 (by decide) ?_
      refine x_icmp_le (tgt := 22) dX11_type_9 (by decide) (fun hc3 => ?_) (fun hc3 => ?_)
      · refine x_aload_n dX11_type_22 rfl ?_
        refine y_getF fl_RX11_10 hz_16 hq_16_0 (by rw [hz_17]; decide) dX11_type_23 ?_
        refine x_iload_n dX11_type_26 rfl ?_
        refine y_callVI (rest := []) (c1 := 0) (s1 := 0) (c_Txt_append ω 17 hz_17 p1 m) mv_RX11_99 hz_17 rfl (Nat.le_of_ble_eq_true rfl) (Nat.le_of_ble_eq_true rfl) (Nat.le_of_ble_eq_true rfl) ⟨rfl, rfl⟩ ⟨(Nat.le_of_ble_eq_true rfl), (Nat.le_of_ble_eq_true rfl)⟩ dX11_type_27 (fun v5 m4 => ?_)
        refine x_if_ne (tgt := 43) dX11_type_30 (by decide) (fun hc6 => ?_) (fun hc6 => ?_)
        · exact x_none
        · refine x_aload_n dX11_type_43 rfl ?_
          refine y_getF fl_RX11_10 hz_16 hq_16_0 (by rw [hz_17]; decide) dX11_type_44 ?_
          refine y_callVP (rest := []) (c1 := 0) (s1 := 0) (c_Txt_length ω 17 hz_17 m4) mv_RX11_108 hz_17 rfl (Nat.le_of_ble_eq_true rfl) (Nat.le_of_ble_eq_true rfl) (Nat.le_of_ble_eq_true rfl) ⟨rfl, rfl⟩ ⟨(Nat.le_of_ble_eq_true rfl), (Nat.le_of_ble_eq_true rfl)⟩ dX11_type_47 (fun v7 => ?_)
          exact x_iret rfl rfl ⟨(Nat.le_of_ble_eq_true rfl), (Nat.le_of_ble_eq_true rfl)⟩ dX11_type_50
      · refine y_mask (bs := [false, false]) (ls' := [none, none]) rfl ?_
        exact hj2
abbrev kn_Loo_checkRank : Kx := (yX11_checkRank.cls, cX11_checkRank, 1, none, [], false)
set_option maxHeartbeats 4000000 in
set_option maxRecDepth 100000 in
theorem cn_Loo_checkRank (ω : Wd) (p1 : Int32) (m : Mm) : Ev ω true 8 0 0 yX11_checkRank cX11_checkRank 1 none [.int p1] m fV (n_Loo_checkRank p1 m) := by
  refine Ev.of (b := false) (ls := [some (.int p1)]) (plainFor_of_name (by decide +kernel)) (fun h => by cases h) rfl (Nat.le_of_ble_eq_true rfl) rfl ?_
  change Sx ω ω true 8 0 0 kn_Loo_checkRank fV 0 0 m 0 _ _ _
  unfold n_Loo_checkRank
  refine x_iload_n dX11_checkRank_0 rfl ?_
  refine y_join (fun j2 => Sx ω ω true 8 0 0 kn_Loo_checkRank fV 0 0 m 10 [none] [] j2) ?_ (fun j2 hj2 => ?_)
  · exact x_none
  · refine x_if_lt (tgt := 10) dX11_checkRank_1 (by decide) (fun hc1 => ?_) (fun hc1 => ?_)
    · refine y_mask (bs := [false]) (ls' := [none]) rfl ?_
      exact hj2
    · refine x_iload_n dX11_checkRank_4 rfl ?_
      refine x_bipush (v := 9) dX11_checkRank_5 (by decide) ?_
      refine x_icmp_le (tgt := 21) dX11_checkRank_7 (by decide) (fun hc3 => ?_) (fun hc3 => ?_)
      · exact x_vret rfl rfl ⟨(Nat.le_of_ble_eq_true rfl), (Nat.le_of_ble_eq_true rfl)⟩ dX11_checkRank_21
      · refine y_mask (bs := [false]) (ls' := [none]) rfl ?_
        exact hj2
abbrev kn_Loo_checkNames : Kx := (yX11_checkNames.cls, cX11_checkNames, 1, none, [], false)
set_option maxHeartbeats 4000000 in
set_option maxRecDepth 100000 in
theorem cn_Loo_checkNames (ω : Wd) (m : Mm) : Ev ω true 8 0 0 yX11_checkNames cX11_checkNames 1 none [.ref (zad ω 16)] m fV (n_Loo_checkNames m) := by
  refine Ev.of (b := false) (ls := [some (.ref (zad ω 16))]) (plainFor_of_name (by decide +kernel)) (fun h => by cases h) rfl (Nat.le_of_ble_eq_true rfl) rfl ?_
  change Sx ω ω true 8 0 0 kn_Loo_checkNames fV 0 0 m 0 _ _ _
  unfold n_Loo_checkNames
  refine x_aload_n dX11_checkNames_0 rfl ?_
  refine y_getF fl_RX11_19 hz_16 hq_16_1 (by rw [hz_19]; decide) dX11_checkNames_1 ?_
  refine y_callVQ (c9 := 3) (rest := []) (c1 := 0) (s1 := 0) (c_Par_code ω m) mv_RX11_136 hz_19 rfl (Nat.le_of_ble_eq_true rfl) (Nat.le_of_ble_eq_true rfl) (Nat.le_of_ble_eq_true rfl) ⟨rfl, rfl⟩ ⟨(Nat.le_of_ble_eq_true rfl), (Nat.le_of_ble_eq_true rfl)⟩ dX11_checkNames_4 (fun q1 hq1 => ?_)
  refine x_aload_n dX11_checkNames_7 rfl ?_
  refine y_getF fl_RX11_26 hz_16 hq_16_2 (by rw [hz_25]; decide) dX11_checkNames_8 ?_
  refine y_callVP (rest := [.ref (zad ω q1)]) (c1 := 0) (s1 := 0) (c_Alm_size ω m) mv_RX11_187 hz_25 rfl (Nat.le_of_ble_eq_true rfl) (Nat.le_of_ble_eq_true rfl) (Nat.le_of_ble_eq_true rfl) ⟨rfl, rfl⟩ ⟨(Nat.le_of_ble_eq_true rfl), (Nat.le_of_ble_eq_true rfl)⟩ dX11_checkNames_11 (fun v2 => ?_)
  refine y_callVP (rest := []) (c1 := 0) (s1 := 0) (c_Cod_namesBeyond ω q1 hq1 v2 m) mv_RX11_303 hq1 rfl (Nat.le_of_ble_eq_true rfl) (Nat.le_of_ble_eq_true rfl) (Nat.le_of_ble_eq_true rfl) ⟨rfl, rfl⟩ ⟨(Nat.le_of_ble_eq_true rfl), (Nat.le_of_ble_eq_true rfl)⟩ dX11_checkNames_14 (fun v3 => ?_)
  refine x_if_eq (tgt := 31) dX11_checkNames_17 (by decide) (fun hc4 => ?_) (fun hc4 => ?_)
  · exact x_vret rfl rfl ⟨(Nat.le_of_ble_eq_true rfl), (Nat.le_of_ble_eq_true rfl)⟩ dX11_checkNames_31
  · exact x_none
abbrev kn_Loo_feast : Kx := (yX11_feast.cls, cX11_feast, 4, (some .int), [], false)
set_option maxHeartbeats 4000000 in
set_option maxRecDepth 100000 in
theorem cn_Loo_feast (ω : Wd) (p1 : Int32) (p2 : Int32) (m : Mm) : Ev ω true 110 0 0 yX11_feast cX11_feast 4 (some .int) [.ref (zad ω 16), .int p1, .int p2] m fI (n_Loo_feast p1 p2 m) := by
  refine Ev.of (b := false) (ls := [some (.ref (zad ω 16)), some (.int p1), some (.int p2), none]) (plainFor_of_name (by decide +kernel)) (fun h => by cases h) rfl (Nat.le_of_ble_eq_true rfl) rfl ?_
  change Sx ω ω true 110 0 0 kn_Loo_feast fI 0 0 m 0 _ _ _
  unfold n_Loo_feast
  refine x_iload_n dX11_feast_0 rfl ?_
  refine y_callSV (rest := []) (c1 := 0) (s1 := 0) (cn_Loo_checkRank ω p1 m) ms_RX11_122 rfl (Nat.le_of_ble_eq_true rfl) (Nat.le_of_ble_eq_true rfl) (Nat.le_of_ble_eq_true rfl) ⟨rfl, rfl⟩ ⟨(Nat.le_of_ble_eq_true rfl), (Nat.le_of_ble_eq_true rfl)⟩ dX11_feast_1 (fun m1 => ?_)
  refine x_aload_n dX11_feast_4 rfl ?_
  refine y_getF fl_RX11_19 hz_16 hq_16_1 (by rw [hz_19]; decide) dX11_feast_5 ?_
  refine x_aload_n dX11_feast_8 rfl ?_
  refine y_getF fl_RX11_10 hz_16 hq_16_0 (by rw [hz_17]; decide) dX11_feast_9 ?_
  refine y_callVI (rest := []) (c1 := 0) (s1 := 0) (c_Par_readRule ω 17 hz_17 m1) mv_RX11_115 hz_19 rfl (Nat.le_of_ble_eq_true rfl) (Nat.le_of_ble_eq_true rfl) (Nat.le_of_ble_eq_true rfl) ⟨rfl, rfl⟩ ⟨(Nat.le_of_ble_eq_true rfl), (Nat.le_of_ble_eq_true rfl)⟩ dX11_feast_12 (fun v3 m2 => ?_)
  refine x_iconst (v := (-1)) dX11_feast_15 (by decide) ?_
  refine x_icmp_eq (tgt := 29) dX11_feast_16 (by decide) (fun hc4 => ?_) (fun hc4 => ?_)
  · refine x_aload_n dX11_feast_29 rfl ?_
    refine y_getF fl_RX11_26 hz_16 hq_16_2 (by rw [hz_25]; decide) dX11_feast_30 ?_
    refine y_callVP (rest := []) (c1 := 0) (s1 := 0) (c_Alm_isFull ω m2) mv_RX11_127 hz_25 rfl (Nat.le_of_ble_eq_true rfl) (Nat.le_of_ble_eq_true rfl) (Nat.le_of_ble_eq_true rfl) ⟨rfl, rfl⟩ ⟨(Nat.le_of_ble_eq_true rfl), (Nat.le_of_ble_eq_true rfl)⟩ dX11_feast_33 (fun v5 => ?_)
    refine x_if_eq (tgt := 49) dX11_feast_36 (by decide) (fun hc6 => ?_) (fun hc6 => ?_)
    · refine x_aload_n dX11_feast_49 rfl ?_
      refine y_callVV (rest := []) (c1 := 0) (s1 := 0) (cn_Loo_checkNames ω m2) mv_RX11_133 hz_16 rfl (Nat.le_of_ble_eq_true rfl) (Nat.le_of_ble_eq_true rfl) (Nat.le_of_ble_eq_true rfl) ⟨rfl, rfl⟩ ⟨(Nat.le_of_ble_eq_true rfl), (Nat.le_of_ble_eq_true rfl)⟩ dX11_feast_50 (fun m7 => ?_)
      refine x_aload_n dX11_feast_53 rfl ?_
      refine y_getF fl_RX11_26 hz_16 hq_16_2 (by rw [hz_25]; decide) dX11_feast_54 ?_
      refine x_aload_n dX11_feast_57 rfl ?_
      refine y_getF fl_RX11_10 hz_16 hq_16_0 (by rw [hz_17]; decide) dX11_feast_58 ?_
      refine x_aload_n dX11_feast_61 rfl ?_
      refine y_getF fl_RX11_19 hz_16 hq_16_1 (by rw [hz_19]; decide) dX11_feast_62 ?_
      refine y_callVQ (c9 := 3) (rest := [.ref (zad ω 17), .ref (zad ω 25)]) (c1 := 0) (s1 := 0) (c_Par_code ω m7) mv_RX11_136 hz_19 rfl (Nat.le_of_ble_eq_true rfl) (Nat.le_of_ble_eq_true rfl) (Nat.le_of_ble_eq_true rfl) ⟨rfl, rfl⟩ ⟨(Nat.le_of_ble_eq_true rfl), (Nat.le_of_ble_eq_true rfl)⟩ dX11_feast_65 (fun q8 hq8 => ?_)
      refine y_callVI (rest := []) (c1 := 0) (s1 := 0) (c_Alm_add ω 17 hz_17 q8 hq8 m7) mv_RX11_140 hz_25 rfl (Nat.le_of_ble_eq_true rfl) (Nat.le_of_ble_eq_true rfl) (Nat.le_of_ble_eq_true rfl) ⟨rfl, rfl⟩ ⟨(Nat.le_of_ble_eq_true rfl), (Nat.le_of_ble_eq_true rfl)⟩ dX11_feast_68 (fun v10 m9 => ?_)
      refine x_istore_n (ls' := [some (.ref (zad ω 16)), some (.int p1), some (.int p2), some (.int v10)]) dX11_feast_71 (Nat.le_of_ble_eq_true rfl) rfl ?_
      refine x_aload_n dX11_feast_72 rfl ?_
      refine y_getF fl_RX11_26 hz_16 hq_16_2 (by rw [hz_25]; decide) dX11_feast_73 ?_
      refine x_iload_n dX11_feast_76 rfl ?_
      refine x_iload_n dX11_feast_77 rfl ?_
      refine x_iload_n dX11_feast_78 rfl ?_
      refine y_callVV (rest := []) (c1 := 0) (s1 := 0) (c_Alm_setRank ω v10 p1 p2 m9) mv_RX11_144 hz_25 rfl (Nat.le_of_ble_eq_true rfl) (Nat.le_of_ble_eq_true rfl) (Nat.le_of_ble_eq_true rfl) ⟨rfl, rfl⟩ ⟨(Nat.le_of_ble_eq_true rfl), (Nat.le_of_ble_eq_true rfl)⟩ dX11_feast_79 (fun m11 => ?_)
      refine x_aload_n dX11_feast_82 rfl ?_
      refine y_getF fl_RX11_10 hz_16 hq_16_0 (by rw [hz_17]; decide) dX11_feast_83 ?_
      refine y_callVV (rest := []) (c1 := 0) (s1 := 0) (c_Txt_clear ω 17 hz_17 m11) mv_RX11_112 hz_17 rfl (Nat.le_of_ble_eq_true rfl) (Nat.le_of_ble_eq_true rfl) (Nat.le_of_ble_eq_true rfl) ⟨rfl, rfl⟩ ⟨(Nat.le_of_ble_eq_true rfl), (Nat.le_of_ble_eq_true rfl)⟩ dX11_feast_86 (fun m12 => ?_)
      refine x_iload_n dX11_feast_89 rfl ?_
      exact x_iret rfl rfl ⟨(Nat.le_of_ble_eq_true rfl), (Nat.le_of_ble_eq_true rfl)⟩ dX11_feast_90
    · exact x_none
  · exact x_none
abbrev kn_Loo_checkFeast : Kx := (yX11_checkFeast.cls, cX11_checkFeast, 2, none, [], false)
set_option maxHeartbeats 4000000 in
set_option maxRecDepth 100000 in
theorem cn_Loo_checkFeast (ω : Wd) (p1 : Int32) (m : Mm) : Ev ω true 8 0 0 yX11_checkFeast cX11_checkFeast 2 none [.ref (zad ω 16), .int p1] m fV (n_Loo_checkFeast p1 m) := by
  refine Ev.of (b := false) (ls := [some (.ref (zad ω 16)), some (.int p1)]) (plainFor_of_name (by decide +kernel)) (fun h => by cases h) rfl (Nat.le_of_ble_eq_true rfl) rfl ?_
  change Sx ω ω true 8 0 0 kn_Loo_checkFeast fV 0 0 m 0 _ _ _
  unfold n_Loo_checkFeast
  refine x_iload_n dX11_checkFeast_0 rfl ?_
  refine y_join (fun j2 => Sx ω ω true 8 0 0 kn_Loo_checkFeast fV 0 0 m 15 [none, none] [] j2) ?_ (fun j2 hj2 => ?_)
  · exact x_none
  · refine x_if_lt (tgt := 15) dX11_checkFeast_1 (by decide) (fun hc1 => ?_) (fun hc1 => ?_)
    · refine y_mask (bs := [false, false]) (ls' := [none, none]) rfl ?_
      exact hj2
    · refine x_iload_n dX11_checkFeast_4 rfl ?_
      refine x_aload_n dX11_checkFeast_5 rfl ?_
      refine y_getF fl_RX11_26 hz_16 hq_16_2 (by rw [hz_25]; decide) dX11_checkFeast_6 ?_
      refine y_callVP (rest := [.int p1]) (c1 := 0) (s1 := 0) (c_Alm_size ω m) mv_RX11_187 hz_25 rfl (Nat.le_of_ble_eq_true rfl) (Nat.le_of_ble_eq_true rfl) (Nat.le_of_ble_eq_true rfl) ⟨rfl, rfl⟩ ⟨(Nat.le_of_ble_eq_true rfl), (Nat.le_of_ble_eq_true rfl)⟩ dX11_checkFeast_9 (fun v3 => ?_)
      refine x_icmp_lt (tgt := 26) dX11_checkFeast_12 (by decide) (fun hc4 => ?_) (fun hc4 => ?_)
      · exact x_vret rfl rfl ⟨(Nat.le_of_ble_eq_true rfl), (Nat.le_of_ble_eq_true rfl)⟩ dX11_checkFeast_26
      · refine y_mask (bs := [false, false]) (ls' := [none, none]) rfl ?_
        exact hj2
abbrev kn_Loo_rank : Kx := (yX11_rank.cls, cX11_rank, 5, (some .int), [], false)
set_option maxHeartbeats 4000000 in
set_option maxRecDepth 100000 in
theorem cn_Loo_rank (ω : Wd) (p1 : Int32) (p2 : Int32) (p3 : Int32) (m : Mm) : Ev ω true 9 0 0 yX11_rank cX11_rank 5 (some .int) [.ref (zad ω 16), .int p1, .int p2, .int p3] m fI (n_Loo_rank p1 p2 p3 m) := by
  refine Ev.of (b := false) (ls := [some (.ref (zad ω 16)), some (.int p1), some (.int p2), some (.int p3), none]) (plainFor_of_name (by decide +kernel)) (fun h => by cases h) rfl (Nat.le_of_ble_eq_true rfl) rfl ?_
  change Sx ω ω true 9 0 0 kn_Loo_rank fI 0 0 m 0 _ _ _
  unfold n_Loo_rank
  refine x_aload_n dX11_rank_0 rfl ?_
  refine x_iload_n dX11_rank_1 rfl ?_
  refine y_callVV (rest := []) (c1 := 0) (s1 := 0) (cn_Loo_checkFeast ω p1 m) mv_RX11_148 hz_16 rfl (Nat.le_of_ble_eq_true rfl) (Nat.le_of_ble_eq_true rfl) (Nat.le_of_ble_eq_true rfl) ⟨rfl, rfl⟩ ⟨(Nat.le_of_ble_eq_true rfl), (Nat.le_of_ble_eq_true rfl)⟩ dX11_rank_2 (fun m1 => ?_)
  refine x_iload_n dX11_rank_5 rfl ?_
  refine y_callSV (rest := []) (c1 := 0) (s1 := 0) (cn_Loo_checkRank ω p2 m1) ms_RX11_122 rfl (Nat.le_of_ble_eq_true rfl) (Nat.le_of_ble_eq_true rfl) (Nat.le_of_ble_eq_true rfl) ⟨rfl, rfl⟩ ⟨(Nat.le_of_ble_eq_true rfl), (Nat.le_of_ble_eq_true rfl)⟩ dX11_rank_6 (fun m2 => ?_)
  refine x_aload_n dX11_rank_9 rfl ?_
  refine y_getF fl_RX11_26 hz_16 hq_16_2 (by rw [hz_25]; decide) dX11_rank_10 ?_
  refine x_iload_n dX11_rank_13 rfl ?_
  refine y_callVP (rest := []) (c1 := 0) (s1 := 0) (c_Alm_rankOf ω p1 m2) mv_RX11_165 hz_25 rfl (Nat.le_of_ble_eq_true rfl) (Nat.le_of_ble_eq_true rfl) (Nat.le_of_ble_eq_true rfl) ⟨rfl, rfl⟩ ⟨(Nat.le_of_ble_eq_true rfl), (Nat.le_of_ble_eq_true rfl)⟩ dX11_rank_14 (fun v3 => ?_)
  refine x_istore (ls' := [some (.ref (zad ω 16)), some (.int p1), some (.int p2), some (.int p3), some (.int v3)]) dX11_rank_17 (Nat.le_of_ble_eq_true rfl) rfl ?_
  refine x_aload_n dX11_rank_19 rfl ?_
  refine y_getF fl_RX11_26 hz_16 hq_16_2 (by rw [hz_25]; decide) dX11_rank_20 ?_
  refine x_iload_n dX11_rank_23 rfl ?_
  refine x_iload_n dX11_rank_24 rfl ?_
  refine x_iload_n dX11_rank_25 rfl ?_
  refine y_callVV (rest := []) (c1 := 0) (s1 := 0) (c_Alm_setRank ω p1 p2 p3 m2) mv_RX11_144 hz_25 rfl (Nat.le_of_ble_eq_true rfl) (Nat.le_of_ble_eq_true rfl) (Nat.le_of_ble_eq_true rfl) ⟨rfl, rfl⟩ ⟨(Nat.le_of_ble_eq_true rfl), (Nat.le_of_ble_eq_true rfl)⟩ dX11_rank_26 (fun m4 => ?_)
  refine x_iload dX11_rank_29 rfl ?_
  exact x_iret rfl rfl ⟨(Nat.le_of_ble_eq_true rfl), (Nat.le_of_ble_eq_true rfl)⟩ dX11_rank_31
abbrev kn_Loo_dispense : Kx := (yX11_dispense.cls, cX11_dispense, 4, (some .int), [], false)
set_option maxHeartbeats 4000000 in
set_option maxRecDepth 100000 in
theorem cn_Loo_dispense (ω : Wd) (p1 : Int32) (p2 : Int32) (p3 : Int32) (m : Mm) : Ev ω true 9 0 0 yX11_dispense cX11_dispense 4 (some .int) [.ref (zad ω 16), .int p1, .int p2, .int p3] m fI (n_Loo_dispense p1 p2 p3 m) := by
  refine Ev.of (b := false) (ls := [some (.ref (zad ω 16)), some (.int p1), some (.int p2), some (.int p3)]) (plainFor_of_name (by decide +kernel)) (fun h => by cases h) rfl (Nat.le_of_ble_eq_true rfl) rfl ?_
  change Sx ω ω true 9 0 0 kn_Loo_dispense fI 0 0 m 0 _ _ _
  unfold n_Loo_dispense
  refine x_aload_n dX11_dispense_0 rfl ?_
  refine x_iload_n dX11_dispense_1 rfl ?_
  refine y_callVV (rest := []) (c1 := 0) (s1 := 0) (cn_Loo_checkFeast ω p1 m) mv_RX11_148 hz_16 rfl (Nat.le_of_ble_eq_true rfl) (Nat.le_of_ble_eq_true rfl) (Nat.le_of_ble_eq_true rfl) ⟨rfl, rfl⟩ ⟨(Nat.le_of_ble_eq_true rfl), (Nat.le_of_ble_eq_true rfl)⟩ dX11_dispense_2 (fun m1 => ?_)
  refine x_iload_n dX11_dispense_5 rfl ?_
  refine y_callSV (rest := []) (c1 := 0) (s1 := 0) (cn_Loo_checkYear ω p2 m1) ms_RX11_67 rfl (Nat.le_of_ble_eq_true rfl) (Nat.le_of_ble_eq_true rfl) (Nat.le_of_ble_eq_true rfl) ⟨rfl, rfl⟩ ⟨(Nat.le_of_ble_eq_true rfl), (Nat.le_of_ble_eq_true rfl)⟩ dX11_dispense_6 (fun m2 => ?_)
  refine x_iload_n dX11_dispense_9 rfl ?_
  refine x_bipush (v := 99) dX11_dispense_10 (by decide) ?_
  refine y_join (fun j4 => Sx ω ω true 9 0 0 kn_Loo_dispense fI 0 0 m2 37 [some (.ref (zad ω 16)), some (.int p1), some (.int p2), some (.int p3)] [] j4) ?_ (fun j4 hj4 => ?_)
  · refine x_aload_n dX11_dispense_37 rfl ?_
    refine y_getF fl_RX11_26 hz_16 hq_16_2 (by rw [hz_25]; decide) dX11_dispense_38 ?_
    refine x_iload_n dX11_dispense_41 rfl ?_
    refine x_iload_n dX11_dispense_42 rfl ?_
    refine x_iload_n dX11_dispense_43 rfl ?_
    refine y_callVI (rest := []) (c1 := 0) (s1 := 0) (c_Alm_grant ω p1 p2 p3 m2) mv_RX11_170 hz_25 rfl (Nat.le_of_ble_eq_true rfl) (Nat.le_of_ble_eq_true rfl) (Nat.le_of_ble_eq_true rfl) ⟨rfl, rfl⟩ ⟨(Nat.le_of_ble_eq_true rfl), (Nat.le_of_ble_eq_true rfl)⟩ dX11_dispense_44 (fun v6 m5 => ?_)
    refine x_if_ne (tgt := 60) dX11_dispense_47 (by decide) (fun hc7 => ?_) (fun hc7 => ?_)
    · exact x_none
    · refine x_aload_n dX11_dispense_60 rfl ?_
      refine y_getF fl_RX11_26 hz_16 hq_16_2 (by rw [hz_25]; decide) dX11_dispense_61 ?_
      refine y_callVP (rest := []) (c1 := 0) (s1 := 0) (c_Alm_dispensations ω m5) mv_RX11_176 hz_25 rfl (Nat.le_of_ble_eq_true rfl) (Nat.le_of_ble_eq_true rfl) (Nat.le_of_ble_eq_true rfl) ⟨rfl, rfl⟩ ⟨(Nat.le_of_ble_eq_true rfl), (Nat.le_of_ble_eq_true rfl)⟩ dX11_dispense_64 (fun v8 => ?_)
      exact x_iret rfl rfl ⟨(Nat.le_of_ble_eq_true rfl), (Nat.le_of_ble_eq_true rfl)⟩ dX11_dispense_67
  · refine x_icmp_eq (tgt := 37) dX11_dispense_12 (by decide) (fun hc3 => ?_) (fun hc3 => ?_)
    · exact hj4
    · refine x_iload_n dX11_dispense_15 rfl ?_
      refine x_bipush (v := (-30)) dX11_dispense_16 (by decide) ?_
      refine y_join (fun j10 => Sx ω ω true 9 0 0 kn_Loo_dispense fI 0 0 m2 27 [none, none, none, none] [] j10) ?_ (fun j10 hj10 => ?_)
      · exact x_none
      · refine x_icmp_lt (tgt := 27) dX11_dispense_18 (by decide) (fun hc9 => ?_) (fun hc9 => ?_)
        · refine y_mask (bs := [false, false, false, false]) (ls' := [none, none, none, none]) rfl ?_
          exact hj10
        · refine x_iload_n dX11_dispense_21 rfl ?_
          refine x_bipush (v := 30) dX11_dispense_22 (by decide) ?_
          refine x_icmp_le (tgt := 37) dX11_dispense_24 (by decide) (fun hc11 => ?_) (fun hc11 => ?_)
          · exact hj4
          · refine y_mask (bs := [false, false, false, false]) (ls' := [none, none, none, none]) rfl ?_
            exact hj10
abbrev kn_Loo_takeBack : Kx := (yX11_takeBack.cls, cX11_takeBack, 4, (some .int), [], false)
set_option maxHeartbeats 4000000 in
set_option maxRecDepth 100000 in
theorem cn_Loo_takeBack (ω : Wd) (p1 : Int32) (p2 : Int32) (m : Mm) : Ev ω true 9 0 0 yX11_takeBack cX11_takeBack 4 (some .int) [.ref (zad ω 16), .int p1, .int p2] m fI (n_Loo_takeBack p1 p2 m) := by
  refine Ev.of (b := false) (ls := [some (.ref (zad ω 16)), some (.int p1), some (.int p2), none]) (plainFor_of_name (by decide +kernel)) (fun h => by cases h) rfl (Nat.le_of_ble_eq_true rfl) rfl ?_
  change Sx ω ω true 9 0 0 kn_Loo_takeBack fI 0 0 m 0 _ _ _
  unfold n_Loo_takeBack
  refine x_aload_n dX11_takeBack_0 rfl ?_
  refine x_iload_n dX11_takeBack_1 rfl ?_
  refine y_callVV (rest := []) (c1 := 0) (s1 := 0) (cn_Loo_checkFeast ω p1 m) mv_RX11_148 hz_16 rfl (Nat.le_of_ble_eq_true rfl) (Nat.le_of_ble_eq_true rfl) (Nat.le_of_ble_eq_true rfl) ⟨rfl, rfl⟩ ⟨(Nat.le_of_ble_eq_true rfl), (Nat.le_of_ble_eq_true rfl)⟩ dX11_takeBack_2 (fun m1 => ?_)
  refine x_iload_n dX11_takeBack_5 rfl ?_
  refine y_callSV (rest := []) (c1 := 0) (s1 := 0) (cn_Loo_checkYear ω p2 m1) ms_RX11_67 rfl (Nat.le_of_ble_eq_true rfl) (Nat.le_of_ble_eq_true rfl) (Nat.le_of_ble_eq_true rfl) ⟨rfl, rfl⟩ ⟨(Nat.le_of_ble_eq_true rfl), (Nat.le_of_ble_eq_true rfl)⟩ dX11_takeBack_6 (fun m2 => ?_)
  refine x_aload_n dX11_takeBack_9 rfl ?_
  refine y_getF fl_RX11_26 hz_16 hq_16_2 (by rw [hz_25]; decide) dX11_takeBack_10 ?_
  refine x_iload_n dX11_takeBack_13 rfl ?_
  refine x_iload_n dX11_takeBack_14 rfl ?_
  refine y_callVP (rest := []) (c1 := 0) (s1 := 0) (c_Alm_dispensationFor ω p1 p2 m2) mv_RX11_179 hz_25 rfl (Nat.le_of_ble_eq_true rfl) (Nat.le_of_ble_eq_true rfl) (Nat.le_of_ble_eq_true rfl) ⟨rfl, rfl⟩ ⟨(Nat.le_of_ble_eq_true rfl), (Nat.le_of_ble_eq_true rfl)⟩ dX11_takeBack_15 (fun v3 => ?_)
  refine x_istore_n (ls' := [some (.ref (zad ω 16)), some (.int p1), some (.int p2), some (.int v3)]) dX11_takeBack_18 (Nat.le_of_ble_eq_true rfl) rfl ?_
  refine x_iload_n dX11_takeBack_19 rfl ?_
  refine x_iconst (v := (-1)) dX11_takeBack_20 (by decide) ?_
  refine x_icmp_ne (tgt := 34) dX11_takeBack_21 (by decide) (fun hc4 => ?_) (fun hc4 => ?_)
  · exact x_none
  · refine x_aload_n dX11_takeBack_34 rfl ?_
    refine y_getF fl_RX11_26 hz_16 hq_16_2 (by rw [hz_25]; decide) dX11_takeBack_35 ?_
    refine x_iload_n dX11_takeBack_38 rfl ?_
    refine y_callVI (rest := []) (c1 := 0) (s1 := 0) (c_Alm_revoke ω v3 m2) mv_RX11_184 hz_25 rfl (Nat.le_of_ble_eq_true rfl) (Nat.le_of_ble_eq_true rfl) (Nat.le_of_ble_eq_true rfl) ⟨rfl, rfl⟩ ⟨(Nat.le_of_ble_eq_true rfl), (Nat.le_of_ble_eq_true rfl)⟩ dX11_takeBack_39 (fun v6 m5 => ?_)
    exact x_iret rfl rfl ⟨(Nat.le_of_ble_eq_true rfl), (Nat.le_of_ble_eq_true rfl)⟩ dX11_takeBack_42
abbrev kn_Loo_bent : Kx := (yX11_bent.cls, cX11_bent, 3, (some .int), [], false)
set_option maxHeartbeats 4000000 in
set_option maxRecDepth 100000 in
theorem cn_Loo_bent (ω : Wd) (p1 : Int32) (p2 : Int32) (m : Mm) : Ev ω true 9 0 0 yX11_bent cX11_bent 3 (some .int) [.ref (zad ω 16), .int p1, .int p2] m fI (n_Loo_bent p1 p2 m) := by
  refine Ev.of (b := false) (ls := [some (.ref (zad ω 16)), some (.int p1), some (.int p2)]) (plainFor_of_name (by decide +kernel)) (fun h => by cases h) rfl (Nat.le_of_ble_eq_true rfl) rfl ?_
  change Sx ω ω true 9 0 0 kn_Loo_bent fI 0 0 m 0 _ _ _
  unfold n_Loo_bent
  refine x_aload_n dX11_bent_0 rfl ?_
  refine x_iload_n dX11_bent_1 rfl ?_
  refine y_callVV (rest := []) (c1 := 0) (s1 := 0) (cn_Loo_checkFeast ω p1 m) mv_RX11_148 hz_16 rfl (Nat.le_of_ble_eq_true rfl) (Nat.le_of_ble_eq_true rfl) (Nat.le_of_ble_eq_true rfl) ⟨rfl, rfl⟩ ⟨(Nat.le_of_ble_eq_true rfl), (Nat.le_of_ble_eq_true rfl)⟩ dX11_bent_2 (fun m1 => ?_)
  refine x_iload_n dX11_bent_5 rfl ?_
  refine y_callSV (rest := []) (c1 := 0) (s1 := 0) (cn_Loo_checkYear ω p2 m1) ms_RX11_67 rfl (Nat.le_of_ble_eq_true rfl) (Nat.le_of_ble_eq_true rfl) (Nat.le_of_ble_eq_true rfl) ⟨rfl, rfl⟩ ⟨(Nat.le_of_ble_eq_true rfl), (Nat.le_of_ble_eq_true rfl)⟩ dX11_bent_6 (fun m2 => ?_)
  refine x_aload_n dX11_bent_9 rfl ?_
  refine y_getF fl_RX11_35 hz_16 hq_16_3 (by rw [hz_152]; decide) dX11_bent_10 ?_
  refine x_iload_n dX11_bent_13 rfl ?_
  refine x_aload_n dX11_bent_14 rfl ?_
  refine y_getI fl_RX11_63 hz_16 dX11_bent_15 ?_
  refine y_callVV (rest := []) (c1 := 0) (s1 := 0) (c_Boo_reckon ω 152 hz_152 p2 (zI m2 16 8) m2) mv_RX11_188 hz_152 rfl (Nat.le_of_ble_eq_true rfl) (Nat.le_of_ble_eq_true rfl) (Nat.le_of_ble_eq_true rfl) ⟨rfl, rfl⟩ ⟨(Nat.le_of_ble_eq_true rfl), (Nat.le_of_ble_eq_true rfl)⟩ dX11_bent_18 (fun m3 => ?_)
  refine x_aload_n dX11_bent_21 rfl ?_
  refine y_getF fl_RX11_35 hz_16 hq_16_3 (by rw [hz_152]; decide) dX11_bent_22 ?_
  refine x_iload_n dX11_bent_25 rfl ?_
  refine y_callVP (rest := []) (c1 := 0) (s1 := 0) (c_Boo_bentDay ω 152 hz_152 p1 m3) mv_RX11_192 hz_152 rfl (Nat.le_of_ble_eq_true rfl) (Nat.le_of_ble_eq_true rfl) (Nat.le_of_ble_eq_true rfl) ⟨rfl, rfl⟩ ⟨(Nat.le_of_ble_eq_true rfl), (Nat.le_of_ble_eq_true rfl)⟩ dX11_bent_26 (fun v4 => ?_)
  exact x_iret rfl rfl ⟨(Nat.le_of_ble_eq_true rfl), (Nat.le_of_ble_eq_true rfl)⟩ dX11_bent_29
abbrev kn_Loo_day : Kx := (yX11_day.cls, cX11_day, 3, (some .int), [], false)
set_option maxHeartbeats 4000000 in
set_option maxRecDepth 100000 in
theorem cn_Loo_day (ω : Wd) (p1 : Int32) (p2 : Int32) (m : Mm) : Ev ω true 9 0 0 yX11_day cX11_day 3 (some .int) [.ref (zad ω 16), .int p1, .int p2] m fI (n_Loo_day p1 p2 m) := by
  refine Ev.of (b := false) (ls := [some (.ref (zad ω 16)), some (.int p1), some (.int p2)]) (plainFor_of_name (by decide +kernel)) (fun h => by cases h) rfl (Nat.le_of_ble_eq_true rfl) rfl ?_
  change Sx ω ω true 9 0 0 kn_Loo_day fI 0 0 m 0 _ _ _
  unfold n_Loo_day
  refine x_aload_n dX11_day_0 rfl ?_
  refine x_iload_n dX11_day_1 rfl ?_
  refine y_callVV (rest := []) (c1 := 0) (s1 := 0) (cn_Loo_checkFeast ω p1 m) mv_RX11_148 hz_16 rfl (Nat.le_of_ble_eq_true rfl) (Nat.le_of_ble_eq_true rfl) (Nat.le_of_ble_eq_true rfl) ⟨rfl, rfl⟩ ⟨(Nat.le_of_ble_eq_true rfl), (Nat.le_of_ble_eq_true rfl)⟩ dX11_day_2 (fun m1 => ?_)
  refine x_iload_n dX11_day_5 rfl ?_
  refine y_callSV (rest := []) (c1 := 0) (s1 := 0) (cn_Loo_checkYear ω p2 m1) ms_RX11_67 rfl (Nat.le_of_ble_eq_true rfl) (Nat.le_of_ble_eq_true rfl) (Nat.le_of_ble_eq_true rfl) ⟨rfl, rfl⟩ ⟨(Nat.le_of_ble_eq_true rfl), (Nat.le_of_ble_eq_true rfl)⟩ dX11_day_6 (fun m2 => ?_)
  refine x_aload_n dX11_day_9 rfl ?_
  refine y_getF fl_RX11_35 hz_16 hq_16_3 (by rw [hz_152]; decide) dX11_day_10 ?_
  refine x_iload_n dX11_day_13 rfl ?_
  refine x_aload_n dX11_day_14 rfl ?_
  refine y_getI fl_RX11_63 hz_16 dX11_day_15 ?_
  refine y_callVV (rest := []) (c1 := 0) (s1 := 0) (c_Boo_reckon ω 152 hz_152 p2 (zI m2 16 8) m2) mv_RX11_188 hz_152 rfl (Nat.le_of_ble_eq_true rfl) (Nat.le_of_ble_eq_true rfl) (Nat.le_of_ble_eq_true rfl) ⟨rfl, rfl⟩ ⟨(Nat.le_of_ble_eq_true rfl), (Nat.le_of_ble_eq_true rfl)⟩ dX11_day_18 (fun m3 => ?_)
  refine x_aload_n dX11_day_21 rfl ?_
  refine y_getF fl_RX11_35 hz_16 hq_16_3 (by rw [hz_152]; decide) dX11_day_22 ?_
  refine y_callVV (rest := []) (c1 := 0) (s1 := 0) (c_Boo_placeAll ω 152 hz_152 m3) mv_RX11_195 hz_152 rfl (Nat.le_of_ble_eq_true rfl) (Nat.le_of_ble_eq_true rfl) (Nat.le_of_ble_eq_true rfl) ⟨rfl, rfl⟩ ⟨(Nat.le_of_ble_eq_true rfl), (Nat.le_of_ble_eq_true rfl)⟩ dX11_day_25 (fun m4 => ?_)
  refine x_aload_n dX11_day_28 rfl ?_
  refine y_getF fl_RX11_35 hz_16 hq_16_3 (by rw [hz_152]; decide) dX11_day_29 ?_
  refine x_iload_n dX11_day_32 rfl ?_
  refine y_callVP (rest := []) (c1 := 0) (s1 := 0) (c_Boo_placedDay ω 152 hz_152 p1 m4) mv_RX11_198 hz_152 rfl (Nat.le_of_ble_eq_true rfl) (Nat.le_of_ble_eq_true rfl) (Nat.le_of_ble_eq_true rfl) ⟨rfl, rfl⟩ ⟨(Nat.le_of_ble_eq_true rfl), (Nat.le_of_ble_eq_true rfl)⟩ dX11_day_33 (fun v5 => ?_)
  exact x_iret rfl rfl ⟨(Nat.le_of_ble_eq_true rfl), (Nat.le_of_ble_eq_true rfl)⟩ dX11_day_36
abbrev kn_Loo_dayByDays : Kx := (yX11_dayByDays.cls, cX11_dayByDays, 3, (some .int), [], false)
set_option maxHeartbeats 4000000 in
set_option maxRecDepth 100000 in
theorem cn_Loo_dayByDays (ω : Wd) (p1 : Int32) (p2 : Int32) (m : Mm) : Ev ω true 107 0 0 yX11_dayByDays cX11_dayByDays 3 (some .int) [.ref (zad ω 16), .int p1, .int p2] m fI (n_Loo_dayByDays p1 p2 m) := by
  refine Ev.of (b := false) (ls := [some (.ref (zad ω 16)), some (.int p1), some (.int p2)]) (plainFor_of_name (by decide +kernel)) (fun h => by cases h) rfl (Nat.le_of_ble_eq_true rfl) rfl ?_
  change Sx ω ω true 107 0 0 kn_Loo_dayByDays fI 0 0 m 0 _ _ _
  unfold n_Loo_dayByDays
  refine x_aload_n dX11_dayByDays_0 rfl ?_
  refine x_iload_n dX11_dayByDays_1 rfl ?_
  refine y_callVV (rest := []) (c1 := 0) (s1 := 0) (cn_Loo_checkFeast ω p1 m) mv_RX11_148 hz_16 rfl (Nat.le_of_ble_eq_true rfl) (Nat.le_of_ble_eq_true rfl) (Nat.le_of_ble_eq_true rfl) ⟨rfl, rfl⟩ ⟨(Nat.le_of_ble_eq_true rfl), (Nat.le_of_ble_eq_true rfl)⟩ dX11_dayByDays_2 (fun m1 => ?_)
  refine x_iload_n dX11_dayByDays_5 rfl ?_
  refine y_callSV (rest := []) (c1 := 0) (s1 := 0) (cn_Loo_checkYear ω p2 m1) ms_RX11_67 rfl (Nat.le_of_ble_eq_true rfl) (Nat.le_of_ble_eq_true rfl) (Nat.le_of_ble_eq_true rfl) ⟨rfl, rfl⟩ ⟨(Nat.le_of_ble_eq_true rfl), (Nat.le_of_ble_eq_true rfl)⟩ dX11_dayByDays_6 (fun m2 => ?_)
  refine x_aload_n dX11_dayByDays_9 rfl ?_
  refine y_getF fl_RX11_45 hz_16 hq_16_5 (by rw [hz_164]; decide) dX11_dayByDays_10 ?_
  refine x_iload_n dX11_dayByDays_13 rfl ?_
  refine x_aload_n dX11_dayByDays_14 rfl ?_
  refine y_getI fl_RX11_63 hz_16 dX11_dayByDays_15 ?_
  refine y_callVV (rest := []) (c1 := 0) (s1 := 0) (c_Pla_readAll ω p2 (zI m2 16 8) m2) mv_RX11_201 hz_164 rfl (Nat.le_of_ble_eq_true rfl) (Nat.le_of_ble_eq_true rfl) (Nat.le_of_ble_eq_true rfl) ⟨rfl, rfl⟩ ⟨(Nat.le_of_ble_eq_true rfl), (Nat.le_of_ble_eq_true rfl)⟩ dX11_dayByDays_18 (fun m3 => ?_)
  refine x_aload_n dX11_dayByDays_21 rfl ?_
  refine y_getF fl_RX11_45 hz_16 hq_16_5 (by rw [hz_164]; decide) dX11_dayByDays_22 ?_
  refine x_iload_n dX11_dayByDays_25 rfl ?_
  refine y_callVV (rest := []) (c1 := 0) (s1 := 0) (c_Pla_goThroughDays ω p2 m3) mv_RX11_204 hz_164 rfl (Nat.le_of_ble_eq_true rfl) (Nat.le_of_ble_eq_true rfl) (Nat.le_of_ble_eq_true rfl) ⟨rfl, rfl⟩ ⟨(Nat.le_of_ble_eq_true rfl), (Nat.le_of_ble_eq_true rfl)⟩ dX11_dayByDays_26 (fun m4 => ?_)
  refine x_aload_n dX11_dayByDays_29 rfl ?_
  refine y_getF fl_RX11_45 hz_16 hq_16_5 (by rw [hz_164]; decide) dX11_dayByDays_30 ?_
  refine x_iload_n dX11_dayByDays_33 rfl ?_
  refine y_callVP (rest := []) (c1 := 0) (s1 := 0) (c_Pla_placedDay ω p1 m4) mv_RX11_207 hz_164 rfl (Nat.le_of_ble_eq_true rfl) (Nat.le_of_ble_eq_true rfl) (Nat.le_of_ble_eq_true rfl) ⟨rfl, rfl⟩ ⟨(Nat.le_of_ble_eq_true rfl), (Nat.le_of_ble_eq_true rfl)⟩ dX11_dayByDays_34 (fun v5 => ?_)
  exact x_iret rfl rfl ⟨(Nat.le_of_ble_eq_true rfl), (Nat.le_of_ble_eq_true rfl)⟩ dX11_dayByDays_37
abbrev kn_Loo_clashes : Kx := (yX11_clashes.cls, cX11_clashes, 2, (some .int), [], false)
set_option maxHeartbeats 4000000 in
set_option maxRecDepth 100000 in
theorem cn_Loo_clashes (ω : Wd) (p1 : Int32) (m : Mm) : Ev ω true 9 0 0 yX11_clashes cX11_clashes 2 (some .int) [.ref (zad ω 16), .int p1] m fI (n_Loo_clashes p1 m) := by
  refine Ev.of (b := false) (ls := [some (.ref (zad ω 16)), some (.int p1)]) (plainFor_of_name (by decide +kernel)) (fun h => by cases h) rfl (Nat.le_of_ble_eq_true rfl) rfl ?_
  change Sx ω ω true 9 0 0 kn_Loo_clashes fI 0 0 m 0 _ _ _
  unfold n_Loo_clashes
  refine x_iload_n dX11_clashes_0 rfl ?_
  refine y_callSV (rest := []) (c1 := 0) (s1 := 0) (cn_Loo_checkYear ω p1 m) ms_RX11_67 rfl (Nat.le_of_ble_eq_true rfl) (Nat.le_of_ble_eq_true rfl) (Nat.le_of_ble_eq_true rfl) ⟨rfl, rfl⟩ ⟨(Nat.le_of_ble_eq_true rfl), (Nat.le_of_ble_eq_true rfl)⟩ dX11_clashes_1 (fun m1 => ?_)
  refine x_aload_n dX11_clashes_4 rfl ?_
  refine y_getF fl_RX11_35 hz_16 hq_16_3 (by rw [hz_152]; decide) dX11_clashes_5 ?_
  refine x_iload_n dX11_clashes_8 rfl ?_
  refine x_aload_n dX11_clashes_9 rfl ?_
  refine y_getI fl_RX11_63 hz_16 dX11_clashes_10 ?_
  refine y_callVV (rest := []) (c1 := 0) (s1 := 0) (c_Boo_reckon ω 152 hz_152 p1 (zI m1 16 8) m1) mv_RX11_188 hz_152 rfl (Nat.le_of_ble_eq_true rfl) (Nat.le_of_ble_eq_true rfl) (Nat.le_of_ble_eq_true rfl) ⟨rfl, rfl⟩ ⟨(Nat.le_of_ble_eq_true rfl), (Nat.le_of_ble_eq_true rfl)⟩ dX11_clashes_13 (fun m2 => ?_)
  refine x_aload_n dX11_clashes_16 rfl ?_
  refine y_getF fl_RX11_35 hz_16 hq_16_3 (by rw [hz_152]; decide) dX11_clashes_17 ?_
  refine y_callVP (rest := []) (c1 := 0) (s1 := 0) (c_Boo_countClashes ω 152 hz_152 m2) mv_RX11_208 hz_152 rfl (Nat.le_of_ble_eq_true rfl) (Nat.le_of_ble_eq_true rfl) (Nat.le_of_ble_eq_true rfl) ⟨rfl, rfl⟩ ⟨(Nat.le_of_ble_eq_true rfl), (Nat.le_of_ble_eq_true rfl)⟩ dX11_clashes_20 (fun v3 => ?_)
  exact x_iret rfl rfl ⟨(Nat.le_of_ble_eq_true rfl), (Nat.le_of_ble_eq_true rfl)⟩ dX11_clashes_23
abbrev kn_Loo_isMidnight : Kx := (yX11_isMidnight.cls, cX11_isMidnight, 3, (some .boolean), [], false)
set_option maxHeartbeats 4000000 in
set_option maxRecDepth 100000 in
theorem cn_Loo_isMidnight (ω : Wd) (p1 : Int32) (p2 : Int32) (m : Mm) : Ev ω true 9 0 0 yX11_isMidnight cX11_isMidnight 3 (some .boolean) [.ref (zad ω 16), .int p1, .int p2] m fI (n_Loo_isMidnight p1 p2 m) := by
  refine Ev.of (b := false) (ls := [some (.ref (zad ω 16)), some (.int p1), some (.int p2)]) (plainFor_of_name (by decide +kernel)) (fun h => by cases h) rfl (Nat.le_of_ble_eq_true rfl) rfl ?_
  change Sx ω ω true 9 0 0 kn_Loo_isMidnight fI 0 0 m 0 _ _ _
  unfold n_Loo_isMidnight
  refine x_aload_n dX11_isMidnight_0 rfl ?_
  refine x_iload_n dX11_isMidnight_1 rfl ?_
  refine y_callVV (rest := []) (c1 := 0) (s1 := 0) (cn_Loo_checkFeast ω p1 m) mv_RX11_148 hz_16 rfl (Nat.le_of_ble_eq_true rfl) (Nat.le_of_ble_eq_true rfl) (Nat.le_of_ble_eq_true rfl) ⟨rfl, rfl⟩ ⟨(Nat.le_of_ble_eq_true rfl), (Nat.le_of_ble_eq_true rfl)⟩ dX11_isMidnight_2 (fun m1 => ?_)
  refine x_iload_n dX11_isMidnight_5 rfl ?_
  refine y_callSV (rest := []) (c1 := 0) (s1 := 0) (cn_Loo_checkYear ω p2 m1) ms_RX11_67 rfl (Nat.le_of_ble_eq_true rfl) (Nat.le_of_ble_eq_true rfl) (Nat.le_of_ble_eq_true rfl) ⟨rfl, rfl⟩ ⟨(Nat.le_of_ble_eq_true rfl), (Nat.le_of_ble_eq_true rfl)⟩ dX11_isMidnight_6 (fun m2 => ?_)
  refine x_aload_n dX11_isMidnight_9 rfl ?_
  refine y_getF fl_RX11_35 hz_16 hq_16_3 (by rw [hz_152]; decide) dX11_isMidnight_10 ?_
  refine x_iload_n dX11_isMidnight_13 rfl ?_
  refine x_aload_n dX11_isMidnight_14 rfl ?_
  refine y_getI fl_RX11_63 hz_16 dX11_isMidnight_15 ?_
  refine y_callVV (rest := []) (c1 := 0) (s1 := 0) (c_Boo_reckon ω 152 hz_152 p2 (zI m2 16 8) m2) mv_RX11_188 hz_152 rfl (Nat.le_of_ble_eq_true rfl) (Nat.le_of_ble_eq_true rfl) (Nat.le_of_ble_eq_true rfl) ⟨rfl, rfl⟩ ⟨(Nat.le_of_ble_eq_true rfl), (Nat.le_of_ble_eq_true rfl)⟩ dX11_isMidnight_18 (fun m3 => ?_)
  refine x_aload_n dX11_isMidnight_21 rfl ?_
  refine y_getF fl_RX11_39 hz_16 hq_16_4 (by rw [hz_158]; decide) dX11_isMidnight_22 ?_
  refine x_iload_n dX11_isMidnight_25 rfl ?_
  refine x_aload_n dX11_isMidnight_26 rfl ?_
  refine y_callVP (rest := [.int p2, .ref (zad ω 158)]) (c1 := 0) (s1 := 0) (c_Loo_otherTable ω m3) mv_RX11_211 hz_16 rfl (Nat.le_of_ble_eq_true rfl) (Nat.le_of_ble_eq_true rfl) (Nat.le_of_ble_eq_true rfl) ⟨rfl, rfl⟩ ⟨(Nat.le_of_ble_eq_true rfl), (Nat.le_of_ble_eq_true rfl)⟩ dX11_isMidnight_27 (fun v4 => ?_)
  refine y_callVV (rest := []) (c1 := 0) (s1 := 0) (c_Boo_reckon ω 158 hz_158 p2 v4 m3) mv_RX11_188 hz_158 rfl (Nat.le_of_ble_eq_true rfl) (Nat.le_of_ble_eq_true rfl) (Nat.le_of_ble_eq_true rfl) ⟨rfl, rfl⟩ ⟨(Nat.le_of_ble_eq_true rfl), (Nat.le_of_ble_eq_true rfl)⟩ dX11_isMidnight_30 (fun m5 => ?_)
  refine x_aload_n dX11_isMidnight_33 rfl ?_
  refine y_getF fl_RX11_35 hz_16 hq_16_3 (by rw [hz_152]; decide) dX11_isMidnight_34 ?_
  refine x_aload_n dX11_isMidnight_37 rfl ?_
  refine y_getF fl_RX11_39 hz_16 hq_16_4 (by rw [hz_158]; decide) dX11_isMidnight_38 ?_
  refine x_iload_n dX11_isMidnight_41 rfl ?_
  refine y_callVP (rest := []) (c1 := 0) (s1 := 0) (c_Boo_isNextTo ω 152 hz_152 158 hz_158 p1 m5) mv_RX11_214 hz_152 rfl (Nat.le_of_ble_eq_true rfl) (Nat.le_of_ble_eq_true rfl) (Nat.le_of_ble_eq_true rfl) ⟨rfl, rfl⟩ ⟨(Nat.le_of_ble_eq_true rfl), (Nat.le_of_ble_eq_true rfl)⟩ dX11_isMidnight_42 (fun v6 => ?_)
  refine x_guard (fun hv => ?_)
  exact x_zret rfl rfl (zBo_nar hv) ⟨(Nat.le_of_ble_eq_true rfl), (Nat.le_of_ble_eq_true rfl)⟩ dX11_isMidnight_45
abbrev kn_Loo_cost : Kx := (yX11_cost.cls, cX11_cost, 3, (some .int), [], false)
set_option maxHeartbeats 4000000 in
set_option maxRecDepth 100000 in
theorem cn_Loo_cost (ω : Wd) (p1 : Int32) (p2 : Int32) (m : Mm) : Ev ω true 9 0 0 yX11_cost cX11_cost 3 (some .int) [.ref (zad ω 16), .int p1, .int p2] m fI (n_Loo_cost p1 p2 m) := by
  refine Ev.of (b := false) (ls := [some (.ref (zad ω 16)), some (.int p1), some (.int p2)]) (plainFor_of_name (by decide +kernel)) (fun h => by cases h) rfl (Nat.le_of_ble_eq_true rfl) rfl ?_
  change Sx ω ω true 9 0 0 kn_Loo_cost fI 0 0 m 0 _ _ _
  unfold n_Loo_cost
  refine x_aload_n dX11_cost_0 rfl ?_
  refine x_iload_n dX11_cost_1 rfl ?_
  refine y_callVV (rest := []) (c1 := 0) (s1 := 0) (cn_Loo_checkFeast ω p1 m) mv_RX11_148 hz_16 rfl (Nat.le_of_ble_eq_true rfl) (Nat.le_of_ble_eq_true rfl) (Nat.le_of_ble_eq_true rfl) ⟨rfl, rfl⟩ ⟨(Nat.le_of_ble_eq_true rfl), (Nat.le_of_ble_eq_true rfl)⟩ dX11_cost_2 (fun m1 => ?_)
  refine x_iload_n dX11_cost_5 rfl ?_
  refine y_callSV (rest := []) (c1 := 0) (s1 := 0) (cn_Loo_checkYear ω p2 m1) ms_RX11_67 rfl (Nat.le_of_ble_eq_true rfl) (Nat.le_of_ble_eq_true rfl) (Nat.le_of_ble_eq_true rfl) ⟨rfl, rfl⟩ ⟨(Nat.le_of_ble_eq_true rfl), (Nat.le_of_ble_eq_true rfl)⟩ dX11_cost_6 (fun m2 => ?_)
  refine x_aload_n dX11_cost_9 rfl ?_
  refine y_getF fl_RX11_35 hz_16 hq_16_3 (by rw [hz_152]; decide) dX11_cost_10 ?_
  refine x_iload_n dX11_cost_13 rfl ?_
  refine x_aload_n dX11_cost_14 rfl ?_
  refine y_getI fl_RX11_63 hz_16 dX11_cost_15 ?_
  refine y_callVV (rest := []) (c1 := 0) (s1 := 0) (c_Boo_reckon ω 152 hz_152 p2 (zI m2 16 8) m2) mv_RX11_188 hz_152 rfl (Nat.le_of_ble_eq_true rfl) (Nat.le_of_ble_eq_true rfl) (Nat.le_of_ble_eq_true rfl) ⟨rfl, rfl⟩ ⟨(Nat.le_of_ble_eq_true rfl), (Nat.le_of_ble_eq_true rfl)⟩ dX11_cost_18 (fun m3 => ?_)
  refine x_aload_n dX11_cost_21 rfl ?_
  refine y_getF fl_RX11_35 hz_16 hq_16_3 (by rw [hz_152]; decide) dX11_cost_22 ?_
  refine x_iload_n dX11_cost_25 rfl ?_
  refine y_callVP (rest := []) (c1 := 0) (s1 := 0) (c_Boo_costOf ω 152 hz_152 p1 m3) mv_RX11_229 hz_152 rfl (Nat.le_of_ble_eq_true rfl) (Nat.le_of_ble_eq_true rfl) (Nat.le_of_ble_eq_true rfl) ⟨rfl, rfl⟩ ⟨(Nat.le_of_ble_eq_true rfl), (Nat.le_of_ble_eq_true rfl)⟩ dX11_cost_26 (fun v4 => ?_)
  exact x_iret rfl rfl ⟨(Nat.le_of_ble_eq_true rfl), (Nat.le_of_ble_eq_true rfl)⟩ dX11_cost_29
abbrev kn_Loo_yearCost : Kx := (yX11_yearCost.cls, cX11_yearCost, 2, (some .int), [], false)
set_option maxHeartbeats 4000000 in
set_option maxRecDepth 100000 in
theorem cn_Loo_yearCost (ω : Wd) (p1 : Int32) (m : Mm) : Ev ω true 9 0 0 yX11_yearCost cX11_yearCost 2 (some .int) [.ref (zad ω 16), .int p1] m fI (n_Loo_yearCost p1 m) := by
  refine Ev.of (b := false) (ls := [some (.ref (zad ω 16)), some (.int p1)]) (plainFor_of_name (by decide +kernel)) (fun h => by cases h) rfl (Nat.le_of_ble_eq_true rfl) rfl ?_
  change Sx ω ω true 9 0 0 kn_Loo_yearCost fI 0 0 m 0 _ _ _
  unfold n_Loo_yearCost
  refine x_iload_n dX11_yearCost_0 rfl ?_
  refine y_callSV (rest := []) (c1 := 0) (s1 := 0) (cn_Loo_checkYear ω p1 m) ms_RX11_67 rfl (Nat.le_of_ble_eq_true rfl) (Nat.le_of_ble_eq_true rfl) (Nat.le_of_ble_eq_true rfl) ⟨rfl, rfl⟩ ⟨(Nat.le_of_ble_eq_true rfl), (Nat.le_of_ble_eq_true rfl)⟩ dX11_yearCost_1 (fun m1 => ?_)
  refine x_aload_n dX11_yearCost_4 rfl ?_
  refine y_getF fl_RX11_35 hz_16 hq_16_3 (by rw [hz_152]; decide) dX11_yearCost_5 ?_
  refine x_iload_n dX11_yearCost_8 rfl ?_
  refine x_aload_n dX11_yearCost_9 rfl ?_
  refine y_getI fl_RX11_63 hz_16 dX11_yearCost_10 ?_
  refine y_callVV (rest := []) (c1 := 0) (s1 := 0) (c_Boo_reckon ω 152 hz_152 p1 (zI m1 16 8) m1) mv_RX11_188 hz_152 rfl (Nat.le_of_ble_eq_true rfl) (Nat.le_of_ble_eq_true rfl) (Nat.le_of_ble_eq_true rfl) ⟨rfl, rfl⟩ ⟨(Nat.le_of_ble_eq_true rfl), (Nat.le_of_ble_eq_true rfl)⟩ dX11_yearCost_13 (fun m2 => ?_)
  refine x_aload_n dX11_yearCost_16 rfl ?_
  refine y_getF fl_RX11_35 hz_16 hq_16_3 (by rw [hz_152]; decide) dX11_yearCost_17 ?_
  refine y_callVP (rest := []) (c1 := 0) (s1 := 0) (c_Boo_costOfAll ω 152 hz_152 m2) mv_RX11_232 hz_152 rfl (Nat.le_of_ble_eq_true rfl) (Nat.le_of_ble_eq_true rfl) (Nat.le_of_ble_eq_true rfl) ⟨rfl, rfl⟩ ⟨(Nat.le_of_ble_eq_true rfl), (Nat.le_of_ble_eq_true rfl)⟩ dX11_yearCost_20 (fun v3 => ?_)
  exact x_iret rfl rfl ⟨(Nat.le_of_ble_eq_true rfl), (Nat.le_of_ble_eq_true rfl)⟩ dX11_yearCost_23
abbrev kn_Loo_search : Kx := (yX11_search.cls, cX11_search, 2, (some .int), [], false)
set_option maxHeartbeats 4000000 in
set_option maxRecDepth 100000 in
theorem cn_Loo_search (ω : Wd) (p1 : Int32) (m : Mm) : Ev ω true 110 0 0 yX11_search cX11_search 2 (some .int) [.ref (zad ω 16), .int p1] m fI (n_Loo_search p1 m) := by
  refine Ev.of (b := false) (ls := [some (.ref (zad ω 16)), some (.int p1)]) (plainFor_of_name (by decide +kernel)) (fun h => by cases h) rfl (Nat.le_of_ble_eq_true rfl) rfl ?_
  change Sx ω ω true 110 0 0 kn_Loo_search fI 0 0 m 0 _ _ _
  unfold n_Loo_search
  refine x_iload_n dX11_search_0 rfl ?_
  refine y_callSV (rest := []) (c1 := 0) (s1 := 0) (cn_Loo_checkYear ω p1 m) ms_RX11_67 rfl (Nat.le_of_ble_eq_true rfl) (Nat.le_of_ble_eq_true rfl) (Nat.le_of_ble_eq_true rfl) ⟨rfl, rfl⟩ ⟨(Nat.le_of_ble_eq_true rfl), (Nat.le_of_ble_eq_true rfl)⟩ dX11_search_1 (fun m1 => ?_)
  refine x_aload_n dX11_search_4 rfl ?_
  refine y_getF fl_RX11_19 hz_16 hq_16_1 (by rw [hz_19]; decide) dX11_search_5 ?_
  refine x_aload_n dX11_search_8 rfl ?_
  refine y_getF fl_RX11_10 hz_16 hq_16_0 (by rw [hz_17]; decide) dX11_search_9 ?_
  refine y_callVI (rest := []) (c1 := 0) (s1 := 0) (c_Par_readQuestion ω 17 hz_17 m1) mv_RX11_119 hz_19 rfl (Nat.le_of_ble_eq_true rfl) (Nat.le_of_ble_eq_true rfl) (Nat.le_of_ble_eq_true rfl) ⟨rfl, rfl⟩ ⟨(Nat.le_of_ble_eq_true rfl), (Nat.le_of_ble_eq_true rfl)⟩ dX11_search_12 (fun v3 m2 => ?_)
  refine x_iconst (v := (-1)) dX11_search_15 (by decide) ?_
  refine x_icmp_eq (tgt := 29) dX11_search_16 (by decide) (fun hc4 => ?_) (fun hc4 => ?_)
  · refine x_aload_n dX11_search_29 rfl ?_
    refine y_callVV (rest := []) (c1 := 0) (s1 := 0) (cn_Loo_checkNames ω m2) mv_RX11_133 hz_16 rfl (Nat.le_of_ble_eq_true rfl) (Nat.le_of_ble_eq_true rfl) (Nat.le_of_ble_eq_true rfl) ⟨rfl, rfl⟩ ⟨(Nat.le_of_ble_eq_true rfl), (Nat.le_of_ble_eq_true rfl)⟩ dX11_search_30 (fun m5 => ?_)
    refine x_aload_n dX11_search_33 rfl ?_
    refine y_getF fl_RX11_52 hz_16 hq_16_6 (by rw [hz_170]; decide) dX11_search_34 ?_
    refine x_aload_n dX11_search_37 rfl ?_
    refine y_getF fl_RX11_19 hz_16 hq_16_1 (by rw [hz_19]; decide) dX11_search_38 ?_
    refine y_callVQ (c9 := 3) (rest := [.ref (zad ω 170)]) (c1 := 0) (s1 := 0) (c_Par_code ω m5) mv_RX11_136 hz_19 rfl (Nat.le_of_ble_eq_true rfl) (Nat.le_of_ble_eq_true rfl) (Nat.le_of_ble_eq_true rfl) ⟨rfl, rfl⟩ ⟨(Nat.le_of_ble_eq_true rfl), (Nat.le_of_ble_eq_true rfl)⟩ dX11_search_41 (fun q6 hq6 => ?_)
    refine x_iload_n dX11_search_44 rfl ?_
    refine y_callVV (rest := []) (c1 := 0) (s1 := 0) (c_Sol_start ω q6 hq6 p1 m5) mv_RX11_237 hz_170 rfl (Nat.le_of_ble_eq_true rfl) (Nat.le_of_ble_eq_true rfl) (Nat.le_of_ble_eq_true rfl) ⟨rfl, rfl⟩ ⟨(Nat.le_of_ble_eq_true rfl), (Nat.le_of_ble_eq_true rfl)⟩ dX11_search_45 (fun m7 => ?_)
    refine x_aload_n dX11_search_48 rfl ?_
    refine y_getF fl_RX11_10 hz_16 hq_16_0 (by rw [hz_17]; decide) dX11_search_49 ?_
    refine y_callVV (rest := []) (c1 := 0) (s1 := 0) (c_Txt_clear ω 17 hz_17 m7) mv_RX11_112 hz_17 rfl (Nat.le_of_ble_eq_true rfl) (Nat.le_of_ble_eq_true rfl) (Nat.le_of_ble_eq_true rfl) ⟨rfl, rfl⟩ ⟨(Nat.le_of_ble_eq_true rfl), (Nat.le_of_ble_eq_true rfl)⟩ dX11_search_52 (fun m8 => ?_)
    refine x_aload_n dX11_search_55 rfl ?_
    refine y_getF fl_RX11_35 hz_16 hq_16_3 (by rw [hz_152]; decide) dX11_search_56 ?_
    refine x_iload_n dX11_search_59 rfl ?_
    refine x_aload_n dX11_search_60 rfl ?_
    refine y_getI fl_RX11_63 hz_16 dX11_search_61 ?_
    refine y_callVV (rest := []) (c1 := 0) (s1 := 0) (c_Boo_reckon ω 152 hz_152 p1 (zI m8 16 8) m8) mv_RX11_188 hz_152 rfl (Nat.le_of_ble_eq_true rfl) (Nat.le_of_ble_eq_true rfl) (Nat.le_of_ble_eq_true rfl) ⟨rfl, rfl⟩ ⟨(Nat.le_of_ble_eq_true rfl), (Nat.le_of_ble_eq_true rfl)⟩ dX11_search_64 (fun m9 => ?_)
    refine x_aload_n dX11_search_67 rfl ?_
    refine y_getF fl_RX11_35 hz_16 hq_16_3 (by rw [hz_152]; decide) dX11_search_68 ?_
    refine y_callVP (rest := []) (c1 := 0) (s1 := 0) (c_Boo_costOfAll ω 152 hz_152 m9) mv_RX11_232 hz_152 rfl (Nat.le_of_ble_eq_true rfl) (Nat.le_of_ble_eq_true rfl) (Nat.le_of_ble_eq_true rfl) ⟨rfl, rfl⟩ ⟨(Nat.le_of_ble_eq_true rfl), (Nat.le_of_ble_eq_true rfl)⟩ dX11_search_71 (fun v10 => ?_)
    exact x_iret rfl rfl ⟨(Nat.le_of_ble_eq_true rfl), (Nat.le_of_ble_eq_true rfl)⟩ dX11_search_74
  · exact x_none
abbrev kn_Loo_goOn : Kx := (yX11_goOn.cls, cX11_goOn, 2, (some .int), [], false)
set_option maxHeartbeats 4000000 in
set_option maxRecDepth 100000 in
theorem cn_Loo_goOn (ω : Wd) (p1 : Int32) (m : Mm) : Ev ω true 8 0 0 yX11_goOn cX11_goOn 2 (some .int) [.ref (zad ω 16), .int p1] m fI (n_Loo_goOn p1 m) := by
  refine Ev.of (b := false) (ls := [some (.ref (zad ω 16)), some (.int p1)]) (plainFor_of_name (by decide +kernel)) (fun h => by cases h) rfl (Nat.le_of_ble_eq_true rfl) rfl ?_
  change Sx ω ω true 8 0 0 kn_Loo_goOn fI 0 0 m 0 _ _ _
  unfold n_Loo_goOn
  refine x_iload_n dX11_goOn_0 rfl ?_
  refine x_iconst (v := 1) dX11_goOn_1 (by decide) ?_
  refine y_join (fun j2 => Sx ω ω true 8 0 0 kn_Loo_goOn fI 0 0 m 11 [none, none] [] j2) ?_ (fun j2 hj2 => ?_)
  · exact x_none
  · refine x_icmp_lt (tgt := 11) dX11_goOn_2 (by decide) (fun hc1 => ?_) (fun hc1 => ?_)
    · refine y_mask (bs := [false, false]) (ls' := [none, none]) rfl ?_
      exact hj2
    · refine x_iload_n dX11_goOn_5 rfl ?_
      refine x_ldcI (v := 100000) ci_RX11_241 dX11_goOn_6 ?_
      refine x_icmp_le (tgt := 21) dX11_goOn_8 (by decide) (fun hc3 => ?_) (fun hc3 => ?_)
      · refine x_aload_n dX11_goOn_21 rfl ?_
        refine y_getF fl_RX11_52 hz_16 hq_16_6 (by rw [hz_170]; decide) dX11_goOn_22 ?_
        refine y_callVP (rest := []) (c1 := 0) (s1 := 0) (c_Sol_isStarted ω m) mv_RX11_244 hz_170 rfl (Nat.le_of_ble_eq_true rfl) (Nat.le_of_ble_eq_true rfl) (Nat.le_of_ble_eq_true rfl) ⟨rfl, rfl⟩ ⟨(Nat.le_of_ble_eq_true rfl), (Nat.le_of_ble_eq_true rfl)⟩ dX11_goOn_25 (fun v4 => ?_)
        refine x_if_ne (tgt := 41) dX11_goOn_28 (by decide) (fun hc5 => ?_) (fun hc5 => ?_)
        · exact x_none
        · refine x_aload_n dX11_goOn_41 rfl ?_
          refine y_getF fl_RX11_52 hz_16 hq_16_6 (by rw [hz_170]; decide) dX11_goOn_42 ?_
          refine x_iload_n dX11_goOn_45 rfl ?_
          refine x_aload_n dX11_goOn_46 rfl ?_
          refine y_getF fl_RX11_35 hz_16 hq_16_3 (by rw [hz_152]; decide) dX11_goOn_47 ?_
          refine x_aload_n dX11_goOn_50 rfl ?_
          refine y_getI fl_RX11_63 hz_16 dX11_goOn_51 ?_
          refine y_callVI (rest := []) (c1 := 0) (s1 := 0) (c_Sol_look ω p1 152 hz_152 (zI m 16 8) m) mv_RX11_249 hz_170 rfl (Nat.le_of_ble_eq_true rfl) (Nat.le_of_ble_eq_true rfl) (Nat.le_of_ble_eq_true rfl) ⟨rfl, rfl⟩ ⟨(Nat.le_of_ble_eq_true rfl), (Nat.le_of_ble_eq_true rfl)⟩ dX11_goOn_54 (fun v7 m6 => ?_)
          exact x_iret rfl rfl ⟨(Nat.le_of_ble_eq_true rfl), (Nat.le_of_ble_eq_true rfl)⟩ dX11_goOn_57
      · refine y_mask (bs := [false, false]) (ls' := [none, none]) rfl ?_
        exact hj2
abbrev kn_Loo_checkParish : Kx := (yX11_checkParish.cls, cX11_checkParish, 1, none, [], false)
set_option maxHeartbeats 4000000 in
set_option maxRecDepth 100000 in
theorem cn_Loo_checkParish (ω : Wd) (p1 : Int32) (m : Mm) : Ev ω true 8 0 0 yX11_checkParish cX11_checkParish 1 none [.int p1] m fV (n_Loo_checkParish p1 m) := by
  refine Ev.of (b := false) (ls := [some (.int p1)]) (plainFor_of_name (by decide +kernel)) (fun h => by cases h) rfl (Nat.le_of_ble_eq_true rfl) rfl ?_
  change Sx ω ω true 8 0 0 kn_Loo_checkParish fV 0 0 m 0 _ _ _
  unfold n_Loo_checkParish
  refine x_iload_n dX11_checkParish_0 rfl ?_
  refine y_join (fun j2 => Sx ω ω true 8 0 0 kn_Loo_checkParish fV 0 0 m 10 [none] [] j2) ?_ (fun j2 hj2 => ?_)
  · exact x_none
  · refine x_if_lt (tgt := 10) dX11_checkParish_1 (by decide) (fun hc1 => ?_) (fun hc1 => ?_)
    · refine y_mask (bs := [false]) (ls' := [none]) rfl ?_
      exact hj2
    · refine x_iload_n dX11_checkParish_4 rfl ?_
      refine x_bipush (v := 6) dX11_checkParish_5 (by decide) ?_
      refine x_icmp_lt (tgt := 21) dX11_checkParish_7 (by decide) (fun hc3 => ?_) (fun hc3 => ?_)
      · exact x_vret rfl rfl ⟨(Nat.le_of_ble_eq_true rfl), (Nat.le_of_ble_eq_true rfl)⟩ dX11_checkParish_21
      · refine y_mask (bs := [false]) (ls' := [none]) rfl ?_
        exact hj2
abbrev kn_Loo_bells : Kx := (yX11_bells.cls, cX11_bells, 3, (some .int), [], false)
set_option maxHeartbeats 4000000 in
set_option maxRecDepth 100000 in
theorem cn_Loo_bells (ω : Wd) (p1 : Int32) (p2 : Int32) (m : Mm) : Ev ω true 9 0 0 yX11_bells cX11_bells 3 (some .int) [.ref (zad ω 16), .int p1, .int p2] m fI (n_Loo_bells p1 p2 m) := by
  refine Ev.of (b := false) (ls := [some (.ref (zad ω 16)), some (.int p1), some (.int p2)]) (plainFor_of_name (by decide +kernel)) (fun h => by cases h) rfl (Nat.le_of_ble_eq_true rfl) rfl ?_
  change Sx ω ω true 9 0 0 kn_Loo_bells fI 0 0 m 0 _ _ _
  unfold n_Loo_bells
  refine x_iload_n dX11_bells_0 rfl ?_
  refine y_callSV (rest := []) (c1 := 0) (s1 := 0) (cn_Loo_checkParish ω p1 m) ms_RX11_257 rfl (Nat.le_of_ble_eq_true rfl) (Nat.le_of_ble_eq_true rfl) (Nat.le_of_ble_eq_true rfl) ⟨rfl, rfl⟩ ⟨(Nat.le_of_ble_eq_true rfl), (Nat.le_of_ble_eq_true rfl)⟩ dX11_bells_1 (fun m1 => ?_)
  refine x_iload_n dX11_bells_4 rfl ?_
  refine y_join (fun j3 => Sx ω ω true 9 0 0 kn_Loo_bells fI 0 0 m1 14 [none, none, none] [] j3) ?_ (fun j3 hj3 => ?_)
  · exact x_none
  · refine x_if_lt (tgt := 14) dX11_bells_5 (by decide) (fun hc2 => ?_) (fun hc2 => ?_)
    · refine y_mask (bs := [false, false, false]) (ls' := [none, none, none]) rfl ?_
      exact hj3
    · refine x_iload_n dX11_bells_8 rfl ?_
      refine x_bipush (v := 6) dX11_bells_9 (by decide) ?_
      refine x_icmp_le (tgt := 25) dX11_bells_11 (by decide) (fun hc4 => ?_) (fun hc4 => ?_)
      · refine x_aload_n dX11_bells_25 rfl ?_
        refine y_getF fl_RX11_59 hz_16 hq_16_7 (by rw [hz_174]; decide) dX11_bells_26 ?_
        refine x_iload_n dX11_bells_29 rfl ?_
        refine x_iload_n dX11_bells_30 rfl ?_
        refine y_callVI (rest := []) (c1 := 0) (s1 := 0) (c_Bel_hang ω p1 p2 m1) mv_RX11_262 hz_174 rfl (Nat.le_of_ble_eq_true rfl) (Nat.le_of_ble_eq_true rfl) (Nat.le_of_ble_eq_true rfl) ⟨rfl, rfl⟩ ⟨(Nat.le_of_ble_eq_true rfl), (Nat.le_of_ble_eq_true rfl)⟩ dX11_bells_31 (fun v6 m5 => ?_)
        exact x_iret rfl rfl ⟨(Nat.le_of_ble_eq_true rfl), (Nat.le_of_ble_eq_true rfl)⟩ dX11_bells_34
      · refine y_mask (bs := [false, false, false]) (ls' := [none, none, none]) rfl ?_
        exact hj3
abbrev kn_Loo_ringer : Kx := (yX11_ringer.cls, cX11_ringer, 4, (some .int), [], false)
set_option maxHeartbeats 4000000 in
set_option maxRecDepth 100000 in
theorem cn_Loo_ringer (ω : Wd) (p1 : Int32) (p2 : Int32) (m : Mm) : Ev ω true 9 0 0 yX11_ringer cX11_ringer 4 (some .int) [.ref (zad ω 16), .int p1, .int p2] m fI (n_Loo_ringer p1 p2 m) := by
  refine Ev.of (b := false) (ls := [some (.ref (zad ω 16)), some (.int p1), some (.int p2), none]) (plainFor_of_name (by decide +kernel)) (fun h => by cases h) rfl (Nat.le_of_ble_eq_true rfl) rfl ?_
  change Sx ω ω true 9 0 0 kn_Loo_ringer fI 0 0 m 0 _ _ _
  unfold n_Loo_ringer
  refine x_iload_n dX11_ringer_0 rfl ?_
  refine y_callSV (rest := []) (c1 := 0) (s1 := 0) (cn_Loo_checkParish ω p1 m) ms_RX11_257 rfl (Nat.le_of_ble_eq_true rfl) (Nat.le_of_ble_eq_true rfl) (Nat.le_of_ble_eq_true rfl) ⟨rfl, rfl⟩ ⟨(Nat.le_of_ble_eq_true rfl), (Nat.le_of_ble_eq_true rfl)⟩ dX11_ringer_1 (fun m1 => ?_)
  refine x_iload_n dX11_ringer_4 rfl ?_
  refine y_join (fun j3 => Sx ω ω true 9 0 0 kn_Loo_ringer fI 0 0 m1 14 [none, none, none, none] [] j3) ?_ (fun j3 hj3 => ?_)
  · exact x_none
  · refine x_if_lt (tgt := 14) dX11_ringer_5 (by decide) (fun hc2 => ?_) (fun hc2 => ?_)
    · refine y_mask (bs := [false, false, false, false]) (ls' := [none, none, none, none]) rfl ?_
      exact hj3
    · refine x_iload_n dX11_ringer_8 rfl ?_
      refine x_bipush (v := 6) dX11_ringer_9 (by decide) ?_
      refine x_icmp_le (tgt := 25) dX11_ringer_11 (by decide) (fun hc4 => ?_) (fun hc4 => ?_)
      · refine x_aload_n dX11_ringer_25 rfl ?_
        refine y_getF fl_RX11_59 hz_16 hq_16_7 (by rw [hz_174]; decide) dX11_ringer_26 ?_
        refine x_iload_n dX11_ringer_29 rfl ?_
        refine x_iload_n dX11_ringer_30 rfl ?_
        refine y_callVI (rest := []) (c1 := 0) (s1 := 0) (c_Bel_hire ω p1 p2 m1) mv_RX11_267 hz_174 rfl (Nat.le_of_ble_eq_true rfl) (Nat.le_of_ble_eq_true rfl) (Nat.le_of_ble_eq_true rfl) ⟨rfl, rfl⟩ ⟨(Nat.le_of_ble_eq_true rfl), (Nat.le_of_ble_eq_true rfl)⟩ dX11_ringer_31 (fun v6 m5 => ?_)
        refine x_istore_n (ls' := [some (.ref (zad ω 16)), some (.int p1), some (.int p2), some (.int v6)]) dX11_ringer_34 (Nat.le_of_ble_eq_true rfl) rfl ?_
        refine x_iload_n dX11_ringer_35 rfl ?_
        refine x_iconst (v := (-1)) dX11_ringer_36 (by decide) ?_
        refine x_icmp_ne (tgt := 51) dX11_ringer_37 (by decide) (fun hc7 => ?_) (fun hc7 => ?_)
        · exact x_none
        · refine x_iload_n dX11_ringer_51 rfl ?_
          exact x_iret rfl rfl ⟨(Nat.le_of_ble_eq_true rfl), (Nat.le_of_ble_eq_true rfl)⟩ dX11_ringer_52
      · refine y_mask (bs := [false, false, false, false]) (ls' := [none, none, none, none]) rfl ?_
        exact hj3
abbrev kn_Loo_rings : Kx := (yX11_rings.cls, cX11_rings, 5, (some .int), [], false)
set_option maxHeartbeats 4000000 in
set_option maxRecDepth 100000 in
theorem cn_Loo_rings (ω : Wd) (p1 : Int32) (p2 : Int32) (p3 : Int32) (p4 : Int32) (m : Mm) : Ev ω true 9 0 0 yX11_rings cX11_rings 5 (some .int) [.ref (zad ω 16), .int p1, .int p2, .int p3, .int p4] m fI (n_Loo_rings p1 p2 p3 p4 m) := by
  refine Ev.of (b := false) (ls := [some (.ref (zad ω 16)), some (.int p1), some (.int p2), some (.int p3), some (.int p4)]) (plainFor_of_name (by decide +kernel)) (fun h => by cases h) rfl (Nat.le_of_ble_eq_true rfl) rfl ?_
  change Sx ω ω true 9 0 0 kn_Loo_rings fI 0 0 m 0 _ _ _
  unfold n_Loo_rings
  refine x_aload_n dX11_rings_0 rfl ?_
  refine x_iload_n dX11_rings_1 rfl ?_
  refine y_callVV (rest := []) (c1 := 0) (s1 := 0) (cn_Loo_checkFeast ω p1 m) mv_RX11_148 hz_16 rfl (Nat.le_of_ble_eq_true rfl) (Nat.le_of_ble_eq_true rfl) (Nat.le_of_ble_eq_true rfl) ⟨rfl, rfl⟩ ⟨(Nat.le_of_ble_eq_true rfl), (Nat.le_of_ble_eq_true rfl)⟩ dX11_rings_2 (fun m1 => ?_)
  refine x_iload_n dX11_rings_5 rfl ?_
  refine y_callSV (rest := []) (c1 := 0) (s1 := 0) (cn_Loo_checkParish ω p3 m1) ms_RX11_257 rfl (Nat.le_of_ble_eq_true rfl) (Nat.le_of_ble_eq_true rfl) (Nat.le_of_ble_eq_true rfl) ⟨rfl, rfl⟩ ⟨(Nat.le_of_ble_eq_true rfl), (Nat.le_of_ble_eq_true rfl)⟩ dX11_rings_6 (fun m2 => ?_)
  refine x_iload_n dX11_rings_9 rfl ?_
  refine y_callSV (rest := []) (c1 := 0) (s1 := 0) (cn_Loo_checkYear ω p2 m2) ms_RX11_67 rfl (Nat.le_of_ble_eq_true rfl) (Nat.le_of_ble_eq_true rfl) (Nat.le_of_ble_eq_true rfl) ⟨rfl, rfl⟩ ⟨(Nat.le_of_ble_eq_true rfl), (Nat.le_of_ble_eq_true rfl)⟩ dX11_rings_10 (fun m3 => ?_)
  refine x_iload dX11_rings_13 rfl ?_
  refine y_join (fun j5 => Sx ω ω true 9 0 0 kn_Loo_rings fI 0 0 m3 25 [none, none, none, none, none] [] j5) ?_ (fun j5 hj5 => ?_)
  · exact x_none
  · refine x_if_lt (tgt := 25) dX11_rings_15 (by decide) (fun hc4 => ?_) (fun hc4 => ?_)
    · refine y_mask (bs := [false, false, false, false, false]) (ls' := [none, none, none, none, none]) rfl ?_
      exact hj5
    · refine x_iload dX11_rings_18 rfl ?_
      refine x_bipush (v := 6) dX11_rings_20 (by decide) ?_
      refine x_icmp_lt (tgt := 36) dX11_rings_22 (by decide) (fun hc6 => ?_) (fun hc6 => ?_)
      · refine x_aload_n dX11_rings_36 rfl ?_
        refine x_iload_n dX11_rings_37 rfl ?_
        refine y_callVV (rest := []) (c1 := 0) (s1 := 0) (c_Loo_ringYear ω p2 m3) mv_RX11_274 hz_16 rfl (Nat.le_of_ble_eq_true rfl) (Nat.le_of_ble_eq_true rfl) (Nat.le_of_ble_eq_true rfl) ⟨rfl, rfl⟩ ⟨(Nat.le_of_ble_eq_true rfl), (Nat.le_of_ble_eq_true rfl)⟩ dX11_rings_38 (fun m7 => ?_)
        refine x_aload_n dX11_rings_41 rfl ?_
        refine y_getF fl_RX11_59 hz_16 hq_16_7 (by rw [hz_174]; decide) dX11_rings_42 ?_
        refine x_iload_n dX11_rings_45 rfl ?_
        refine x_iload_n dX11_rings_46 rfl ?_
        refine x_iload dX11_rings_47 rfl ?_
        refine y_callVP (rest := []) (c1 := 0) (s1 := 0) (c_Bel_ringerAt ω p1 p3 p4 m7) mv_RX11_277 hz_174 rfl (Nat.le_of_ble_eq_true rfl) (Nat.le_of_ble_eq_true rfl) (Nat.le_of_ble_eq_true rfl) ⟨rfl, rfl⟩ ⟨(Nat.le_of_ble_eq_true rfl), (Nat.le_of_ble_eq_true rfl)⟩ dX11_rings_49 (fun v8 => ?_)
        exact x_iret rfl rfl ⟨(Nat.le_of_ble_eq_true rfl), (Nat.le_of_ble_eq_true rfl)⟩ dX11_rings_52
      · refine y_mask (bs := [false, false, false, false, false]) (ls' := [none, none, none, none, none]) rfl ?_
        exact hj5
abbrev kn_Loo_silent : Kx := (yX11_silent.cls, cX11_silent, 2, (some .int), [], false)
set_option maxHeartbeats 4000000 in
set_option maxRecDepth 100000 in
theorem cn_Loo_silent (ω : Wd) (p1 : Int32) (m : Mm) : Ev ω true 9 0 0 yX11_silent cX11_silent 2 (some .int) [.ref (zad ω 16), .int p1] m fI (n_Loo_silent p1 m) := by
  refine Ev.of (b := false) (ls := [some (.ref (zad ω 16)), some (.int p1)]) (plainFor_of_name (by decide +kernel)) (fun h => by cases h) rfl (Nat.le_of_ble_eq_true rfl) rfl ?_
  change Sx ω ω true 9 0 0 kn_Loo_silent fI 0 0 m 0 _ _ _
  unfold n_Loo_silent
  refine x_iload_n dX11_silent_0 rfl ?_
  refine y_callSV (rest := []) (c1 := 0) (s1 := 0) (cn_Loo_checkYear ω p1 m) ms_RX11_67 rfl (Nat.le_of_ble_eq_true rfl) (Nat.le_of_ble_eq_true rfl) (Nat.le_of_ble_eq_true rfl) ⟨rfl, rfl⟩ ⟨(Nat.le_of_ble_eq_true rfl), (Nat.le_of_ble_eq_true rfl)⟩ dX11_silent_1 (fun m1 => ?_)
  refine x_aload_n dX11_silent_4 rfl ?_
  refine x_iload_n dX11_silent_5 rfl ?_
  refine y_callVV (rest := []) (c1 := 0) (s1 := 0) (c_Loo_ringYear ω p1 m1) mv_RX11_274 hz_16 rfl (Nat.le_of_ble_eq_true rfl) (Nat.le_of_ble_eq_true rfl) (Nat.le_of_ble_eq_true rfl) ⟨rfl, rfl⟩ ⟨(Nat.le_of_ble_eq_true rfl), (Nat.le_of_ble_eq_true rfl)⟩ dX11_silent_6 (fun m2 => ?_)
  refine x_aload_n dX11_silent_9 rfl ?_
  refine y_getF fl_RX11_59 hz_16 hq_16_7 (by rw [hz_174]; decide) dX11_silent_10 ?_
  refine y_callVP (rest := []) (c1 := 0) (s1 := 0) (c_Bel_silences ω m2) mv_RX11_281 hz_174 rfl (Nat.le_of_ble_eq_true rfl) (Nat.le_of_ble_eq_true rfl) (Nat.le_of_ble_eq_true rfl) ⟨rfl, rfl⟩ ⟨(Nat.le_of_ble_eq_true rfl), (Nat.le_of_ble_eq_true rfl)⟩ dX11_silent_13 (fun v3 => ?_)
  exact x_iret rfl rfl ⟨(Nat.le_of_ble_eq_true rfl), (Nat.le_of_ble_eq_true rfl)⟩ dX11_silent_16
abbrev kn_Loo_peals : Kx := (yX11_peals.cls, cX11_peals, 3, (some .int), [], false)
set_option maxHeartbeats 4000000 in
set_option maxRecDepth 100000 in
theorem cn_Loo_peals (ω : Wd) (p1 : Int32) (p2 : Int32) (m : Mm) : Ev ω true 9 0 0 yX11_peals cX11_peals 3 (some .int) [.ref (zad ω 16), .int p1, .int p2] m fI (n_Loo_peals p1 p2 m) := by
  refine Ev.of (b := false) (ls := [some (.ref (zad ω 16)), some (.int p1), some (.int p2)]) (plainFor_of_name (by decide +kernel)) (fun h => by cases h) rfl (Nat.le_of_ble_eq_true rfl) rfl ?_
  change Sx ω ω true 9 0 0 kn_Loo_peals fI 0 0 m 0 _ _ _
  unfold n_Loo_peals
  refine x_iload_n dX11_peals_0 rfl ?_
  refine y_join (fun j2 => Sx ω ω true 9 0 0 kn_Loo_peals fI 0 0 m 15 [none, none, none] [] j2) ?_ (fun j2 hj2 => ?_)
  · exact x_none
  · refine x_if_lt (tgt := 15) dX11_peals_1 (by decide) (fun hc1 => ?_) (fun hc1 => ?_)
    · refine y_mask (bs := [false, false, false]) (ls' := [none, none, none]) rfl ?_
      exact hj2
    · refine x_iload_n dX11_peals_4 rfl ?_
      refine x_aload_n dX11_peals_5 rfl ?_
      refine y_getF fl_RX11_59 hz_16 hq_16_7 (by rw [hz_174]; decide) dX11_peals_6 ?_
      refine y_callVP (rest := [.int p1]) (c1 := 0) (s1 := 0) (c_Bel_size ω m) mv_RX11_284 hz_174 rfl (Nat.le_of_ble_eq_true rfl) (Nat.le_of_ble_eq_true rfl) (Nat.le_of_ble_eq_true rfl) ⟨rfl, rfl⟩ ⟨(Nat.le_of_ble_eq_true rfl), (Nat.le_of_ble_eq_true rfl)⟩ dX11_peals_9 (fun v3 => ?_)
      refine x_icmp_lt (tgt := 26) dX11_peals_12 (by decide) (fun hc4 => ?_) (fun hc4 => ?_)
      · refine x_iload_n dX11_peals_26 rfl ?_
        refine y_callSV (rest := []) (c1 := 0) (s1 := 0) (cn_Loo_checkYear ω p2 m) ms_RX11_67 rfl (Nat.le_of_ble_eq_true rfl) (Nat.le_of_ble_eq_true rfl) (Nat.le_of_ble_eq_true rfl) ⟨rfl, rfl⟩ ⟨(Nat.le_of_ble_eq_true rfl), (Nat.le_of_ble_eq_true rfl)⟩ dX11_peals_27 (fun m5 => ?_)
        refine x_aload_n dX11_peals_30 rfl ?_
        refine x_iload_n dX11_peals_31 rfl ?_
        refine y_callVV (rest := []) (c1 := 0) (s1 := 0) (c_Loo_ringYear ω p2 m5) mv_RX11_274 hz_16 rfl (Nat.le_of_ble_eq_true rfl) (Nat.le_of_ble_eq_true rfl) (Nat.le_of_ble_eq_true rfl) ⟨rfl, rfl⟩ ⟨(Nat.le_of_ble_eq_true rfl), (Nat.le_of_ble_eq_true rfl)⟩ dX11_peals_32 (fun m6 => ?_)
        refine x_aload_n dX11_peals_35 rfl ?_
        refine y_getF fl_RX11_59 hz_16 hq_16_7 (by rw [hz_174]; decide) dX11_peals_36 ?_
        refine x_iload_n dX11_peals_39 rfl ?_
        refine y_callVP (rest := []) (c1 := 0) (s1 := 0) (c_Bel_countOf ω p1 m6) mv_RX11_287 hz_174 rfl (Nat.le_of_ble_eq_true rfl) (Nat.le_of_ble_eq_true rfl) (Nat.le_of_ble_eq_true rfl) ⟨rfl, rfl⟩ ⟨(Nat.le_of_ble_eq_true rfl), (Nat.le_of_ble_eq_true rfl)⟩ dX11_peals_40 (fun v7 => ?_)
        exact x_iret rfl rfl ⟨(Nat.le_of_ble_eq_true rfl), (Nat.le_of_ble_eq_true rfl)⟩ dX11_peals_43
      · refine y_mask (bs := [false, false, false]) (ls' := [none, none, none]) rfl ?_
        exact hj2
