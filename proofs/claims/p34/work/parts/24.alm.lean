abbrev kk_Alm_isFull : Kx := (yX0_isFull.cls, cX0_isFull, 1, (some .boolean), [], false)
set_option maxHeartbeats 4000000 in
set_option maxRecDepth 100000 in
theorem c_Alm_isFull (ω : Wd) (m : Mm) : Ev ω true 1 0 0 yX0_isFull cX0_isFull 1 (some .boolean) [.ref (zad ω 25)] m (fP m) (f_Alm_isFull m) := by
  refine Ev.of (b := false) (ls := [some (.ref (zad ω 25))]) (plainFor_of_name (by decide +kernel)) (fun h => by cases h) rfl (Nat.le_of_ble_eq_true rfl) rfl ?_
  change Sx ω ω true 1 0 0 kk_Alm_isFull (fP m) 0 0 m 0 _ _ _
  unfold f_Alm_isFull
  refine x_aload_n dX0_isFull_0 rfl ?_
  refine y_getI fl_RX0_34 hz_25 dX0_isFull_1 ?_
  refine x_bipush (v := 20) dX0_isFull_4 (by decide) ?_
  refine x_icmp_lt (tgt := 13) dX0_isFull_6 (by decide) (fun hc1 => ?_) (fun hc1 => ?_)
  · refine x_iconst (v := 0) dX0_isFull_13 (by decide) ?_
    exact x_zret rfl rfl (zBo_nar (by decide)) ⟨(Nat.le_of_ble_eq_true rfl), (Nat.le_of_ble_eq_true rfl)⟩ dX0_isFull_14
  · refine x_iconst (v := 1) dX0_isFull_9 (by decide) ?_
    refine x_goto (tgt := 14) dX0_isFull_10 (by decide) ?_
    exact x_zret rfl rfl (zBo_nar (by decide)) ⟨(Nat.le_of_ble_eq_true rfl), (Nat.le_of_ble_eq_true rfl)⟩ dX0_isFull_14
abbrev kk_Alm_size : Kx := (yX0_size.cls, cX0_size, 1, (some .int), [], false)
set_option maxHeartbeats 4000000 in
set_option maxRecDepth 100000 in
theorem c_Alm_size (ω : Wd) (m : Mm) : Ev ω true 1 0 0 yX0_size cX0_size 1 (some .int) [.ref (zad ω 25)] m (fP m) (f_Alm_size m) := by
  refine Ev.of (b := false) (ls := [some (.ref (zad ω 25))]) (plainFor_of_name (by decide +kernel)) (fun h => by cases h) rfl (Nat.le_of_ble_eq_true rfl) rfl ?_
  change Sx ω ω true 1 0 0 kk_Alm_size (fP m) 0 0 m 0 _ _ _
  unfold f_Alm_size
  refine x_aload_n dX0_size_0 rfl ?_
  refine y_getI fl_RX0_34 hz_25 dX0_size_1 ?_
  exact x_iret rfl rfl ⟨(Nat.le_of_ble_eq_true rfl), (Nat.le_of_ble_eq_true rfl)⟩ dX0_size_4
abbrev kk_Alm_add : Kx := (yX0_add.cls, cX0_add, 4, (some .int), [], false)
set_option maxHeartbeats 4000000 in
set_option maxRecDepth 100000 in
theorem c_Alm_add (ω : Wd) (o1 : Nat) (ho1 : zT o1 = 8) (o2 : Nat) (ho2 : zT o2 = 3) (m : Mm) : Ev ω true 3 0 0 yX0_add cX0_add 4 (some .int) [.ref (zad ω 25), .ref (zad ω o1), .ref (zad ω o2)] m fI (f_Alm_add o1 o2 m) := by
  refine Ev.of (b := false) (ls := [some (.ref (zad ω 25)), some (.ref (zad ω o1)), some (.ref (zad ω o2)), none]) (plainFor_of_name (by decide +kernel)) (fun h => by cases h) rfl (Nat.le_of_ble_eq_true rfl) rfl ?_
  change Sx ω ω true 3 0 0 kk_Alm_add fI 0 0 m 0 _ _ _
  unfold f_Alm_add
  refine x_aload_n dX0_add_0 rfl ?_
  refine y_getI fl_RX0_34 hz_25 dX0_add_1 ?_
  refine y_letI (fun x1 => ?_)
  refine x_istore_n (ls' := [some (.ref (zad ω 25)), some (.ref (zad ω o1)), some (.ref (zad ω o2)), some (.int x1)]) dX0_add_4 (Nat.le_of_ble_eq_true rfl) rfl ?_
  refine x_aload_n dX0_add_5 rfl ?_
  refine y_getF fl_RX0_13 hz_25 hq_25_0 (by rw [hz_26]; decide) dX0_add_6 ?_
  refine x_iload_n dX0_add_9 rfl ?_
  refine y_aald (q := fun j => 32 + 6 * j) (Or.inl rfl) hz_26 hn_26 la_26 dX0_add_10 (fun hi2 => ?_)
  refine y_getF fl_RX0_42 (lr_rows (zIn_ix hi2)) (lq_4_0 (lr_rows (zIn_ix hi2))) (by rw [lt_4_0 (lr_rows (zIn_ix hi2))]; decide) dX0_add_11 ?_
  refine x_aload_n dX0_add_14 rfl ?_
  refine y_callVV (rest := []) (c1 := 0) (s1 := 0) (c_Txt_copyFrom ω (32 + 6 * zIx x1 + 1) (lt_4_0 (lr_rows (zIn_ix hi2))) o1 ho1 m) mv_RX0_53 (lt_4_0 (lr_rows (zIn_ix hi2))) rfl (Nat.le_of_ble_eq_true rfl) (Nat.le_of_ble_eq_true rfl) (Nat.le_of_ble_eq_true rfl) ⟨rfl, rfl⟩ ⟨(Nat.le_of_ble_eq_true rfl), (Nat.le_of_ble_eq_true rfl)⟩ dX0_add_15 (fun m3 => ?_)
  refine x_aload_n dX0_add_18 rfl ?_
  refine y_getF fl_RX0_13 hz_25 hq_25_0 (by rw [hz_26]; decide) dX0_add_19 ?_
  refine x_iload_n dX0_add_22 rfl ?_
  refine y_aald (q := fun j => 32 + 6 * j) (Or.inl rfl) hz_26 hn_26 la_26 dX0_add_23 (fun hi4 => ?_)
  refine y_getF fl_RX0_38 (lr_rows (zIn_ix hi4)) (lq_4_1 (lr_rows (zIn_ix hi4))) (by rw [lt_4_1 (lr_rows (zIn_ix hi4))]; decide) dX0_add_24 ?_
  refine x_aload_n dX0_add_27 rfl ?_
  refine y_callVV (rest := []) (c1 := 0) (s1 := 0) (c_Cod_copyFrom ω (32 + 6 * zIx x1 + 3) (lt_4_1 (lr_rows (zIn_ix hi4))) o2 ho2 m3) mv_RX0_59 (lt_4_1 (lr_rows (zIn_ix hi4))) rfl (Nat.le_of_ble_eq_true rfl) (Nat.le_of_ble_eq_true rfl) (Nat.le_of_ble_eq_true rfl) ⟨rfl, rfl⟩ ⟨(Nat.le_of_ble_eq_true rfl), (Nat.le_of_ble_eq_true rfl)⟩ dX0_add_28 (fun m5 => ?_)
  refine x_aload_n dX0_add_31 rfl ?_
  refine y_getF fl_RX0_17 hz_25 hq_25_1 (by rw [hz_27]; decide) dX0_add_32 ?_
  refine x_iload_n dX0_add_35 rfl ?_
  refine x_iload_n dX0_add_36 rfl ?_
  refine y_iast hz_27 hn_27 dX0_add_37 (fun hi => ?_)
  refine y_letM (fun m6 => ?_)
  refine x_aload_n dX0_add_38 rfl ?_
  refine x_dup dX0_add_39 rfl ?_
  refine y_getI fl_RX0_34 hz_25 dX0_add_40 ?_
  refine x_iconst (v := 1) dX0_add_43 (by decide) ?_
  refine x_iadd dX0_add_44 ?_
  refine y_putI fp_RX0_34 hz_25 dX0_add_45 ?_
  refine y_letM (fun m7 => ?_)
  refine x_iload_n dX0_add_48 rfl ?_
  exact x_iret rfl rfl ⟨(Nat.le_of_ble_eq_true rfl), (Nat.le_of_ble_eq_true rfl)⟩ dX0_add_49
abbrev kk_Alm_setRank : Kx := (yX0_setRank.cls, cX0_setRank, 4, none, [], false)
set_option maxHeartbeats 4000000 in
set_option maxRecDepth 100000 in
theorem c_Alm_setRank (ω : Wd) (p1 : Int32) (p2 : Int32) (p3 : Int32) (m : Mm) : Ev ω true 1 0 0 yX0_setRank cX0_setRank 4 none [.ref (zad ω 25), .int p1, .int p2, .int p3] m fV (f_Alm_setRank p1 p2 p3 m) := by
  refine Ev.of (b := false) (ls := [some (.ref (zad ω 25)), some (.int p1), some (.int p2), some (.int p3)]) (plainFor_of_name (by decide +kernel)) (fun h => by cases h) rfl (Nat.le_of_ble_eq_true rfl) rfl ?_
  change Sx ω ω true 1 0 0 kk_Alm_setRank fV 0 0 m 0 _ _ _
  unfold f_Alm_setRank
  refine x_aload_n dX0_setRank_0 rfl ?_
  refine y_getF fl_RX0_13 hz_25 hq_25_0 (by rw [hz_26]; decide) dX0_setRank_1 ?_
  refine x_iload_n dX0_setRank_4 rfl ?_
  refine y_aald (q := fun j => 32 + 6 * j) (Or.inl rfl) hz_26 hn_26 la_26 dX0_setRank_5 (fun hi1 => ?_)
  refine x_iload_n dX0_setRank_6 rfl ?_
  refine y_putI fp_RX0_46 (lr_rows (zIn_ix hi1)) dX0_setRank_7 ?_
  refine y_letM (fun m2 => ?_)
  refine x_aload_n dX0_setRank_10 rfl ?_
  refine y_getF fl_RX0_13 hz_25 hq_25_0 (by rw [hz_26]; decide) dX0_setRank_11 ?_
  refine x_iload_n dX0_setRank_14 rfl ?_
  refine y_aald (q := fun j => 32 + 6 * j) (Or.inl rfl) hz_26 hn_26 la_26 dX0_setRank_15 (fun hi3 => ?_)
  refine x_iload_n dX0_setRank_16 rfl ?_
  refine x_guard (fun hv => ?_)
  refine y_putZ fp_RX0_49 (lr_rows (zIn_ix hi3)) hv dX0_setRank_17 ?_
  refine y_letM (fun m4 => ?_)
  exact x_vret rfl rfl ⟨(Nat.le_of_ble_eq_true rfl), (Nat.le_of_ble_eq_true rfl)⟩ dX0_setRank_20
abbrev kk_Alm_rankOf : Kx := (yX0_rankOf.cls, cX0_rankOf, 2, (some .int), [], false)
set_option maxHeartbeats 4000000 in
set_option maxRecDepth 100000 in
theorem c_Alm_rankOf (ω : Wd) (p1 : Int32) (m : Mm) : Ev ω true 1 0 0 yX0_rankOf cX0_rankOf 2 (some .int) [.ref (zad ω 25), .int p1] m (fP m) (f_Alm_rankOf p1 m) := by
  refine Ev.of (b := false) (ls := [some (.ref (zad ω 25)), some (.int p1)]) (plainFor_of_name (by decide +kernel)) (fun h => by cases h) rfl (Nat.le_of_ble_eq_true rfl) rfl ?_
  change Sx ω ω true 1 0 0 kk_Alm_rankOf (fP m) 0 0 m 0 _ _ _
  unfold f_Alm_rankOf
  refine x_aload_n dX0_rankOf_0 rfl ?_
  refine y_getF fl_RX0_13 hz_25 hq_25_0 (by rw [hz_26]; decide) dX0_rankOf_1 ?_
  refine x_iload_n dX0_rankOf_4 rfl ?_
  refine y_aald (q := fun j => 32 + 6 * j) (Or.inl rfl) hz_26 hn_26 la_26 dX0_rankOf_5 (fun hi1 => ?_)
  refine y_getI fl_RX0_46 (lr_rows (zIn_ix hi1)) dX0_rankOf_6 ?_
  exact x_iret rfl rfl ⟨(Nat.le_of_ble_eq_true rfl), (Nat.le_of_ble_eq_true rfl)⟩ dX0_rankOf_9
abbrev kk_Alm_hasOneNear : Kx := (yX0_hasOneNear.cls, cX0_hasOneNear, 4, (some .boolean), [], false)
set_option maxHeartbeats 4000000 in
set_option maxRecDepth 100000 in
theorem c_Alm_hasOneNear (ω : Wd) (p1 : Int32) (p2 : Int32) (m : Mm) : Ev ω true 2 0 0 yX0_hasOneNear cX0_hasOneNear 4 (some .boolean) [.ref (zad ω 25), .int p1, .int p2] m (fP m) (f_Alm_hasOneNear p1 p2 m) := by
  refine Ev.of (b := false) (ls := [some (.ref (zad ω 25)), some (.int p1), some (.int p2), none]) (plainFor_of_name (by decide +kernel)) (fun h => by cases h) rfl (Nat.le_of_ble_eq_true rfl) rfl ?_
  change Sx ω ω true 2 0 0 kk_Alm_hasOneNear (fP m) 0 0 m 0 _ _ _
  unfold f_Alm_hasOneNear
  refine x_iconst (v := 0) dX0_hasOneNear_0 (by decide) ?_
  refine x_istore_n (ls' := [some (.ref (zad ω 25)), some (.int p1), some (.int p2), some (.int 0)]) dX0_hasOneNear_1 (Nat.le_of_ble_eq_true rfl) rfl ?_
  refine y_Lq1 (fun x1 => [some (.ref (zad ω 25)), some (.int p1), some (.int p2), some (.int x1)]) (fun r2 hr2 x1 => ?_) zFu _
  refine x_iload_n dX0_hasOneNear_2 rfl ?_
  refine x_aload_n dX0_hasOneNear_3 rfl ?_
  refine y_getI fl_RX0_82 hz_25 dX0_hasOneNear_4 ?_
  refine x_icmp_ge (tgt := 44) dX0_hasOneNear_7 (by decide) (fun hc3 => ?_) (fun hc3 => ?_)
  · refine x_iconst (v := 0) dX0_hasOneNear_44 (by decide) ?_
    exact x_zret rfl rfl (zBo_nar (by decide)) ⟨(Nat.le_of_ble_eq_true rfl), (Nat.le_of_ble_eq_true rfl)⟩ dX0_hasOneNear_45
  · refine x_aload_n dX0_hasOneNear_10 rfl ?_
    refine y_getF fl_RX0_24 hz_25 hq_25_4 (by rw [hz_29]; decide) dX0_hasOneNear_11 ?_
    refine x_iload_n dX0_hasOneNear_14 rfl ?_
    refine y_iald hz_29 hn_29 dX0_hasOneNear_15 (fun hi => ?_)
    refine x_iload_n dX0_hasOneNear_16 rfl ?_
    refine y_join (fun j5 => Sx ω ω true 2 0 0 kk_Alm_hasOneNear (fP m) 0 0 m 38 [some (.ref (zad ω 25)), some (.int p1), some (.int p2), some (.int x1)] [] j5) ?_ (fun j5 hj5 => ?_)
    · refine y_iinc (w := 1) dX0_hasOneNear_38 rfl (by decide) (Nat.le_of_ble_eq_true rfl) (fun x6 => ?_)
      refine x_goto (tgt := 2) dX0_hasOneNear_41 (by decide) ?_
      exact hr2 _
    · refine x_icmp_ne (tgt := 38) dX0_hasOneNear_17 (by decide) (fun hc4 => ?_) (fun hc4 => ?_)
      · refine x_aload_n dX0_hasOneNear_20 rfl ?_
        refine y_getF fl_RX0_27 hz_25 hq_25_5 (by rw [hz_30]; decide) dX0_hasOneNear_21 ?_
        refine x_iload_n dX0_hasOneNear_24 rfl ?_
        refine y_iald hz_30 hn_30 dX0_hasOneNear_25 (fun hi => ?_)
        refine x_iload_n dX0_hasOneNear_26 rfl ?_
        refine x_isub dX0_hasOneNear_27 ?_
        refine y_callSP (rest := []) (c1 := 0) (s1 := 0) (c_Mat_abs ω ((zI m 30 (zIx x1)) - p2) m) ms_RX0_88 rfl (Nat.le_of_ble_eq_true rfl) (Nat.le_of_ble_eq_true rfl) (Nat.le_of_ble_eq_true rfl) ⟨rfl, rfl⟩ ⟨(Nat.le_of_ble_eq_true rfl), (Nat.le_of_ble_eq_true rfl)⟩ dX0_hasOneNear_28 (fun v7 => ?_)
        refine x_bipush (v := 10) dX0_hasOneNear_31 (by decide) ?_
        refine x_icmp_ge (tgt := 38) dX0_hasOneNear_33 (by decide) (fun hc8 => ?_) (fun hc8 => ?_)
        · exact hj5
        · refine x_iconst (v := 1) dX0_hasOneNear_36 (by decide) ?_
          exact x_zret rfl rfl (zBo_nar (by decide)) ⟨(Nat.le_of_ble_eq_true rfl), (Nat.le_of_ble_eq_true rfl)⟩ dX0_hasOneNear_37
      · exact hj5
abbrev kk_Alm_grant : Kx := (yX0_grant.cls, cX0_grant, 4, (some .boolean), [], false)
set_option maxHeartbeats 4000000 in
set_option maxRecDepth 100000 in
theorem c_Alm_grant (ω : Wd) (p1 : Int32) (p2 : Int32) (p3 : Int32) (m : Mm) : Ev ω true 3 0 0 yX0_grant cX0_grant 4 (some .boolean) [.ref (zad ω 25), .int p1, .int p2, .int p3] m fI (f_Alm_grant p1 p2 p3 m) := by
  refine Ev.of (b := false) (ls := [some (.ref (zad ω 25)), some (.int p1), some (.int p2), some (.int p3)]) (plainFor_of_name (by decide +kernel)) (fun h => by cases h) rfl (Nat.le_of_ble_eq_true rfl) rfl ?_
  change Sx ω ω true 3 0 0 kk_Alm_grant fI 0 0 m 0 _ _ _
  unfold f_Alm_grant
  refine x_aload_n dX0_grant_0 rfl ?_
  refine y_getI fl_RX0_82 hz_25 dX0_grant_1 ?_
  refine x_bipush (v := 30) dX0_grant_4 (by decide) ?_
  refine x_icmp_ge (tgt := 18) dX0_grant_6 (by decide) (fun hc1 => ?_) (fun hc1 => ?_)
  · refine x_iconst (v := 0) dX0_grant_18 (by decide) ?_
    exact x_zret rfl rfl (zBo_nar (by decide)) ⟨(Nat.le_of_ble_eq_true rfl), (Nat.le_of_ble_eq_true rfl)⟩ dX0_grant_19
  · refine x_aload_n dX0_grant_9 rfl ?_
    refine x_iload_n dX0_grant_10 rfl ?_
    refine x_iload_n dX0_grant_11 rfl ?_
    refine y_callVP (rest := []) (c1 := 0) (s1 := 0) (c_Alm_hasOneNear ω p1 p2 m) mv_RX0_85 hz_25 rfl (Nat.le_of_ble_eq_true rfl) (Nat.le_of_ble_eq_true rfl) (Nat.le_of_ble_eq_true rfl) ⟨rfl, rfl⟩ ⟨(Nat.le_of_ble_eq_true rfl), (Nat.le_of_ble_eq_true rfl)⟩ dX0_grant_12 (fun v2 => ?_)
    refine x_if_eq (tgt := 20) dX0_grant_15 (by decide) (fun hc3 => ?_) (fun hc3 => ?_)
    · refine x_aload_n dX0_grant_20 rfl ?_
      refine y_getF fl_RX0_24 hz_25 hq_25_4 (by rw [hz_29]; decide) dX0_grant_21 ?_
      refine x_aload_n dX0_grant_24 rfl ?_
      refine y_getI fl_RX0_82 hz_25 dX0_grant_25 ?_
      refine x_iload_n dX0_grant_28 rfl ?_
      refine y_iast hz_29 hn_29 dX0_grant_29 (fun hi => ?_)
      refine y_letM (fun m4 => ?_)
      refine x_aload_n dX0_grant_30 rfl ?_
      refine y_getF fl_RX0_27 hz_25 hq_25_5 (by rw [hz_30]; decide) dX0_grant_31 ?_
      refine x_aload_n dX0_grant_34 rfl ?_
      refine y_getI fl_RX0_82 hz_25 dX0_grant_35 ?_
      refine x_iload_n dX0_grant_38 rfl ?_
      refine y_iast hz_30 hn_30 dX0_grant_39 (fun hi => ?_)
      refine y_letM (fun m5 => ?_)
      refine x_aload_n dX0_grant_40 rfl ?_
      refine y_getF fl_RX0_30 hz_25 hq_25_6 (by rw [hz_31]; decide) dX0_grant_41 ?_
      refine x_aload_n dX0_grant_44 rfl ?_
      refine y_getI fl_RX0_82 hz_25 dX0_grant_45 ?_
      refine x_iload_n dX0_grant_48 rfl ?_
      refine y_iast hz_31 hn_31 dX0_grant_49 (fun hi => ?_)
      refine y_letM (fun m6 => ?_)
      refine x_aload_n dX0_grant_50 rfl ?_
      refine x_dup dX0_grant_51 rfl ?_
      refine y_getI fl_RX0_82 hz_25 dX0_grant_52 ?_
      refine x_iconst (v := 1) dX0_grant_55 (by decide) ?_
      refine x_iadd dX0_grant_56 ?_
      refine y_putI fp_RX0_82 hz_25 dX0_grant_57 ?_
      refine y_letM (fun m7 => ?_)
      refine x_iconst (v := 1) dX0_grant_60 (by decide) ?_
      exact x_zret rfl rfl (zBo_nar (by decide)) ⟨(Nat.le_of_ble_eq_true rfl), (Nat.le_of_ble_eq_true rfl)⟩ dX0_grant_61
    · refine x_iconst (v := 0) dX0_grant_18 (by decide) ?_
      exact x_zret rfl rfl (zBo_nar (by decide)) ⟨(Nat.le_of_ble_eq_true rfl), (Nat.le_of_ble_eq_true rfl)⟩ dX0_grant_19
abbrev kk_Alm_dispensations : Kx := (yX0_dispensations.cls, cX0_dispensations, 1, (some .int), [], false)
set_option maxHeartbeats 4000000 in
set_option maxRecDepth 100000 in
theorem c_Alm_dispensations (ω : Wd) (m : Mm) : Ev ω true 1 0 0 yX0_dispensations cX0_dispensations 1 (some .int) [.ref (zad ω 25)] m (fP m) (f_Alm_dispensations m) := by
  refine Ev.of (b := false) (ls := [some (.ref (zad ω 25))]) (plainFor_of_name (by decide +kernel)) (fun h => by cases h) rfl (Nat.le_of_ble_eq_true rfl) rfl ?_
  change Sx ω ω true 1 0 0 kk_Alm_dispensations (fP m) 0 0 m 0 _ _ _
  unfold f_Alm_dispensations
  refine x_aload_n dX0_dispensations_0 rfl ?_
  refine y_getI fl_RX0_82 hz_25 dX0_dispensations_1 ?_
  exact x_iret rfl rfl ⟨(Nat.le_of_ble_eq_true rfl), (Nat.le_of_ble_eq_true rfl)⟩ dX0_dispensations_4
abbrev kk_Alm_dispensationFor : Kx := (yX0_dispensationFor.cls, cX0_dispensationFor, 4, (some .int), [], false)
set_option maxHeartbeats 4000000 in
set_option maxRecDepth 100000 in
theorem c_Alm_dispensationFor (ω : Wd) (p1 : Int32) (p2 : Int32) (m : Mm) : Ev ω true 1 0 0 yX0_dispensationFor cX0_dispensationFor 4 (some .int) [.ref (zad ω 25), .int p1, .int p2] m (fP m) (f_Alm_dispensationFor p1 p2 m) := by
  refine Ev.of (b := false) (ls := [some (.ref (zad ω 25)), some (.int p1), some (.int p2), none]) (plainFor_of_name (by decide +kernel)) (fun h => by cases h) rfl (Nat.le_of_ble_eq_true rfl) rfl ?_
  change Sx ω ω true 1 0 0 kk_Alm_dispensationFor (fP m) 0 0 m 0 _ _ _
  unfold f_Alm_dispensationFor
  refine x_iconst (v := 0) dX0_dispensationFor_0 (by decide) ?_
  refine x_istore_n (ls' := [some (.ref (zad ω 25)), some (.int p1), some (.int p2), some (.int 0)]) dX0_dispensationFor_1 (Nat.le_of_ble_eq_true rfl) rfl ?_
  refine y_Lq1 (fun x1 => [some (.ref (zad ω 25)), some (.int p1), some (.int p2), some (.int x1)]) (fun r2 hr2 x1 => ?_) zFu _
  refine x_iload_n dX0_dispensationFor_2 rfl ?_
  refine x_aload_n dX0_dispensationFor_3 rfl ?_
  refine y_getI fl_RX0_82 hz_25 dX0_dispensationFor_4 ?_
  refine x_icmp_ge (tgt := 38) dX0_dispensationFor_7 (by decide) (fun hc3 => ?_) (fun hc3 => ?_)
  · refine x_iconst (v := (-1)) dX0_dispensationFor_38 (by decide) ?_
    exact x_iret rfl rfl ⟨(Nat.le_of_ble_eq_true rfl), (Nat.le_of_ble_eq_true rfl)⟩ dX0_dispensationFor_39
  · refine x_aload_n dX0_dispensationFor_10 rfl ?_
    refine y_getF fl_RX0_24 hz_25 hq_25_4 (by rw [hz_29]; decide) dX0_dispensationFor_11 ?_
    refine x_iload_n dX0_dispensationFor_14 rfl ?_
    refine y_iald hz_29 hn_29 dX0_dispensationFor_15 (fun hi => ?_)
    refine x_iload_n dX0_dispensationFor_16 rfl ?_
    refine y_join (fun j5 => Sx ω ω true 1 0 0 kk_Alm_dispensationFor (fP m) 0 0 m 32 [some (.ref (zad ω 25)), some (.int p1), some (.int p2), some (.int x1)] [] j5) ?_ (fun j5 hj5 => ?_)
    · refine y_iinc (w := 1) dX0_dispensationFor_32 rfl (by decide) (Nat.le_of_ble_eq_true rfl) (fun x6 => ?_)
      refine x_goto (tgt := 2) dX0_dispensationFor_35 (by decide) ?_
      exact hr2 _
    · refine x_icmp_ne (tgt := 32) dX0_dispensationFor_17 (by decide) (fun hc4 => ?_) (fun hc4 => ?_)
      · refine x_aload_n dX0_dispensationFor_20 rfl ?_
        refine y_getF fl_RX0_27 hz_25 hq_25_5 (by rw [hz_30]; decide) dX0_dispensationFor_21 ?_
        refine x_iload_n dX0_dispensationFor_24 rfl ?_
        refine y_iald hz_30 hn_30 dX0_dispensationFor_25 (fun hi => ?_)
        refine x_iload_n dX0_dispensationFor_26 rfl ?_
        refine x_icmp_ne (tgt := 32) dX0_dispensationFor_27 (by decide) (fun hc7 => ?_) (fun hc7 => ?_)
        · refine x_iload_n dX0_dispensationFor_30 rfl ?_
          exact x_iret rfl rfl ⟨(Nat.le_of_ble_eq_true rfl), (Nat.le_of_ble_eq_true rfl)⟩ dX0_dispensationFor_31
        · exact hj5
      · exact hj5
abbrev kk_Alm_revoke : Kx := (yX0_revoke.cls, cX0_revoke, 3, (some .int), [], false)
set_option maxHeartbeats 4000000 in
set_option maxRecDepth 100000 in
theorem c_Alm_revoke (ω : Wd) (p1 : Int32) (m : Mm) : Ev ω true 1 0 0 yX0_revoke cX0_revoke 3 (some .int) [.ref (zad ω 25), .int p1] m fI (f_Alm_revoke p1 m) := by
  refine Ev.of (b := false) (ls := [some (.ref (zad ω 25)), some (.int p1), none]) (plainFor_of_name (by decide +kernel)) (fun h => by cases h) rfl (Nat.le_of_ble_eq_true rfl) rfl ?_
  change Sx ω ω true 1 0 0 kk_Alm_revoke fI 0 0 m 0 _ _ _
  unfold f_Alm_revoke
  refine x_aload_n dX0_revoke_0 rfl ?_
  refine y_getF fl_RX0_30 hz_25 hq_25_6 (by rw [hz_31]; decide) dX0_revoke_1 ?_
  refine x_iload_n dX0_revoke_4 rfl ?_
  refine y_iald hz_31 hn_31 dX0_revoke_5 (fun hi => ?_)
  refine y_letI (fun x1 => ?_)
  refine x_istore_n (ls' := [some (.ref (zad ω 25)), some (.int p1), some (.int x1)]) dX0_revoke_6 (Nat.le_of_ble_eq_true rfl) rfl ?_
  refine x_aload_n dX0_revoke_7 rfl ?_
  refine x_dup dX0_revoke_8 rfl ?_
  refine y_getI fl_RX0_82 hz_25 dX0_revoke_9 ?_
  refine x_iconst (v := 1) dX0_revoke_12 (by decide) ?_
  refine x_isub dX0_revoke_13 ?_
  refine y_putI fp_RX0_82 hz_25 dX0_revoke_14 ?_
  refine y_letM (fun m2 => ?_)
  refine x_aload_n dX0_revoke_17 rfl ?_
  refine y_getF fl_RX0_24 hz_25 hq_25_4 (by rw [hz_29]; decide) dX0_revoke_18 ?_
  refine x_iload_n dX0_revoke_21 rfl ?_
  refine x_aload_n dX0_revoke_22 rfl ?_
  refine y_getF fl_RX0_24 hz_25 hq_25_4 (by rw [hz_29]; decide) dX0_revoke_23 ?_
  refine x_aload_n dX0_revoke_26 rfl ?_
  refine y_getI fl_RX0_82 hz_25 dX0_revoke_27 ?_
  refine y_iald hz_29 hn_29 dX0_revoke_30 (fun hi => ?_)
  refine y_iast hz_29 hn_29 dX0_revoke_31 (fun hi => ?_)
  refine y_letM (fun m3 => ?_)
  refine x_aload_n dX0_revoke_32 rfl ?_
  refine y_getF fl_RX0_27 hz_25 hq_25_5 (by rw [hz_30]; decide) dX0_revoke_33 ?_
  refine x_iload_n dX0_revoke_36 rfl ?_
  refine x_aload_n dX0_revoke_37 rfl ?_
  refine y_getF fl_RX0_27 hz_25 hq_25_5 (by rw [hz_30]; decide) dX0_revoke_38 ?_
  refine x_aload_n dX0_revoke_41 rfl ?_
  refine y_getI fl_RX0_82 hz_25 dX0_revoke_42 ?_
  refine y_iald hz_30 hn_30 dX0_revoke_45 (fun hi => ?_)
  refine y_iast hz_30 hn_30 dX0_revoke_46 (fun hi => ?_)
  refine y_letM (fun m4 => ?_)
  refine x_aload_n dX0_revoke_47 rfl ?_
  refine y_getF fl_RX0_30 hz_25 hq_25_6 (by rw [hz_31]; decide) dX0_revoke_48 ?_
  refine x_iload_n dX0_revoke_51 rfl ?_
  refine x_aload_n dX0_revoke_52 rfl ?_
  refine y_getF fl_RX0_30 hz_25 hq_25_6 (by rw [hz_31]; decide) dX0_revoke_53 ?_
  refine x_aload_n dX0_revoke_56 rfl ?_
  refine y_getI fl_RX0_82 hz_25 dX0_revoke_57 ?_
  refine y_iald hz_31 hn_31 dX0_revoke_60 (fun hi => ?_)
  refine y_iast hz_31 hn_31 dX0_revoke_61 (fun hi => ?_)
  refine y_letM (fun m5 => ?_)
  refine x_iload_n dX0_revoke_62 rfl ?_
  exact x_iret rfl rfl ⟨(Nat.le_of_ble_eq_true rfl), (Nat.le_of_ble_eq_true rfl)⟩ dX0_revoke_63
abbrev kk_Alm_inOrder : Kx := (yX0_inOrder.cls, cX0_inOrder, 2, (some .int), [], false)
set_option maxHeartbeats 4000000 in
set_option maxRecDepth 100000 in
theorem c_Alm_inOrder (ω : Wd) (p1 : Int32) (m : Mm) : Ev ω true 1 0 0 yX0_inOrder cX0_inOrder 2 (some .int) [.ref (zad ω 25), .int p1] m (fP m) (f_Alm_inOrder p1 m) := by
  refine Ev.of (b := false) (ls := [some (.ref (zad ω 25)), some (.int p1)]) (plainFor_of_name (by decide +kernel)) (fun h => by cases h) rfl (Nat.le_of_ble_eq_true rfl) rfl ?_
  change Sx ω ω true 1 0 0 kk_Alm_inOrder (fP m) 0 0 m 0 _ _ _
  unfold f_Alm_inOrder
  refine x_aload_n dX0_inOrder_0 rfl ?_
  refine y_getF fl_RX0_17 hz_25 hq_25_1 (by rw [hz_27]; decide) dX0_inOrder_1 ?_
  refine x_iload_n dX0_inOrder_4 rfl ?_
  refine y_iald hz_27 hn_27 dX0_inOrder_5 (fun hi => ?_)
  exact x_iret rfl rfl ⟨(Nat.le_of_ble_eq_true rfl), (Nat.le_of_ble_eq_true rfl)⟩ dX0_inOrder_6
abbrev kk_Alm_code : Kx := (yX0_code.cls, cX0_code, 2, (some (.object "AlmanacLoom$Code")), [], false)
set_option maxHeartbeats 4000000 in
set_option maxRecDepth 100000 in
theorem c_Alm_code (ω : Wd) (p1 : Int32) (m : Mm) : Ev ω true 1 0 0 yX0_code cX0_code 2 (some (.object "AlmanacLoom$Code")) [.ref (zad ω 25), .int p1] m (fPR ω m) (f_Alm_code p1 m) := by
  refine Ev.of (b := false) (ls := [some (.ref (zad ω 25)), some (.int p1)]) (plainFor_of_name (by decide +kernel)) (fun h => by cases h) rfl (Nat.le_of_ble_eq_true rfl) rfl ?_
  change Sx ω ω true 1 0 0 kk_Alm_code (fPR ω m) 0 0 m 0 _ _ _
  unfold f_Alm_code
  refine x_aload_n dX0_code_0 rfl ?_
  refine y_getF fl_RX0_13 hz_25 hq_25_0 (by rw [hz_26]; decide) dX0_code_1 ?_
  refine x_iload_n dX0_code_4 rfl ?_
  refine y_aald (q := fun j => 32 + 6 * j) (Or.inl rfl) hz_26 hn_26 la_26 dX0_code_5 (fun hi1 => ?_)
  refine y_getF fl_RX0_38 (lr_rows (zIn_ix hi1)) (lq_4_1 (lr_rows (zIn_ix hi1))) (by rw [lt_4_1 (lr_rows (zIn_ix hi1))]; decide) dX0_code_6 ?_
  exact x_aret rfl rfl ⟨(Nat.le_of_ble_eq_true rfl), (Nat.le_of_ble_eq_true rfl)⟩ dX0_code_9
abbrev kk_Alm_bend : Kx := (yX0_bend.cls, cX0_bend, 6, (some .int), [], false)
set_option maxHeartbeats 4000000 in
set_option maxRecDepth 100000 in
theorem c_Alm_bend (ω : Wd) (p1 : Int32) (p2 : Int32) (p3 : Int32) (m : Mm) : Ev ω true 3 0 0 yX0_bend cX0_bend 6 (some .int) [.ref (zad ω 25), .int p1, .int p2, .int p3] m (fP m) (f_Alm_bend p1 p2 p3 m) := by
  refine Ev.of (b := false) (ls := [some (.ref (zad ω 25)), some (.int p1), some (.int p2), some (.int p3), none, none]) (plainFor_of_name (by decide +kernel)) (fun h => by cases h) rfl (Nat.le_of_ble_eq_true rfl) rfl ?_
  change Sx ω ω true 3 0 0 kk_Alm_bend (fP m) 0 0 m 0 _ _ _
  unfold f_Alm_bend
  refine x_aload_n dX0_bend_0 rfl ?_
  refine x_iload_n dX0_bend_1 rfl ?_
  refine x_iload_n dX0_bend_2 rfl ?_
  refine y_callVP (rest := []) (c1 := 0) (s1 := 0) (c_Alm_dispensationFor ω p1 p2 m) mv_RX0_94 hz_25 rfl (Nat.le_of_ble_eq_true rfl) (Nat.le_of_ble_eq_true rfl) (Nat.le_of_ble_eq_true rfl) ⟨rfl, rfl⟩ ⟨(Nat.le_of_ble_eq_true rfl), (Nat.le_of_ble_eq_true rfl)⟩ dX0_bend_3 (fun v1 => ?_)
  refine x_istore (ls' := [some (.ref (zad ω 25)), some (.int p1), some (.int p2), some (.int p3), some (.int v1), none]) dX0_bend_6 (Nat.le_of_ble_eq_true rfl) rfl ?_
  refine x_iload_n dX0_bend_8 rfl ?_
  refine x_iconst (v := (-1)) dX0_bend_9 (by decide) ?_
  refine x_icmp_eq (tgt := 19) dX0_bend_10 (by decide) (fun hc2 => ?_) (fun hc2 => ?_)
  · refine x_iload_n dX0_bend_19 rfl ?_
    exact x_iret rfl rfl ⟨(Nat.le_of_ble_eq_true rfl), (Nat.le_of_ble_eq_true rfl)⟩ dX0_bend_20
  · refine x_iload dX0_bend_13 rfl ?_
    refine x_iconst (v := (-1)) dX0_bend_15 (by decide) ?_
    refine x_icmp_ne (tgt := 21) dX0_bend_16 (by decide) (fun hc3 => ?_) (fun hc3 => ?_)
    · refine x_iload_n dX0_bend_19 rfl ?_
      exact x_iret rfl rfl ⟨(Nat.le_of_ble_eq_true rfl), (Nat.le_of_ble_eq_true rfl)⟩ dX0_bend_20
    · refine x_aload_n dX0_bend_21 rfl ?_
      refine y_getF fl_RX0_30 hz_25 hq_25_6 (by rw [hz_31]; decide) dX0_bend_22 ?_
      refine x_iload dX0_bend_25 rfl ?_
      refine y_iald hz_31 hn_31 dX0_bend_27 (fun hi => ?_)
      refine x_bipush (v := 99) dX0_bend_28 (by decide) ?_
      refine x_icmp_ne (tgt := 35) dX0_bend_30 (by decide) (fun hc4 => ?_) (fun hc4 => ?_)
      · refine x_iconst (v := (-1)) dX0_bend_33 (by decide) ?_
        exact x_iret rfl rfl ⟨(Nat.le_of_ble_eq_true rfl), (Nat.le_of_ble_eq_true rfl)⟩ dX0_bend_34
      · refine x_iload_n dX0_bend_35 rfl ?_
        refine x_aload_n dX0_bend_36 rfl ?_
        refine y_getF fl_RX0_30 hz_25 hq_25_6 (by rw [hz_31]; decide) dX0_bend_37 ?_
        refine x_iload dX0_bend_40 rfl ?_
        refine y_iald hz_31 hn_31 dX0_bend_42 (fun hi => ?_)
        refine x_iadd dX0_bend_43 ?_
        refine y_letI (fun x5 => ?_)
        refine x_istore (ls' := [some (.ref (zad ω 25)), some (.int p1), some (.int p2), some (.int p3), some (.int v1), some (.int x5)]) dX0_bend_44 (Nat.le_of_ble_eq_true rfl) rfl ?_
        refine x_iload dX0_bend_46 rfl ?_
        refine y_join (fun j7 => Sx ω ω true 3 0 0 kk_Alm_bend (fP m) 0 0 m 65 [none, none, none, none, none, none] [] j7) ?_ (fun j7 hj7 => ?_)
        · refine x_iconst (v := (-1)) dX0_bend_65 (by decide) ?_
          exact x_iret rfl rfl ⟨(Nat.le_of_ble_eq_true rfl), (Nat.le_of_ble_eq_true rfl)⟩ dX0_bend_66
        · refine x_if_lt (tgt := 65) dX0_bend_48 (by decide) (fun hc6 => ?_) (fun hc6 => ?_)
          · refine y_mask (bs := [false, false, false, false, false, false]) (ls' := [none, none, none, none, none, none]) rfl ?_
            exact hj7
          · refine x_iload dX0_bend_51 rfl ?_
            refine x_iload_n dX0_bend_53 rfl ?_
            refine y_callSP (rest := [.int x5]) (c1 := 0) (s1 := 0) (c_Cal_lengthOf ω p2 m) ms_RX0_98 rfl (Nat.le_of_ble_eq_true rfl) (Nat.le_of_ble_eq_true rfl) (Nat.le_of_ble_eq_true rfl) ⟨rfl, rfl⟩ ⟨(Nat.le_of_ble_eq_true rfl), (Nat.le_of_ble_eq_true rfl)⟩ dX0_bend_54 (fun v8 => ?_)
            refine x_icmp_ge (tgt := 65) dX0_bend_57 (by decide) (fun hc9 => ?_) (fun hc9 => ?_)
            · refine y_mask (bs := [false, false, false, false, false, false]) (ls' := [none, none, none, none, none, none]) rfl ?_
              exact hj7
            · refine x_iload dX0_bend_60 rfl ?_
              refine x_goto (tgt := 66) dX0_bend_62 (by decide) ?_
              exact x_iret rfl rfl ⟨(Nat.le_of_ble_eq_true rfl), (Nat.le_of_ble_eq_true rfl)⟩ dX0_bend_66
abbrev kk_Alm_canMove : Kx := (yX0_canMove.cls, cX0_canMove, 2, (some .boolean), [], false)
set_option maxHeartbeats 4000000 in
set_option maxRecDepth 100000 in
theorem c_Alm_canMove (ω : Wd) (p1 : Int32) (m : Mm) : Ev ω true 1 0 0 yX0_canMove cX0_canMove 2 (some .boolean) [.ref (zad ω 25), .int p1] m (fP m) (f_Alm_canMove p1 m) := by
  refine Ev.of (b := false) (ls := [some (.ref (zad ω 25)), some (.int p1)]) (plainFor_of_name (by decide +kernel)) (fun h => by cases h) rfl (Nat.le_of_ble_eq_true rfl) rfl ?_
  change Sx ω ω true 1 0 0 kk_Alm_canMove (fP m) 0 0 m 0 _ _ _
  unfold f_Alm_canMove
  refine x_aload_n dX0_canMove_0 rfl ?_
  refine y_getF fl_RX0_13 hz_25 hq_25_0 (by rw [hz_26]; decide) dX0_canMove_1 ?_
  refine x_iload_n dX0_canMove_4 rfl ?_
  refine y_aald (q := fun j => 32 + 6 * j) (Or.inl rfl) hz_26 hn_26 la_26 dX0_canMove_5 (fun hi1 => ?_)
  refine y_getI fl_RX0_49 (lr_rows (zIn_ix hi1)) dX0_canMove_6 ?_
  refine x_guard (fun hv => ?_)
  exact x_zret rfl rfl (zBo_nar hv) ⟨(Nat.le_of_ble_eq_true rfl), (Nat.le_of_ble_eq_true rfl)⟩ dX0_canMove_9
abbrev kk_Alm_rule : Kx := (yX0_rule.cls, cX0_rule, 2, (some (.object "AlmanacLoom$Text")), [], false)
set_option maxHeartbeats 4000000 in
set_option maxRecDepth 100000 in
theorem c_Alm_rule (ω : Wd) (p1 : Int32) (m : Mm) : Ev ω true 1 0 0 yX0_rule cX0_rule 2 (some (.object "AlmanacLoom$Text")) [.ref (zad ω 25), .int p1] m (fPR ω m) (f_Alm_rule p1 m) := by
  refine Ev.of (b := false) (ls := [some (.ref (zad ω 25)), some (.int p1)]) (plainFor_of_name (by decide +kernel)) (fun h => by cases h) rfl (Nat.le_of_ble_eq_true rfl) rfl ?_
  change Sx ω ω true 1 0 0 kk_Alm_rule (fPR ω m) 0 0 m 0 _ _ _
  unfold f_Alm_rule
  refine x_aload_n dX0_rule_0 rfl ?_
  refine y_getF fl_RX0_13 hz_25 hq_25_0 (by rw [hz_26]; decide) dX0_rule_1 ?_
  refine x_iload_n dX0_rule_4 rfl ?_
  refine y_aald (q := fun j => 32 + 6 * j) (Or.inl rfl) hz_26 hn_26 la_26 dX0_rule_5 (fun hi1 => ?_)
  refine y_getF fl_RX0_42 (lr_rows (zIn_ix hi1)) (lq_4_0 (lr_rows (zIn_ix hi1))) (by rw [lt_4_0 (lr_rows (zIn_ix hi1))]; decide) dX0_rule_6 ?_
  exact x_aret rfl rfl ⟨(Nat.le_of_ble_eq_true rfl), (Nat.le_of_ble_eq_true rfl)⟩ dX0_rule_9
