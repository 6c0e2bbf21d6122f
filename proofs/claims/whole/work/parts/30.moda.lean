abbrev kk_Mod_thrown : Kx := (yX12_thrown.cls, cX12_thrown, 1, (some .int), [], false)
set_option maxHeartbeats 4000000 in
set_option maxRecDepth 100000 in
theorem c_Mod_thrown (ω : Wd) (m : Mm) : Ev ω true 1 0 0 yX12_thrown cX12_thrown 1 (some .int) [.ref (zad ω 201)] m (fP m) (f_Mod_thrown m) := by
  refine Ev.of (b := false) (ls := [some (.ref (zad ω 201))]) (plainFor_of_name (by decide +kernel)) (fun h => by cases h) rfl (Nat.le_of_ble_eq_true rfl) rfl ?_
  change Sx ω true 1 0 0 kk_Mod_thrown (fP m) 0 0 m 0 _ _ _
  unfold f_Mod_thrown
  refine x_aload_n dX12_thrown_0 rfl ?_
  refine y_getI fl_RX12_93 hz_201 dX12_thrown_1 ?_
  exact x_iret rfl rfl ⟨(Nat.le_of_ble_eq_true rfl), (Nat.le_of_ble_eq_true rfl)⟩ dX12_thrown_4
abbrev kk_Mod_isIn : Kx := (yX12_isIn.cls, cX12_isIn, 3, (some .boolean), [], false)
set_option maxHeartbeats 4000000 in
set_option maxRecDepth 100000 in
theorem c_Mod_isIn (ω : Wd) (p1 : Int32) (p2 : Int32) (p3 : Int32) (m : Mm) : Ev ω true 1 0 0 yX12_isIn cX12_isIn 3 (some .boolean) [.int p1, .int p2, .int p3] m (fP m) (f_Mod_isIn p1 p2 p3 m) := by
  refine Ev.of (b := false) (ls := [some (.int p1), some (.int p2), some (.int p3)]) (plainFor_of_name (by decide +kernel)) (fun h => by cases h) rfl (Nat.le_of_ble_eq_true rfl) rfl ?_
  change Sx ω true 1 0 0 kk_Mod_isIn (fP m) 0 0 m 0 _ _ _
  unfold f_Mod_isIn
  refine x_iload_n dX12_isIn_0 rfl ?_
  refine x_iload_n dX12_isIn_1 rfl ?_
  refine y_join (fun j2 => Sx ω true 1 0 0 kk_Mod_isIn (fP m) 0 0 m 14 [none, none, none] [] j2) ?_ (fun j2 hj2 => ?_)
  · refine x_iconst (v := 0) dX12_isIn_14 (by decide) ?_
    exact x_zret rfl rfl (zBo_nar (by decide)) ⟨(Nat.le_of_ble_eq_true rfl), (Nat.le_of_ble_eq_true rfl)⟩ dX12_isIn_15
  · refine x_icmp_lt (tgt := 14) dX12_isIn_2 (by decide) (fun hc1 => ?_) (fun hc1 => ?_)
    · refine y_mask (bs := [false, false, false]) (ls' := [none, none, none]) rfl ?_
      exact hj2
    · refine x_iload_n dX12_isIn_5 rfl ?_
      refine x_iload_n dX12_isIn_6 rfl ?_
      refine x_icmp_gt (tgt := 14) dX12_isIn_7 (by decide) (fun hc3 => ?_) (fun hc3 => ?_)
      · refine y_mask (bs := [false, false, false]) (ls' := [none, none, none]) rfl ?_
        exact hj2
      · refine x_iconst (v := 1) dX12_isIn_10 (by decide) ?_
        refine x_goto (tgt := 15) dX12_isIn_11 (by decide) ?_
        exact x_zret rfl rfl (zBo_nar (by decide)) ⟨(Nat.le_of_ble_eq_true rfl), (Nat.le_of_ble_eq_true rfl)⟩ dX12_isIn_15
abbrev kk_Mod_isLeap : Kx := (yX12_isLeap.cls, cX12_isLeap, 1, (some .boolean), [], false)
set_option maxHeartbeats 4000000 in
set_option maxRecDepth 100000 in
theorem c_Mod_isLeap (ω : Wd) (p1 : Int32) (m : Mm) : Ev ω true 1 0 0 yX12_isLeap cX12_isLeap 1 (some .boolean) [.int p1] m (fP m) (f_Mod_isLeap p1 m) := by
  refine Ev.of (b := false) (ls := [some (.int p1)]) (plainFor_of_name (by decide +kernel)) (fun h => by cases h) rfl (Nat.le_of_ble_eq_true rfl) rfl ?_
  change Sx ω true 1 0 0 kk_Mod_isLeap (fP m) 0 0 m 0 _ _ _
  unfold f_Mod_isLeap
  refine x_iload_n dX12_isLeap_0 rfl ?_
  refine x_iconst (v := 4) dX12_isLeap_1 (by decide) ?_
  refine x_irem dX12_isLeap_2 (by decide) ?_
  refine y_join (fun j2 => Sx ω true 1 0 0 kk_Mod_isLeap (fP m) 0 0 m 25 [none] [] j2) ?_ (fun j2 hj2 => ?_)
  · refine x_iconst (v := 0) dX12_isLeap_25 (by decide) ?_
    exact x_zret rfl rfl (zBo_nar (by decide)) ⟨(Nat.le_of_ble_eq_true rfl), (Nat.le_of_ble_eq_true rfl)⟩ dX12_isLeap_26
  · refine x_if_ne (tgt := 25) dX12_isLeap_3 (by decide) (fun hc1 => ?_) (fun hc1 => ?_)
    · refine x_iload_n dX12_isLeap_6 rfl ?_
      refine x_bipush (v := 100) dX12_isLeap_7 (by decide) ?_
      refine x_irem dX12_isLeap_9 (by decide) ?_
      refine y_join (fun j4 => Sx ω true 1 0 0 kk_Mod_isLeap (fP m) 0 0 m 21 [none] [] j4) ?_ (fun j4 hj4 => ?_)
      · refine x_iconst (v := 1) dX12_isLeap_21 (by decide) ?_
        refine x_goto (tgt := 26) dX12_isLeap_22 (by decide) ?_
        exact x_zret rfl rfl (zBo_nar (by decide)) ⟨(Nat.le_of_ble_eq_true rfl), (Nat.le_of_ble_eq_true rfl)⟩ dX12_isLeap_26
      · refine x_if_ne (tgt := 21) dX12_isLeap_10 (by decide) (fun hc3 => ?_) (fun hc3 => ?_)
        · refine x_iload_n dX12_isLeap_13 rfl ?_
          refine x_sipush (v := 400) dX12_isLeap_14 (by decide) ?_
          refine x_irem dX12_isLeap_17 (by decide) ?_
          refine x_if_ne (tgt := 25) dX12_isLeap_18 (by decide) (fun hc5 => ?_) (fun hc5 => ?_)
          · refine y_mask (bs := [false]) (ls' := [none]) rfl ?_
            exact hj4
          · refine y_mask (bs := [false]) (ls' := [none]) rfl ?_
            exact hj2
        · refine y_mask (bs := [false]) (ls' := [none]) rfl ?_
          exact hj4
    · refine y_mask (bs := [false]) (ls' := [none]) rfl ?_
      exact hj2
abbrev kk_Mod_lengthOf : Kx := (yX12_lengthOf.cls, cX12_lengthOf, 1, (some .int), [], false)
set_option maxHeartbeats 4000000 in
set_option maxRecDepth 100000 in
theorem c_Mod_lengthOf (ω : Wd) (p1 : Int32) (m : Mm) : Ev ω true 2 0 0 yX12_lengthOf cX12_lengthOf 1 (some .int) [.int p1] m (fP m) (f_Mod_lengthOf p1 m) := by
  refine Ev.of (b := false) (ls := [some (.int p1)]) (plainFor_of_name (by decide +kernel)) (fun h => by cases h) rfl (Nat.le_of_ble_eq_true rfl) rfl ?_
  change Sx ω true 2 0 0 kk_Mod_lengthOf (fP m) 0 0 m 0 _ _ _
  unfold f_Mod_lengthOf
  refine x_iload_n dX12_lengthOf_0 rfl ?_
  refine y_callSP (rest := []) (c1 := 0) (s1 := 0) (c_Mod_isLeap ω p1 m) ms_RX12_97 rfl (Nat.le_of_ble_eq_true rfl) (Nat.le_of_ble_eq_true rfl) (Nat.le_of_ble_eq_true rfl) ⟨rfl, rfl⟩ ⟨(Nat.le_of_ble_eq_true rfl), (Nat.le_of_ble_eq_true rfl)⟩ dX12_lengthOf_1 (fun v1 => ?_)
  refine x_if_eq (tgt := 13) dX12_lengthOf_4 (by decide) (fun hc2 => ?_) (fun hc2 => ?_)
  · refine x_sipush (v := 365) dX12_lengthOf_13 (by decide) ?_
    exact x_iret rfl rfl ⟨(Nat.le_of_ble_eq_true rfl), (Nat.le_of_ble_eq_true rfl)⟩ dX12_lengthOf_16
  · refine x_sipush (v := 366) dX12_lengthOf_7 (by decide) ?_
    refine x_goto (tgt := 16) dX12_lengthOf_10 (by decide) ?_
    exact x_iret rfl rfl ⟨(Nat.le_of_ble_eq_true rfl), (Nat.le_of_ble_eq_true rfl)⟩ dX12_lengthOf_16
abbrev kk_Mod_beginOf : Kx := (yX12_beginOf.cls, cX12_beginOf, 2, (some .int), [], false)
set_option maxHeartbeats 4000000 in
set_option maxRecDepth 100000 in
theorem c_Mod_beginOf (ω : Wd) (p1 : Int32) (m : Mm) : Ev ω true 1 0 0 yX12_beginOf cX12_beginOf 2 (some .int) [.int p1] m (fP m) (f_Mod_beginOf p1 m) := by
  refine Ev.of (b := false) (ls := [some (.int p1), none]) (plainFor_of_name (by decide +kernel)) (fun h => by cases h) rfl (Nat.le_of_ble_eq_true rfl) rfl ?_
  change Sx ω true 1 0 0 kk_Mod_beginOf (fP m) 0 0 m 0 _ _ _
  unfold f_Mod_beginOf
  refine x_iload_n dX12_beginOf_0 rfl ?_
  refine x_iconst (v := 1) dX12_beginOf_1 (by decide) ?_
  refine x_isub dX12_beginOf_2 ?_
  refine y_letI (fun x1 => ?_)
  refine x_istore_n (ls' := [some (.int p1), some (.int x1)]) dX12_beginOf_3 (Nat.le_of_ble_eq_true rfl) rfl ?_
  refine x_iload_n dX12_beginOf_4 rfl ?_
  refine x_if_ne (tgt := 12) dX12_beginOf_5 (by decide) (fun hc2 => ?_) (fun hc2 => ?_)
  · refine x_iconst (v := 0) dX12_beginOf_8 (by decide) ?_
    refine x_goto (tgt := 34) dX12_beginOf_9 (by decide) ?_
    exact x_iret rfl rfl ⟨(Nat.le_of_ble_eq_true rfl), (Nat.le_of_ble_eq_true rfl)⟩ dX12_beginOf_34
  · refine x_sipush (v := 365) dX12_beginOf_12 (by decide) ?_
    refine x_iload_n dX12_beginOf_15 rfl ?_
    refine x_imul dX12_beginOf_16 ?_
    refine x_iload_n dX12_beginOf_17 rfl ?_
    refine x_iconst (v := 4) dX12_beginOf_18 (by decide) ?_
    refine x_idiv dX12_beginOf_19 (by decide) ?_
    refine x_iadd dX12_beginOf_20 ?_
    refine x_iload_n dX12_beginOf_21 rfl ?_
    refine x_bipush (v := 100) dX12_beginOf_22 (by decide) ?_
    refine x_idiv dX12_beginOf_24 (by decide) ?_
    refine x_isub dX12_beginOf_25 ?_
    refine x_iload_n dX12_beginOf_26 rfl ?_
    refine x_sipush (v := 400) dX12_beginOf_27 (by decide) ?_
    refine x_idiv dX12_beginOf_30 (by decide) ?_
    refine x_iadd dX12_beginOf_31 ?_
    refine x_iconst (v := 1) dX12_beginOf_32 (by decide) ?_
    refine x_iadd dX12_beginOf_33 ?_
    exact x_iret rfl rfl ⟨(Nat.le_of_ble_eq_true rfl), (Nat.le_of_ble_eq_true rfl)⟩ dX12_beginOf_34
abbrev kk_Mod_lengthOfMonth : Kx := (yX12_lengthOfMonth.cls, cX12_lengthOfMonth, 2, (some .int), [], false)
set_option maxHeartbeats 4000000 in
set_option maxRecDepth 100000 in
theorem c_Mod_lengthOfMonth (ω : Wd) (p1 : Int32) (p2 : Int32) (m : Mm) : Ev ω true 1 0 0 yX12_lengthOfMonth cX12_lengthOfMonth 2 (some .int) [.int p1, .int p2] m (fP m) (f_Mod_lengthOfMonth p1 p2 m) := by
  refine Ev.of (b := false) (ls := [some (.int p1), some (.int p2)]) (plainFor_of_name (by decide +kernel)) (fun h => by cases h) rfl (Nat.le_of_ble_eq_true rfl) rfl ?_
  change Sx ω true 1 0 0 kk_Mod_lengthOfMonth (fP m) 0 0 m 0 _ _ _
  unfold f_Mod_lengthOfMonth
  refine x_iload_n dX12_lengthOfMonth_0 rfl ?_
  refine x_iconst (v := 2) dX12_lengthOfMonth_1 (by decide) ?_
  refine x_icmp_ne (tgt := 17) dX12_lengthOfMonth_2 (by decide) (fun hc1 => ?_) (fun hc1 => ?_)
  · refine x_iload_n dX12_lengthOfMonth_5 rfl ?_
    refine x_if_eq (tgt := 14) dX12_lengthOfMonth_6 (by decide) (fun hc7 => ?_) (fun hc7 => ?_)
    · refine x_bipush (v := 28) dX12_lengthOfMonth_14 (by decide) ?_
      exact x_iret rfl rfl ⟨(Nat.le_of_ble_eq_true rfl), (Nat.le_of_ble_eq_true rfl)⟩ dX12_lengthOfMonth_16
    · refine x_bipush (v := 29) dX12_lengthOfMonth_9 (by decide) ?_
      refine x_goto (tgt := 16) dX12_lengthOfMonth_11 (by decide) ?_
      exact x_iret rfl rfl ⟨(Nat.le_of_ble_eq_true rfl), (Nat.le_of_ble_eq_true rfl)⟩ dX12_lengthOfMonth_16
  · refine x_iload_n dX12_lengthOfMonth_17 rfl ?_
    refine x_iconst (v := 4) dX12_lengthOfMonth_18 (by decide) ?_
    refine y_join (fun j3 => Sx ω true 1 0 0 kk_Mod_lengthOfMonth (fP m) 0 0 m 40 [none, none] [] j3) ?_ (fun j3 hj3 => ?_)
    · refine x_bipush (v := 30) dX12_lengthOfMonth_40 (by decide) ?_
      refine x_goto (tgt := 47) dX12_lengthOfMonth_42 (by decide) ?_
      exact x_iret rfl rfl ⟨(Nat.le_of_ble_eq_true rfl), (Nat.le_of_ble_eq_true rfl)⟩ dX12_lengthOfMonth_47
    · refine x_icmp_eq (tgt := 40) dX12_lengthOfMonth_19 (by decide) (fun hc2 => ?_) (fun hc2 => ?_)
      · refine y_mask (bs := [false, false]) (ls' := [none, none]) rfl ?_
        exact hj3
      · refine x_iload_n dX12_lengthOfMonth_22 rfl ?_
        refine x_bipush (v := 6) dX12_lengthOfMonth_23 (by decide) ?_
        refine x_icmp_eq (tgt := 40) dX12_lengthOfMonth_25 (by decide) (fun hc4 => ?_) (fun hc4 => ?_)
        · refine y_mask (bs := [false, false]) (ls' := [none, none]) rfl ?_
          exact hj3
        · refine x_iload_n dX12_lengthOfMonth_28 rfl ?_
          refine x_bipush (v := 9) dX12_lengthOfMonth_29 (by decide) ?_
          refine x_icmp_eq (tgt := 40) dX12_lengthOfMonth_31 (by decide) (fun hc5 => ?_) (fun hc5 => ?_)
          · refine y_mask (bs := [false, false]) (ls' := [none, none]) rfl ?_
            exact hj3
          · refine x_iload_n dX12_lengthOfMonth_34 rfl ?_
            refine x_bipush (v := 11) dX12_lengthOfMonth_35 (by decide) ?_
            refine x_icmp_ne (tgt := 45) dX12_lengthOfMonth_37 (by decide) (fun hc6 => ?_) (fun hc6 => ?_)
            · refine y_mask (bs := [false, false]) (ls' := [none, none]) rfl ?_
              exact hj3
            · refine x_bipush (v := 31) dX12_lengthOfMonth_45 (by decide) ?_
              exact x_iret rfl rfl ⟨(Nat.le_of_ble_eq_true rfl), (Nat.le_of_ble_eq_true rfl)⟩ dX12_lengthOfMonth_47
abbrev kk_Mod_beginOfMonth : Kx := (yX12_beginOfMonth.cls, cX12_beginOfMonth, 4, (some .int), [], false)
set_option maxHeartbeats 4000000 in
set_option maxRecDepth 100000 in
theorem c_Mod_beginOfMonth (ω : Wd) (p1 : Int32) (p2 : Int32) (m : Mm) : Ev ω true 2 0 0 yX12_beginOfMonth cX12_beginOfMonth 4 (some .int) [.int p1, .int p2] m (fP m) (f_Mod_beginOfMonth p1 p2 m) := by
  refine Ev.of (b := false) (ls := [some (.int p1), some (.int p2), none, none]) (plainFor_of_name (by decide +kernel)) (fun h => by cases h) rfl (Nat.le_of_ble_eq_true rfl) rfl ?_
  change Sx ω true 2 0 0 kk_Mod_beginOfMonth (fP m) 0 0 m 0 _ _ _
  unfold f_Mod_beginOfMonth
  refine x_iconst (v := 0) dX12_beginOfMonth_0 (by decide) ?_
  refine x_istore_n (ls' := [some (.int p1), some (.int p2), some (.int 0), none]) dX12_beginOfMonth_1 (Nat.le_of_ble_eq_true rfl) rfl ?_
  refine x_iconst (v := 1) dX12_beginOfMonth_2 (by decide) ?_
  refine x_istore_n (ls' := [some (.int p1), some (.int p2), some (.int 0), some (.int 1)]) dX12_beginOfMonth_3 (Nat.le_of_ble_eq_true rfl) rfl ?_
  refine y_Lq2 (fun x1 x2 => [some (.int p1), some (.int p2), some (.int x1), some (.int x2)]) (fun r3 hr3 x1 x2 => ?_) zFu _ _
  refine x_iload_n dX12_beginOfMonth_4 rfl ?_
  refine x_iload_n dX12_beginOfMonth_5 rfl ?_
  refine x_icmp_ge (tgt := 26) dX12_beginOfMonth_6 (by decide) (fun hc4 => ?_) (fun hc4 => ?_)
  · refine x_iload_n dX12_beginOfMonth_26 rfl ?_
    exact x_iret rfl rfl ⟨(Nat.le_of_ble_eq_true rfl), (Nat.le_of_ble_eq_true rfl)⟩ dX12_beginOfMonth_27
  · refine x_iload_n dX12_beginOfMonth_9 rfl ?_
    refine x_iload_n dX12_beginOfMonth_10 rfl ?_
    refine x_iload_n dX12_beginOfMonth_11 rfl ?_
    refine y_callSP (rest := [.int x2, .int x1]) (c1 := 0) (s1 := 0) (c_Mod_isLeap ω p1 m) ms_RX12_97 rfl (Nat.le_of_ble_eq_true rfl) (Nat.le_of_ble_eq_true rfl) (Nat.le_of_ble_eq_true rfl) ⟨rfl, rfl⟩ ⟨(Nat.le_of_ble_eq_true rfl), (Nat.le_of_ble_eq_true rfl)⟩ dX12_beginOfMonth_12 (fun v5 => ?_)
    refine y_callSP (rest := [.int x1]) (c1 := 0) (s1 := 0) (c_Mod_lengthOfMonth ω x2 v5 m) ms_RX12_101 rfl (Nat.le_of_ble_eq_true rfl) (Nat.le_of_ble_eq_true rfl) (Nat.le_of_ble_eq_true rfl) ⟨rfl, rfl⟩ ⟨(Nat.le_of_ble_eq_true rfl), (Nat.le_of_ble_eq_true rfl)⟩ dX12_beginOfMonth_15 (fun v6 => ?_)
    refine x_iadd dX12_beginOfMonth_18 ?_
    refine y_letI (fun x7 => ?_)
    refine x_istore_n (ls' := [some (.int p1), some (.int p2), some (.int x7), some (.int x2)]) dX12_beginOfMonth_19 (Nat.le_of_ble_eq_true rfl) rfl ?_
    refine y_iinc (w := 1) dX12_beginOfMonth_20 rfl (by decide) (Nat.le_of_ble_eq_true rfl) (fun x8 => ?_)
    refine x_goto (tgt := 4) dX12_beginOfMonth_23 (by decide) ?_
    exact hr3 _ _
abbrev kk_Mod_dateOf : Kx := (yX12_dateOf.cls, cX12_dateOf, 4, (some .int), [], false)
set_option maxHeartbeats 4000000 in
set_option maxRecDepth 100000 in
theorem c_Mod_dateOf (ω : Wd) (p1 : Int32) (p2 : Int32) (m : Mm) : Ev ω true 2 0 0 yX12_dateOf cX12_dateOf 4 (some .int) [.int p1, .int p2] m (fP m) (f_Mod_dateOf p1 p2 m) := by
  refine Ev.of (b := false) (ls := [some (.int p1), some (.int p2), none, none]) (plainFor_of_name (by decide +kernel)) (fun h => by cases h) rfl (Nat.le_of_ble_eq_true rfl) rfl ?_
  change Sx ω true 2 0 0 kk_Mod_dateOf (fP m) 0 0 m 0 _ _ _
  unfold f_Mod_dateOf
  refine x_iconst (v := 1) dX12_dateOf_0 (by decide) ?_
  refine x_istore_n (ls' := [some (.int p1), some (.int p2), some (.int 1), none]) dX12_dateOf_1 (Nat.le_of_ble_eq_true rfl) rfl ?_
  refine x_iload_n dX12_dateOf_2 rfl ?_
  refine x_istore_n (ls' := [some (.int p1), some (.int p2), some (.int 1), some (.int p2)]) dX12_dateOf_3 (Nat.le_of_ble_eq_true rfl) rfl ?_
  refine y_mask (bs := [true, false, true, true]) (ls' := [some (.int p1), none, some (.int 1), some (.int p2)]) rfl ?_
  refine y_Lq2 (fun x1 x2 => [some (.int p1), none, some (.int x1), some (.int x2)]) (fun r3 hr3 x1 x2 => ?_) zFu _ _
  refine x_iload_n dX12_dateOf_4 rfl ?_
  refine x_iload_n dX12_dateOf_5 rfl ?_
  refine x_iload_n dX12_dateOf_6 rfl ?_
  refine y_callSP (rest := [.int x1, .int x2]) (c1 := 0) (s1 := 0) (c_Mod_isLeap ω p1 m) ms_RX12_97 rfl (Nat.le_of_ble_eq_true rfl) (Nat.le_of_ble_eq_true rfl) (Nat.le_of_ble_eq_true rfl) ⟨rfl, rfl⟩ ⟨(Nat.le_of_ble_eq_true rfl), (Nat.le_of_ble_eq_true rfl)⟩ dX12_dateOf_7 (fun v4 => ?_)
  refine y_callSP (rest := [.int x2]) (c1 := 0) (s1 := 0) (c_Mod_lengthOfMonth ω x1 v4 m) ms_RX12_101 rfl (Nat.le_of_ble_eq_true rfl) (Nat.le_of_ble_eq_true rfl) (Nat.le_of_ble_eq_true rfl) ⟨rfl, rfl⟩ ⟨(Nat.le_of_ble_eq_true rfl), (Nat.le_of_ble_eq_true rfl)⟩ dX12_dateOf_10 (fun v5 => ?_)
  refine x_icmp_lt (tgt := 33) dX12_dateOf_13 (by decide) (fun hc6 => ?_) (fun hc6 => ?_)
  · refine x_bipush (v := 100) dX12_dateOf_33 (by decide) ?_
    refine x_iload_n dX12_dateOf_35 rfl ?_
    refine x_imul dX12_dateOf_36 ?_
    refine x_iload_n dX12_dateOf_37 rfl ?_
    refine x_iadd dX12_dateOf_38 ?_
    refine x_iconst (v := 1) dX12_dateOf_39 (by decide) ?_
    refine x_iadd dX12_dateOf_40 ?_
    exact x_iret rfl rfl ⟨(Nat.le_of_ble_eq_true rfl), (Nat.le_of_ble_eq_true rfl)⟩ dX12_dateOf_41
  · refine x_iload_n dX12_dateOf_16 rfl ?_
    refine x_iload_n dX12_dateOf_17 rfl ?_
    refine x_iload_n dX12_dateOf_18 rfl ?_
    refine y_callSP (rest := [.int x1, .int x2]) (c1 := 0) (s1 := 0) (c_Mod_isLeap ω p1 m) ms_RX12_97 rfl (Nat.le_of_ble_eq_true rfl) (Nat.le_of_ble_eq_true rfl) (Nat.le_of_ble_eq_true rfl) ⟨rfl, rfl⟩ ⟨(Nat.le_of_ble_eq_true rfl), (Nat.le_of_ble_eq_true rfl)⟩ dX12_dateOf_19 (fun v7 => ?_)
    refine y_callSP (rest := [.int x2]) (c1 := 0) (s1 := 0) (c_Mod_lengthOfMonth ω x1 v7 m) ms_RX12_101 rfl (Nat.le_of_ble_eq_true rfl) (Nat.le_of_ble_eq_true rfl) (Nat.le_of_ble_eq_true rfl) ⟨rfl, rfl⟩ ⟨(Nat.le_of_ble_eq_true rfl), (Nat.le_of_ble_eq_true rfl)⟩ dX12_dateOf_22 (fun v8 => ?_)
    refine x_isub dX12_dateOf_25 ?_
    refine y_letI (fun x9 => ?_)
    refine x_istore_n (ls' := [some (.int p1), none, some (.int x1), some (.int x9)]) dX12_dateOf_26 (Nat.le_of_ble_eq_true rfl) rfl ?_
    refine y_iinc (w := 1) dX12_dateOf_27 rfl (by decide) (Nat.le_of_ble_eq_true rfl) (fun x10 => ?_)
    refine x_goto (tgt := 4) dX12_dateOf_30 (by decide) ?_
    exact hr3 _ _
abbrev kk_Mod_weekday : Kx := (yX12_weekday.cls, cX12_weekday, 1, (some .int), [], false)
set_option maxHeartbeats 4000000 in
set_option maxRecDepth 100000 in
theorem c_Mod_weekday (ω : Wd) (p1 : Int32) (m : Mm) : Ev ω true 1 0 0 yX12_weekday cX12_weekday 1 (some .int) [.int p1] m (fP m) (f_Mod_weekday p1 m) := by
  refine Ev.of (b := false) (ls := [some (.int p1)]) (plainFor_of_name (by decide +kernel)) (fun h => by cases h) rfl (Nat.le_of_ble_eq_true rfl) rfl ?_
  change Sx ω true 1 0 0 kk_Mod_weekday (fP m) 0 0 m 0 _ _ _
  unfold f_Mod_weekday
  refine x_iload_n dX12_weekday_0 rfl ?_
  refine x_bipush (v := 6) dX12_weekday_1 (by decide) ?_
  refine x_iadd dX12_weekday_3 ?_
  refine x_bipush (v := 7) dX12_weekday_4 (by decide) ?_
  refine x_irem dX12_weekday_6 (by decide) ?_
  exact x_iret rfl rfl ⟨(Nat.le_of_ble_eq_true rfl), (Nat.le_of_ble_eq_true rfl)⟩ dX12_weekday_7
abbrev kk_Mod_floor : Kx := (yX12_floor.cls, cX12_floor, 2, (some .int), [], false)
set_option maxHeartbeats 4000000 in
set_option maxRecDepth 100000 in
theorem c_Mod_floor (ω : Wd) (p1 : Int32) (p2 : Int32) (m : Mm) : Ev ω true 1 0 0 yX12_floor cX12_floor 2 (some .int) [.int p1, .int p2] m (fP m) (f_Mod_floor p1 p2 m) := by
  refine Ev.of (b := false) (ls := [some (.int p1), some (.int p2)]) (plainFor_of_name (by decide +kernel)) (fun h => by cases h) rfl (Nat.le_of_ble_eq_true rfl) rfl ?_
  change Sx ω true 1 0 0 kk_Mod_floor (fP m) 0 0 m 0 _ _ _
  unfold f_Mod_floor
  refine x_iload_n dX12_floor_0 rfl ?_
  refine x_if_lt (tgt := 10) dX12_floor_1 (by decide) (fun hc1 => ?_) (fun hc1 => ?_)
  · refine x_iload_n dX12_floor_10 rfl ?_
    refine x_iconst (v := 1) dX12_floor_11 (by decide) ?_
    refine x_isub dX12_floor_12 ?_
    refine x_iload_n dX12_floor_13 rfl ?_
    refine x_isub dX12_floor_14 ?_
    refine x_iload_n dX12_floor_15 rfl ?_
    refine x_guard (fun hz => ?_)
    refine x_idiv dX12_floor_16 hz ?_
    refine x_ineg dX12_floor_17 ?_
    exact x_iret rfl rfl ⟨(Nat.le_of_ble_eq_true rfl), (Nat.le_of_ble_eq_true rfl)⟩ dX12_floor_18
  · refine x_iload_n dX12_floor_4 rfl ?_
    refine x_iload_n dX12_floor_5 rfl ?_
    refine x_guard (fun hz => ?_)
    refine x_idiv dX12_floor_6 hz ?_
    refine x_goto (tgt := 18) dX12_floor_7 (by decide) ?_
    exact x_iret rfl rfl ⟨(Nat.le_of_ble_eq_true rfl), (Nat.le_of_ble_eq_true rfl)⟩ dX12_floor_18
abbrev kk_Mod_moonOf : Kx := (yX12_moonOf.cls, cX12_moonOf, 2, (some .int), [], false)
set_option maxHeartbeats 4000000 in
set_option maxRecDepth 100000 in
theorem c_Mod_moonOf (ω : Wd) (p1 : Int32) (p2 : Int32) (m : Mm) : Ev ω true 2 0 0 yX12_moonOf cX12_moonOf 2 (some .int) [.int p1, .int p2] m (fP m) (f_Mod_moonOf p1 p2 m) := by
  refine Ev.of (b := false) (ls := [some (.int p1), some (.int p2)]) (plainFor_of_name (by decide +kernel)) (fun h => by cases h) rfl (Nat.le_of_ble_eq_true rfl) rfl ?_
  change Sx ω true 2 0 0 kk_Mod_moonOf (fP m) 0 0 m 0 _ _ _
  unfold f_Mod_moonOf
  refine x_iload_n dX12_moonOf_0 rfl ?_
  refine x_if_ne (tgt := 19) dX12_moonOf_1 (by decide) (fun hc1 => ?_) (fun hc1 => ?_)
  · refine x_sipush (v := 945) dX12_moonOf_4 (by decide) ?_
    refine x_iload_n dX12_moonOf_7 rfl ?_
    refine x_imul dX12_moonOf_8 ?_
    refine x_bipush (v := 32) dX12_moonOf_9 (by decide) ?_
    refine y_callSP (rest := []) (c1 := 0) (s1 := 0) (c_Mod_floor ω (945 * p1) 32 m) ms_RX12_105 rfl (Nat.le_of_ble_eq_true rfl) (Nat.le_of_ble_eq_true rfl) (Nat.le_of_ble_eq_true rfl) ⟨rfl, rfl⟩ ⟨(Nat.le_of_ble_eq_true rfl), (Nat.le_of_ble_eq_true rfl)⟩ dX12_moonOf_11 (fun v3 => ?_)
    refine x_iconst (v := 5) dX12_moonOf_14 (by decide) ?_
    refine x_iadd dX12_moonOf_15 ?_
    refine x_goto (tgt := 33) dX12_moonOf_16 (by decide) ?_
    exact x_iret rfl rfl ⟨(Nat.le_of_ble_eq_true rfl), (Nat.le_of_ble_eq_true rfl)⟩ dX12_moonOf_33
  · refine x_sipush (v := 6940) dX12_moonOf_19 (by decide) ?_
    refine x_iload_n dX12_moonOf_22 rfl ?_
    refine x_imul dX12_moonOf_23 ?_
    refine x_sipush (v := 235) dX12_moonOf_24 (by decide) ?_
    refine y_callSP (rest := []) (c1 := 0) (s1 := 0) (c_Mod_floor ω (6940 * p1) 235 m) ms_RX12_105 rfl (Nat.le_of_ble_eq_true rfl) (Nat.le_of_ble_eq_true rfl) (Nat.le_of_ble_eq_true rfl) ⟨rfl, rfl⟩ ⟨(Nat.le_of_ble_eq_true rfl), (Nat.le_of_ble_eq_true rfl)⟩ dX12_moonOf_27 (fun v2 => ?_)
    refine x_bipush (v := 6) dX12_moonOf_30 (by decide) ?_
    refine x_iadd dX12_moonOf_32 ?_
    exact x_iret rfl rfl ⟨(Nat.le_of_ble_eq_true rfl), (Nat.le_of_ble_eq_true rfl)⟩ dX12_moonOf_33
abbrev kk_Mod_lastMoon : Kx := (yX12_lastMoon.cls, cX12_lastMoon, 2, (some .int), [], false)
set_option maxHeartbeats 4000000 in
set_option maxRecDepth 100000 in
theorem c_Mod_lastMoon (ω : Wd) (p1 : Int32) (p2 : Int32) (m : Mm) : Ev ω true 2 0 0 yX12_lastMoon cX12_lastMoon 2 (some .int) [.int p1, .int p2] m (fP m) (f_Mod_lastMoon p1 p2 m) := by
  refine Ev.of (b := false) (ls := [some (.int p1), some (.int p2)]) (plainFor_of_name (by decide +kernel)) (fun h => by cases h) rfl (Nat.le_of_ble_eq_true rfl) rfl ?_
  change Sx ω true 2 0 0 kk_Mod_lastMoon (fP m) 0 0 m 0 _ _ _
  unfold f_Mod_lastMoon
  refine x_iload_n dX12_lastMoon_0 rfl ?_
  refine x_if_ne (tgt := 21) dX12_lastMoon_1 (by decide) (fun hc1 => ?_) (fun hc1 => ?_)
  · refine x_bipush (v := 32) dX12_lastMoon_4 (by decide) ?_
    refine x_iload_n dX12_lastMoon_6 rfl ?_
    refine x_iconst (v := 4) dX12_lastMoon_7 (by decide) ?_
    refine x_isub dX12_lastMoon_8 ?_
    refine x_imul dX12_lastMoon_9 ?_
    refine x_iconst (v := 1) dX12_lastMoon_10 (by decide) ?_
    refine x_isub dX12_lastMoon_11 ?_
    refine x_sipush (v := 945) dX12_lastMoon_12 (by decide) ?_
    refine y_callSP (rest := []) (c1 := 0) (s1 := 0) (c_Mod_floor ω ((32 * (p1 - 4)) - 1) 945 m) ms_RX12_105 rfl (Nat.le_of_ble_eq_true rfl) (Nat.le_of_ble_eq_true rfl) (Nat.le_of_ble_eq_true rfl) ⟨rfl, rfl⟩ ⟨(Nat.le_of_ble_eq_true rfl), (Nat.le_of_ble_eq_true rfl)⟩ dX12_lastMoon_15 (fun v3 => ?_)
    refine x_goto (tgt := 36) dX12_lastMoon_18 (by decide) ?_
    exact x_iret rfl rfl ⟨(Nat.le_of_ble_eq_true rfl), (Nat.le_of_ble_eq_true rfl)⟩ dX12_lastMoon_36
  · refine x_sipush (v := 235) dX12_lastMoon_21 (by decide) ?_
    refine x_iload_n dX12_lastMoon_24 rfl ?_
    refine x_iconst (v := 5) dX12_lastMoon_25 (by decide) ?_
    refine x_isub dX12_lastMoon_26 ?_
    refine x_imul dX12_lastMoon_27 ?_
    refine x_iconst (v := 1) dX12_lastMoon_28 (by decide) ?_
    refine x_isub dX12_lastMoon_29 ?_
    refine x_sipush (v := 6940) dX12_lastMoon_30 (by decide) ?_
    refine y_callSP (rest := []) (c1 := 0) (s1 := 0) (c_Mod_floor ω ((235 * (p1 - 5)) - 1) 6940 m) ms_RX12_105 rfl (Nat.le_of_ble_eq_true rfl) (Nat.le_of_ble_eq_true rfl) (Nat.le_of_ble_eq_true rfl) ⟨rfl, rfl⟩ ⟨(Nat.le_of_ble_eq_true rfl), (Nat.le_of_ble_eq_true rfl)⟩ dX12_lastMoon_33 (fun v2 => ?_)
    exact x_iret rfl rfl ⟨(Nat.le_of_ble_eq_true rfl), (Nat.le_of_ble_eq_true rfl)⟩ dX12_lastMoon_36
abbrev kk_Mod_ageOf : Kx := (yX12_ageOf.cls, cX12_ageOf, 2, (some .int), [], false)
set_option maxHeartbeats 4000000 in
set_option maxRecDepth 100000 in
theorem c_Mod_ageOf (ω : Wd) (p1 : Int32) (p2 : Int32) (m : Mm) : Ev ω true 3 0 0 yX12_ageOf cX12_ageOf 2 (some .int) [.int p1, .int p2] m (fP m) (f_Mod_ageOf p1 p2 m) := by
  refine Ev.of (b := false) (ls := [some (.int p1), some (.int p2)]) (plainFor_of_name (by decide +kernel)) (fun h => by cases h) rfl (Nat.le_of_ble_eq_true rfl) rfl ?_
  change Sx ω true 3 0 0 kk_Mod_ageOf (fP m) 0 0 m 0 _ _ _
  unfold f_Mod_ageOf
  refine x_iload_n dX12_ageOf_0 rfl ?_
  refine x_iload_n dX12_ageOf_1 rfl ?_
  refine x_iload_n dX12_ageOf_2 rfl ?_
  refine y_callSP (rest := [.int p1]) (c1 := 0) (s1 := 0) (c_Mod_lastMoon ω p1 p2 m) ms_RX12_109 rfl (Nat.le_of_ble_eq_true rfl) (Nat.le_of_ble_eq_true rfl) (Nat.le_of_ble_eq_true rfl) ⟨rfl, rfl⟩ ⟨(Nat.le_of_ble_eq_true rfl), (Nat.le_of_ble_eq_true rfl)⟩ dX12_ageOf_3 (fun v1 => ?_)
  refine x_iload_n dX12_ageOf_6 rfl ?_
  refine y_callSP (rest := [.int p1]) (c1 := 0) (s1 := 0) (c_Mod_moonOf ω v1 p2 m) ms_RX12_112 rfl (Nat.le_of_ble_eq_true rfl) (Nat.le_of_ble_eq_true rfl) (Nat.le_of_ble_eq_true rfl) ⟨rfl, rfl⟩ ⟨(Nat.le_of_ble_eq_true rfl), (Nat.le_of_ble_eq_true rfl)⟩ dX12_ageOf_7 (fun v2 => ?_)
  refine x_isub dX12_ageOf_10 ?_
  exact x_iret rfl rfl ⟨(Nat.le_of_ble_eq_true rfl), (Nat.le_of_ble_eq_true rfl)⟩ dX12_ageOf_11
abbrev kk_Mod_begin : Kx := (yX12_begin.cls, cX12_begin, 2, (some .int), [], false)
set_option maxHeartbeats 4000000 in
set_option maxRecDepth 100000 in
theorem c_Mod_begin (ω : Wd) (p1 : Int32) (m : Mm) : Ev ω true 2 0 0 yX12_begin cX12_begin 2 (some .int) [.ref (zad ω 201), .int p1] m fI (f_Mod_begin p1 m) := by
  refine Ev.of (b := false) (ls := [some (.ref (zad ω 201)), some (.int p1)]) (plainFor_of_name (by decide +kernel)) (fun h => by cases h) rfl (Nat.le_of_ble_eq_true rfl) rfl ?_
  change Sx ω true 2 0 0 kk_Mod_begin fI 0 0 m 0 _ _ _
  unfold f_Mod_begin
  refine x_aload_n dX12_begin_0 rfl ?_
  refine x_iload_n dX12_begin_1 rfl ?_
  refine x_iconst (v := 0) dX12_begin_2 (by decide) ?_
  refine x_sipush (v := 399) dX12_begin_3 (by decide) ?_
  refine y_callSP (rest := [.ref (zad ω 201)]) (c1 := 0) (s1 := 0) (c_Mod_isIn ω p1 0 399 m) ms_RX12_115 rfl (Nat.le_of_ble_eq_true rfl) (Nat.le_of_ble_eq_true rfl) (Nat.le_of_ble_eq_true rfl) ⟨rfl, rfl⟩ ⟨(Nat.le_of_ble_eq_true rfl), (Nat.le_of_ble_eq_true rfl)⟩ dX12_begin_6 (fun v1 => ?_)
  refine y_join (fun j4 => ∀ (x3 : Int32), Sx ω true 2 0 0 kk_Mod_begin fI 0 0 m 17 [some (.ref (zad ω 201)), some (.int p1)] [.int x3, .ref (zad ω 201)] (j4 x3)) ?_ (fun j4 hj4 => ?_)
  · intro x3
    refine y_putI fp_RX12_93 hz_201 dX12_begin_17 ?_
    refine y_letM (fun m5 => ?_)
    refine x_aload_n dX12_begin_20 rfl ?_
    refine y_getI fl_RX12_93 hz_201 dX12_begin_21 ?_
    refine x_if_le (tgt := 31) dX12_begin_24 (by decide) (fun hc6 => ?_) (fun hc6 => ?_)
    · refine x_iload_n dX12_begin_31 rfl ?_
      refine y_callSP (rest := []) (c1 := 0) (s1 := 0) (c_Mod_beginOf ω p1 m5) ms_RX12_119 rfl (Nat.le_of_ble_eq_true rfl) (Nat.le_of_ble_eq_true rfl) (Nat.le_of_ble_eq_true rfl) ⟨rfl, rfl⟩ ⟨(Nat.le_of_ble_eq_true rfl), (Nat.le_of_ble_eq_true rfl)⟩ dX12_begin_32 (fun v7 => ?_)
      exact x_iret rfl rfl ⟨(Nat.le_of_ble_eq_true rfl), (Nat.le_of_ble_eq_true rfl)⟩ dX12_begin_35
    · refine x_iconst (v := 0) dX12_begin_27 (by decide) ?_
      refine x_goto (tgt := 35) dX12_begin_28 (by decide) ?_
      exact x_iret rfl rfl ⟨(Nat.le_of_ble_eq_true rfl), (Nat.le_of_ble_eq_true rfl)⟩ dX12_begin_35
  · refine x_if_eq (tgt := 16) dX12_begin_9 (by decide) (fun hc2 => ?_) (fun hc2 => ?_)
    · refine x_iconst (v := 1) dX12_begin_16 (by decide) ?_
      exact hj4 _
    · refine x_iconst (v := 0) dX12_begin_12 (by decide) ?_
      refine x_goto (tgt := 17) dX12_begin_13 (by decide) ?_
      exact hj4 _
abbrev kk_Mod_date : Kx := (yX12_date.cls, cX12_date, 3, (some .int), [], false)
set_option maxHeartbeats 4000000 in
set_option maxRecDepth 100000 in
theorem c_Mod_date (ω : Wd) (p1 : Int32) (p2 : Int32) (m : Mm) : Ev ω true 3 0 0 yX12_date cX12_date 3 (some .int) [.ref (zad ω 201), .int p1, .int p2] m fI (f_Mod_date p1 p2 m) := by
  refine Ev.of (b := false) (ls := [some (.ref (zad ω 201)), some (.int p1), some (.int p2)]) (plainFor_of_name (by decide +kernel)) (fun h => by cases h) rfl (Nat.le_of_ble_eq_true rfl) rfl ?_
  change Sx ω true 3 0 0 kk_Mod_date fI 0 0 m 0 _ _ _
  unfold f_Mod_date
  refine x_aload_n dX12_date_0 rfl ?_
  refine x_iload_n dX12_date_1 rfl ?_
  refine x_iconst (v := 0) dX12_date_2 (by decide) ?_
  refine x_sipush (v := 399) dX12_date_3 (by decide) ?_
  refine y_callSP (rest := [.ref (zad ω 201)]) (c1 := 0) (s1 := 0) (c_Mod_isIn ω p1 0 399 m) ms_RX12_115 rfl (Nat.le_of_ble_eq_true rfl) (Nat.le_of_ble_eq_true rfl) (Nat.le_of_ble_eq_true rfl) ⟨rfl, rfl⟩ ⟨(Nat.le_of_ble_eq_true rfl), (Nat.le_of_ble_eq_true rfl)⟩ dX12_date_6 (fun v1 => ?_)
  refine y_join (fun j4 => ∀ (x3 : Int32), Sx ω true 3 0 0 kk_Mod_date fI 0 0 m 28 [some (.ref (zad ω 201)), some (.int p1), some (.int p2)] [.int x3, .ref (zad ω 201)] (j4 x3)) ?_ (fun j4 hj4 => ?_)
  · intro x3
    refine y_putI fp_RX12_93 hz_201 dX12_date_28 ?_
    refine y_letM (fun m5 => ?_)
    refine x_aload_n dX12_date_31 rfl ?_
    refine y_getI fl_RX12_93 hz_201 dX12_date_32 ?_
    refine x_if_le (tgt := 40) dX12_date_35 (by decide) (fun hc6 => ?_) (fun hc6 => ?_)
    · refine x_iload_n dX12_date_40 rfl ?_
      refine x_iload_n dX12_date_41 rfl ?_
      refine y_callSP (rest := [.int p2]) (c1 := 0) (s1 := 0) (c_Mod_lengthOf ω p1 m5) ms_RX12_123 rfl (Nat.le_of_ble_eq_true rfl) (Nat.le_of_ble_eq_true rfl) (Nat.le_of_ble_eq_true rfl) ⟨rfl, rfl⟩ ⟨(Nat.le_of_ble_eq_true rfl), (Nat.le_of_ble_eq_true rfl)⟩ dX12_date_42 (fun v7 => ?_)
      refine x_icmp_ge (tgt := 56) dX12_date_45 (by decide) (fun hc8 => ?_) (fun hc8 => ?_)
      · refine x_iconst (v := (-1)) dX12_date_56 (by decide) ?_
        exact x_iret rfl rfl ⟨(Nat.le_of_ble_eq_true rfl), (Nat.le_of_ble_eq_true rfl)⟩ dX12_date_57
      · refine x_iload_n dX12_date_48 rfl ?_
        refine x_iload_n dX12_date_49 rfl ?_
        refine y_callSP (rest := []) (c1 := 0) (s1 := 0) (c_Mod_dateOf ω p1 p2 m5) ms_RX12_126 rfl (Nat.le_of_ble_eq_true rfl) (Nat.le_of_ble_eq_true rfl) (Nat.le_of_ble_eq_true rfl) ⟨rfl, rfl⟩ ⟨(Nat.le_of_ble_eq_true rfl), (Nat.le_of_ble_eq_true rfl)⟩ dX12_date_50 (fun v9 => ?_)
        refine x_goto (tgt := 57) dX12_date_53 (by decide) ?_
        exact x_iret rfl rfl ⟨(Nat.le_of_ble_eq_true rfl), (Nat.le_of_ble_eq_true rfl)⟩ dX12_date_57
    · refine x_iconst (v := 0) dX12_date_38 (by decide) ?_
      exact x_iret rfl rfl ⟨(Nat.le_of_ble_eq_true rfl), (Nat.le_of_ble_eq_true rfl)⟩ dX12_date_39
  · refine y_join (fun j10 => Sx ω true 3 0 0 kk_Mod_date fI 0 0 m 27 [some (.ref (zad ω 201)), some (.int p1), some (.int p2)] [.ref (zad ω 201)] j10) ?_ (fun j10 hj10 => ?_)
    · refine x_iconst (v := 1) dX12_date_27 (by decide) ?_
      exact hj4 _
    · refine x_if_eq (tgt := 27) dX12_date_9 (by decide) (fun hc2 => ?_) (fun hc2 => ?_)
      · exact hj10
      · refine x_iload_n dX12_date_12 rfl ?_
        refine x_iconst (v := 0) dX12_date_13 (by decide) ?_
        refine x_sipush (v := 365) dX12_date_14 (by decide) ?_
        refine y_callSP (rest := [.ref (zad ω 201)]) (c1 := 0) (s1 := 0) (c_Mod_isIn ω p2 0 365 m) ms_RX12_115 rfl (Nat.le_of_ble_eq_true rfl) (Nat.le_of_ble_eq_true rfl) (Nat.le_of_ble_eq_true rfl) ⟨rfl, rfl⟩ ⟨(Nat.le_of_ble_eq_true rfl), (Nat.le_of_ble_eq_true rfl)⟩ dX12_date_17 (fun v11 => ?_)
        refine x_if_eq (tgt := 27) dX12_date_20 (by decide) (fun hc12 => ?_) (fun hc12 => ?_)
        · exact hj10
        · refine x_iconst (v := 0) dX12_date_23 (by decide) ?_
          refine x_goto (tgt := 28) dX12_date_24 (by decide) ?_
          exact hj4 _
abbrev kk_Mod_age : Kx := (yX12_age.cls, cX12_age, 3, (some .int), [], false)
set_option maxHeartbeats 4000000 in
set_option maxRecDepth 100000 in
theorem c_Mod_age (ω : Wd) (p1 : Int32) (p2 : Int32) (m : Mm) : Ev ω true 4 0 0 yX12_age cX12_age 3 (some .int) [.ref (zad ω 201), .int p1, .int p2] m fI (f_Mod_age p1 p2 m) := by
  refine Ev.of (b := false) (ls := [some (.ref (zad ω 201)), some (.int p1), some (.int p2)]) (plainFor_of_name (by decide +kernel)) (fun h => by cases h) rfl (Nat.le_of_ble_eq_true rfl) rfl ?_
  change Sx ω true 4 0 0 kk_Mod_age fI 0 0 m 0 _ _ _
  unfold f_Mod_age
  refine x_aload_n dX12_age_0 rfl ?_
  refine x_iload_n dX12_age_1 rfl ?_
  refine x_iconst (v := 0) dX12_age_2 (by decide) ?_
  refine x_ldcI (v := 146096) ci_RX12_129 dX12_age_3 ?_
  refine y_callSP (rest := [.ref (zad ω 201)]) (c1 := 0) (s1 := 0) (c_Mod_isIn ω p1 0 146096 m) ms_RX12_115 rfl (Nat.le_of_ble_eq_true rfl) (Nat.le_of_ble_eq_true rfl) (Nat.le_of_ble_eq_true rfl) ⟨rfl, rfl⟩ ⟨(Nat.le_of_ble_eq_true rfl), (Nat.le_of_ble_eq_true rfl)⟩ dX12_age_5 (fun v1 => ?_)
  refine y_join (fun j4 => ∀ (x3 : Int32), Sx ω true 4 0 0 kk_Mod_age fI 0 0 m 25 [some (.ref (zad ω 201)), some (.int p1), some (.int p2)] [.int x3, .ref (zad ω 201)] (j4 x3)) ?_ (fun j4 hj4 => ?_)
  · intro x3
    refine y_putI fp_RX12_93 hz_201 dX12_age_25 ?_
    refine y_letM (fun m5 => ?_)
    refine x_aload_n dX12_age_28 rfl ?_
    refine y_getI fl_RX12_93 hz_201 dX12_age_29 ?_
    refine x_if_le (tgt := 39) dX12_age_32 (by decide) (fun hc6 => ?_) (fun hc6 => ?_)
    · refine x_iload_n dX12_age_39 rfl ?_
      refine x_iload_n dX12_age_40 rfl ?_
      refine y_callSP (rest := []) (c1 := 0) (s1 := 0) (c_Mod_ageOf ω p1 p2 m5) ms_RX12_130 rfl (Nat.le_of_ble_eq_true rfl) (Nat.le_of_ble_eq_true rfl) (Nat.le_of_ble_eq_true rfl) ⟨rfl, rfl⟩ ⟨(Nat.le_of_ble_eq_true rfl), (Nat.le_of_ble_eq_true rfl)⟩ dX12_age_41 (fun v7 => ?_)
      exact x_iret rfl rfl ⟨(Nat.le_of_ble_eq_true rfl), (Nat.le_of_ble_eq_true rfl)⟩ dX12_age_44
    · refine x_iconst (v := 0) dX12_age_35 (by decide) ?_
      refine x_goto (tgt := 44) dX12_age_36 (by decide) ?_
      exact x_iret rfl rfl ⟨(Nat.le_of_ble_eq_true rfl), (Nat.le_of_ble_eq_true rfl)⟩ dX12_age_44
  · refine y_join (fun j8 => Sx ω true 4 0 0 kk_Mod_age fI 0 0 m 24 [some (.ref (zad ω 201)), some (.int p1), some (.int p2)] [.ref (zad ω 201)] j8) ?_ (fun j8 hj8 => ?_)
    · refine x_iconst (v := 1) dX12_age_24 (by decide) ?_
      exact hj4 _
    · refine x_if_eq (tgt := 24) dX12_age_8 (by decide) (fun hc2 => ?_) (fun hc2 => ?_)
      · exact hj8
      · refine x_iload_n dX12_age_11 rfl ?_
        refine x_iconst (v := 0) dX12_age_12 (by decide) ?_
        refine x_iconst (v := 1) dX12_age_13 (by decide) ?_
        refine y_callSP (rest := [.ref (zad ω 201)]) (c1 := 0) (s1 := 0) (c_Mod_isIn ω p2 0 1 m) ms_RX12_115 rfl (Nat.le_of_ble_eq_true rfl) (Nat.le_of_ble_eq_true rfl) (Nat.le_of_ble_eq_true rfl) ⟨rfl, rfl⟩ ⟨(Nat.le_of_ble_eq_true rfl), (Nat.le_of_ble_eq_true rfl)⟩ dX12_age_14 (fun v9 => ?_)
        refine x_if_eq (tgt := 24) dX12_age_17 (by decide) (fun hc10 => ?_) (fun hc10 => ?_)
        · exact hj8
        · refine x_iconst (v := 0) dX12_age_20 (by decide) ?_
          refine x_goto (tgt := 25) dX12_age_21 (by decide) ?_
          exact hj4 _
abbrev kk_Mod_table : Kx := (yX12_table.cls, cX12_table, 3, (some .int), [], false)
set_option maxHeartbeats 4000000 in
set_option maxRecDepth 100000 in
theorem c_Mod_table (ω : Wd) (p1 : Int32) (m : Mm) : Ev ω true 2 0 0 yX12_table cX12_table 3 (some .int) [.ref (zad ω 201), .int p1] m fI (f_Mod_table p1 m) := by
  refine Ev.of (b := false) (ls := [some (.ref (zad ω 201)), some (.int p1), none]) (plainFor_of_name (by decide +kernel)) (fun h => by cases h) rfl (Nat.le_of_ble_eq_true rfl) rfl ?_
  change Sx ω true 2 0 0 kk_Mod_table fI 0 0 m 0 _ _ _
  unfold f_Mod_table
  refine x_aload_n dX12_table_0 rfl ?_
  refine x_iload_n dX12_table_1 rfl ?_
  refine x_iconst (v := 0) dX12_table_2 (by decide) ?_
  refine x_iconst (v := 1) dX12_table_3 (by decide) ?_
  refine y_callSP (rest := [.ref (zad ω 201)]) (c1 := 0) (s1 := 0) (c_Mod_isIn ω p1 0 1 m) ms_RX12_115 rfl (Nat.le_of_ble_eq_true rfl) (Nat.le_of_ble_eq_true rfl) (Nat.le_of_ble_eq_true rfl) ⟨rfl, rfl⟩ ⟨(Nat.le_of_ble_eq_true rfl), (Nat.le_of_ble_eq_true rfl)⟩ dX12_table_4 (fun v1 => ?_)
  refine y_join (fun j4 => ∀ (x3 : Int32), Sx ω true 2 0 0 kk_Mod_table fI 0 0 m 15 [some (.ref (zad ω 201)), some (.int p1), none] [.int x3, .ref (zad ω 201)] (j4 x3)) ?_ (fun j4 hj4 => ?_)
  · intro x3
    refine y_putI fp_RX12_93 hz_201 dX12_table_15 ?_
    refine y_letM (fun m5 => ?_)
    refine x_aload_n dX12_table_18 rfl ?_
    refine y_getI fl_RX12_93 hz_201 dX12_table_19 ?_
    refine x_if_le (tgt := 27) dX12_table_22 (by decide) (fun hc6 => ?_) (fun hc6 => ?_)
    · refine x_aload_n dX12_table_27 rfl ?_
      refine y_getI fl_RX12_133 hz_201 dX12_table_28 ?_
      refine y_letI (fun x7 => ?_)
      refine x_istore_n (ls' := [some (.ref (zad ω 201)), some (.int p1), some (.int x7)]) dX12_table_31 (Nat.le_of_ble_eq_true rfl) rfl ?_
      refine x_aload_n dX12_table_32 rfl ?_
      refine x_iload_n dX12_table_33 rfl ?_
      refine y_putI fp_RX12_133 hz_201 dX12_table_34 ?_
      refine y_letM (fun m8 => ?_)
      refine x_iload_n dX12_table_37 rfl ?_
      exact x_iret rfl rfl ⟨(Nat.le_of_ble_eq_true rfl), (Nat.le_of_ble_eq_true rfl)⟩ dX12_table_38
    · refine x_iconst (v := 0) dX12_table_25 (by decide) ?_
      exact x_iret rfl rfl ⟨(Nat.le_of_ble_eq_true rfl), (Nat.le_of_ble_eq_true rfl)⟩ dX12_table_26
  · refine x_if_eq (tgt := 14) dX12_table_7 (by decide) (fun hc2 => ?_) (fun hc2 => ?_)
    · refine x_iconst (v := 1) dX12_table_14 (by decide) ?_
      exact hj4 _
    · refine x_iconst (v := 0) dX12_table_10 (by decide) ?_
      refine x_goto (tgt := 15) dX12_table_11 (by decide) ?_
      exact hj4 _
abbrev kk_Mod_type : Kx := (yX12_type.cls, cX12_type, 2, (some .int), [], false)
set_option maxHeartbeats 4000000 in
set_option maxRecDepth 100000 in
theorem c_Mod_type (ω : Wd) (p1 : Int32) (m : Mm) : Ev ω true 2 0 0 yX12_type cX12_type 2 (some .int) [.ref (zad ω 201), .int p1] m fI (f_Mod_type p1 m) := by
  refine Ev.of (b := false) (ls := [some (.ref (zad ω 201)), some (.int p1)]) (plainFor_of_name (by decide +kernel)) (fun h => by cases h) rfl (Nat.le_of_ble_eq_true rfl) rfl ?_
  change Sx ω true 2 0 0 kk_Mod_type fI 0 0 m 0 _ _ _
  unfold f_Mod_type
  refine x_aload_n dX12_type_0 rfl ?_
  refine x_iload_n dX12_type_1 rfl ?_
  refine x_bipush (v := 33) dX12_type_2 (by decide) ?_
  refine x_bipush (v := 126) dX12_type_4 (by decide) ?_
  refine y_callSP (rest := [.ref (zad ω 201)]) (c1 := 0) (s1 := 0) (c_Mod_isIn ω p1 33 126 m) ms_RX12_115 rfl (Nat.le_of_ble_eq_true rfl) (Nat.le_of_ble_eq_true rfl) (Nat.le_of_ble_eq_true rfl) ⟨rfl, rfl⟩ ⟨(Nat.le_of_ble_eq_true rfl), (Nat.le_of_ble_eq_true rfl)⟩ dX12_type_6 (fun v1 => ?_)
  refine y_join (fun j4 => ∀ (x3 : Int32), Sx ω true 2 0 0 kk_Mod_type fI 0 0 m 30 [some (.ref (zad ω 201)), some (.int p1)] [.int x3, .ref (zad ω 201)] (j4 x3)) ?_ (fun j4 hj4 => ?_)
  · intro x3
    refine y_putI fp_RX12_93 hz_201 dX12_type_30 ?_
    refine y_letM (fun m5 => ?_)
    refine x_aload_n dX12_type_33 rfl ?_
    refine y_getI fl_RX12_93 hz_201 dX12_type_34 ?_
    refine x_if_le (tgt := 42) dX12_type_37 (by decide) (fun hc6 => ?_) (fun hc6 => ?_)
    · refine x_aload_n dX12_type_42 rfl ?_
      refine y_getF fl_RX12_7 hz_201 hq_201_2 (by rw [hz_202]; decide) dX12_type_43 ?_
      refine x_aload_n dX12_type_46 rfl ?_
      refine y_getI fl_RX12_136 hz_201 dX12_type_47 ?_
      refine x_iload_n dX12_type_50 rfl ?_
      refine x_guard (fun hv => ?_)
      refine y_cast hz_202 hn_202 hv dX12_type_51 (fun hi => ?_)
      refine y_letM (fun m7 => ?_)
      refine x_aload_n dX12_type_52 rfl ?_
      refine x_dup dX12_type_53 rfl ?_
      refine y_getI fl_RX12_136 hz_201 dX12_type_54 ?_
      refine x_iconst (v := 1) dX12_type_57 (by decide) ?_
      refine x_iadd dX12_type_58 ?_
      refine y_putI fp_RX12_136 hz_201 dX12_type_59 ?_
      refine y_letM (fun m8 => ?_)
      refine x_aload_n dX12_type_62 rfl ?_
      refine y_getI fl_RX12_136 hz_201 dX12_type_63 ?_
      exact x_iret rfl rfl ⟨(Nat.le_of_ble_eq_true rfl), (Nat.le_of_ble_eq_true rfl)⟩ dX12_type_66
    · refine x_iconst (v := 0) dX12_type_40 (by decide) ?_
      exact x_iret rfl rfl ⟨(Nat.le_of_ble_eq_true rfl), (Nat.le_of_ble_eq_true rfl)⟩ dX12_type_41
  · refine x_if_ne (tgt := 16) dX12_type_9 (by decide) (fun hc2 => ?_) (fun hc2 => ?_)
    · refine x_iconst (v := 1) dX12_type_12 (by decide) ?_
      refine x_goto (tgt := 30) dX12_type_13 (by decide) ?_
      exact hj4 _
    · refine x_aload_n dX12_type_16 rfl ?_
      refine y_getI fl_RX12_136 hz_201 dX12_type_17 ?_
      refine x_bipush (v := 40) dX12_type_20 (by decide) ?_
      refine x_icmp_ne (tgt := 29) dX12_type_22 (by decide) (fun hc9 => ?_) (fun hc9 => ?_)
      · refine x_iconst (v := 2) dX12_type_25 (by decide) ?_
        refine x_goto (tgt := 30) dX12_type_26 (by decide) ?_
        exact hj4 _
      · refine x_iconst (v := 0) dX12_type_29 (by decide) ?_
        exact hj4 _
abbrev kk_Mod_wipe : Kx := (yX12_wipe.cls, cX12_wipe, 2, (some .int), [], false)
set_option maxHeartbeats 4000000 in
set_option maxRecDepth 100000 in
theorem c_Mod_wipe (ω : Wd) (m : Mm) : Ev ω true 1 0 0 yX12_wipe cX12_wipe 2 (some .int) [.ref (zad ω 201)] m fI (f_Mod_wipe m) := by
  refine Ev.of (b := false) (ls := [some (.ref (zad ω 201)), none]) (plainFor_of_name (by decide +kernel)) (fun h => by cases h) rfl (Nat.le_of_ble_eq_true rfl) rfl ?_
  change Sx ω true 1 0 0 kk_Mod_wipe fI 0 0 m 0 _ _ _
  unfold f_Mod_wipe
  refine x_aload_n dX12_wipe_0 rfl ?_
  refine x_iconst (v := 0) dX12_wipe_1 (by decide) ?_
  refine y_putI fp_RX12_93 hz_201 dX12_wipe_2 ?_
  refine y_letM (fun m1 => ?_)
  refine x_aload_n dX12_wipe_5 rfl ?_
  refine y_getI fl_RX12_136 hz_201 dX12_wipe_6 ?_
  refine y_letI (fun x2 => ?_)
  refine x_istore_n (ls' := [some (.ref (zad ω 201)), some (.int x2)]) dX12_wipe_9 (Nat.le_of_ble_eq_true rfl) rfl ?_
  refine x_aload_n dX12_wipe_10 rfl ?_
  refine x_iconst (v := 0) dX12_wipe_11 (by decide) ?_
  refine y_putI fp_RX12_136 hz_201 dX12_wipe_12 ?_
  refine y_letM (fun m3 => ?_)
  refine x_iload_n dX12_wipe_15 rfl ?_
  exact x_iret rfl rfl ⟨(Nat.le_of_ble_eq_true rfl), (Nat.le_of_ble_eq_true rfl)⟩ dX12_wipe_16
abbrev kk_Mod_push : Kx := (yX12_push.cls, cX12_push, 3, none, [], false)
set_option maxHeartbeats 4000000 in
set_option maxRecDepth 100000 in
theorem c_Mod_push (ω : Wd) (p1 : Int32) (p2 : Int32) (m : Mm) : Ev ω true 1 0 0 yX12_push cX12_push 3 none [.ref (zad ω 201), .int p1, .int p2] m fV (f_Mod_push p1 p2 m) := by
  refine Ev.of (b := false) (ls := [some (.ref (zad ω 201)), some (.int p1), some (.int p2)]) (plainFor_of_name (by decide +kernel)) (fun h => by cases h) rfl (Nat.le_of_ble_eq_true rfl) rfl ?_
  change Sx ω true 1 0 0 kk_Mod_push fV 0 0 m 0 _ _ _
  unfold f_Mod_push
  refine x_aload_n dX12_push_0 rfl ?_
  refine y_getF fl_RX12_13 hz_201 hq_201_4 (by rw [hz_203]; decide) dX12_push_1 ?_
  refine x_aload_n dX12_push_4 rfl ?_
  refine y_getI fl_RX12_139 hz_201 dX12_push_5 ?_
  refine x_iload_n dX12_push_8 rfl ?_
  refine y_iast hz_203 hn_203 dX12_push_9 (fun hi => ?_)
  refine y_letM (fun m1 => ?_)
  refine x_aload_n dX12_push_10 rfl ?_
  refine y_getF fl_RX12_17 hz_201 hq_201_5 (by rw [hz_204]; decide) dX12_push_11 ?_
  refine x_aload_n dX12_push_14 rfl ?_
  refine y_getI fl_RX12_139 hz_201 dX12_push_15 ?_
  refine x_iload_n dX12_push_18 rfl ?_
  refine y_iast hz_204 hn_204 dX12_push_19 (fun hi => ?_)
  refine y_letM (fun m2 => ?_)
  refine x_aload_n dX12_push_20 rfl ?_
  refine x_dup dX12_push_21 rfl ?_
  refine y_getI fl_RX12_139 hz_201 dX12_push_22 ?_
  refine x_iconst (v := 1) dX12_push_25 (by decide) ?_
  refine x_iadd dX12_push_26 ?_
  refine y_putI fp_RX12_139 hz_201 dX12_push_27 ?_
  refine y_letM (fun m3 => ?_)
  exact x_vret rfl rfl ⟨(Nat.le_of_ble_eq_true rfl), (Nat.le_of_ble_eq_true rfl)⟩ dX12_push_30
abbrev kk_Mod_emits : Kx := (yX12_emits.cls, cX12_emits, 3, none, [], false)
set_option maxHeartbeats 4000000 in
set_option maxRecDepth 100000 in
theorem c_Mod_emits (ω : Wd) (p1 : Int32) (p2 : Int32) (m : Mm) : Ev ω true 1 0 0 yX12_emits cX12_emits 3 none [.ref (zad ω 201), .int p1, .int p2] m fV (f_Mod_emits p1 p2 m) := by
  refine Ev.of (b := false) (ls := [some (.ref (zad ω 201)), some (.int p1), some (.int p2)]) (plainFor_of_name (by decide +kernel)) (fun h => by cases h) rfl (Nat.le_of_ble_eq_true rfl) rfl ?_
  change Sx ω true 1 0 0 kk_Mod_emits fV 0 0 m 0 _ _ _
  unfold f_Mod_emits
  refine x_aload_n dX12_emits_0 rfl ?_
  refine y_getF fl_RX12_23 hz_201 hq_201_9 (by rw [hz_206]; decide) dX12_emits_1 ?_
  refine x_aload_n dX12_emits_4 rfl ?_
  refine y_getI fl_RX12_142 hz_201 dX12_emits_5 ?_
  refine x_iload_n dX12_emits_8 rfl ?_
  refine y_iast hz_206 hn_206 dX12_emits_9 (fun hi => ?_)
  refine y_letM (fun m1 => ?_)
  refine x_aload_n dX12_emits_10 rfl ?_
  refine y_getF fl_RX12_26 hz_201 hq_201_10 (by rw [hz_207]; decide) dX12_emits_11 ?_
  refine x_aload_n dX12_emits_14 rfl ?_
  refine y_getI fl_RX12_142 hz_201 dX12_emits_15 ?_
  refine x_iload_n dX12_emits_18 rfl ?_
  refine y_iast hz_207 hn_207 dX12_emits_19 (fun hi => ?_)
  refine y_letM (fun m2 => ?_)
  refine x_aload_n dX12_emits_20 rfl ?_
  refine x_dup dX12_emits_21 rfl ?_
  refine y_getI fl_RX12_142 hz_201 dX12_emits_22 ?_
  refine x_iconst (v := 1) dX12_emits_25 (by decide) ?_
  refine x_iadd dX12_emits_26 ?_
  refine y_putI fp_RX12_142 hz_201 dX12_emits_27 ?_
  refine y_letM (fun m3 => ?_)
  exact x_vret rfl rfl ⟨(Nat.le_of_ble_eq_true rfl), (Nat.le_of_ble_eq_true rfl)⟩ dX12_emits_30
abbrev kk_Mod_jumps : Kx := (yX12_jumps.cls, cX12_jumps, 2, none, [], false)
set_option maxHeartbeats 4000000 in
set_option maxRecDepth 100000 in
theorem c_Mod_jumps (ω : Wd) (p1 : Int32) (m : Mm) : Ev ω true 2 0 0 yX12_jumps cX12_jumps 2 none [.ref (zad ω 201), .int p1] m fV (f_Mod_jumps p1 m) := by
  refine Ev.of (b := false) (ls := [some (.ref (zad ω 201)), some (.int p1)]) (plainFor_of_name (by decide +kernel)) (fun h => by cases h) rfl (Nat.le_of_ble_eq_true rfl) rfl ?_
  change Sx ω true 2 0 0 kk_Mod_jumps fV 0 0 m 0 _ _ _
  unfold f_Mod_jumps
  refine x_aload_n dX12_jumps_0 rfl ?_
  refine y_getF fl_RX12_20 hz_201 hq_201_7 (by rw [hz_205]; decide) dX12_jumps_1 ?_
  refine x_aload_n dX12_jumps_4 rfl ?_
  refine y_getI fl_RX12_145 hz_201 dX12_jumps_5 ?_
  refine x_aload_n dX12_jumps_8 rfl ?_
  refine y_getI fl_RX12_142 hz_201 dX12_jumps_9 ?_
  refine y_iast hz_205 hn_205 dX12_jumps_12 (fun hi => ?_)
  refine y_letM (fun m1 => ?_)
  refine x_aload_n dX12_jumps_13 rfl ?_
  refine x_dup dX12_jumps_14 rfl ?_
  refine y_getI fl_RX12_145 hz_201 dX12_jumps_15 ?_
  refine x_iconst (v := 1) dX12_jumps_18 (by decide) ?_
  refine x_iadd dX12_jumps_19 ?_
  refine y_putI fp_RX12_145 hz_201 dX12_jumps_20 ?_
  refine y_letM (fun m2 => ?_)
  refine x_aload_n dX12_jumps_23 rfl ?_
  refine x_iload_n dX12_jumps_24 rfl ?_
  refine x_iconst (v := 0) dX12_jumps_25 (by decide) ?_
  refine y_callVV (rest := []) (c1 := 0) (s1 := 0) (c_Mod_emits ω p1 0 m2) mv_RX12_148 hz_201 rfl (Nat.le_of_ble_eq_true rfl) (Nat.le_of_ble_eq_true rfl) (Nat.le_of_ble_eq_true rfl) ⟨rfl, rfl⟩ ⟨(Nat.le_of_ble_eq_true rfl), (Nat.le_of_ble_eq_true rfl)⟩ dX12_jumps_26 (fun m3 => ?_)
  exact x_vret rfl rfl ⟨(Nat.le_of_ble_eq_true rfl), (Nat.le_of_ble_eq_true rfl)⟩ dX12_jumps_29
abbrev kk_Mod_lands : Kx := (yX12_lands.cls, cX12_lands, 1, none, [], false)
set_option maxHeartbeats 4000000 in
set_option maxRecDepth 100000 in
theorem c_Mod_lands (ω : Wd) (m : Mm) : Ev ω true 1 0 0 yX12_lands cX12_lands 1 none [.ref (zad ω 201)] m fV (f_Mod_lands m) := by
  refine Ev.of (b := false) (ls := [some (.ref (zad ω 201))]) (plainFor_of_name (by decide +kernel)) (fun h => by cases h) rfl (Nat.le_of_ble_eq_true rfl) rfl ?_
  change Sx ω true 1 0 0 kk_Mod_lands fV 0 0 m 0 _ _ _
  unfold f_Mod_lands
  refine x_aload_n dX12_lands_0 rfl ?_
  refine x_dup dX12_lands_1 rfl ?_
  refine y_getI fl_RX12_145 hz_201 dX12_lands_2 ?_
  refine x_iconst (v := 1) dX12_lands_5 (by decide) ?_
  refine x_isub dX12_lands_6 ?_
  refine y_putI fp_RX12_145 hz_201 dX12_lands_7 ?_
  refine y_letM (fun m1 => ?_)
  refine x_aload_n dX12_lands_10 rfl ?_
  refine y_getF fl_RX12_26 hz_201 hq_201_10 (by rw [hz_207]; decide) dX12_lands_11 ?_
  refine x_aload_n dX12_lands_14 rfl ?_
  refine y_getF fl_RX12_20 hz_201 hq_201_7 (by rw [hz_205]; decide) dX12_lands_15 ?_
  refine x_aload_n dX12_lands_18 rfl ?_
  refine y_getI fl_RX12_145 hz_201 dX12_lands_19 ?_
  refine y_iald hz_205 hn_205 dX12_lands_22 (fun hi => ?_)
  refine x_aload_n dX12_lands_23 rfl ?_
  refine y_getI fl_RX12_142 hz_201 dX12_lands_24 ?_
  refine y_iast hz_207 hn_207 dX12_lands_27 (fun hi => ?_)
  refine y_letM (fun m2 => ?_)
  exact x_vret rfl rfl ⟨(Nat.le_of_ble_eq_true rfl), (Nat.le_of_ble_eq_true rfl)⟩ dX12_lands_28
abbrev kk_Mod_endsDays : Kx := (yX12_endsDays.cls, cX12_endsDays, 1, none, [], false)
set_option maxHeartbeats 4000000 in
set_option maxRecDepth 100000 in
theorem c_Mod_endsDays (ω : Wd) (m : Mm) : Ev ω true 2 0 0 yX12_endsDays cX12_endsDays 1 none [.ref (zad ω 201)] m fV (f_Mod_endsDays m) := by
  refine Ev.of (b := false) (ls := [some (.ref (zad ω 201))]) (plainFor_of_name (by decide +kernel)) (fun h => by cases h) rfl (Nat.le_of_ble_eq_true rfl) rfl ?_
  change Sx ω true 2 0 0 kk_Mod_endsDays fV 0 0 m 0 _ _ _
  unfold f_Mod_endsDays
  refine x_aload_n dX12_endsDays_0 rfl ?_
  refine y_getI fl_RX12_152 hz_201 dX12_endsDays_1 ?_
  refine y_join (fun j3 => ∀ (m2 : Mm), Sx ω true 2 0 0 kk_Mod_endsDays fV 0 0 m2 27 [some (.ref (zad ω 201))] [] (j3 m2)) ?_ (fun j3 hj3 => ?_)
  · intro m2
    refine x_aload_n dX12_endsDays_27 rfl ?_
    refine x_iconst (v := 0) dX12_endsDays_28 (by decide) ?_
    refine y_putZ fp_RX12_152 hz_201 (by decide) dX12_endsDays_29 ?_
    refine y_letM (fun m4 => ?_)
    refine x_aload_n dX12_endsDays_32 rfl ?_
    refine x_iconst (v := 0) dX12_endsDays_33 (by decide) ?_
    refine y_putI fp_RX12_156 hz_201 dX12_endsDays_34 ?_
    refine y_letM (fun m5 => ?_)
    exact x_vret rfl rfl ⟨(Nat.le_of_ble_eq_true rfl), (Nat.le_of_ble_eq_true rfl)⟩ dX12_endsDays_37
  · refine x_if_eq (tgt := 27) dX12_endsDays_4 (by decide) (fun hc1 => ?_) (fun hc1 => ?_)
    · exact hj3 _
    · refine x_aload_n dX12_endsDays_7 rfl ?_
      refine y_getI fl_RX12_156 hz_201 dX12_endsDays_8 ?_
      refine x_if_eq (tgt := 27) dX12_endsDays_11 (by decide) (fun hc6 => ?_) (fun hc6 => ?_)
      · exact hj3 _
      · refine x_aload_n dX12_endsDays_14 rfl ?_
        refine x_iconst (v := 5) dX12_endsDays_15 (by decide) ?_
        refine x_sipush (v := 5000) dX12_endsDays_16 (by decide) ?_
        refine x_aload_n dX12_endsDays_19 rfl ?_
        refine y_getI fl_RX12_156 hz_201 dX12_endsDays_20 ?_
        refine x_iadd dX12_endsDays_23 ?_
        refine y_callVV (rest := []) (c1 := 0) (s1 := 0) (c_Mod_emits ω 5 (5000 + (zI m 201 16)) m) mv_RX12_148 hz_201 rfl (Nat.le_of_ble_eq_true rfl) (Nat.le_of_ble_eq_true rfl) (Nat.le_of_ble_eq_true rfl) ⟨rfl, rfl⟩ ⟨(Nat.le_of_ble_eq_true rfl), (Nat.le_of_ble_eq_true rfl)⟩ dX12_endsDays_24 (fun m7 => ?_)
        exact hj3 _
abbrev kk_Mod_pushFeast : Kx := (yX12_pushFeast.cls, cX12_pushFeast, 1, none, [], false)
set_option maxHeartbeats 4000000 in
set_option maxRecDepth 100000 in
theorem c_Mod_pushFeast (ω : Wd) (m : Mm) : Ev ω true 2 0 0 yX12_pushFeast cX12_pushFeast 1 none [.ref (zad ω 201)] m fV (f_Mod_pushFeast m) := by
  refine Ev.of (b := false) (ls := [some (.ref (zad ω 201))]) (plainFor_of_name (by decide +kernel)) (fun h => by cases h) rfl (Nat.le_of_ble_eq_true rfl) rfl ?_
  change Sx ω true 2 0 0 kk_Mod_pushFeast fV 0 0 m 0 _ _ _
  unfold f_Mod_pushFeast
  refine x_aload_n dX12_pushFeast_0 rfl ?_
  refine x_bipush (v := 19) dX12_pushFeast_1 (by decide) ?_
  refine x_iconst (v := 0) dX12_pushFeast_3 (by decide) ?_
  refine y_callVV (rest := []) (c1 := 0) (s1 := 0) (c_Mod_push ω 19 0 m) mv_RX12_159 hz_201 rfl (Nat.le_of_ble_eq_true rfl) (Nat.le_of_ble_eq_true rfl) (Nat.le_of_ble_eq_true rfl) ⟨rfl, rfl⟩ ⟨(Nat.le_of_ble_eq_true rfl), (Nat.le_of_ble_eq_true rfl)⟩ dX12_pushFeast_4 (fun m1 => ?_)
  refine x_aload_n dX12_pushFeast_7 rfl ?_
  refine x_bipush (v := 18) dX12_pushFeast_8 (by decide) ?_
  refine x_iconst (v := 0) dX12_pushFeast_10 (by decide) ?_
  refine y_callVV (rest := []) (c1 := 0) (s1 := 0) (c_Mod_push ω 18 0 m1) mv_RX12_159 hz_201 rfl (Nat.le_of_ble_eq_true rfl) (Nat.le_of_ble_eq_true rfl) (Nat.le_of_ble_eq_true rfl) ⟨rfl, rfl⟩ ⟨(Nat.le_of_ble_eq_true rfl), (Nat.le_of_ble_eq_true rfl)⟩ dX12_pushFeast_11 (fun m2 => ?_)
  exact x_vret rfl rfl ⟨(Nat.le_of_ble_eq_true rfl), (Nat.le_of_ble_eq_true rfl)⟩ dX12_pushFeast_14
abbrev kk_Mod_pushMonth : Kx := (yX12_pushMonth.cls, cX12_pushMonth, 1, none, [], false)
set_option maxHeartbeats 4000000 in
set_option maxRecDepth 100000 in
theorem c_Mod_pushMonth (ω : Wd) (m : Mm) : Ev ω true 2 0 0 yX12_pushMonth cX12_pushMonth 1 none [.ref (zad ω 201)] m fV (f_Mod_pushMonth m) := by
  refine Ev.of (b := false) (ls := [some (.ref (zad ω 201))]) (plainFor_of_name (by decide +kernel)) (fun h => by cases h) rfl (Nat.le_of_ble_eq_true rfl) rfl ?_
  change Sx ω true 2 0 0 kk_Mod_pushMonth fV 0 0 m 0 _ _ _
  unfold f_Mod_pushMonth
  refine x_aload_n dX12_pushMonth_0 rfl ?_
  refine x_bipush (v := 13) dX12_pushMonth_1 (by decide) ?_
  refine x_iconst (v := 0) dX12_pushMonth_3 (by decide) ?_
  refine y_callVV (rest := []) (c1 := 0) (s1 := 0) (c_Mod_push ω 13 0 m) mv_RX12_159 hz_201 rfl (Nat.le_of_ble_eq_true rfl) (Nat.le_of_ble_eq_true rfl) (Nat.le_of_ble_eq_true rfl) ⟨rfl, rfl⟩ ⟨(Nat.le_of_ble_eq_true rfl), (Nat.le_of_ble_eq_true rfl)⟩ dX12_pushMonth_4 (fun m1 => ?_)
  refine x_aload_n dX12_pushMonth_7 rfl ?_
  refine x_bipush (v := 12) dX12_pushMonth_8 (by decide) ?_
  refine x_iconst (v := 0) dX12_pushMonth_10 (by decide) ?_
  refine y_callVV (rest := []) (c1 := 0) (s1 := 0) (c_Mod_push ω 12 0 m1) mv_RX12_159 hz_201 rfl (Nat.le_of_ble_eq_true rfl) (Nat.le_of_ble_eq_true rfl) (Nat.le_of_ble_eq_true rfl) ⟨rfl, rfl⟩ ⟨(Nat.le_of_ble_eq_true rfl), (Nat.le_of_ble_eq_true rfl)⟩ dX12_pushMonth_11 (fun m2 => ?_)
  exact x_vret rfl rfl ⟨(Nat.le_of_ble_eq_true rfl), (Nat.le_of_ble_eq_true rfl)⟩ dX12_pushMonth_14
