abbrev kk_Par_startOn : Kx := (yX5_startOn.cls, cX5_startOn, 3, none, [], false)
set_option maxHeartbeats 4000000 in
set_option maxRecDepth 100000 in
theorem c_Par_startOn (ω : Wd) (o1 : Nat) (ho1 : zT o1 = 8) (p2 : Int32) (m : Mm) : Ev ω true 2 0 0 yX5_startOn cX5_startOn 3 none [.ref (zad ω 19), .ref (zad ω o1), .int p2] m fV (f_Par_startOn o1 p2 m) := by
  refine Ev.of (b := false) (ls := [some (.ref (zad ω 19)), some (.ref (zad ω o1)), some (.int p2)]) (plainFor_of_name (by decide +kernel)) (fun h => by cases h) rfl (Nat.le_of_ble_eq_true rfl) rfl ?_
  change Sx ω ω true 2 0 0 kk_Par_startOn fV 0 0 m 0 _ _ _
  unfold f_Par_startOn
  refine x_aload_n dX5_startOn_0 rfl ?_
  refine x_aload_n dX5_startOn_1 rfl ?_
  refine y_putR fp_RX5_21 hz_19 (by rw [ho1]; decide) (by decide +kernel) dX5_startOn_2 ?_
  refine y_letM (fun m1 => ?_)
  refine x_aload_n dX5_startOn_5 rfl ?_
  refine x_iload_n dX5_startOn_6 rfl ?_
  refine x_guard (fun hv => ?_)
  refine y_putZ fp_RX5_48 hz_19 hv dX5_startOn_7 ?_
  refine y_letM (fun m2 => ?_)
  refine x_aload_n dX5_startOn_10 rfl ?_
  refine x_iconst (v := 0) dX5_startOn_11 (by decide) ?_
  refine y_putI fp_RX5_37 hz_19 dX5_startOn_12 ?_
  refine y_letM (fun m3 => ?_)
  refine x_aload_n dX5_startOn_15 rfl ?_
  refine y_getF fl_RX5_14 hz_19 hq_19_0 (by rw [hz_20]; decide) dX5_startOn_16 ?_
  refine y_callVV (rest := []) (c1 := 0) (s1 := 0) (c_Cod_clear ω 20 hz_20 m3) mv_RX5_52 hz_20 rfl (Nat.le_of_ble_eq_true rfl) (Nat.le_of_ble_eq_true rfl) (Nat.le_of_ble_eq_true rfl) ⟨rfl, rfl⟩ ⟨(Nat.le_of_ble_eq_true rfl), (Nat.le_of_ble_eq_true rfl)⟩ dX5_startOn_19 (fun m4 => ?_)
  exact x_vret rfl rfl ⟨(Nat.le_of_ble_eq_true rfl), (Nat.le_of_ble_eq_true rfl)⟩ dX5_startOn_22
abbrev kk_Par_takesDigit : Kx := (yX5_takesDigit.cls, cX5_takesDigit, 4, (some .boolean), [], false)
set_option maxHeartbeats 4000000 in
set_option maxRecDepth 100000 in
theorem c_Par_takesDigit (ω : Wd) (p1 : Int32) (p2 : Int32) (m : Mm) : Ev ω true 2 0 0 yX5_takesDigit cX5_takesDigit 4 (some .boolean) [.ref (zad ω 19), .int p1, .int p2] m fI (f_Par_takesDigit p1 p2 m) := by
  refine Ev.of (b := false) (ls := [some (.ref (zad ω 19)), some (.int p1), some (.int p2), none]) (plainFor_of_name (by decide +kernel)) (fun h => by cases h) rfl (Nat.le_of_ble_eq_true rfl) rfl ?_
  change Sx ω ω true 2 0 0 kk_Par_takesDigit fI 0 0 m 0 _ _ _
  unfold f_Par_takesDigit
  refine x_aload_n dX5_takesDigit_0 rfl ?_
  refine y_getR fl_RX5_21 hz_19 (by decide) dX5_takesDigit_1 (fun q1 hq1 => ?_)
  refine x_aload_n dX5_takesDigit_4 rfl ?_
  refine y_getI fl_RX5_37 hz_19 dX5_takesDigit_5 ?_
  refine y_callVP (rest := []) (c1 := 0) (s1 := 0) (c_Txt_at ω q1 hq1 (zI m 19 2) m) mv_RX5_55 hq1 rfl (Nat.le_of_ble_eq_true rfl) (Nat.le_of_ble_eq_true rfl) (Nat.le_of_ble_eq_true rfl) ⟨rfl, rfl⟩ ⟨(Nat.le_of_ble_eq_true rfl), (Nat.le_of_ble_eq_true rfl)⟩ dX5_takesDigit_8 (fun v2 => ?_)
  refine x_bipush (v := 48) dX5_takesDigit_11 (by decide) ?_
  refine x_isub dX5_takesDigit_13 ?_
  refine y_letI (fun x3 => ?_)
  refine x_istore_n (ls' := [some (.ref (zad ω 19)), some (.int p1), some (.int p2), some (.int x3)]) dX5_takesDigit_14 (Nat.le_of_ble_eq_true rfl) rfl ?_
  refine x_iload_n dX5_takesDigit_15 rfl ?_
  refine x_iload_n dX5_takesDigit_16 rfl ?_
  refine x_icmp_lt (tgt := 25) dX5_takesDigit_17 (by decide) (fun hc4 => ?_) (fun hc4 => ?_)
  · refine x_iconst (v := 0) dX5_takesDigit_25 (by decide) ?_
    exact x_zret rfl rfl (zBo_nar (by decide)) ⟨(Nat.le_of_ble_eq_true rfl), (Nat.le_of_ble_eq_true rfl)⟩ dX5_takesDigit_26
  · refine x_iload_n dX5_takesDigit_20 rfl ?_
    refine x_iload_n dX5_takesDigit_21 rfl ?_
    refine x_icmp_le (tgt := 27) dX5_takesDigit_22 (by decide) (fun hc5 => ?_) (fun hc5 => ?_)
    · refine x_aload_n dX5_takesDigit_27 rfl ?_
      refine x_iload_n dX5_takesDigit_28 rfl ?_
      refine y_putI fp_RX5_84 hz_19 dX5_takesDigit_29 ?_
      refine y_letM (fun m6 => ?_)
      refine x_aload_n dX5_takesDigit_32 rfl ?_
      refine x_dup dX5_takesDigit_33 rfl ?_
      refine y_getI fl_RX5_37 hz_19 dX5_takesDigit_34 ?_
      refine x_iconst (v := 1) dX5_takesDigit_37 (by decide) ?_
      refine x_iadd dX5_takesDigit_38 ?_
      refine y_putI fp_RX5_37 hz_19 dX5_takesDigit_39 ?_
      refine y_letM (fun m7 => ?_)
      refine x_iconst (v := 1) dX5_takesDigit_42 (by decide) ?_
      exact x_zret rfl rfl (zBo_nar (by decide)) ⟨(Nat.le_of_ble_eq_true rfl), (Nat.le_of_ble_eq_true rfl)⟩ dX5_takesDigit_43
    · refine x_iconst (v := 0) dX5_takesDigit_25 (by decide) ?_
      exact x_zret rfl rfl (zBo_nar (by decide)) ⟨(Nat.le_of_ble_eq_true rfl), (Nat.le_of_ble_eq_true rfl)⟩ dX5_takesDigit_26
abbrev kk_Par_takesOneDigit : Kx := (yX5_takesOneDigit.cls, cX5_takesOneDigit, 2, (some .boolean), [], false)
set_option maxHeartbeats 4000000 in
set_option maxRecDepth 100000 in
theorem c_Par_takesOneDigit (ω : Wd) (p1 : Int32) (m : Mm) : Ev ω true 3 0 0 yX5_takesOneDigit cX5_takesOneDigit 2 (some .boolean) [.ref (zad ω 19), .int p1] m fI (f_Par_takesOneDigit p1 m) := by
  refine Ev.of (b := false) (ls := [some (.ref (zad ω 19)), some (.int p1)]) (plainFor_of_name (by decide +kernel)) (fun h => by cases h) rfl (Nat.le_of_ble_eq_true rfl) rfl ?_
  change Sx ω ω true 3 0 0 kk_Par_takesOneDigit fI 0 0 m 0 _ _ _
  unfold f_Par_takesOneDigit
  refine x_iload_n dX5_takesOneDigit_0 rfl ?_
  refine x_bipush (v := 110) dX5_takesOneDigit_1 (by decide) ?_
  refine x_icmp_ne (tgt := 15) dX5_takesOneDigit_3 (by decide) (fun hc1 => ?_) (fun hc1 => ?_)
  · refine x_aload_n dX5_takesOneDigit_6 rfl ?_
    refine x_iconst (v := 1) dX5_takesOneDigit_7 (by decide) ?_
    refine x_iconst (v := 5) dX5_takesOneDigit_8 (by decide) ?_
    refine y_callVI (rest := []) (c1 := 0) (s1 := 0) (c_Par_takesDigit ω 1 5 m) mv_RX5_91 hz_19 rfl (Nat.le_of_ble_eq_true rfl) (Nat.le_of_ble_eq_true rfl) (Nat.le_of_ble_eq_true rfl) ⟨rfl, rfl⟩ ⟨(Nat.le_of_ble_eq_true rfl), (Nat.le_of_ble_eq_true rfl)⟩ dX5_takesOneDigit_9 (fun v5 m4 => ?_)
    refine x_goto (tgt := 22) dX5_takesOneDigit_12 (by decide) ?_
    refine x_guard (fun hv => ?_)
    exact x_zret rfl rfl (zBo_nar hv) ⟨(Nat.le_of_ble_eq_true rfl), (Nat.le_of_ble_eq_true rfl)⟩ dX5_takesOneDigit_22
  · refine x_aload_n dX5_takesOneDigit_15 rfl ?_
    refine x_iconst (v := 0) dX5_takesOneDigit_16 (by decide) ?_
    refine x_bipush (v := 6) dX5_takesOneDigit_17 (by decide) ?_
    refine y_callVI (rest := []) (c1 := 0) (s1 := 0) (c_Par_takesDigit ω 0 6 m) mv_RX5_91 hz_19 rfl (Nat.le_of_ble_eq_true rfl) (Nat.le_of_ble_eq_true rfl) (Nat.le_of_ble_eq_true rfl) ⟨rfl, rfl⟩ ⟨(Nat.le_of_ble_eq_true rfl), (Nat.le_of_ble_eq_true rfl)⟩ dX5_takesOneDigit_19 (fun v3 m2 => ?_)
    refine x_guard (fun hv => ?_)
    exact x_zret rfl rfl (zBo_nar hv) ⟨(Nat.le_of_ble_eq_true rfl), (Nat.le_of_ble_eq_true rfl)⟩ dX5_takesOneDigit_22
abbrev kk_Par_takesTwoDigits : Kx := (yX5_takesTwoDigits.cls, cX5_takesTwoDigits, 5, (some .boolean), [], false)
set_option maxHeartbeats 4000000 in
set_option maxRecDepth 100000 in
theorem c_Par_takesTwoDigits (ω : Wd) (p1 : Int32) (m : Mm) : Ev ω true 3 0 0 yX5_takesTwoDigits cX5_takesTwoDigits 5 (some .boolean) [.ref (zad ω 19), .int p1] m fI (f_Par_takesTwoDigits p1 m) := by
  refine Ev.of (b := false) (ls := [some (.ref (zad ω 19)), some (.int p1), none, none, none]) (plainFor_of_name (by decide +kernel)) (fun h => by cases h) rfl (Nat.le_of_ble_eq_true rfl) rfl ?_
  change Sx ω ω true 3 0 0 kk_Par_takesTwoDigits fI 0 0 m 0 _ _ _
  unfold f_Par_takesTwoDigits
  refine x_iload_n dX5_takesTwoDigits_0 rfl ?_
  refine x_bipush (v := 102) dX5_takesTwoDigits_1 (by decide) ?_
  refine y_join (fun j3 => ∀ (x2 : Int32), Sx ω ω true 3 0 0 kk_Par_takesTwoDigits fI 0 0 m 11 [some (.ref (zad ω 19)), some (.int p1), none, none, none] [.int x2] (j3 x2)) ?_ (fun j3 hj3 => ?_)
  · intro x2
    refine x_istore_n (ls' := [some (.ref (zad ω 19)), some (.int p1), some (.int x2), none, none]) dX5_takesTwoDigits_11 (Nat.le_of_ble_eq_true rfl) rfl ?_
    refine x_iload_n dX5_takesTwoDigits_12 rfl ?_
    refine x_bipush (v := 102) dX5_takesTwoDigits_13 (by decide) ?_
    refine y_join (fun j6 => ∀ (x5 : Int32), Sx ω ω true 3 0 0 kk_Par_takesTwoDigits fI 0 0 m 41 [some (.ref (zad ω 19)), some (.int p1), some (.int x2), none, none] [.int x5] (j6 x5)) ?_ (fun j6 hj6 => ?_)
    · intro x5
      refine x_istore_n (ls' := [some (.ref (zad ω 19)), some (.int p1), some (.int x2), some (.int x5), none]) dX5_takesTwoDigits_41 (Nat.le_of_ble_eq_true rfl) rfl ?_
      refine x_aload_n dX5_takesTwoDigits_42 rfl ?_
      refine x_iconst (v := 0) dX5_takesTwoDigits_43 (by decide) ?_
      refine x_iload_n dX5_takesTwoDigits_44 rfl ?_
      refine x_bipush (v := 10) dX5_takesTwoDigits_45 (by decide) ?_
      refine x_idiv dX5_takesTwoDigits_47 (by decide) ?_
      refine y_callVI (rest := []) (c1 := 0) (s1 := 0) (c_Par_takesDigit ω 0 (x5 / 10) m) mv_RX5_91 hz_19 rfl (Nat.le_of_ble_eq_true rfl) (Nat.le_of_ble_eq_true rfl) (Nat.le_of_ble_eq_true rfl) ⟨rfl, rfl⟩ ⟨(Nat.le_of_ble_eq_true rfl), (Nat.le_of_ble_eq_true rfl)⟩ dX5_takesTwoDigits_48 (fun v8 m7 => ?_)
      refine x_if_ne (tgt := 56) dX5_takesTwoDigits_51 (by decide) (fun hc9 => ?_) (fun hc9 => ?_)
      · refine x_iconst (v := 0) dX5_takesTwoDigits_54 (by decide) ?_
        exact x_zret rfl rfl (zBo_nar (by decide)) ⟨(Nat.le_of_ble_eq_true rfl), (Nat.le_of_ble_eq_true rfl)⟩ dX5_takesTwoDigits_55
      · refine x_aload_n dX5_takesTwoDigits_56 rfl ?_
        refine y_getI fl_RX5_84 hz_19 dX5_takesTwoDigits_57 ?_
        refine y_letI (fun x10 => ?_)
        refine x_istore (ls' := [some (.ref (zad ω 19)), some (.int p1), some (.int x2), some (.int x5), some (.int x10)]) dX5_takesTwoDigits_60 (Nat.le_of_ble_eq_true rfl) rfl ?_
        refine x_aload_n dX5_takesTwoDigits_62 rfl ?_
        refine x_iload dX5_takesTwoDigits_63 rfl ?_
        refine y_join (fun j13 => ∀ (x12 : Int32), Sx ω ω true 3 0 0 kk_Par_takesTwoDigits fI 0 0 m7 73 [some (.ref (zad ω 19)), some (.int p1), none, some (.int x5), some (.int x10)] [.int x12, .ref (zad ω 19)] (j13 x12)) ?_ (fun j13 hj13 => ?_)
        · intro x12
          refine x_iload dX5_takesTwoDigits_73 rfl ?_
          refine x_iload_n dX5_takesTwoDigits_75 rfl ?_
          refine x_bipush (v := 10) dX5_takesTwoDigits_76 (by decide) ?_
          refine x_idiv dX5_takesTwoDigits_78 (by decide) ?_
          refine y_join (fun j16 => ∀ (x15 : Int32), Sx ω ω true 3 0 0 kk_Par_takesTwoDigits fI 0 0 m7 91 [some (.ref (zad ω 19)), some (.int p1), none, none, some (.int x10)] [.int x15, .int x12, .ref (zad ω 19)] (j16 x15)) ?_ (fun j16 hj16 => ?_)
          · intro x15
            refine y_callVI (rest := []) (c1 := 0) (s1 := 0) (c_Par_takesDigit ω x12 x15 m7) mv_RX5_91 hz_19 rfl (Nat.le_of_ble_eq_true rfl) (Nat.le_of_ble_eq_true rfl) (Nat.le_of_ble_eq_true rfl) ⟨rfl, rfl⟩ ⟨(Nat.le_of_ble_eq_true rfl), (Nat.le_of_ble_eq_true rfl)⟩ dX5_takesTwoDigits_91 (fun v18 m17 => ?_)
            refine x_if_ne (tgt := 99) dX5_takesTwoDigits_94 (by decide) (fun hc19 => ?_) (fun hc19 => ?_)
            · refine x_iconst (v := 0) dX5_takesTwoDigits_97 (by decide) ?_
              exact x_zret rfl rfl (zBo_nar (by decide)) ⟨(Nat.le_of_ble_eq_true rfl), (Nat.le_of_ble_eq_true rfl)⟩ dX5_takesTwoDigits_98
            · refine x_aload_n dX5_takesTwoDigits_99 rfl ?_
              refine x_dup dX5_takesTwoDigits_100 rfl ?_
              refine y_getI fl_RX5_84 hz_19 dX5_takesTwoDigits_101 ?_
              refine x_bipush (v := 10) dX5_takesTwoDigits_104 (by decide) ?_
              refine x_iload dX5_takesTwoDigits_106 rfl ?_
              refine x_imul dX5_takesTwoDigits_108 ?_
              refine x_iadd dX5_takesTwoDigits_109 ?_
              refine y_putI fp_RX5_84 hz_19 dX5_takesTwoDigits_110 ?_
              refine y_letM (fun m20 => ?_)
              refine x_iload_n dX5_takesTwoDigits_113 rfl ?_
              refine x_bipush (v := 102) dX5_takesTwoDigits_114 (by decide) ?_
              refine x_icmp_ne (tgt := 130) dX5_takesTwoDigits_116 (by decide) (fun hc21 => ?_) (fun hc21 => ?_)
              · refine x_aload_n dX5_takesTwoDigits_119 rfl ?_
                refine y_getF fl_RX5_14 hz_19 hq_19_0 (by rw [hz_20]; decide) dX5_takesTwoDigits_120 ?_
                refine x_aload_n dX5_takesTwoDigits_123 rfl ?_
                refine y_getI fl_RX5_84 hz_19 dX5_takesTwoDigits_124 ?_
                refine y_callVV (rest := []) (c1 := 0) (s1 := 0) (c_Cod_name ω 20 hz_20 (zI m20 19 3) m20) mv_RX5_137 hz_20 rfl (Nat.le_of_ble_eq_true rfl) (Nat.le_of_ble_eq_true rfl) (Nat.le_of_ble_eq_true rfl) ⟨rfl, rfl⟩ ⟨(Nat.le_of_ble_eq_true rfl), (Nat.le_of_ble_eq_true rfl)⟩ dX5_takesTwoDigits_127 (fun m22 => ?_)
                refine x_iconst (v := 1) dX5_takesTwoDigits_130 (by decide) ?_
                exact x_zret rfl rfl (zBo_nar (by decide)) ⟨(Nat.le_of_ble_eq_true rfl), (Nat.le_of_ble_eq_true rfl)⟩ dX5_takesTwoDigits_131
              · refine x_iconst (v := 1) dX5_takesTwoDigits_130 (by decide) ?_
                exact x_zret rfl rfl (zBo_nar (by decide)) ⟨(Nat.le_of_ble_eq_true rfl), (Nat.le_of_ble_eq_true rfl)⟩ dX5_takesTwoDigits_131
          · refine x_icmp_ne (tgt := 89) dX5_takesTwoDigits_79 (by decide) (fun hc14 => ?_) (fun hc14 => ?_)
            · refine x_iload_n dX5_takesTwoDigits_82 rfl ?_
              refine x_bipush (v := 10) dX5_takesTwoDigits_83 (by decide) ?_
              refine x_irem dX5_takesTwoDigits_85 (by decide) ?_
              refine x_goto (tgt := 91) dX5_takesTwoDigits_86 (by decide) ?_
              refine y_mask (bs := [true, true, false, false, true]) (ls' := [some (.ref (zad ω 19)), some (.int p1), none, none, some (.int x10)]) rfl ?_
              exact hj16 _
            · refine x_bipush (v := 9) dX5_takesTwoDigits_89 (by decide) ?_
              refine y_mask (bs := [true, true, false, false, true]) (ls' := [some (.ref (zad ω 19)), some (.int p1), none, none, some (.int x10)]) rfl ?_
              exact hj16 _
        · refine x_if_ne (tgt := 72) dX5_takesTwoDigits_65 (by decide) (fun hc11 => ?_) (fun hc11 => ?_)
          · refine x_iload_n dX5_takesTwoDigits_68 rfl ?_
            refine x_goto (tgt := 73) dX5_takesTwoDigits_69 (by decide) ?_
            refine y_mask (bs := [true, true, false, true, true]) (ls' := [some (.ref (zad ω 19)), some (.int p1), none, some (.int x5), some (.int x10)]) rfl ?_
            exact hj13 _
          · refine x_iconst (v := 0) dX5_takesTwoDigits_72 (by decide) ?_
            refine y_mask (bs := [true, true, false, true, true]) (ls' := [some (.ref (zad ω 19)), some (.int p1), none, some (.int x5), some (.int x10)]) rfl ?_
            exact hj13 _
    · refine x_icmp_ne (tgt := 23) dX5_takesTwoDigits_15 (by decide) (fun hc4 => ?_) (fun hc4 => ?_)
      · refine x_bipush (v := 19) dX5_takesTwoDigits_18 (by decide) ?_
        refine x_goto (tgt := 41) dX5_takesTwoDigits_20 (by decide) ?_
        exact hj6 _
      · refine x_iload_n dX5_takesTwoDigits_23 rfl ?_
        refine x_bipush (v := 109) dX5_takesTwoDigits_24 (by decide) ?_
        refine x_icmp_ne (tgt := 34) dX5_takesTwoDigits_26 (by decide) (fun hc23 => ?_) (fun hc23 => ?_)
        · refine x_bipush (v := 12) dX5_takesTwoDigits_29 (by decide) ?_
          refine x_goto (tgt := 41) dX5_takesTwoDigits_31 (by decide) ?_
          exact hj6 _
        · refine x_aload_n dX5_takesTwoDigits_34 rfl ?_
          refine y_getI fl_RX5_84 hz_19 dX5_takesTwoDigits_35 ?_
          refine y_callSP (rest := []) (c1 := 0) (s1 := 0) (c_Cal_mostDaysOf ω (zI m 19 3) m) ms_RX5_133 rfl (Nat.le_of_ble_eq_true rfl) (Nat.le_of_ble_eq_true rfl) (Nat.le_of_ble_eq_true rfl) ⟨rfl, rfl⟩ ⟨(Nat.le_of_ble_eq_true rfl), (Nat.le_of_ble_eq_true rfl)⟩ dX5_takesTwoDigits_38 (fun v24 => ?_)
          exact hj6 _
  · refine x_icmp_ne (tgt := 10) dX5_takesTwoDigits_3 (by decide) (fun hc1 => ?_) (fun hc1 => ?_)
    · refine x_iconst (v := 0) dX5_takesTwoDigits_6 (by decide) ?_
      refine x_goto (tgt := 11) dX5_takesTwoDigits_7 (by decide) ?_
      exact hj3 _
    · refine x_iconst (v := 1) dX5_takesTwoDigits_10 (by decide) ?_
      exact hj3 _
abbrev kk_Par_takesPart : Kx := (yX5_takesPart.cls, cX5_takesPart, 7, (some .boolean), [], false)
set_option maxHeartbeats 4000000 in
set_option maxRecDepth 100000 in
theorem c_Par_takesPart (ω : Wd) (p1 : Int32) (s2 : Nat) (hs2 : s2 < 9) (m : Mm) : Ev ω true 7 0 0 yX5_takesPart cX5_takesPart 7 (some .boolean) [.ref (zad ω 19), .int p1, .ref (oX ω (4 + s2))] m fI (f_Par_takesPart p1 s2 m) := by
  refine Ev.of (b := false) (ls := [some (.ref (zad ω 19)), some (.int p1), some (.ref (oX ω (4 + s2))), none, none, none, none]) (plainFor_of_name (by decide +kernel)) (fun h => by cases h) rfl (Nat.le_of_ble_eq_true rfl) rfl ?_
  change Sx ω ω true 7 0 0 kk_Par_takesPart fI 0 0 m 0 _ _ _
  unfold f_Par_takesPart
  refine x_aload_n dX5_takesPart_0 rfl ?_
  refine x_dup dX5_takesPart_1 rfl ?_
  refine y_getI fl_RX5_37 hz_19 dX5_takesPart_2 ?_
  refine x_iconst (v := 1) dX5_takesPart_5 (by decide) ?_
  refine x_iadd dX5_takesPart_6 ?_
  refine y_putI fp_RX5_37 hz_19 dX5_takesPart_7 ?_
  refine y_letM (fun m1 => ?_)
  refine x_iconst (v := 0) dX5_takesPart_10 (by decide) ?_
  refine x_istore_n (ls' := [some (.ref (zad ω 19)), some (.int p1), some (.ref (oX ω (4 + s2))), some (.int 0), none, none, none]) dX5_takesPart_11 (Nat.le_of_ble_eq_true rfl) rfl ?_
  refine x_iconst (v := 0) dX5_takesPart_12 (by decide) ?_
  refine x_istore (ls' := [some (.ref (zad ω 19)), some (.int p1), some (.ref (oX ω (4 + s2))), some (.int 0), some (.int 0), none, none]) dX5_takesPart_13 (Nat.le_of_ble_eq_true rfl) rfl ?_
  refine y_Lp2 (fun x2 x3 => [some (.ref (zad ω 19)), some (.int p1), some (.ref (oX ω (4 + s2))), some (.int x2), some (.int x3), none, none]) (fun r4 hr4 x2 x3 m5 => ?_) zFu _ _ _
  refine x_iload dX5_takesPart_15 rfl ?_
  refine x_aload_n dX5_takesPart_17 rfl ?_
  refine y_strLen sl_RX5_119 hs2 (Nat.le_of_ble_eq_true rfl) (Nat.le_of_ble_eq_true rfl) ⟨(Nat.le_of_ble_eq_true rfl), (Nat.le_of_ble_eq_true rfl)⟩ dX5_takesPart_18 ?_
  refine x_icmp_ge (tgt := 107) dX5_takesPart_21 (by decide) (fun hc6 => ?_) (fun hc6 => ?_)
  · refine x_aload_n dX5_takesPart_107 rfl ?_
    refine y_getF fl_RX5_14 hz_19 hq_19_0 (by rw [hz_20]; decide) dX5_takesPart_108 ?_
    refine x_iload_n dX5_takesPart_111 rfl ?_
    refine x_iload_n dX5_takesPart_112 rfl ?_
    refine y_callVI (rest := []) (c1 := 0) (s1 := 0) (c_Cod_add ω 20 hz_20 p1 x2 m5) mv_RX5_87 hz_20 rfl (Nat.le_of_ble_eq_true rfl) (Nat.le_of_ble_eq_true rfl) (Nat.le_of_ble_eq_true rfl) ⟨rfl, rfl⟩ ⟨(Nat.le_of_ble_eq_true rfl), (Nat.le_of_ble_eq_true rfl)⟩ dX5_takesPart_113 (fun v8 m7 => ?_)
    refine x_guard (fun hv => ?_)
    exact x_zret rfl rfl (zBo_nar hv) ⟨(Nat.le_of_ble_eq_true rfl), (Nat.le_of_ble_eq_true rfl)⟩ dX5_takesPart_116
  · refine x_aload_n dX5_takesPart_24 rfl ?_
    refine x_iload dX5_takesPart_25 rfl ?_
    refine y_strAt sa_RX5_122 hs2 (Nat.le_of_ble_eq_true rfl) (Nat.le_of_ble_eq_true rfl) ⟨(Nat.le_of_ble_eq_true rfl), (Nat.le_of_ble_eq_true rfl)⟩ dX5_takesPart_27 (fun hi => ?_)
    refine y_letI (fun x9 => ?_)
    refine x_istore (ls' := [some (.ref (zad ω 19)), some (.int p1), some (.ref (oX ω (4 + s2))), some (.int x2), some (.int x3), some (.int x9), none]) dX5_takesPart_30 (Nat.le_of_ble_eq_true rfl) rfl ?_
    refine x_iload dX5_takesPart_32 rfl ?_
    refine x_bipush (v := 110) dX5_takesPart_34 (by decide) ?_
    refine y_join (fun j12 => ∀ (x11 : Int32), Sx ω ω true 7 0 0 kk_Par_takesPart fI 0 0 m5 51 [some (.ref (zad ω 19)), some (.int p1), some (.ref (oX ω (4 + s2))), some (.int x2), some (.int x3), some (.int x9), none] [.int x11] (j12 x11)) ?_ (fun j12 hj12 => ?_)
    · intro x11
      refine x_istore (ls' := [some (.ref (zad ω 19)), some (.int p1), some (.ref (oX ω (4 + s2))), some (.int x2), some (.int x3), some (.int x9), some (.int x11)]) dX5_takesPart_51 (Nat.le_of_ble_eq_true rfl) rfl ?_
      refine x_iload dX5_takesPart_53 rfl ?_
      refine y_join (fun j15 => ∀ (m14 : Mm), Sx ω ω true 7 0 0 kk_Par_takesPart fI 0 0 m14 81 [some (.ref (zad ω 19)), some (.int p1), some (.ref (oX ω (4 + s2))), some (.int x2), some (.int x3), none, some (.int x11)] [] (j15 m14)) ?_ (fun j15 hj15 => ?_)
      · intro m14
        refine x_iload dX5_takesPart_81 rfl ?_
        refine y_join (fun j18 => ∀ (x17 : Int32), Sx ω ω true 7 0 0 kk_Par_takesPart fI 0 0 m14 93 [some (.ref (zad ω 19)), some (.int p1), some (.ref (oX ω (4 + s2))), some (.int x2), some (.int x3), none, none] [.int x17] (j18 x17)) ?_ (fun j18 hj18 => ?_)
        · intro x17
          refine x_iload_n dX5_takesPart_93 rfl ?_
          refine x_imul dX5_takesPart_94 ?_
          refine x_aload_n dX5_takesPart_95 rfl ?_
          refine y_getI fl_RX5_84 hz_19 dX5_takesPart_96 ?_
          refine x_iadd dX5_takesPart_99 ?_
          refine y_letI (fun x19 => ?_)
          refine x_istore_n (ls' := [some (.ref (zad ω 19)), some (.int p1), some (.ref (oX ω (4 + s2))), some (.int x19), some (.int x3), none, none]) dX5_takesPart_100 (Nat.le_of_ble_eq_true rfl) rfl ?_
          refine y_iinc (w := 1) dX5_takesPart_101 rfl (by decide) (Nat.le_of_ble_eq_true rfl) (fun x20 => ?_)
          refine x_goto (tgt := 15) dX5_takesPart_104 (by decide) ?_
          exact hr4 _ _ _
        · refine x_if_eq (tgt := 91) dX5_takesPart_83 (by decide) (fun hc16 => ?_) (fun hc16 => ?_)
          · refine x_bipush (v := 100) dX5_takesPart_91 (by decide) ?_
            refine y_mask (bs := [true, true, true, true, true, false, false]) (ls' := [some (.ref (zad ω 19)), some (.int p1), some (.ref (oX ω (4 + s2))), some (.int x2), some (.int x3), none, none]) rfl ?_
            exact hj18 _
          · refine x_bipush (v := 10) dX5_takesPart_86 (by decide) ?_
            refine x_goto (tgt := 93) dX5_takesPart_88 (by decide) ?_
            refine y_mask (bs := [true, true, true, true, true, false, false]) (ls' := [some (.ref (zad ω 19)), some (.int p1), some (.ref (oX ω (4 + s2))), some (.int x2), some (.int x3), none, none]) rfl ?_
            exact hj18 _
      · refine x_if_eq (tgt := 70) dX5_takesPart_55 (by decide) (fun hc13 => ?_) (fun hc13 => ?_)
        · refine x_aload_n dX5_takesPart_70 rfl ?_
          refine x_iload dX5_takesPart_71 rfl ?_
          refine y_callVI (rest := []) (c1 := 0) (s1 := 0) (c_Par_takesTwoDigits ω x9 m5) mv_RX5_128 hz_19 rfl (Nat.le_of_ble_eq_true rfl) (Nat.le_of_ble_eq_true rfl) (Nat.le_of_ble_eq_true rfl) ⟨rfl, rfl⟩ ⟨(Nat.le_of_ble_eq_true rfl), (Nat.le_of_ble_eq_true rfl)⟩ dX5_takesPart_73 (fun v22 m21 => ?_)
          refine x_if_ne (tgt := 81) dX5_takesPart_76 (by decide) (fun hc23 => ?_) (fun hc23 => ?_)
          · refine x_iconst (v := 0) dX5_takesPart_79 (by decide) ?_
            exact x_zret rfl rfl (zBo_nar (by decide)) ⟨(Nat.le_of_ble_eq_true rfl), (Nat.le_of_ble_eq_true rfl)⟩ dX5_takesPart_80
          · refine y_mask (bs := [true, true, true, true, true, false, true]) (ls' := [some (.ref (zad ω 19)), some (.int p1), some (.ref (oX ω (4 + s2))), some (.int x2), some (.int x3), none, some (.int x11)]) rfl ?_
            exact hj15 _
        · refine x_aload_n dX5_takesPart_58 rfl ?_
          refine x_iload dX5_takesPart_59 rfl ?_
          refine y_callVI (rest := []) (c1 := 0) (s1 := 0) (c_Par_takesOneDigit ω x9 m5) mv_RX5_125 hz_19 rfl (Nat.le_of_ble_eq_true rfl) (Nat.le_of_ble_eq_true rfl) (Nat.le_of_ble_eq_true rfl) ⟨rfl, rfl⟩ ⟨(Nat.le_of_ble_eq_true rfl), (Nat.le_of_ble_eq_true rfl)⟩ dX5_takesPart_61 (fun v25 m24 => ?_)
          refine x_if_eq (tgt := 79) dX5_takesPart_64 (by decide) (fun hc26 => ?_) (fun hc26 => ?_)
          · refine x_iconst (v := 0) dX5_takesPart_79 (by decide) ?_
            exact x_zret rfl rfl (zBo_nar (by decide)) ⟨(Nat.le_of_ble_eq_true rfl), (Nat.le_of_ble_eq_true rfl)⟩ dX5_takesPart_80
          · refine x_goto (tgt := 81) dX5_takesPart_67 (by decide) ?_
            refine y_mask (bs := [true, true, true, true, true, false, true]) (ls' := [some (.ref (zad ω 19)), some (.int p1), some (.ref (oX ω (4 + s2))), some (.int x2), some (.int x3), none, some (.int x11)]) rfl ?_
            exact hj15 _
    · refine y_join (fun j27 => Sx ω ω true 7 0 0 kk_Par_takesPart fI 0 0 m5 46 [some (.ref (zad ω 19)), some (.int p1), some (.ref (oX ω (4 + s2))), some (.int x2), some (.int x3), some (.int x9), none] [] j27) ?_ (fun j27 hj27 => ?_)
      · refine x_iconst (v := 1) dX5_takesPart_46 (by decide) ?_
        refine x_goto (tgt := 51) dX5_takesPart_47 (by decide) ?_
        exact hj12 _
      · refine x_icmp_eq (tgt := 46) dX5_takesPart_36 (by decide) (fun hc10 => ?_) (fun hc10 => ?_)
        · exact hj27
        · refine x_iload dX5_takesPart_39 rfl ?_
          refine x_bipush (v := 119) dX5_takesPart_41 (by decide) ?_
          refine x_icmp_ne (tgt := 50) dX5_takesPart_43 (by decide) (fun hc28 => ?_) (fun hc28 => ?_)
          · exact hj27
          · refine x_iconst (v := 0) dX5_takesPart_50 (by decide) ?_
            exact hj12 _
abbrev kk_Par_takesStart : Kx := (yX5_takesStart.cls, cX5_takesStart, 1, (some .boolean), [], false)
set_option maxHeartbeats 4000000 in
set_option maxRecDepth 100000 in
theorem c_Par_takesStart (ω : Wd) (m : Mm) : Ev ω true 8 0 0 yX5_takesStart cX5_takesStart 1 (some .boolean) [.ref (zad ω 19)] m fI (f_Par_takesStart m) := by
  refine Ev.of (b := false) (ls := [some (.ref (zad ω 19))]) (plainFor_of_name (by decide +kernel)) (fun h => by cases h) rfl (Nat.le_of_ble_eq_true rfl) rfl ?_
  change Sx ω ω true 8 0 0 kk_Par_takesStart fI 0 0 m 0 _ _ _
  unfold f_Par_takesStart
  refine x_aload_n dX5_takesStart_0 rfl ?_
  refine y_getR fl_RX5_21 hz_19 (by decide) dX5_takesStart_1 (fun q1 hq1 => ?_)
  refine x_aload_n dX5_takesStart_4 rfl ?_
  refine y_getI fl_RX5_37 hz_19 dX5_takesStart_5 ?_
  refine y_callVP (rest := []) (c1 := 0) (s1 := 0) (c_Txt_at ω q1 hq1 (zI m 19 2) m) mv_RX5_55 hq1 rfl (Nat.le_of_ble_eq_true rfl) (Nat.le_of_ble_eq_true rfl) (Nat.le_of_ble_eq_true rfl) ⟨rfl, rfl⟩ ⟨(Nat.le_of_ble_eq_true rfl), (Nat.le_of_ble_eq_true rfl)⟩ dX5_takesStart_8 (fun v2 => ?_)
  refine x_cases (c := v2 = 68) (fun hc3 => ?_) (fun hc3 => ?_)
  · refine x_lookup (tgt := 52) dX5_takesStart_11 (by decide) (by rw [hc3] <;> decide) (by decide) ?_
    refine x_aload_n dX5_takesStart_52 rfl ?_
    refine x_iconst (v := 1) dX5_takesStart_53 (by decide) ?_
    refine x_ldcS (i := 0) rfl rfl dX5_takesStart_54 ?_
    refine y_callVI (rest := []) (c1 := 0) (s1 := 0) (c_Par_takesPart ω 1 0 (by decide) m) mv_RX5_61 hz_19 rfl (Nat.le_of_ble_eq_true rfl) (Nat.le_of_ble_eq_true rfl) (Nat.le_of_ble_eq_true rfl) ⟨rfl, rfl⟩ ⟨(Nat.le_of_ble_eq_true rfl), (Nat.le_of_ble_eq_true rfl)⟩ dX5_takesStart_56 (fun v5 m4 => ?_)
    refine x_guard (fun hv => ?_)
    exact x_zret rfl rfl (zBo_nar hv) ⟨(Nat.le_of_ble_eq_true rfl), (Nat.le_of_ble_eq_true rfl)⟩ dX5_takesStart_59
  · refine x_cases (c := v2 = 70) (fun hc6 => ?_) (fun hc6 => ?_)
    · refine x_lookup (tgt := 76) dX5_takesStart_11 (by decide) (by rw [hc6] <;> decide) (by decide) ?_
      refine x_aload_n dX5_takesStart_76 rfl ?_
      refine x_iconst (v := 4) dX5_takesStart_77 (by decide) ?_
      refine x_ldcS (i := 3) rfl rfl dX5_takesStart_78 ?_
      refine y_callVI (rest := []) (c1 := 0) (s1 := 0) (c_Par_takesPart ω 4 3 (by decide) m) mv_RX5_61 hz_19 rfl (Nat.le_of_ble_eq_true rfl) (Nat.le_of_ble_eq_true rfl) (Nat.le_of_ble_eq_true rfl) ⟨rfl, rfl⟩ ⟨(Nat.le_of_ble_eq_true rfl), (Nat.le_of_ble_eq_true rfl)⟩ dX5_takesStart_80 (fun v8 m7 => ?_)
      refine x_guard (fun hv => ?_)
      exact x_zret rfl rfl (zBo_nar hv) ⟨(Nat.le_of_ble_eq_true rfl), (Nat.le_of_ble_eq_true rfl)⟩ dX5_takesStart_83
    · refine x_cases (c := v2 = 76) (fun hc9 => ?_) (fun hc9 => ?_)
      · refine x_lookup (tgt := 68) dX5_takesStart_11 (by decide) (by rw [hc9] <;> decide) (by decide) ?_
        refine x_aload_n dX5_takesStart_68 rfl ?_
        refine x_iconst (v := 3) dX5_takesStart_69 (by decide) ?_
        refine x_ldcS (i := 2) rfl rfl dX5_takesStart_70 ?_
        refine y_callVI (rest := []) (c1 := 0) (s1 := 0) (c_Par_takesPart ω 3 2 (by decide) m) mv_RX5_61 hz_19 rfl (Nat.le_of_ble_eq_true rfl) (Nat.le_of_ble_eq_true rfl) (Nat.le_of_ble_eq_true rfl) ⟨rfl, rfl⟩ ⟨(Nat.le_of_ble_eq_true rfl), (Nat.le_of_ble_eq_true rfl)⟩ dX5_takesStart_72 (fun v11 m10 => ?_)
        refine x_guard (fun hv => ?_)
        exact x_zret rfl rfl (zBo_nar hv) ⟨(Nat.le_of_ble_eq_true rfl), (Nat.le_of_ble_eq_true rfl)⟩ dX5_takesStart_75
      · refine x_cases (c := v2 = 78) (fun hc12 => ?_) (fun hc12 => ?_)
        · refine x_lookup (tgt := 60) dX5_takesStart_11 (by decide) (by rw [hc12] <;> decide) (by decide) ?_
          refine x_aload_n dX5_takesStart_60 rfl ?_
          refine x_iconst (v := 2) dX5_takesStart_61 (by decide) ?_
          refine x_ldcS (i := 1) rfl rfl dX5_takesStart_62 ?_
          refine y_callVI (rest := []) (c1 := 0) (s1 := 0) (c_Par_takesPart ω 2 1 (by decide) m) mv_RX5_61 hz_19 rfl (Nat.le_of_ble_eq_true rfl) (Nat.le_of_ble_eq_true rfl) (Nat.le_of_ble_eq_true rfl) ⟨rfl, rfl⟩ ⟨(Nat.le_of_ble_eq_true rfl), (Nat.le_of_ble_eq_true rfl)⟩ dX5_takesStart_64 (fun v14 m13 => ?_)
          refine x_guard (fun hv => ?_)
          exact x_zret rfl rfl (zBo_nar hv) ⟨(Nat.le_of_ble_eq_true rfl), (Nat.le_of_ble_eq_true rfl)⟩ dX5_takesStart_67
        · refine x_lookup (tgt := 84) dX5_takesStart_11 (by decide) (zsw_n [68, 70, 76, 78] (by decide +kernel) (zfc hc3 (zfc hc6 (zfc hc9 (zfc hc12 zfn))))) (by decide) ?_
          refine x_iconst (v := 0) dX5_takesStart_84 (by decide) ?_
          exact x_zret rfl rfl (zBo_nar (by decide)) ⟨(Nat.le_of_ble_eq_true rfl), (Nat.le_of_ble_eq_true rfl)⟩ dX5_takesStart_85
abbrev kk_Par_takesDayCount : Kx := (yX5_takesDayCount.cls, cX5_takesDayCount, 4, (some .boolean), [], false)
set_option maxHeartbeats 4000000 in
set_option maxRecDepth 100000 in
theorem c_Par_takesDayCount (ω : Wd) (m : Mm) : Ev ω true 3 0 0 yX5_takesDayCount cX5_takesDayCount 4 (some .boolean) [.ref (zad ω 19)] m fI (f_Par_takesDayCount m) := by
  refine Ev.of (b := false) (ls := [some (.ref (zad ω 19)), none, none, none]) (plainFor_of_name (by decide +kernel)) (fun h => by cases h) rfl (Nat.le_of_ble_eq_true rfl) rfl ?_
  change Sx ω ω true 3 0 0 kk_Par_takesDayCount fI 0 0 m 0 _ _ _
  unfold f_Par_takesDayCount
  refine x_aload_n dX5_takesDayCount_0 rfl ?_
  refine x_iconst (v := 0) dX5_takesDayCount_1 (by decide) ?_
  refine x_bipush (v := 9) dX5_takesDayCount_2 (by decide) ?_
  refine y_callVI (rest := []) (c1 := 0) (s1 := 0) (c_Par_takesDigit ω 0 9 m) mv_RX5_91 hz_19 rfl (Nat.le_of_ble_eq_true rfl) (Nat.le_of_ble_eq_true rfl) (Nat.le_of_ble_eq_true rfl) ⟨rfl, rfl⟩ ⟨(Nat.le_of_ble_eq_true rfl), (Nat.le_of_ble_eq_true rfl)⟩ dX5_takesDayCount_4 (fun v2 m1 => ?_)
  refine x_if_ne (tgt := 12) dX5_takesDayCount_7 (by decide) (fun hc3 => ?_) (fun hc3 => ?_)
  · refine x_iconst (v := 0) dX5_takesDayCount_10 (by decide) ?_
    exact x_zret rfl rfl (zBo_nar (by decide)) ⟨(Nat.le_of_ble_eq_true rfl), (Nat.le_of_ble_eq_true rfl)⟩ dX5_takesDayCount_11
  · refine x_aload_n dX5_takesDayCount_12 rfl ?_
    refine y_getI fl_RX5_84 hz_19 dX5_takesDayCount_13 ?_
    refine y_letI (fun x4 => ?_)
    refine x_istore_n (ls' := [some (.ref (zad ω 19)), some (.int x4), none, none]) dX5_takesDayCount_16 (Nat.le_of_ble_eq_true rfl) rfl ?_
    refine x_iconst (v := 0) dX5_takesDayCount_17 (by decide) ?_
    refine x_istore_n (ls' := [some (.ref (zad ω 19)), some (.int x4), some (.int 0), none]) dX5_takesDayCount_18 (Nat.le_of_ble_eq_true rfl) rfl ?_
    refine y_Lp2 (fun x5 x6 => [some (.ref (zad ω 19)), some (.int x5), some (.int x6), none]) (fun r7 hr7 x5 x6 m8 => ?_) zFu _ _ _
    refine x_iload_n dX5_takesDayCount_19 rfl ?_
    refine x_iconst (v := 2) dX5_takesDayCount_20 (by decide) ?_
    refine y_join (fun j11 => ∀ (m10 : Mm), Sx ω ω true 3 0 0 kk_Par_takesDayCount fI 0 0 m10 66 [some (.ref (zad ω 19)), some (.int x5), none, none] [] (j11 m10)) ?_ (fun j11 hj11 => ?_)
    · intro m10
      refine x_aload_n dX5_takesDayCount_66 rfl ?_
      refine x_iload_n dX5_takesDayCount_67 rfl ?_
      refine y_putI fp_RX5_84 hz_19 dX5_takesDayCount_68 ?_
      refine y_letM (fun m12 => ?_)
      refine x_iconst (v := 1) dX5_takesDayCount_71 (by decide) ?_
      exact x_zret rfl rfl (zBo_nar (by decide)) ⟨(Nat.le_of_ble_eq_true rfl), (Nat.le_of_ble_eq_true rfl)⟩ dX5_takesDayCount_72
    · refine x_icmp_ge (tgt := 66) dX5_takesDayCount_21 (by decide) (fun hc9 => ?_) (fun hc9 => ?_)
      · refine y_mask (bs := [true, true, false, false]) (ls' := [some (.ref (zad ω 19)), some (.int x5), none, none]) rfl ?_
        exact hj11 _
      · refine x_sipush (v := 366) dX5_takesDayCount_24 (by decide) ?_
        refine x_bipush (v := 10) dX5_takesDayCount_27 (by decide) ?_
        refine x_iload_n dX5_takesDayCount_29 rfl ?_
        refine x_imul dX5_takesDayCount_30 ?_
        refine x_isub dX5_takesDayCount_31 ?_
        refine x_bipush (v := 9) dX5_takesDayCount_32 (by decide) ?_
        refine y_callSP (rest := []) (c1 := 0) (s1 := 0) (c_Mat_min ω (366 - (10 * x5)) 9 m8) ms_RX5_94 rfl (Nat.le_of_ble_eq_true rfl) (Nat.le_of_ble_eq_true rfl) (Nat.le_of_ble_eq_true rfl) ⟨rfl, rfl⟩ ⟨(Nat.le_of_ble_eq_true rfl), (Nat.le_of_ble_eq_true rfl)⟩ dX5_takesDayCount_34 (fun v13 => ?_)
        refine x_istore_n (ls' := [some (.ref (zad ω 19)), some (.int x5), some (.int x6), some (.int v13)]) dX5_takesDayCount_37 (Nat.le_of_ble_eq_true rfl) rfl ?_
        refine x_aload_n dX5_takesDayCount_38 rfl ?_
        refine x_iconst (v := 0) dX5_takesDayCount_39 (by decide) ?_
        refine x_iload_n dX5_takesDayCount_40 rfl ?_
        refine y_callVI (rest := []) (c1 := 0) (s1 := 0) (c_Par_takesDigit ω 0 v13 m8) mv_RX5_91 hz_19 rfl (Nat.le_of_ble_eq_true rfl) (Nat.le_of_ble_eq_true rfl) (Nat.le_of_ble_eq_true rfl) ⟨rfl, rfl⟩ ⟨(Nat.le_of_ble_eq_true rfl), (Nat.le_of_ble_eq_true rfl)⟩ dX5_takesDayCount_41 (fun v15 m14 => ?_)
        refine x_if_ne (tgt := 50) dX5_takesDayCount_44 (by decide) (fun hc16 => ?_) (fun hc16 => ?_)
        · refine x_goto (tgt := 66) dX5_takesDayCount_47 (by decide) ?_
          refine y_mask (bs := [true, true, false, false]) (ls' := [some (.ref (zad ω 19)), some (.int x5), none, none]) rfl ?_
          exact hj11 _
        · refine x_bipush (v := 10) dX5_takesDayCount_50 (by decide) ?_
          refine x_iload_n dX5_takesDayCount_52 rfl ?_
          refine x_imul dX5_takesDayCount_53 ?_
          refine x_aload_n dX5_takesDayCount_54 rfl ?_
          refine y_getI fl_RX5_84 hz_19 dX5_takesDayCount_55 ?_
          refine x_iadd dX5_takesDayCount_58 ?_
          refine y_letI (fun x17 => ?_)
          refine x_istore_n (ls' := [some (.ref (zad ω 19)), some (.int x17), some (.int x6), some (.int v13)]) dX5_takesDayCount_59 (Nat.le_of_ble_eq_true rfl) rfl ?_
          refine y_iinc (w := 1) dX5_takesDayCount_60 rfl (by decide) (Nat.le_of_ble_eq_true rfl) (fun x18 => ?_)
          refine x_goto (tgt := 19) dX5_takesDayCount_63 (by decide) ?_
          refine y_mask (bs := [true, true, true, false]) (ls' := [some (.ref (zad ω 19)), some (.int x17), some (.int x18), none]) rfl ?_
          exact hr7 _ _ _
abbrev kk_Par_takesDays : Kx := (yX5_takesDays.cls, cX5_takesDays, 4, (some .boolean), [], false)
set_option maxHeartbeats 4000000 in
set_option maxRecDepth 100000 in
theorem c_Par_takesDays (ω : Wd) (m : Mm) : Ev ω true 4 0 0 yX5_takesDays cX5_takesDays 4 (some .boolean) [.ref (zad ω 19)] m fI (f_Par_takesDays m) := by
  refine Ev.of (b := false) (ls := [some (.ref (zad ω 19)), none, none, none]) (plainFor_of_name (by decide +kernel)) (fun h => by cases h) rfl (Nat.le_of_ble_eq_true rfl) rfl ?_
  change Sx ω ω true 4 0 0 kk_Par_takesDays fI 0 0 m 0 _ _ _
  unfold f_Par_takesDays
  refine x_iconst (v := 0) dX5_takesDays_0 (by decide) ?_
  refine x_istore_n (ls' := [some (.ref (zad ω 19)), some (.int 0), none, none]) dX5_takesDays_1 (Nat.le_of_ble_eq_true rfl) rfl ?_
  refine x_iconst (v := 0) dX5_takesDays_2 (by decide) ?_
  refine x_istore_n (ls' := [some (.ref (zad ω 19)), some (.int 0), some (.int 0), none]) dX5_takesDays_3 (Nat.le_of_ble_eq_true rfl) rfl ?_
  refine y_Lp2 (fun x1 x2 => [some (.ref (zad ω 19)), some (.int x1), some (.int x2), none]) (fun r3 hr3 x1 x2 m4 => ?_) zFu _ _ _
  refine x_iload_n dX5_takesDays_4 rfl ?_
  refine x_bipush (v := 40) dX5_takesDays_5 (by decide) ?_
  refine y_join (fun j6 => Sx ω ω true 4 0 0 kk_Par_takesDays fI 0 0 m4 83 [some (.ref (zad ω 19)), some (.int x1), none, none] [] j6) ?_ (fun j6 hj6 => ?_)
  · refine x_iload_n dX5_takesDays_83 rfl ?_
    refine y_join (fun j9 => ∀ (m8 : Mm), Sx ω ω true 4 0 0 kk_Par_takesDays fI 0 0 m8 103 [none, none, none, none] [] (j9 m8)) ?_ (fun j9 hj9 => ?_)
    · intro m8
      refine x_iconst (v := 1) dX5_takesDays_103 (by decide) ?_
      refine x_goto (tgt := 108) dX5_takesDays_104 (by decide) ?_
      exact x_zret rfl rfl (zBo_nar (by decide)) ⟨(Nat.le_of_ble_eq_true rfl), (Nat.le_of_ble_eq_true rfl)⟩ dX5_takesDays_108
    · refine x_if_eq (tgt := 103) dX5_takesDays_84 (by decide) (fun hc7 => ?_) (fun hc7 => ?_)
      · refine y_mask (bs := [false, false, false, false]) (ls' := [none, none, none, none]) rfl ?_
        exact hj9 _
      · refine x_aload_n dX5_takesDays_87 rfl ?_
        refine y_getF fl_RX5_14 hz_19 hq_19_0 (by rw [hz_20]; decide) dX5_takesDays_88 ?_
        refine x_iconst (v := 5) dX5_takesDays_91 (by decide) ?_
        refine x_sipush (v := 5000) dX5_takesDays_92 (by decide) ?_
        refine x_iload_n dX5_takesDays_95 rfl ?_
        refine x_iadd dX5_takesDays_96 ?_
        refine y_callVI (rest := []) (c1 := 0) (s1 := 0) (c_Cod_add ω 20 hz_20 5 (5000 + x1) m4) mv_RX5_87 hz_20 rfl (Nat.le_of_ble_eq_true rfl) (Nat.le_of_ble_eq_true rfl) (Nat.le_of_ble_eq_true rfl) ⟨rfl, rfl⟩ ⟨(Nat.le_of_ble_eq_true rfl), (Nat.le_of_ble_eq_true rfl)⟩ dX5_takesDays_97 (fun v11 m10 => ?_)
        refine x_if_eq (tgt := 107) dX5_takesDays_100 (by decide) (fun hc12 => ?_) (fun hc12 => ?_)
        · refine x_iconst (v := 0) dX5_takesDays_107 (by decide) ?_
          exact x_zret rfl rfl (zBo_nar (by decide)) ⟨(Nat.le_of_ble_eq_true rfl), (Nat.le_of_ble_eq_true rfl)⟩ dX5_takesDays_108
        · refine y_mask (bs := [false, false, false, false]) (ls' := [none, none, none, none]) rfl ?_
          exact hj9 _
  · refine x_icmp_ge (tgt := 83) dX5_takesDays_7 (by decide) (fun hc5 => ?_) (fun hc5 => ?_)
    · refine y_mask (bs := [true, true, false, false]) (ls' := [some (.ref (zad ω 19)), some (.int x1), none, none]) rfl ?_
      exact hj6
    · refine x_aload_n dX5_takesDays_10 rfl ?_
      refine y_getR fl_RX5_21 hz_19 (by decide) dX5_takesDays_11 (fun q13 hq13 => ?_)
      refine x_aload_n dX5_takesDays_14 rfl ?_
      refine y_getI fl_RX5_37 hz_19 dX5_takesDays_15 ?_
      refine y_callVP (rest := []) (c1 := 0) (s1 := 0) (c_Txt_at ω q13 hq13 (zI m4 19 2) m4) mv_RX5_55 hq13 rfl (Nat.le_of_ble_eq_true rfl) (Nat.le_of_ble_eq_true rfl) (Nat.le_of_ble_eq_true rfl) ⟨rfl, rfl⟩ ⟨(Nat.le_of_ble_eq_true rfl), (Nat.le_of_ble_eq_true rfl)⟩ dX5_takesDays_18 (fun v14 => ?_)
      refine x_istore_n (ls' := [some (.ref (zad ω 19)), some (.int x1), some (.int x2), some (.int v14)]) dX5_takesDays_21 (Nat.le_of_ble_eq_true rfl) rfl ?_
      refine x_iload_n dX5_takesDays_22 rfl ?_
      refine x_bipush (v := 43) dX5_takesDays_23 (by decide) ?_
      refine y_join (fun j16 => Sx ω ω true 4 0 0 kk_Par_takesDays fI 0 0 m4 37 [some (.ref (zad ω 19)), some (.int x1), some (.int x2), some (.int v14)] [] j16) ?_ (fun j16 hj16 => ?_)
      · refine x_aload_n dX5_takesDays_37 rfl ?_
        refine x_dup dX5_takesDays_38 rfl ?_
        refine y_getI fl_RX5_37 hz_19 dX5_takesDays_39 ?_
        refine x_iconst (v := 1) dX5_takesDays_42 (by decide) ?_
        refine x_iadd dX5_takesDays_43 ?_
        refine y_putI fp_RX5_37 hz_19 dX5_takesDays_44 ?_
        refine y_letM (fun m17 => ?_)
        refine x_aload_n dX5_takesDays_47 rfl ?_
        refine y_callVI (rest := []) (c1 := 0) (s1 := 0) (c_Par_takesDayCount ω m17) mv_RX5_81 hz_19 rfl (Nat.le_of_ble_eq_true rfl) (Nat.le_of_ble_eq_true rfl) (Nat.le_of_ble_eq_true rfl) ⟨rfl, rfl⟩ ⟨(Nat.le_of_ble_eq_true rfl), (Nat.le_of_ble_eq_true rfl)⟩ dX5_takesDays_48 (fun v19 m18 => ?_)
        refine x_if_ne (tgt := 56) dX5_takesDays_51 (by decide) (fun hc20 => ?_) (fun hc20 => ?_)
        · refine x_iconst (v := 0) dX5_takesDays_54 (by decide) ?_
          exact x_zret rfl rfl (zBo_nar (by decide)) ⟨(Nat.le_of_ble_eq_true rfl), (Nat.le_of_ble_eq_true rfl)⟩ dX5_takesDays_55
        · refine x_iload_n dX5_takesDays_56 rfl ?_
          refine x_iload_n dX5_takesDays_57 rfl ?_
          refine x_bipush (v := 43) dX5_takesDays_58 (by decide) ?_
          refine y_join (fun j23 => ∀ (x22 : Int32), Sx ω ω true 4 0 0 kk_Par_takesDays fI 0 0 m18 75 [some (.ref (zad ω 19)), none, some (.int x2), none] [.int x22, .int x1] (j23 x22)) ?_ (fun j23 hj23 => ?_)
          · intro x22
            refine x_iadd dX5_takesDays_75 ?_
            refine y_letI (fun x24 => ?_)
            refine x_istore_n (ls' := [some (.ref (zad ω 19)), some (.int x24), some (.int x2), none]) dX5_takesDays_76 (Nat.le_of_ble_eq_true rfl) rfl ?_
            refine y_iinc (w := 1) dX5_takesDays_77 rfl (by decide) (Nat.le_of_ble_eq_true rfl) (fun x25 => ?_)
            refine x_goto (tgt := 4) dX5_takesDays_80 (by decide) ?_
            exact hr3 _ _ _
          · refine x_icmp_ne (tgt := 70) dX5_takesDays_60 (by decide) (fun hc21 => ?_) (fun hc21 => ?_)
            · refine x_aload_n dX5_takesDays_63 rfl ?_
              refine y_getI fl_RX5_84 hz_19 dX5_takesDays_64 ?_
              refine x_goto (tgt := 75) dX5_takesDays_67 (by decide) ?_
              refine y_mask (bs := [true, false, true, false]) (ls' := [some (.ref (zad ω 19)), none, some (.int x2), none]) rfl ?_
              exact hj23 _
            · refine x_aload_n dX5_takesDays_70 rfl ?_
              refine y_getI fl_RX5_84 hz_19 dX5_takesDays_71 ?_
              refine x_ineg dX5_takesDays_74 ?_
              refine y_mask (bs := [true, false, true, false]) (ls' := [some (.ref (zad ω 19)), none, some (.int x2), none]) rfl ?_
              exact hj23 _
      · refine x_icmp_eq (tgt := 37) dX5_takesDays_25 (by decide) (fun hc15 => ?_) (fun hc15 => ?_)
        · exact hj16
        · refine x_iload_n dX5_takesDays_28 rfl ?_
          refine x_bipush (v := 45) dX5_takesDays_29 (by decide) ?_
          refine x_icmp_eq (tgt := 37) dX5_takesDays_31 (by decide) (fun hc26 => ?_) (fun hc26 => ?_)
          · exact hj16
          · refine x_goto (tgt := 83) dX5_takesDays_34 (by decide) ?_
            refine y_mask (bs := [true, true, false, false]) (ls' := [some (.ref (zad ω 19)), some (.int x1), none, none]) rfl ?_
            exact hj6
abbrev kk_Par_takes : Kx := (yX5_takes.cls, cX5_takes, 2, (some .boolean), [], false)
set_option maxHeartbeats 4000000 in
set_option maxRecDepth 100000 in
theorem c_Par_takes (ω : Wd) (p1 : Int32) (m : Mm) : Ev ω true 2 0 0 yX5_takes cX5_takes 2 (some .boolean) [.ref (zad ω 19), .int p1] m fI (f_Par_takes p1 m) := by
  refine Ev.of (b := false) (ls := [some (.ref (zad ω 19)), some (.int p1)]) (plainFor_of_name (by decide +kernel)) (fun h => by cases h) rfl (Nat.le_of_ble_eq_true rfl) rfl ?_
  change Sx ω ω true 2 0 0 kk_Par_takes fI 0 0 m 0 _ _ _
  unfold f_Par_takes
  refine x_aload_n dX5_takes_0 rfl ?_
  refine y_getR fl_RX5_21 hz_19 (by decide) dX5_takes_1 (fun q1 hq1 => ?_)
  refine x_aload_n dX5_takes_4 rfl ?_
  refine y_getI fl_RX5_37 hz_19 dX5_takes_5 ?_
  refine y_callVP (rest := []) (c1 := 0) (s1 := 0) (c_Txt_at ω q1 hq1 (zI m 19 2) m) mv_RX5_55 hq1 rfl (Nat.le_of_ble_eq_true rfl) (Nat.le_of_ble_eq_true rfl) (Nat.le_of_ble_eq_true rfl) ⟨rfl, rfl⟩ ⟨(Nat.le_of_ble_eq_true rfl), (Nat.le_of_ble_eq_true rfl)⟩ dX5_takes_8 (fun v2 => ?_)
  refine x_iload_n dX5_takes_11 rfl ?_
  refine x_icmp_eq (tgt := 17) dX5_takes_12 (by decide) (fun hc3 => ?_) (fun hc3 => ?_)
  · refine x_aload_n dX5_takes_17 rfl ?_
    refine x_dup dX5_takes_18 rfl ?_
    refine y_getI fl_RX5_37 hz_19 dX5_takes_19 ?_
    refine x_iconst (v := 1) dX5_takes_22 (by decide) ?_
    refine x_iadd dX5_takes_23 ?_
    refine y_putI fp_RX5_37 hz_19 dX5_takes_24 ?_
    refine y_letM (fun m4 => ?_)
    refine x_iconst (v := 1) dX5_takes_27 (by decide) ?_
    exact x_zret rfl rfl (zBo_nar (by decide)) ⟨(Nat.le_of_ble_eq_true rfl), (Nat.le_of_ble_eq_true rfl)⟩ dX5_takes_28
  · refine x_iconst (v := 0) dX5_takes_15 (by decide) ?_
    exact x_zret rfl rfl (zBo_nar (by decide)) ⟨(Nat.le_of_ble_eq_true rfl), (Nat.le_of_ble_eq_true rfl)⟩ dX5_takes_16
abbrev kk_Par_takesSteps : Kx := (yX5_takesSteps.cls, cX5_takesSteps, 4, (some .boolean), [], false)
set_option maxHeartbeats 4000000 in
set_option maxRecDepth 100000 in
theorem c_Par_takesSteps (ω : Wd) (Dn : Nat) (hDn : 8 ≤ Dn) (c_takesBranch : Int32 → Mm → Option (Int32 × Mm)) (h_takesBranch : ∀ (y0 : Int32) (m : Mm), Ev ω true Dn 0 0 yX5_takesBranch cX5_takesBranch 4 (some .boolean) [.ref (zad ω 19), .int y0] m fI (c_takesBranch y0 m)) (p1 : Int32) (m : Mm) : Ev ω true (Dn + 1) 0 0 yX5_takesSteps cX5_takesSteps 4 (some .boolean) [.ref (zad ω 19), .int p1] m fI (g_Par_takesSteps c_takesBranch p1 m) := by
  refine Ev.of (b := false) (ls := [some (.ref (zad ω 19)), some (.int p1), none, none]) (plainFor_of_name (by decide +kernel)) (fun h => by cases h) rfl (Nat.le_of_ble_eq_true rfl) rfl ?_
  change Sx ω ω true (Dn + 1) 0 0 kk_Par_takesSteps fI 0 0 m 0 _ _ _
  unfold g_Par_takesSteps
  refine x_iload_n dX5_takesSteps_0 rfl ?_
  refine x_bipush (v := 41) dX5_takesSteps_1 (by decide) ?_
  refine y_join (fun j3 => ∀ (x2 : Int32), Sx ω ω true (Dn + 1) 0 0 kk_Par_takesSteps fI 0 0 m 11 [some (.ref (zad ω 19)), some (.int p1), none, none] [.int x2] (j3 x2)) ?_ (fun j3 hj3 => ?_)
  · intro x2
    refine x_istore_n (ls' := [some (.ref (zad ω 19)), some (.int p1), some (.int x2), none]) dX5_takesSteps_11 (Nat.le_of_ble_eq_true rfl) rfl ?_
    refine x_iconst (v := 0) dX5_takesSteps_12 (by decide) ?_
    refine x_istore_n (ls' := [some (.ref (zad ω 19)), some (.int p1), some (.int x2), some (.int 0)]) dX5_takesSteps_13 (Nat.le_of_ble_eq_true rfl) rfl ?_
    refine y_Lp2 (fun x4 x5 => [some (.ref (zad ω 19)), some (.int p1), some (.int x4), some (.int x5)]) (fun r6 hr6 x4 x5 m7 => ?_) zFu _ _ _
    refine x_iload_n dX5_takesSteps_14 rfl ?_
    refine x_bipush (v := 40) dX5_takesSteps_15 (by decide) ?_
    refine x_icmp_ge (tgt := 235) dX5_takesSteps_17 (by decide) (fun hc8 => ?_) (fun hc8 => ?_)
    · refine x_iload_n dX5_takesSteps_235 rfl ?_
      refine x_guard (fun hv => ?_)
      exact x_zret rfl rfl (zBo_nar hv) ⟨(Nat.le_of_ble_eq_true rfl), (Nat.le_of_ble_eq_true rfl)⟩ dX5_takesSteps_236
    · refine x_iload_n dX5_takesSteps_20 rfl ?_
      refine x_if_eq (tgt := 235) dX5_takesSteps_21 (by decide) (fun hc9 => ?_) (fun hc9 => ?_)
      · refine x_iload_n dX5_takesSteps_235 rfl ?_
        refine x_guard (fun hv => ?_)
        exact x_zret rfl rfl (zBo_nar hv) ⟨(Nat.le_of_ble_eq_true rfl), (Nat.le_of_ble_eq_true rfl)⟩ dX5_takesSteps_236
      · refine x_aload_n dX5_takesSteps_24 rfl ?_
        refine y_getR fl_RX5_21 hz_19 (by decide) dX5_takesSteps_25 (fun q10 hq10 => ?_)
        refine x_aload_n dX5_takesSteps_28 rfl ?_
        refine y_getI fl_RX5_37 hz_19 dX5_takesSteps_29 ?_
        refine y_callVP (rest := []) (c1 := 0) (s1 := 0) (c_Txt_at ω q10 hq10 (zI m7 19 2) m7) mv_RX5_55 hq10 rfl (Nat.le_of_ble_eq_true rfl) (Nat.succ_le_succ (Nat.le_trans (Nat.le_of_ble_eq_true rfl) hDn)) (Nat.le_of_ble_eq_true rfl) ⟨rfl, rfl⟩ ⟨(Nat.le_of_ble_eq_true rfl), (Nat.le_of_ble_eq_true rfl)⟩ dX5_takesSteps_32 (fun v11 => ?_)
        refine y_join (fun j14 => ∀ (x12 : Int32) (m13 : Mm), Sx ω ω true (Dn + 1) 0 0 kk_Par_takesSteps fI 0 0 m13 229 [some (.ref (zad ω 19)), some (.int p1), some (.int x12), some (.int x5)] [] (j14 x12 m13)) ?_ (fun j14 hj14 => ?_)
        · intro x12 m13
          refine y_iinc (w := 1) dX5_takesSteps_229 rfl (by decide) (Nat.le_of_ble_eq_true rfl) (fun x15 => ?_)
          refine x_goto (tgt := 14) dX5_takesSteps_232 (by decide) ?_
          exact hr6 _ _ _
        · refine x_cases (c := v11 = 43) (fun hc16 => ?_) (fun hc16 => ?_)
          · refine x_lookup (tgt := 124) dX5_takesSteps_35 (by decide) (by rw [hc16] <;> decide) (by decide) ?_
            refine x_aload_n dX5_takesSteps_124 rfl ?_
            refine y_callVI (rest := []) (c1 := 0) (s1 := 0) (c_Par_takesDays ω m7) mv_RX5_71 hz_19 rfl (Nat.le_of_ble_eq_true rfl) (Nat.succ_le_succ (Nat.le_trans (Nat.le_of_ble_eq_true rfl) hDn)) (Nat.le_of_ble_eq_true rfl) ⟨rfl, rfl⟩ ⟨(Nat.le_of_ble_eq_true rfl), (Nat.le_of_ble_eq_true rfl)⟩ dX5_takesSteps_125 (fun v18 m17 => ?_)
            refine x_istore_n (ls' := [some (.ref (zad ω 19)), some (.int p1), some (.int v18), some (.int x5)]) dX5_takesSteps_128 (Nat.le_of_ble_eq_true rfl) rfl ?_
            refine x_goto (tgt := 229) dX5_takesSteps_129 (by decide) ?_
            exact hj14 _ _
          · refine x_cases (c := v11 = 45) (fun hc19 => ?_) (fun hc19 => ?_)
            · refine x_lookup (tgt := 124) dX5_takesSteps_35 (by decide) (by rw [hc19] <;> decide) (by decide) ?_
              refine x_aload_n dX5_takesSteps_124 rfl ?_
              refine y_callVI (rest := []) (c1 := 0) (s1 := 0) (c_Par_takesDays ω m7) mv_RX5_71 hz_19 rfl (Nat.le_of_ble_eq_true rfl) (Nat.succ_le_succ (Nat.le_trans (Nat.le_of_ble_eq_true rfl) hDn)) (Nat.le_of_ble_eq_true rfl) ⟨rfl, rfl⟩ ⟨(Nat.le_of_ble_eq_true rfl), (Nat.le_of_ble_eq_true rfl)⟩ dX5_takesSteps_125 (fun v21 m20 => ?_)
              refine x_istore_n (ls' := [some (.ref (zad ω 19)), some (.int p1), some (.int v21), some (.int x5)]) dX5_takesSteps_128 (Nat.le_of_ble_eq_true rfl) rfl ?_
              refine x_goto (tgt := 229) dX5_takesSteps_129 (by decide) ?_
              exact hj14 _ _
            · refine x_cases (c := v11 = 60) (fun hc22 => ?_) (fun hc22 => ?_)
              · refine x_lookup (tgt := 144) dX5_takesSteps_35 (by decide) (by rw [hc22] <;> decide) (by decide) ?_
                refine x_aload_n dX5_takesSteps_144 rfl ?_
                refine x_bipush (v := 7) dX5_takesSteps_145 (by decide) ?_
                refine x_ldcS (i := 4) rfl rfl dX5_takesSteps_147 ?_
                refine y_callVI (rest := []) (c1 := 0) (s1 := 0) (c_Par_takesPart ω 7 4 (by decide) m7) mv_RX5_61 hz_19 rfl (Nat.le_of_ble_eq_true rfl) (Nat.succ_le_succ (Nat.le_trans (Nat.le_of_ble_eq_true rfl) hDn)) (Nat.le_of_ble_eq_true rfl) ⟨rfl, rfl⟩ ⟨(Nat.le_of_ble_eq_true rfl), (Nat.le_of_ble_eq_true rfl)⟩ dX5_takesSteps_149 (fun v24 m23 => ?_)
                refine x_istore_n (ls' := [some (.ref (zad ω 19)), some (.int p1), some (.int v24), some (.int x5)]) dX5_takesSteps_152 (Nat.le_of_ble_eq_true rfl) rfl ?_
                refine x_goto (tgt := 229) dX5_takesSteps_153 (by decide) ?_
                exact hj14 _ _
              · refine x_cases (c := v11 = 62) (fun hc25 => ?_) (fun hc25 => ?_)
                · refine x_lookup (tgt := 132) dX5_takesSteps_35 (by decide) (by rw [hc25] <;> decide) (by decide) ?_
                  refine x_aload_n dX5_takesSteps_132 rfl ?_
                  refine x_bipush (v := 6) dX5_takesSteps_133 (by decide) ?_
                  refine x_ldcS (i := 4) rfl rfl dX5_takesSteps_135 ?_
                  refine y_callVI (rest := []) (c1 := 0) (s1 := 0) (c_Par_takesPart ω 6 4 (by decide) m7) mv_RX5_61 hz_19 rfl (Nat.le_of_ble_eq_true rfl) (Nat.succ_le_succ (Nat.le_trans (Nat.le_of_ble_eq_true rfl) hDn)) (Nat.le_of_ble_eq_true rfl) ⟨rfl, rfl⟩ ⟨(Nat.le_of_ble_eq_true rfl), (Nat.le_of_ble_eq_true rfl)⟩ dX5_takesSteps_137 (fun v27 m26 => ?_)
                  refine x_istore_n (ls' := [some (.ref (zad ω 19)), some (.int p1), some (.int v27), some (.int x5)]) dX5_takesSteps_140 (Nat.le_of_ble_eq_true rfl) rfl ?_
                  refine x_goto (tgt := 229) dX5_takesSteps_141 (by decide) ?_
                  exact hj14 _ _
                · refine x_cases (c := v11 = 63) (fun hc28 => ?_) (fun hc28 => ?_)
                  · refine x_lookup (tgt := 216) dX5_takesSteps_35 (by decide) (by rw [hc28] <;> decide) (by decide) ?_
                    refine x_aload_n dX5_takesSteps_216 rfl ?_
                    refine x_iload_n dX5_takesSteps_217 rfl ?_
                    refine x_iconst (v := 1) dX5_takesSteps_218 (by decide) ?_
                    refine x_iadd dX5_takesSteps_219 ?_
                    refine y_callVI (rest := []) (c1 := 0) (s1 := 0) (h_takesBranch (p1 + 1) m7) mv_RX5_78 hz_19 rfl (Nat.le_of_ble_eq_true rfl) (Nat.le_refl _) (Nat.le_of_ble_eq_true rfl) ⟨rfl, rfl⟩ ⟨(Nat.le_of_ble_eq_true rfl), (Nat.le_of_ble_eq_true rfl)⟩ dX5_takesSteps_220 (fun v30 m29 => ?_)
                    refine x_istore_n (ls' := [some (.ref (zad ω 19)), some (.int p1), some (.int v30), some (.int x5)]) dX5_takesSteps_223 (Nat.le_of_ble_eq_true rfl) rfl ?_
                    refine x_goto (tgt := 229) dX5_takesSteps_224 (by decide) ?_
                    exact hj14 _ _
                  · refine x_cases (c := v11 = 79) (fun hc31 => ?_) (fun hc31 => ?_)
                    · refine x_lookup (tgt := 180) dX5_takesSteps_35 (by decide) (by rw [hc31] <;> decide) (by decide) ?_
                      refine x_aload_n dX5_takesSteps_180 rfl ?_
                      refine x_bipush (v := 10) dX5_takesSteps_181 (by decide) ?_
                      refine x_ldcS (i := 5) rfl rfl dX5_takesSteps_183 ?_
                      refine y_callVI (rest := []) (c1 := 0) (s1 := 0) (c_Par_takesPart ω 10 5 (by decide) m7) mv_RX5_61 hz_19 rfl (Nat.le_of_ble_eq_true rfl) (Nat.succ_le_succ (Nat.le_trans (Nat.le_of_ble_eq_true rfl) hDn)) (Nat.le_of_ble_eq_true rfl) ⟨rfl, rfl⟩ ⟨(Nat.le_of_ble_eq_true rfl), (Nat.le_of_ble_eq_true rfl)⟩ dX5_takesSteps_185 (fun v33 m32 => ?_)
                      refine x_istore_n (ls' := [some (.ref (zad ω 19)), some (.int p1), some (.int v33), some (.int x5)]) dX5_takesSteps_188 (Nat.le_of_ble_eq_true rfl) rfl ?_
                      refine x_goto (tgt := 229) dX5_takesSteps_189 (by decide) ?_
                      exact hj14 _ _
                    · refine x_cases (c := v11 = 81) (fun hc34 => ?_) (fun hc34 => ?_)
                      · refine x_lookup (tgt := 192) dX5_takesSteps_35 (by decide) (by rw [hc34] <;> decide) (by decide) ?_
                        refine x_aload_n dX5_takesSteps_192 rfl ?_
                        refine x_bipush (v := 11) dX5_takesSteps_193 (by decide) ?_
                        refine x_ldcS (i := 5) rfl rfl dX5_takesSteps_195 ?_
                        refine y_callVI (rest := []) (c1 := 0) (s1 := 0) (c_Par_takesPart ω 11 5 (by decide) m7) mv_RX5_61 hz_19 rfl (Nat.le_of_ble_eq_true rfl) (Nat.succ_le_succ (Nat.le_trans (Nat.le_of_ble_eq_true rfl) hDn)) (Nat.le_of_ble_eq_true rfl) ⟨rfl, rfl⟩ ⟨(Nat.le_of_ble_eq_true rfl), (Nat.le_of_ble_eq_true rfl)⟩ dX5_takesSteps_197 (fun v36 m35 => ?_)
                        refine x_istore_n (ls' := [some (.ref (zad ω 19)), some (.int p1), some (.int v36), some (.int x5)]) dX5_takesSteps_200 (Nat.le_of_ble_eq_true rfl) rfl ?_
                        refine x_goto (tgt := 229) dX5_takesSteps_201 (by decide) ?_
                        exact hj14 _ _
                      · refine x_cases (c := v11 = 88) (fun hc37 => ?_) (fun hc37 => ?_)
                        · refine x_lookup (tgt := 204) dX5_takesSteps_35 (by decide) (by rw [hc37] <;> decide) (by decide) ?_
                          refine x_aload_n dX5_takesSteps_204 rfl ?_
                          refine x_bipush (v := 12) dX5_takesSteps_205 (by decide) ?_
                          refine x_ldcS (i := 5) rfl rfl dX5_takesSteps_207 ?_
                          refine y_callVI (rest := []) (c1 := 0) (s1 := 0) (c_Par_takesPart ω 12 5 (by decide) m7) mv_RX5_61 hz_19 rfl (Nat.le_of_ble_eq_true rfl) (Nat.succ_le_succ (Nat.le_trans (Nat.le_of_ble_eq_true rfl) hDn)) (Nat.le_of_ble_eq_true rfl) ⟨rfl, rfl⟩ ⟨(Nat.le_of_ble_eq_true rfl), (Nat.le_of_ble_eq_true rfl)⟩ dX5_takesSteps_209 (fun v39 m38 => ?_)
                          refine x_istore_n (ls' := [some (.ref (zad ω 19)), some (.int p1), some (.int v39), some (.int x5)]) dX5_takesSteps_212 (Nat.le_of_ble_eq_true rfl) rfl ?_
                          refine x_goto (tgt := 229) dX5_takesSteps_213 (by decide) ?_
                          exact hj14 _ _
                        · refine x_cases (c := v11 = 91) (fun hc40 => ?_) (fun hc40 => ?_)
                          · refine x_lookup (tgt := 168) dX5_takesSteps_35 (by decide) (by rw [hc40] <;> decide) (by decide) ?_
                            refine x_aload_n dX5_takesSteps_168 rfl ?_
                            refine x_bipush (v := 9) dX5_takesSteps_169 (by decide) ?_
                            refine x_ldcS (i := 4) rfl rfl dX5_takesSteps_171 ?_
                            refine y_callVI (rest := []) (c1 := 0) (s1 := 0) (c_Par_takesPart ω 9 4 (by decide) m7) mv_RX5_61 hz_19 rfl (Nat.le_of_ble_eq_true rfl) (Nat.succ_le_succ (Nat.le_trans (Nat.le_of_ble_eq_true rfl) hDn)) (Nat.le_of_ble_eq_true rfl) ⟨rfl, rfl⟩ ⟨(Nat.le_of_ble_eq_true rfl), (Nat.le_of_ble_eq_true rfl)⟩ dX5_takesSteps_173 (fun v42 m41 => ?_)
                            refine x_istore_n (ls' := [some (.ref (zad ω 19)), some (.int p1), some (.int v42), some (.int x5)]) dX5_takesSteps_176 (Nat.le_of_ble_eq_true rfl) rfl ?_
                            refine x_goto (tgt := 229) dX5_takesSteps_177 (by decide) ?_
                            exact hj14 _ _
                          · refine x_cases (c := v11 = 93) (fun hc43 => ?_) (fun hc43 => ?_)
                            · refine x_lookup (tgt := 156) dX5_takesSteps_35 (by decide) (by rw [hc43] <;> decide) (by decide) ?_
                              refine x_aload_n dX5_takesSteps_156 rfl ?_
                              refine x_bipush (v := 8) dX5_takesSteps_157 (by decide) ?_
                              refine x_ldcS (i := 4) rfl rfl dX5_takesSteps_159 ?_
                              refine y_callVI (rest := []) (c1 := 0) (s1 := 0) (c_Par_takesPart ω 8 4 (by decide) m7) mv_RX5_61 hz_19 rfl (Nat.le_of_ble_eq_true rfl) (Nat.succ_le_succ (Nat.le_trans (Nat.le_of_ble_eq_true rfl) hDn)) (Nat.le_of_ble_eq_true rfl) ⟨rfl, rfl⟩ ⟨(Nat.le_of_ble_eq_true rfl), (Nat.le_of_ble_eq_true rfl)⟩ dX5_takesSteps_161 (fun v45 m44 => ?_)
                              refine x_istore_n (ls' := [some (.ref (zad ω 19)), some (.int p1), some (.int v45), some (.int x5)]) dX5_takesSteps_164 (Nat.le_of_ble_eq_true rfl) rfl ?_
                              refine x_goto (tgt := 229) dX5_takesSteps_165 (by decide) ?_
                              exact hj14 _ _
                            · refine x_lookup (tgt := 227) dX5_takesSteps_35 (by decide) (zsw_n [43, 45, 60, 62, 63, 79, 81, 88, 91, 93] (by decide +kernel) (zfc hc16 (zfc hc19 (zfc hc22 (zfc hc25 (zfc hc28 (zfc hc31 (zfc hc34 (zfc hc37 (zfc hc40 (zfc hc43 zfn))))))))))) (by decide) ?_
                              refine x_iconst (v := 1) dX5_takesSteps_227 (by decide) ?_
                              exact x_zret rfl rfl (zBo_nar (by decide)) ⟨(Nat.le_of_ble_eq_true rfl), (Nat.le_of_ble_eq_true rfl)⟩ dX5_takesSteps_228
  · refine x_icmp_gt (tgt := 10) dX5_takesSteps_3 (by decide) (fun hc1 => ?_) (fun hc1 => ?_)
    · refine x_iconst (v := 0) dX5_takesSteps_10 (by decide) ?_
      exact hj3 _
    · refine x_iconst (v := 1) dX5_takesSteps_6 (by decide) ?_
      refine x_goto (tgt := 11) dX5_takesSteps_7 (by decide) ?_
      exact hj3 _
abbrev kk_Par_takesBranch : Kx := (yX5_takesBranch.cls, cX5_takesBranch, 4, (some .boolean), [], false)
set_option maxHeartbeats 4000000 in
set_option maxRecDepth 100000 in
theorem c_Par_takesBranch (ω : Wd) (Dn : Nat) (hDn : 8 ≤ Dn) (c_takesLogic : Int32 → Mm → Option (Int32 × Mm)) (h_takesLogic : ∀ (y0 : Int32) (m : Mm), Ev ω true Dn 0 0 yX5_takesLogic cX5_takesLogic 2 (some .boolean) [.ref (zad ω 19), .int y0] m fI (c_takesLogic y0 m)) (c_takesSteps : Int32 → Mm → Option (Int32 × Mm)) (h_takesSteps : ∀ (y0 : Int32) (m : Mm), Ev ω true Dn 0 0 yX5_takesSteps cX5_takesSteps 4 (some .boolean) [.ref (zad ω 19), .int y0] m fI (c_takesSteps y0 m)) (p1 : Int32) (m : Mm) : Ev ω true (Dn + 1) 0 0 yX5_takesBranch cX5_takesBranch 4 (some .boolean) [.ref (zad ω 19), .int p1] m fI (g_Par_takesBranch c_takesLogic c_takesSteps p1 m) := by
  refine Ev.of (b := false) (ls := [some (.ref (zad ω 19)), some (.int p1), none, none]) (plainFor_of_name (by decide +kernel)) (fun h => by cases h) rfl (Nat.le_of_ble_eq_true rfl) rfl ?_
  change Sx ω ω true (Dn + 1) 0 0 kk_Par_takesBranch fI 0 0 m 0 _ _ _
  unfold g_Par_takesBranch
  refine x_aload_n dX5_takesBranch_0 rfl ?_
  refine x_dup dX5_takesBranch_1 rfl ?_
  refine y_getI fl_RX5_37 hz_19 dX5_takesBranch_2 ?_
  refine x_iconst (v := 1) dX5_takesBranch_5 (by decide) ?_
  refine x_iadd dX5_takesBranch_6 ?_
  refine y_putI fp_RX5_37 hz_19 dX5_takesBranch_7 ?_
  refine y_letM (fun m1 => ?_)
  refine x_aload_n dX5_takesBranch_10 rfl ?_
  refine x_iload_n dX5_takesBranch_11 rfl ?_
  refine y_callVI (rest := []) (c1 := 0) (s1 := 0) (h_takesLogic p1 m1) mv_RX5_45 hz_19 rfl (Nat.le_of_ble_eq_true rfl) (Nat.le_refl _) (Nat.le_of_ble_eq_true rfl) ⟨rfl, rfl⟩ ⟨(Nat.le_of_ble_eq_true rfl), (Nat.le_of_ble_eq_true rfl)⟩ dX5_takesBranch_12 (fun v3 m2 => ?_)
  refine x_if_ne (tgt := 20) dX5_takesBranch_15 (by decide) (fun hc4 => ?_) (fun hc4 => ?_)
  · refine x_iconst (v := 0) dX5_takesBranch_18 (by decide) ?_
    exact x_zret rfl rfl (zBo_nar (by decide)) ⟨(Nat.le_of_ble_eq_true rfl), (Nat.le_of_ble_eq_true rfl)⟩ dX5_takesBranch_19
  · refine x_aload_n dX5_takesBranch_20 rfl ?_
    refine y_getF fl_RX5_14 hz_19 hq_19_0 (by rw [hz_20]; decide) dX5_takesBranch_21 ?_
    refine y_callVP (rest := []) (c1 := 0) (s1 := 0) (c_Cod_size ω 20 hz_20 m2) mv_RX5_100 hz_20 rfl (Nat.le_of_ble_eq_true rfl) (Nat.succ_le_succ (Nat.le_trans (Nat.le_of_ble_eq_true rfl) hDn)) (Nat.le_of_ble_eq_true rfl) ⟨rfl, rfl⟩ ⟨(Nat.le_of_ble_eq_true rfl), (Nat.le_of_ble_eq_true rfl)⟩ dX5_takesBranch_24 (fun v5 => ?_)
    refine x_istore_n (ls' := [some (.ref (zad ω 19)), some (.int p1), some (.int v5), none]) dX5_takesBranch_27 (Nat.le_of_ble_eq_true rfl) rfl ?_
    refine x_aload_n dX5_takesBranch_28 rfl ?_
    refine y_getF fl_RX5_14 hz_19 hq_19_0 (by rw [hz_20]; decide) dX5_takesBranch_29 ?_
    refine x_bipush (v := 19) dX5_takesBranch_32 (by decide) ?_
    refine x_iconst (v := 0) dX5_takesBranch_34 (by decide) ?_
    refine y_callVI (rest := []) (c1 := 0) (s1 := 0) (c_Cod_add ω 20 hz_20 19 0 m2) mv_RX5_87 hz_20 rfl (Nat.le_of_ble_eq_true rfl) (Nat.succ_le_succ (Nat.le_trans (Nat.le_of_ble_eq_true rfl) hDn)) (Nat.le_of_ble_eq_true rfl) ⟨rfl, rfl⟩ ⟨(Nat.le_of_ble_eq_true rfl), (Nat.le_of_ble_eq_true rfl)⟩ dX5_takesBranch_35 (fun v7 m6 => ?_)
    refine x_if_eq (tgt := 67) dX5_takesBranch_38 (by decide) (fun hc8 => ?_) (fun hc8 => ?_)
    · refine x_iconst (v := 0) dX5_takesBranch_67 (by decide) ?_
      exact x_zret rfl rfl (zBo_nar (by decide)) ⟨(Nat.le_of_ble_eq_true rfl), (Nat.le_of_ble_eq_true rfl)⟩ dX5_takesBranch_68
    · refine x_aload_n dX5_takesBranch_41 rfl ?_
      refine x_bipush (v := 123) dX5_takesBranch_42 (by decide) ?_
      refine y_callVI (rest := []) (c1 := 0) (s1 := 0) (c_Par_takes ω 123 m6) mv_RX5_103 hz_19 rfl (Nat.le_of_ble_eq_true rfl) (Nat.succ_le_succ (Nat.le_trans (Nat.le_of_ble_eq_true rfl) hDn)) (Nat.le_of_ble_eq_true rfl) ⟨rfl, rfl⟩ ⟨(Nat.le_of_ble_eq_true rfl), (Nat.le_of_ble_eq_true rfl)⟩ dX5_takesBranch_44 (fun v10 m9 => ?_)
      refine x_if_eq (tgt := 67) dX5_takesBranch_47 (by decide) (fun hc11 => ?_) (fun hc11 => ?_)
      · refine x_iconst (v := 0) dX5_takesBranch_67 (by decide) ?_
        exact x_zret rfl rfl (zBo_nar (by decide)) ⟨(Nat.le_of_ble_eq_true rfl), (Nat.le_of_ble_eq_true rfl)⟩ dX5_takesBranch_68
      · refine x_aload_n dX5_takesBranch_50 rfl ?_
        refine x_iload_n dX5_takesBranch_51 rfl ?_
        refine y_callVI (rest := []) (c1 := 0) (s1 := 0) (h_takesSteps p1 m9) mv_RX5_33 hz_19 rfl (Nat.le_of_ble_eq_true rfl) (Nat.le_refl _) (Nat.le_of_ble_eq_true rfl) ⟨rfl, rfl⟩ ⟨(Nat.le_of_ble_eq_true rfl), (Nat.le_of_ble_eq_true rfl)⟩ dX5_takesBranch_52 (fun v13 m12 => ?_)
        refine x_if_eq (tgt := 67) dX5_takesBranch_55 (by decide) (fun hc14 => ?_) (fun hc14 => ?_)
        · refine x_iconst (v := 0) dX5_takesBranch_67 (by decide) ?_
          exact x_zret rfl rfl (zBo_nar (by decide)) ⟨(Nat.le_of_ble_eq_true rfl), (Nat.le_of_ble_eq_true rfl)⟩ dX5_takesBranch_68
        · refine x_aload_n dX5_takesBranch_58 rfl ?_
          refine x_bipush (v := 125) dX5_takesBranch_59 (by decide) ?_
          refine y_callVI (rest := []) (c1 := 0) (s1 := 0) (c_Par_takes ω 125 m12) mv_RX5_103 hz_19 rfl (Nat.le_of_ble_eq_true rfl) (Nat.succ_le_succ (Nat.le_trans (Nat.le_of_ble_eq_true rfl) hDn)) (Nat.le_of_ble_eq_true rfl) ⟨rfl, rfl⟩ ⟨(Nat.le_of_ble_eq_true rfl), (Nat.le_of_ble_eq_true rfl)⟩ dX5_takesBranch_61 (fun v16 m15 => ?_)
          refine x_if_ne (tgt := 69) dX5_takesBranch_64 (by decide) (fun hc17 => ?_) (fun hc17 => ?_)
          · refine x_iconst (v := 0) dX5_takesBranch_67 (by decide) ?_
            exact x_zret rfl rfl (zBo_nar (by decide)) ⟨(Nat.le_of_ble_eq_true rfl), (Nat.le_of_ble_eq_true rfl)⟩ dX5_takesBranch_68
          · refine x_aload_n dX5_takesBranch_69 rfl ?_
            refine x_bipush (v := 123) dX5_takesBranch_70 (by decide) ?_
            refine y_callVI (rest := []) (c1 := 0) (s1 := 0) (c_Par_takes ω 123 m15) mv_RX5_103 hz_19 rfl (Nat.le_of_ble_eq_true rfl) (Nat.succ_le_succ (Nat.le_trans (Nat.le_of_ble_eq_true rfl) hDn)) (Nat.le_of_ble_eq_true rfl) ⟨rfl, rfl⟩ ⟨(Nat.le_of_ble_eq_true rfl), (Nat.le_of_ble_eq_true rfl)⟩ dX5_takesBranch_72 (fun v19 m18 => ?_)
            refine x_if_ne (tgt := 87) dX5_takesBranch_75 (by decide) (fun hc20 => ?_) (fun hc20 => ?_)
            · refine x_aload_n dX5_takesBranch_78 rfl ?_
              refine y_getF fl_RX5_14 hz_19 hq_19_0 (by rw [hz_20]; decide) dX5_takesBranch_79 ?_
              refine x_iload_n dX5_takesBranch_82 rfl ?_
              refine y_callVI (rest := []) (c1 := 0) (s1 := 0) (c_Cod_landHere ω 20 hz_20 v5 m18) mv_RX5_107 hz_20 rfl (Nat.le_of_ble_eq_true rfl) (Nat.succ_le_succ (Nat.le_trans (Nat.le_of_ble_eq_true rfl) hDn)) (Nat.le_of_ble_eq_true rfl) ⟨rfl, rfl⟩ ⟨(Nat.le_of_ble_eq_true rfl), (Nat.le_of_ble_eq_true rfl)⟩ dX5_takesBranch_83 (fun v40 m39 => ?_)
              refine x_guard (fun hv => ?_)
              exact x_zret rfl rfl (zBo_nar hv) ⟨(Nat.le_of_ble_eq_true rfl), (Nat.le_of_ble_eq_true rfl)⟩ dX5_takesBranch_86
            · refine x_aload_n dX5_takesBranch_87 rfl ?_
              refine y_getF fl_RX5_14 hz_19 hq_19_0 (by rw [hz_20]; decide) dX5_takesBranch_88 ?_
              refine y_callVP (rest := []) (c1 := 0) (s1 := 0) (c_Cod_size ω 20 hz_20 m18) mv_RX5_100 hz_20 rfl (Nat.le_of_ble_eq_true rfl) (Nat.succ_le_succ (Nat.le_trans (Nat.le_of_ble_eq_true rfl) hDn)) (Nat.le_of_ble_eq_true rfl) ⟨rfl, rfl⟩ ⟨(Nat.le_of_ble_eq_true rfl), (Nat.le_of_ble_eq_true rfl)⟩ dX5_takesBranch_91 (fun v21 => ?_)
              refine x_istore_n (ls' := [some (.ref (zad ω 19)), some (.int p1), some (.int v5), some (.int v21)]) dX5_takesBranch_94 (Nat.le_of_ble_eq_true rfl) rfl ?_
              refine x_aload_n dX5_takesBranch_95 rfl ?_
              refine y_getF fl_RX5_14 hz_19 hq_19_0 (by rw [hz_20]; decide) dX5_takesBranch_96 ?_
              refine x_bipush (v := 18) dX5_takesBranch_99 (by decide) ?_
              refine x_iconst (v := 0) dX5_takesBranch_101 (by decide) ?_
              refine y_callVI (rest := []) (c1 := 0) (s1 := 0) (c_Cod_add ω 20 hz_20 18 0 m18) mv_RX5_87 hz_20 rfl (Nat.le_of_ble_eq_true rfl) (Nat.succ_le_succ (Nat.le_trans (Nat.le_of_ble_eq_true rfl) hDn)) (Nat.le_of_ble_eq_true rfl) ⟨rfl, rfl⟩ ⟨(Nat.le_of_ble_eq_true rfl), (Nat.le_of_ble_eq_true rfl)⟩ dX5_takesBranch_102 (fun v23 m22 => ?_)
              refine y_join (fun j26 => ∀ (m25 : Mm), Sx ω ω true (Dn + 1) 0 0 kk_Par_takesBranch fI 0 0 m25 151 [none, none, none, none] [] (j26 m25)) ?_ (fun j26 hj26 => ?_)
              · intro m25
                refine x_iconst (v := 0) dX5_takesBranch_151 (by decide) ?_
                exact x_zret rfl rfl (zBo_nar (by decide)) ⟨(Nat.le_of_ble_eq_true rfl), (Nat.le_of_ble_eq_true rfl)⟩ dX5_takesBranch_152
              · refine x_if_eq (tgt := 151) dX5_takesBranch_105 (by decide) (fun hc24 => ?_) (fun hc24 => ?_)
                · refine y_mask (bs := [false, false, false, false]) (ls' := [none, none, none, none]) rfl ?_
                  exact hj26 _
                · refine x_aload_n dX5_takesBranch_108 rfl ?_
                  refine y_getF fl_RX5_14 hz_19 hq_19_0 (by rw [hz_20]; decide) dX5_takesBranch_109 ?_
                  refine x_iload_n dX5_takesBranch_112 rfl ?_
                  refine y_callVI (rest := []) (c1 := 0) (s1 := 0) (c_Cod_landHere ω 20 hz_20 v5 m22) mv_RX5_107 hz_20 rfl (Nat.le_of_ble_eq_true rfl) (Nat.succ_le_succ (Nat.le_trans (Nat.le_of_ble_eq_true rfl) hDn)) (Nat.le_of_ble_eq_true rfl) ⟨rfl, rfl⟩ ⟨(Nat.le_of_ble_eq_true rfl), (Nat.le_of_ble_eq_true rfl)⟩ dX5_takesBranch_113 (fun v28 m27 => ?_)
                  refine x_if_eq (tgt := 151) dX5_takesBranch_116 (by decide) (fun hc29 => ?_) (fun hc29 => ?_)
                  · refine y_mask (bs := [false, false, false, false]) (ls' := [none, none, none, none]) rfl ?_
                    exact hj26 _
                  · refine x_aload_n dX5_takesBranch_119 rfl ?_
                    refine x_iload_n dX5_takesBranch_120 rfl ?_
                    refine y_callVI (rest := []) (c1 := 0) (s1 := 0) (h_takesSteps p1 m27) mv_RX5_33 hz_19 rfl (Nat.le_of_ble_eq_true rfl) (Nat.le_refl _) (Nat.le_of_ble_eq_true rfl) ⟨rfl, rfl⟩ ⟨(Nat.le_of_ble_eq_true rfl), (Nat.le_of_ble_eq_true rfl)⟩ dX5_takesBranch_121 (fun v31 m30 => ?_)
                    refine x_if_eq (tgt := 151) dX5_takesBranch_124 (by decide) (fun hc32 => ?_) (fun hc32 => ?_)
                    · refine y_mask (bs := [false, false, false, false]) (ls' := [none, none, none, none]) rfl ?_
                      exact hj26 _
                    · refine x_aload_n dX5_takesBranch_127 rfl ?_
                      refine x_bipush (v := 125) dX5_takesBranch_128 (by decide) ?_
                      refine y_callVI (rest := []) (c1 := 0) (s1 := 0) (c_Par_takes ω 125 m30) mv_RX5_103 hz_19 rfl (Nat.le_of_ble_eq_true rfl) (Nat.succ_le_succ (Nat.le_trans (Nat.le_of_ble_eq_true rfl) hDn)) (Nat.le_of_ble_eq_true rfl) ⟨rfl, rfl⟩ ⟨(Nat.le_of_ble_eq_true rfl), (Nat.le_of_ble_eq_true rfl)⟩ dX5_takesBranch_130 (fun v34 m33 => ?_)
                      refine x_if_eq (tgt := 151) dX5_takesBranch_133 (by decide) (fun hc35 => ?_) (fun hc35 => ?_)
                      · refine y_mask (bs := [false, false, false, false]) (ls' := [none, none, none, none]) rfl ?_
                        exact hj26 _
                      · refine x_aload_n dX5_takesBranch_136 rfl ?_
                        refine y_getF fl_RX5_14 hz_19 hq_19_0 (by rw [hz_20]; decide) dX5_takesBranch_137 ?_
                        refine x_iload_n dX5_takesBranch_140 rfl ?_
                        refine y_callVI (rest := []) (c1 := 0) (s1 := 0) (c_Cod_landHere ω 20 hz_20 v21 m33) mv_RX5_107 hz_20 rfl (Nat.le_of_ble_eq_true rfl) (Nat.succ_le_succ (Nat.le_trans (Nat.le_of_ble_eq_true rfl) hDn)) (Nat.le_of_ble_eq_true rfl) ⟨rfl, rfl⟩ ⟨(Nat.le_of_ble_eq_true rfl), (Nat.le_of_ble_eq_true rfl)⟩ dX5_takesBranch_141 (fun v37 m36 => ?_)
                        refine x_if_eq (tgt := 151) dX5_takesBranch_144 (by decide) (fun hc38 => ?_) (fun hc38 => ?_)
                        · refine y_mask (bs := [false, false, false, false]) (ls' := [none, none, none, none]) rfl ?_
                          exact hj26 _
                        · refine x_iconst (v := 1) dX5_takesBranch_147 (by decide) ?_
                          refine x_goto (tgt := 152) dX5_takesBranch_148 (by decide) ?_
                          exact x_zret rfl rfl (zBo_nar (by decide)) ⟨(Nat.le_of_ble_eq_true rfl), (Nat.le_of_ble_eq_true rfl)⟩ dX5_takesBranch_152
abbrev kk_Par_takesLogic : Kx := (yX5_takesLogic.cls, cX5_takesLogic, 2, (some .boolean), [], false)
set_option maxHeartbeats 4000000 in
set_option maxRecDepth 100000 in
theorem c_Par_takesLogic (ω : Wd) (Dn : Nat) (hDn : 8 ≤ Dn) (c_takesLogic : Int32 → Mm → Option (Int32 × Mm)) (h_takesLogic : ∀ (y0 : Int32) (m : Mm), Ev ω true Dn 0 0 yX5_takesLogic cX5_takesLogic 2 (some .boolean) [.ref (zad ω 19), .int y0] m fI (c_takesLogic y0 m)) (c_takesPair : Int32 → Mm → Option (Int32 × Mm)) (h_takesPair : ∀ (y0 : Int32) (m : Mm), Ev ω true Dn 0 0 yX5_takesPair cX5_takesPair 4 (some .boolean) [.ref (zad ω 19), .int y0] m fI (c_takesPair y0 m)) (p1 : Int32) (m : Mm) : Ev ω true (Dn + 1) 0 0 yX5_takesLogic cX5_takesLogic 2 (some .boolean) [.ref (zad ω 19), .int p1] m fI (g_Par_takesLogic c_takesLogic c_takesPair p1 m) := by
  refine Ev.of (b := false) (ls := [some (.ref (zad ω 19)), some (.int p1)]) (plainFor_of_name (by decide +kernel)) (fun h => by cases h) rfl (Nat.le_of_ble_eq_true rfl) rfl ?_
  change Sx ω ω true (Dn + 1) 0 0 kk_Par_takesLogic fI 0 0 m 0 _ _ _
  unfold g_Par_takesLogic
  refine x_iload_n dX5_takesLogic_0 rfl ?_
  refine x_bipush (v := 41) dX5_takesLogic_1 (by decide) ?_
  refine x_icmp_le (tgt := 8) dX5_takesLogic_3 (by decide) (fun hc1 => ?_) (fun hc1 => ?_)
  · refine x_aload_n dX5_takesLogic_8 rfl ?_
    refine y_getR fl_RX5_21 hz_19 (by decide) dX5_takesLogic_9 (fun q2 hq2 => ?_)
    refine x_aload_n dX5_takesLogic_12 rfl ?_
    refine y_getI fl_RX5_37 hz_19 dX5_takesLogic_13 ?_
    refine y_callVP (rest := []) (c1 := 0) (s1 := 0) (c_Txt_at ω q2 hq2 (zI m 19 2) m) mv_RX5_55 hq2 rfl (Nat.le_of_ble_eq_true rfl) (Nat.succ_le_succ (Nat.le_trans (Nat.le_of_ble_eq_true rfl) hDn)) (Nat.le_of_ble_eq_true rfl) ⟨rfl, rfl⟩ ⟨(Nat.le_of_ble_eq_true rfl), (Nat.le_of_ble_eq_true rfl)⟩ dX5_takesLogic_16 (fun v3 => ?_)
    refine x_cases (c := v3 = 33) (fun hc4 => ?_) (fun hc4 => ?_)
    · refine x_lookup (tgt := 108) dX5_takesLogic_19 (by decide) (by rw [hc4] <;> decide) (by decide) ?_
      refine x_aload_n dX5_takesLogic_108 rfl ?_
      refine x_dup dX5_takesLogic_109 rfl ?_
      refine y_getI fl_RX5_37 hz_19 dX5_takesLogic_110 ?_
      refine x_iconst (v := 1) dX5_takesLogic_113 (by decide) ?_
      refine x_iadd dX5_takesLogic_114 ?_
      refine y_putI fp_RX5_37 hz_19 dX5_takesLogic_115 ?_
      refine y_letM (fun m5 => ?_)
      refine x_aload_n dX5_takesLogic_118 rfl ?_
      refine x_iload_n dX5_takesLogic_119 rfl ?_
      refine x_iconst (v := 1) dX5_takesLogic_120 (by decide) ?_
      refine x_iadd dX5_takesLogic_121 ?_
      refine y_callVI (rest := []) (c1 := 0) (s1 := 0) (h_takesLogic (p1 + 1) m5) mv_RX5_45 hz_19 rfl (Nat.le_of_ble_eq_true rfl) (Nat.le_refl _) (Nat.le_of_ble_eq_true rfl) ⟨rfl, rfl⟩ ⟨(Nat.le_of_ble_eq_true rfl), (Nat.le_of_ble_eq_true rfl)⟩ dX5_takesLogic_122 (fun v7 m6 => ?_)
      refine y_join (fun j10 => ∀ (m9 : Mm), Sx ω ω true (Dn + 1) 0 0 kk_Par_takesLogic fI 0 0 m9 145 [none, none] [] (j10 m9)) ?_ (fun j10 hj10 => ?_)
      · intro m9
        refine x_iconst (v := 0) dX5_takesLogic_145 (by decide) ?_
        exact x_zret rfl rfl (zBo_nar (by decide)) ⟨(Nat.le_of_ble_eq_true rfl), (Nat.le_of_ble_eq_true rfl)⟩ dX5_takesLogic_146
      · refine x_if_eq (tgt := 145) dX5_takesLogic_125 (by decide) (fun hc8 => ?_) (fun hc8 => ?_)
        · refine y_mask (bs := [false, false]) (ls' := [none, none]) rfl ?_
          exact hj10 _
        · refine x_aload_n dX5_takesLogic_128 rfl ?_
          refine y_getF fl_RX5_14 hz_19 hq_19_0 (by rw [hz_20]; decide) dX5_takesLogic_129 ?_
          refine x_bipush (v := 17) dX5_takesLogic_132 (by decide) ?_
          refine x_iconst (v := 0) dX5_takesLogic_134 (by decide) ?_
          refine y_callVI (rest := []) (c1 := 0) (s1 := 0) (c_Cod_add ω 20 hz_20 17 0 m6) mv_RX5_87 hz_20 rfl (Nat.le_of_ble_eq_true rfl) (Nat.succ_le_succ (Nat.le_trans (Nat.le_of_ble_eq_true rfl) hDn)) (Nat.le_of_ble_eq_true rfl) ⟨rfl, rfl⟩ ⟨(Nat.le_of_ble_eq_true rfl), (Nat.le_of_ble_eq_true rfl)⟩ dX5_takesLogic_135 (fun v12 m11 => ?_)
          refine x_if_eq (tgt := 145) dX5_takesLogic_138 (by decide) (fun hc13 => ?_) (fun hc13 => ?_)
          · refine y_mask (bs := [false, false]) (ls' := [none, none]) rfl ?_
            exact hj10 _
          · refine x_iconst (v := 1) dX5_takesLogic_141 (by decide) ?_
            refine x_goto (tgt := 146) dX5_takesLogic_142 (by decide) ?_
            exact x_zret rfl rfl (zBo_nar (by decide)) ⟨(Nat.le_of_ble_eq_true rfl), (Nat.le_of_ble_eq_true rfl)⟩ dX5_takesLogic_146
    · refine x_cases (c := v3 = 40) (fun hc14 => ?_) (fun hc14 => ?_)
      · refine x_lookup (tgt := 147) dX5_takesLogic_19 (by decide) (by rw [hc14] <;> decide) (by decide) ?_
        refine x_aload_n dX5_takesLogic_147 rfl ?_
        refine x_iload_n dX5_takesLogic_148 rfl ?_
        refine x_iconst (v := 1) dX5_takesLogic_149 (by decide) ?_
        refine x_iadd dX5_takesLogic_150 ?_
        refine y_callVI (rest := []) (c1 := 0) (s1 := 0) (h_takesPair (p1 + 1) m) mv_RX5_110 hz_19 rfl (Nat.le_of_ble_eq_true rfl) (Nat.le_refl _) (Nat.le_of_ble_eq_true rfl) ⟨rfl, rfl⟩ ⟨(Nat.le_of_ble_eq_true rfl), (Nat.le_of_ble_eq_true rfl)⟩ dX5_takesLogic_151 (fun v16 m15 => ?_)
        refine x_guard (fun hv => ?_)
        exact x_zret rfl rfl (zBo_nar hv) ⟨(Nat.le_of_ble_eq_true rfl), (Nat.le_of_ble_eq_true rfl)⟩ dX5_takesLogic_154
      · refine x_cases (c := v3 = 65) (fun hc17 => ?_) (fun hc17 => ?_)
        · refine x_lookup (tgt := 206) dX5_takesLogic_19 (by decide) (by rw [hc17] <;> decide) (by decide) ?_
          refine x_aload_n dX5_takesLogic_206 rfl ?_
          refine y_getI fl_RX5_48 hz_19 dX5_takesLogic_207 ?_
          refine y_join (fun j20 => ∀ (m19 : Mm), Sx ω ω true (Dn + 1) 0 0 kk_Par_takesLogic fI 0 0 m19 228 [none, none] [] (j20 m19)) ?_ (fun j20 hj20 => ?_)
          · intro m19
            refine x_iconst (v := 0) dX5_takesLogic_228 (by decide) ?_
            exact x_zret rfl rfl (zBo_nar (by decide)) ⟨(Nat.le_of_ble_eq_true rfl), (Nat.le_of_ble_eq_true rfl)⟩ dX5_takesLogic_229
          · refine x_if_eq (tgt := 228) dX5_takesLogic_210 (by decide) (fun hc18 => ?_) (fun hc18 => ?_)
            · refine y_mask (bs := [false, false]) (ls' := [none, none]) rfl ?_
              exact hj20 _
            · refine x_aload_n dX5_takesLogic_213 rfl ?_
              refine x_bipush (v := 15) dX5_takesLogic_214 (by decide) ?_
              refine x_ldcS (i := 3) rfl rfl dX5_takesLogic_216 ?_
              refine y_callVI (rest := []) (c1 := 0) (s1 := 0) (c_Par_takesPart ω 15 3 (by decide) m) mv_RX5_61 hz_19 rfl (Nat.le_of_ble_eq_true rfl) (Nat.succ_le_succ (Nat.le_trans (Nat.le_of_ble_eq_true rfl) hDn)) (Nat.le_of_ble_eq_true rfl) ⟨rfl, rfl⟩ ⟨(Nat.le_of_ble_eq_true rfl), (Nat.le_of_ble_eq_true rfl)⟩ dX5_takesLogic_218 (fun v22 m21 => ?_)
              refine x_if_eq (tgt := 228) dX5_takesLogic_221 (by decide) (fun hc23 => ?_) (fun hc23 => ?_)
              · refine y_mask (bs := [false, false]) (ls' := [none, none]) rfl ?_
                exact hj20 _
              · refine x_iconst (v := 1) dX5_takesLogic_224 (by decide) ?_
                refine x_goto (tgt := 229) dX5_takesLogic_225 (by decide) ?_
                exact x_zret rfl rfl (zBo_nar (by decide)) ⟨(Nat.le_of_ble_eq_true rfl), (Nat.le_of_ble_eq_true rfl)⟩ dX5_takesLogic_229
        · refine x_cases (c := v3 = 66) (fun hc24 => ?_) (fun hc24 => ?_)
          · refine x_lookup (tgt := 326) dX5_takesLogic_19 (by decide) (by rw [hc24] <;> decide) (by decide) ?_
            refine x_aload_n dX5_takesLogic_326 rfl ?_
            refine y_getI fl_RX5_48 hz_19 dX5_takesLogic_327 ?_
            refine y_join (fun j27 => ∀ (m26 : Mm), Sx ω ω true (Dn + 1) 0 0 kk_Par_takesLogic fI 0 0 m26 348 [none, none] [] (j27 m26)) ?_ (fun j27 hj27 => ?_)
            · intro m26
              refine x_iconst (v := 0) dX5_takesLogic_348 (by decide) ?_
              exact x_zret rfl rfl (zBo_nar (by decide)) ⟨(Nat.le_of_ble_eq_true rfl), (Nat.le_of_ble_eq_true rfl)⟩ dX5_takesLogic_349
            · refine x_if_ne (tgt := 348) dX5_takesLogic_330 (by decide) (fun hc25 => ?_) (fun hc25 => ?_)
              · refine x_aload_n dX5_takesLogic_333 rfl ?_
                refine x_bipush (v := 25) dX5_takesLogic_334 (by decide) ?_
                refine x_ldcS (i := 8) rfl rfl dX5_takesLogic_336 ?_
                refine y_callVI (rest := []) (c1 := 0) (s1 := 0) (c_Par_takesPart ω 25 8 (by decide) m) mv_RX5_61 hz_19 rfl (Nat.le_of_ble_eq_true rfl) (Nat.succ_le_succ (Nat.le_trans (Nat.le_of_ble_eq_true rfl) hDn)) (Nat.le_of_ble_eq_true rfl) ⟨rfl, rfl⟩ ⟨(Nat.le_of_ble_eq_true rfl), (Nat.le_of_ble_eq_true rfl)⟩ dX5_takesLogic_338 (fun v29 m28 => ?_)
                refine x_if_eq (tgt := 348) dX5_takesLogic_341 (by decide) (fun hc30 => ?_) (fun hc30 => ?_)
                · refine y_mask (bs := [false, false]) (ls' := [none, none]) rfl ?_
                  exact hj27 _
                · refine x_iconst (v := 1) dX5_takesLogic_344 (by decide) ?_
                  refine x_goto (tgt := 349) dX5_takesLogic_345 (by decide) ?_
                  exact x_zret rfl rfl (zBo_nar (by decide)) ⟨(Nat.le_of_ble_eq_true rfl), (Nat.le_of_ble_eq_true rfl)⟩ dX5_takesLogic_349
              · refine y_mask (bs := [false, false]) (ls' := [none, none]) rfl ?_
                exact hj27 _
          · refine x_cases (c := v3 = 67) (fun hc31 => ?_) (fun hc31 => ?_)
            · refine x_lookup (tgt := 254) dX5_takesLogic_19 (by decide) (by rw [hc31] <;> decide) (by decide) ?_
              refine x_aload_n dX5_takesLogic_254 rfl ?_
              refine y_getI fl_RX5_48 hz_19 dX5_takesLogic_255 ?_
              refine y_join (fun j34 => ∀ (m33 : Mm), Sx ω ω true (Dn + 1) 0 0 kk_Par_takesLogic fI 0 0 m33 276 [none, none] [] (j34 m33)) ?_ (fun j34 hj34 => ?_)
              · intro m33
                refine x_iconst (v := 0) dX5_takesLogic_276 (by decide) ?_
                exact x_zret rfl rfl (zBo_nar (by decide)) ⟨(Nat.le_of_ble_eq_true rfl), (Nat.le_of_ble_eq_true rfl)⟩ dX5_takesLogic_277
              · refine x_if_ne (tgt := 276) dX5_takesLogic_258 (by decide) (fun hc32 => ?_) (fun hc32 => ?_)
                · refine x_aload_n dX5_takesLogic_261 rfl ?_
                  refine x_bipush (v := 21) dX5_takesLogic_262 (by decide) ?_
                  refine x_ldcS (i := 5) rfl rfl dX5_takesLogic_264 ?_
                  refine y_callVI (rest := []) (c1 := 0) (s1 := 0) (c_Par_takesPart ω 21 5 (by decide) m) mv_RX5_61 hz_19 rfl (Nat.le_of_ble_eq_true rfl) (Nat.succ_le_succ (Nat.le_trans (Nat.le_of_ble_eq_true rfl) hDn)) (Nat.le_of_ble_eq_true rfl) ⟨rfl, rfl⟩ ⟨(Nat.le_of_ble_eq_true rfl), (Nat.le_of_ble_eq_true rfl)⟩ dX5_takesLogic_266 (fun v36 m35 => ?_)
                  refine x_if_eq (tgt := 276) dX5_takesLogic_269 (by decide) (fun hc37 => ?_) (fun hc37 => ?_)
                  · refine y_mask (bs := [false, false]) (ls' := [none, none]) rfl ?_
                    exact hj34 _
                  · refine x_iconst (v := 1) dX5_takesLogic_272 (by decide) ?_
                    refine x_goto (tgt := 277) dX5_takesLogic_273 (by decide) ?_
                    exact x_zret rfl rfl (zBo_nar (by decide)) ⟨(Nat.le_of_ble_eq_true rfl), (Nat.le_of_ble_eq_true rfl)⟩ dX5_takesLogic_277
                · refine y_mask (bs := [false, false]) (ls' := [none, none]) rfl ?_
                  exact hj34 _
            · refine x_cases (c := v3 = 68) (fun hc38 => ?_) (fun hc38 => ?_)
              · refine x_lookup (tgt := 278) dX5_takesLogic_19 (by decide) (by rw [hc38] <;> decide) (by decide) ?_
                refine x_aload_n dX5_takesLogic_278 rfl ?_
                refine y_getI fl_RX5_48 hz_19 dX5_takesLogic_279 ?_
                refine y_join (fun j41 => ∀ (m40 : Mm), Sx ω ω true (Dn + 1) 0 0 kk_Par_takesLogic fI 0 0 m40 300 [none, none] [] (j41 m40)) ?_ (fun j41 hj41 => ?_)
                · intro m40
                  refine x_iconst (v := 0) dX5_takesLogic_300 (by decide) ?_
                  exact x_zret rfl rfl (zBo_nar (by decide)) ⟨(Nat.le_of_ble_eq_true rfl), (Nat.le_of_ble_eq_true rfl)⟩ dX5_takesLogic_301
                · refine x_if_ne (tgt := 300) dX5_takesLogic_282 (by decide) (fun hc39 => ?_) (fun hc39 => ?_)
                  · refine x_aload_n dX5_takesLogic_285 rfl ?_
                    refine x_bipush (v := 22) dX5_takesLogic_286 (by decide) ?_
                    refine x_ldcS (i := 7) rfl rfl dX5_takesLogic_288 ?_
                    refine y_callVI (rest := []) (c1 := 0) (s1 := 0) (c_Par_takesPart ω 22 7 (by decide) m) mv_RX5_61 hz_19 rfl (Nat.le_of_ble_eq_true rfl) (Nat.succ_le_succ (Nat.le_trans (Nat.le_of_ble_eq_true rfl) hDn)) (Nat.le_of_ble_eq_true rfl) ⟨rfl, rfl⟩ ⟨(Nat.le_of_ble_eq_true rfl), (Nat.le_of_ble_eq_true rfl)⟩ dX5_takesLogic_290 (fun v43 m42 => ?_)
                    refine x_if_eq (tgt := 300) dX5_takesLogic_293 (by decide) (fun hc44 => ?_) (fun hc44 => ?_)
                    · refine y_mask (bs := [false, false]) (ls' := [none, none]) rfl ?_
                      exact hj41 _
                    · refine x_iconst (v := 1) dX5_takesLogic_296 (by decide) ?_
                      refine x_goto (tgt := 301) dX5_takesLogic_297 (by decide) ?_
                      exact x_zret rfl rfl (zBo_nar (by decide)) ⟨(Nat.le_of_ble_eq_true rfl), (Nat.le_of_ble_eq_true rfl)⟩ dX5_takesLogic_301
                  · refine y_mask (bs := [false, false]) (ls' := [none, none]) rfl ?_
                    exact hj41 _
              · refine x_cases (c := v3 = 69) (fun hc45 => ?_) (fun hc45 => ?_)
                · refine x_lookup (tgt := 230) dX5_takesLogic_19 (by decide) (by rw [hc45] <;> decide) (by decide) ?_
                  refine x_aload_n dX5_takesLogic_230 rfl ?_
                  refine y_getI fl_RX5_48 hz_19 dX5_takesLogic_231 ?_
                  refine y_join (fun j48 => ∀ (m47 : Mm), Sx ω ω true (Dn + 1) 0 0 kk_Par_takesLogic fI 0 0 m47 252 [none, none] [] (j48 m47)) ?_ (fun j48 hj48 => ?_)
                  · intro m47
                    refine x_iconst (v := 0) dX5_takesLogic_252 (by decide) ?_
                    exact x_zret rfl rfl (zBo_nar (by decide)) ⟨(Nat.le_of_ble_eq_true rfl), (Nat.le_of_ble_eq_true rfl)⟩ dX5_takesLogic_253
                  · refine x_if_eq (tgt := 252) dX5_takesLogic_234 (by decide) (fun hc46 => ?_) (fun hc46 => ?_)
                    · refine y_mask (bs := [false, false]) (ls' := [none, none]) rfl ?_
                      exact hj48 _
                    · refine x_aload_n dX5_takesLogic_237 rfl ?_
                      refine x_bipush (v := 16) dX5_takesLogic_238 (by decide) ?_
                      refine x_ldcS (i := 0) rfl rfl dX5_takesLogic_240 ?_
                      refine y_callVI (rest := []) (c1 := 0) (s1 := 0) (c_Par_takesPart ω 16 0 (by decide) m) mv_RX5_61 hz_19 rfl (Nat.le_of_ble_eq_true rfl) (Nat.succ_le_succ (Nat.le_trans (Nat.le_of_ble_eq_true rfl) hDn)) (Nat.le_of_ble_eq_true rfl) ⟨rfl, rfl⟩ ⟨(Nat.le_of_ble_eq_true rfl), (Nat.le_of_ble_eq_true rfl)⟩ dX5_takesLogic_242 (fun v50 m49 => ?_)
                      refine x_if_eq (tgt := 252) dX5_takesLogic_245 (by decide) (fun hc51 => ?_) (fun hc51 => ?_)
                      · refine y_mask (bs := [false, false]) (ls' := [none, none]) rfl ?_
                        exact hj48 _
                      · refine x_iconst (v := 1) dX5_takesLogic_248 (by decide) ?_
                        refine x_goto (tgt := 253) dX5_takesLogic_249 (by decide) ?_
                        exact x_zret rfl rfl (zBo_nar (by decide)) ⟨(Nat.le_of_ble_eq_true rfl), (Nat.le_of_ble_eq_true rfl)⟩ dX5_takesLogic_253
                · refine x_cases (c := v3 = 78) (fun hc52 => ?_) (fun hc52 => ?_)
                  · refine x_lookup (tgt := 302) dX5_takesLogic_19 (by decide) (by rw [hc52] <;> decide) (by decide) ?_
                    refine x_aload_n dX5_takesLogic_302 rfl ?_
                    refine y_getI fl_RX5_48 hz_19 dX5_takesLogic_303 ?_
                    refine y_join (fun j55 => ∀ (m54 : Mm), Sx ω ω true (Dn + 1) 0 0 kk_Par_takesLogic fI 0 0 m54 324 [none, none] [] (j55 m54)) ?_ (fun j55 hj55 => ?_)
                    · intro m54
                      refine x_iconst (v := 0) dX5_takesLogic_324 (by decide) ?_
                      exact x_zret rfl rfl (zBo_nar (by decide)) ⟨(Nat.le_of_ble_eq_true rfl), (Nat.le_of_ble_eq_true rfl)⟩ dX5_takesLogic_325
                    · refine x_if_ne (tgt := 324) dX5_takesLogic_306 (by decide) (fun hc53 => ?_) (fun hc53 => ?_)
                      · refine x_aload_n dX5_takesLogic_309 rfl ?_
                        refine x_bipush (v := 24) dX5_takesLogic_310 (by decide) ?_
                        refine x_ldcS (i := 3) rfl rfl dX5_takesLogic_312 ?_
                        refine y_callVI (rest := []) (c1 := 0) (s1 := 0) (c_Par_takesPart ω 24 3 (by decide) m) mv_RX5_61 hz_19 rfl (Nat.le_of_ble_eq_true rfl) (Nat.succ_le_succ (Nat.le_trans (Nat.le_of_ble_eq_true rfl) hDn)) (Nat.le_of_ble_eq_true rfl) ⟨rfl, rfl⟩ ⟨(Nat.le_of_ble_eq_true rfl), (Nat.le_of_ble_eq_true rfl)⟩ dX5_takesLogic_314 (fun v57 m56 => ?_)
                        refine x_if_eq (tgt := 324) dX5_takesLogic_317 (by decide) (fun hc58 => ?_) (fun hc58 => ?_)
                        · refine y_mask (bs := [false, false]) (ls' := [none, none]) rfl ?_
                          exact hj55 _
                        · refine x_iconst (v := 1) dX5_takesLogic_320 (by decide) ?_
                          refine x_goto (tgt := 325) dX5_takesLogic_321 (by decide) ?_
                          exact x_zret rfl rfl (zBo_nar (by decide)) ⟨(Nat.le_of_ble_eq_true rfl), (Nat.le_of_ble_eq_true rfl)⟩ dX5_takesLogic_325
                      · refine y_mask (bs := [false, false]) (ls' := [none, none]) rfl ?_
                        exact hj55 _
                  · refine x_cases (c := v3 = 87) (fun hc59 => ?_) (fun hc59 => ?_)
                    · refine x_lookup (tgt := 155) dX5_takesLogic_19 (by decide) (by rw [hc59] <;> decide) (by decide) ?_
                      refine x_aload_n dX5_takesLogic_155 rfl ?_
                      refine y_getI fl_RX5_48 hz_19 dX5_takesLogic_156 ?_
                      refine x_if_eq (tgt := 173) dX5_takesLogic_159 (by decide) (fun hc60 => ?_) (fun hc60 => ?_)
                      · refine x_aload_n dX5_takesLogic_173 rfl ?_
                        refine x_bipush (v := 23) dX5_takesLogic_174 (by decide) ?_
                        refine x_ldcS (i := 6) rfl rfl dX5_takesLogic_176 ?_
                        refine y_callVI (rest := []) (c1 := 0) (s1 := 0) (c_Par_takesPart ω 23 6 (by decide) m) mv_RX5_61 hz_19 rfl (Nat.le_of_ble_eq_true rfl) (Nat.succ_le_succ (Nat.le_trans (Nat.le_of_ble_eq_true rfl) hDn)) (Nat.le_of_ble_eq_true rfl) ⟨rfl, rfl⟩ ⟨(Nat.le_of_ble_eq_true rfl), (Nat.le_of_ble_eq_true rfl)⟩ dX5_takesLogic_178 (fun v62 m61 => ?_)
                        refine x_guard (fun hv => ?_)
                        exact x_zret rfl rfl (zBo_nar hv) ⟨(Nat.le_of_ble_eq_true rfl), (Nat.le_of_ble_eq_true rfl)⟩ dX5_takesLogic_181
                      · refine x_aload_n dX5_takesLogic_162 rfl ?_
                        refine x_bipush (v := 13) dX5_takesLogic_163 (by decide) ?_
                        refine x_ldcS (i := 4) rfl rfl dX5_takesLogic_165 ?_
                        refine y_callVI (rest := []) (c1 := 0) (s1 := 0) (c_Par_takesPart ω 13 4 (by decide) m) mv_RX5_61 hz_19 rfl (Nat.le_of_ble_eq_true rfl) (Nat.succ_le_succ (Nat.le_trans (Nat.le_of_ble_eq_true rfl) hDn)) (Nat.le_of_ble_eq_true rfl) ⟨rfl, rfl⟩ ⟨(Nat.le_of_ble_eq_true rfl), (Nat.le_of_ble_eq_true rfl)⟩ dX5_takesLogic_167 (fun v64 m63 => ?_)
                        refine x_goto (tgt := 181) dX5_takesLogic_170 (by decide) ?_
                        refine x_guard (fun hv => ?_)
                        exact x_zret rfl rfl (zBo_nar hv) ⟨(Nat.le_of_ble_eq_true rfl), (Nat.le_of_ble_eq_true rfl)⟩ dX5_takesLogic_181
                    · refine x_cases (c := v3 = 89) (fun hc65 => ?_) (fun hc65 => ?_)
                      · refine x_lookup (tgt := 182) dX5_takesLogic_19 (by decide) (by rw [hc65] <;> decide) (by decide) ?_
                        refine x_aload_n dX5_takesLogic_182 rfl ?_
                        refine y_getI fl_RX5_48 hz_19 dX5_takesLogic_183 ?_
                        refine y_join (fun j68 => ∀ (m67 : Mm), Sx ω ω true (Dn + 1) 0 0 kk_Par_takesLogic fI 0 0 m67 204 [none, none] [] (j68 m67)) ?_ (fun j68 hj68 => ?_)
                        · intro m67
                          refine x_iconst (v := 0) dX5_takesLogic_204 (by decide) ?_
                          exact x_zret rfl rfl (zBo_nar (by decide)) ⟨(Nat.le_of_ble_eq_true rfl), (Nat.le_of_ble_eq_true rfl)⟩ dX5_takesLogic_205
                        · refine x_if_eq (tgt := 204) dX5_takesLogic_186 (by decide) (fun hc66 => ?_) (fun hc66 => ?_)
                          · refine y_mask (bs := [false, false]) (ls' := [none, none]) rfl ?_
                            exact hj68 _
                          · refine x_aload_n dX5_takesLogic_189 rfl ?_
                            refine x_bipush (v := 14) dX5_takesLogic_190 (by decide) ?_
                            refine x_ldcS (i := 5) rfl rfl dX5_takesLogic_192 ?_
                            refine y_callVI (rest := []) (c1 := 0) (s1 := 0) (c_Par_takesPart ω 14 5 (by decide) m) mv_RX5_61 hz_19 rfl (Nat.le_of_ble_eq_true rfl) (Nat.succ_le_succ (Nat.le_trans (Nat.le_of_ble_eq_true rfl) hDn)) (Nat.le_of_ble_eq_true rfl) ⟨rfl, rfl⟩ ⟨(Nat.le_of_ble_eq_true rfl), (Nat.le_of_ble_eq_true rfl)⟩ dX5_takesLogic_194 (fun v70 m69 => ?_)
                            refine x_if_eq (tgt := 204) dX5_takesLogic_197 (by decide) (fun hc71 => ?_) (fun hc71 => ?_)
                            · refine y_mask (bs := [false, false]) (ls' := [none, none]) rfl ?_
                              exact hj68 _
                            · refine x_iconst (v := 1) dX5_takesLogic_200 (by decide) ?_
                              refine x_goto (tgt := 205) dX5_takesLogic_201 (by decide) ?_
                              exact x_zret rfl rfl (zBo_nar (by decide)) ⟨(Nat.le_of_ble_eq_true rfl), (Nat.le_of_ble_eq_true rfl)⟩ dX5_takesLogic_205
                      · refine x_lookup (tgt := 350) dX5_takesLogic_19 (by decide) (zsw_n [33, 40, 65, 66, 67, 68, 69, 78, 87, 89] (by decide +kernel) (zfc hc4 (zfc hc14 (zfc hc17 (zfc hc24 (zfc hc31 (zfc hc38 (zfc hc45 (zfc hc52 (zfc hc59 (zfc hc65 zfn))))))))))) (by decide) ?_
                        refine x_iconst (v := 0) dX5_takesLogic_350 (by decide) ?_
                        exact x_zret rfl rfl (zBo_nar (by decide)) ⟨(Nat.le_of_ble_eq_true rfl), (Nat.le_of_ble_eq_true rfl)⟩ dX5_takesLogic_351
  · refine x_iconst (v := 0) dX5_takesLogic_6 (by decide) ?_
    exact x_zret rfl rfl (zBo_nar (by decide)) ⟨(Nat.le_of_ble_eq_true rfl), (Nat.le_of_ble_eq_true rfl)⟩ dX5_takesLogic_7
abbrev kk_Par_takesPair : Kx := (yX5_takesPair.cls, cX5_takesPair, 4, (some .boolean), [], false)
set_option maxHeartbeats 4000000 in
set_option maxRecDepth 100000 in
theorem c_Par_takesPair (ω : Wd) (Dn : Nat) (hDn : 8 ≤ Dn) (c_takesLogic : Int32 → Mm → Option (Int32 × Mm)) (h_takesLogic : ∀ (y0 : Int32) (m : Mm), Ev ω true Dn 0 0 yX5_takesLogic cX5_takesLogic 2 (some .boolean) [.ref (zad ω 19), .int y0] m fI (c_takesLogic y0 m)) (p1 : Int32) (m : Mm) : Ev ω true (Dn + 1) 0 0 yX5_takesPair cX5_takesPair 4 (some .boolean) [.ref (zad ω 19), .int p1] m fI (g_Par_takesPair c_takesLogic p1 m) := by
  refine Ev.of (b := false) (ls := [some (.ref (zad ω 19)), some (.int p1), none, none]) (plainFor_of_name (by decide +kernel)) (fun h => by cases h) rfl (Nat.le_of_ble_eq_true rfl) rfl ?_
  change Sx ω ω true (Dn + 1) 0 0 kk_Par_takesPair fI 0 0 m 0 _ _ _
  unfold g_Par_takesPair
  refine x_aload_n dX5_takesPair_0 rfl ?_
  refine x_dup dX5_takesPair_1 rfl ?_
  refine y_getI fl_RX5_37 hz_19 dX5_takesPair_2 ?_
  refine x_iconst (v := 1) dX5_takesPair_5 (by decide) ?_
  refine x_iadd dX5_takesPair_6 ?_
  refine y_putI fp_RX5_37 hz_19 dX5_takesPair_7 ?_
  refine y_letM (fun m1 => ?_)
  refine x_aload_n dX5_takesPair_10 rfl ?_
  refine x_iload_n dX5_takesPair_11 rfl ?_
  refine y_callVI (rest := []) (c1 := 0) (s1 := 0) (h_takesLogic p1 m1) mv_RX5_45 hz_19 rfl (Nat.le_of_ble_eq_true rfl) (Nat.le_refl _) (Nat.le_of_ble_eq_true rfl) ⟨rfl, rfl⟩ ⟨(Nat.le_of_ble_eq_true rfl), (Nat.le_of_ble_eq_true rfl)⟩ dX5_takesPair_12 (fun v3 m2 => ?_)
  refine x_if_ne (tgt := 20) dX5_takesPair_15 (by decide) (fun hc4 => ?_) (fun hc4 => ?_)
  · refine x_iconst (v := 0) dX5_takesPair_18 (by decide) ?_
    exact x_zret rfl rfl (zBo_nar (by decide)) ⟨(Nat.le_of_ble_eq_true rfl), (Nat.le_of_ble_eq_true rfl)⟩ dX5_takesPair_19
  · refine x_aload_n dX5_takesPair_20 rfl ?_
    refine x_bipush (v := 38) dX5_takesPair_21 (by decide) ?_
    refine y_callVI (rest := []) (c1 := 0) (s1 := 0) (c_Par_takes ω 38 m2) mv_RX5_103 hz_19 rfl (Nat.le_of_ble_eq_true rfl) (Nat.succ_le_succ (Nat.le_trans (Nat.le_of_ble_eq_true rfl) hDn)) (Nat.le_of_ble_eq_true rfl) ⟨rfl, rfl⟩ ⟨(Nat.le_of_ble_eq_true rfl), (Nat.le_of_ble_eq_true rfl)⟩ dX5_takesPair_23 (fun v6 m5 => ?_)
    refine x_istore_n (ls' := [some (.ref (zad ω 19)), some (.int p1), some (.int v6), none]) dX5_takesPair_26 (Nat.le_of_ble_eq_true rfl) rfl ?_
    refine x_iload_n dX5_takesPair_27 rfl ?_
    refine y_join (fun j9 => ∀ (m8 : Mm), Sx ω ω true (Dn + 1) 0 0 kk_Par_takesPair fI 0 0 m8 42 [some (.ref (zad ω 19)), some (.int p1), some (.int v6), none] [] (j9 m8)) ?_ (fun j9 hj9 => ?_)
    · intro m8
      refine x_aload_n dX5_takesPair_42 rfl ?_
      refine y_getF fl_RX5_14 hz_19 hq_19_0 (by rw [hz_20]; decide) dX5_takesPair_43 ?_
      refine y_callVP (rest := []) (c1 := 0) (s1 := 0) (c_Cod_size ω 20 hz_20 m8) mv_RX5_100 hz_20 rfl (Nat.le_of_ble_eq_true rfl) (Nat.succ_le_succ (Nat.le_trans (Nat.le_of_ble_eq_true rfl) hDn)) (Nat.le_of_ble_eq_true rfl) ⟨rfl, rfl⟩ ⟨(Nat.le_of_ble_eq_true rfl), (Nat.le_of_ble_eq_true rfl)⟩ dX5_takesPair_46 (fun v10 => ?_)
      refine x_istore_n (ls' := [some (.ref (zad ω 19)), some (.int p1), some (.int v6), some (.int v10)]) dX5_takesPair_49 (Nat.le_of_ble_eq_true rfl) rfl ?_
      refine x_aload_n dX5_takesPair_50 rfl ?_
      refine y_getF fl_RX5_14 hz_19 hq_19_0 (by rw [hz_20]; decide) dX5_takesPair_51 ?_
      refine x_iload_n dX5_takesPair_54 rfl ?_
      refine y_join (fun j13 => ∀ (x12 : Int32), Sx ω ω true (Dn + 1) 0 0 kk_Par_takesPair fI 0 0 m8 65 [some (.ref (zad ω 19)), some (.int p1), none, some (.int v10)] [.int x12, .ref (zad ω 20)] (j13 x12)) ?_ (fun j13 hj13 => ?_)
      · intro x12
        refine x_iconst (v := 0) dX5_takesPair_65 (by decide) ?_
        refine y_callVI (rest := []) (c1 := 0) (s1 := 0) (c_Cod_add ω 20 hz_20 x12 0 m8) mv_RX5_87 hz_20 rfl (Nat.le_of_ble_eq_true rfl) (Nat.succ_le_succ (Nat.le_trans (Nat.le_of_ble_eq_true rfl) hDn)) (Nat.le_of_ble_eq_true rfl) ⟨rfl, rfl⟩ ⟨(Nat.le_of_ble_eq_true rfl), (Nat.le_of_ble_eq_true rfl)⟩ dX5_takesPair_66 (fun v15 m14 => ?_)
        refine y_join (fun j18 => ∀ (m17 : Mm), Sx ω ω true (Dn + 1) 0 0 kk_Par_takesPair fI 0 0 m17 104 [none, none, none, none] [] (j18 m17)) ?_ (fun j18 hj18 => ?_)
        · intro m17
          refine x_iconst (v := 0) dX5_takesPair_104 (by decide) ?_
          exact x_zret rfl rfl (zBo_nar (by decide)) ⟨(Nat.le_of_ble_eq_true rfl), (Nat.le_of_ble_eq_true rfl)⟩ dX5_takesPair_105
        · refine x_if_eq (tgt := 104) dX5_takesPair_69 (by decide) (fun hc16 => ?_) (fun hc16 => ?_)
          · refine y_mask (bs := [false, false, false, false]) (ls' := [none, none, none, none]) rfl ?_
            exact hj18 _
          · refine x_aload_n dX5_takesPair_72 rfl ?_
            refine x_iload_n dX5_takesPair_73 rfl ?_
            refine y_callVI (rest := []) (c1 := 0) (s1 := 0) (h_takesLogic p1 m14) mv_RX5_45 hz_19 rfl (Nat.le_of_ble_eq_true rfl) (Nat.le_refl _) (Nat.le_of_ble_eq_true rfl) ⟨rfl, rfl⟩ ⟨(Nat.le_of_ble_eq_true rfl), (Nat.le_of_ble_eq_true rfl)⟩ dX5_takesPair_74 (fun v20 m19 => ?_)
            refine x_if_eq (tgt := 104) dX5_takesPair_77 (by decide) (fun hc21 => ?_) (fun hc21 => ?_)
            · refine y_mask (bs := [false, false, false, false]) (ls' := [none, none, none, none]) rfl ?_
              exact hj18 _
            · refine x_aload_n dX5_takesPair_80 rfl ?_
              refine x_bipush (v := 41) dX5_takesPair_81 (by decide) ?_
              refine y_callVI (rest := []) (c1 := 0) (s1 := 0) (c_Par_takes ω 41 m19) mv_RX5_103 hz_19 rfl (Nat.le_of_ble_eq_true rfl) (Nat.succ_le_succ (Nat.le_trans (Nat.le_of_ble_eq_true rfl) hDn)) (Nat.le_of_ble_eq_true rfl) ⟨rfl, rfl⟩ ⟨(Nat.le_of_ble_eq_true rfl), (Nat.le_of_ble_eq_true rfl)⟩ dX5_takesPair_83 (fun v23 m22 => ?_)
              refine x_if_eq (tgt := 104) dX5_takesPair_86 (by decide) (fun hc24 => ?_) (fun hc24 => ?_)
              · refine y_mask (bs := [false, false, false, false]) (ls' := [none, none, none, none]) rfl ?_
                exact hj18 _
              · refine x_aload_n dX5_takesPair_89 rfl ?_
                refine y_getF fl_RX5_14 hz_19 hq_19_0 (by rw [hz_20]; decide) dX5_takesPair_90 ?_
                refine x_iload_n dX5_takesPair_93 rfl ?_
                refine y_callVI (rest := []) (c1 := 0) (s1 := 0) (c_Cod_landHere ω 20 hz_20 v10 m22) mv_RX5_107 hz_20 rfl (Nat.le_of_ble_eq_true rfl) (Nat.succ_le_succ (Nat.le_trans (Nat.le_of_ble_eq_true rfl) hDn)) (Nat.le_of_ble_eq_true rfl) ⟨rfl, rfl⟩ ⟨(Nat.le_of_ble_eq_true rfl), (Nat.le_of_ble_eq_true rfl)⟩ dX5_takesPair_94 (fun v26 m25 => ?_)
                refine x_if_eq (tgt := 104) dX5_takesPair_97 (by decide) (fun hc27 => ?_) (fun hc27 => ?_)
                · refine y_mask (bs := [false, false, false, false]) (ls' := [none, none, none, none]) rfl ?_
                  exact hj18 _
                · refine x_iconst (v := 1) dX5_takesPair_100 (by decide) ?_
                  refine x_goto (tgt := 105) dX5_takesPair_101 (by decide) ?_
                  exact x_zret rfl rfl (zBo_nar (by decide)) ⟨(Nat.le_of_ble_eq_true rfl), (Nat.le_of_ble_eq_true rfl)⟩ dX5_takesPair_105
      · refine x_if_eq (tgt := 63) dX5_takesPair_55 (by decide) (fun hc11 => ?_) (fun hc11 => ?_)
        · refine x_bipush (v := 20) dX5_takesPair_63 (by decide) ?_
          refine y_mask (bs := [true, true, false, true]) (ls' := [some (.ref (zad ω 19)), some (.int p1), none, some (.int v10)]) rfl ?_
          exact hj13 _
        · refine x_bipush (v := 19) dX5_takesPair_58 (by decide) ?_
          refine x_goto (tgt := 65) dX5_takesPair_60 (by decide) ?_
          refine y_mask (bs := [true, true, false, true]) (ls' := [some (.ref (zad ω 19)), some (.int p1), none, some (.int v10)]) rfl ?_
          exact hj13 _
    · refine x_if_ne (tgt := 42) dX5_takesPair_28 (by decide) (fun hc7 => ?_) (fun hc7 => ?_)
      · refine x_aload_n dX5_takesPair_31 rfl ?_
        refine x_bipush (v := 124) dX5_takesPair_32 (by decide) ?_
        refine y_callVI (rest := []) (c1 := 0) (s1 := 0) (c_Par_takes ω 124 m5) mv_RX5_103 hz_19 rfl (Nat.le_of_ble_eq_true rfl) (Nat.succ_le_succ (Nat.le_trans (Nat.le_of_ble_eq_true rfl) hDn)) (Nat.le_of_ble_eq_true rfl) ⟨rfl, rfl⟩ ⟨(Nat.le_of_ble_eq_true rfl), (Nat.le_of_ble_eq_true rfl)⟩ dX5_takesPair_34 (fun v29 m28 => ?_)
        refine x_if_ne (tgt := 42) dX5_takesPair_37 (by decide) (fun hc30 => ?_) (fun hc30 => ?_)
        · refine x_iconst (v := 0) dX5_takesPair_40 (by decide) ?_
          exact x_zret rfl rfl (zBo_nar (by decide)) ⟨(Nat.le_of_ble_eq_true rfl), (Nat.le_of_ble_eq_true rfl)⟩ dX5_takesPair_41
        · exact hj9 _
      · exact hj9 _
theorem ct_Par_all (ω : Wd) : ∀ n : Nat, (∀ (y0 : Int32) (m : Mm), Ev ω true (8 + n) 0 0 yX5_takesSteps cX5_takesSteps 4 (some .boolean) [.ref (zad ω 19), .int y0] m fI ((zP_Par n).1 y0 m)) ∧ (∀ (y0 : Int32) (m : Mm), Ev ω true (8 + n) 0 0 yX5_takesBranch cX5_takesBranch 4 (some .boolean) [.ref (zad ω 19), .int y0] m fI ((zP_Par n).2.1 y0 m)) ∧ (∀ (y0 : Int32) (m : Mm), Ev ω true (8 + n) 0 0 yX5_takesLogic cX5_takesLogic 2 (some .boolean) [.ref (zad ω 19), .int y0] m fI ((zP_Par n).2.2.1 y0 m)) ∧ (∀ (y0 : Int32) (m : Mm), Ev ω true (8 + n) 0 0 yX5_takesPair cX5_takesPair 4 (some .boolean) [.ref (zad ω 19), .int y0] m fI ((zP_Par n).2.2.2 y0 m)) := by
  intro n
  induction n with
  | zero => exact ⟨fun _ _ r hr => absurd (show none = some r from hr) (fun h => nomatch h), fun _ _ r hr => absurd (show none = some r from hr) (fun h => nomatch h), fun _ _ r hr => absurd (show none = some r from hr) (fun h => nomatch h), fun _ _ r hr => absurd (show none = some r from hr) (fun h => nomatch h)⟩
  | succ n ih =>
    exact ⟨c_Par_takesSteps ω (8 + n) (Nat.le_add_right _ _) _ (ih.2.1), c_Par_takesBranch ω (8 + n) (Nat.le_add_right _ _) _ (ih.2.2.1) _ (ih.1), c_Par_takesLogic ω (8 + n) (Nat.le_add_right _ _) _ (ih.2.2.1) _ (ih.2.2.2), c_Par_takesPair ω (8 + n) (Nat.le_add_right _ _) _ (ih.2.2.1)⟩
theorem ct_Par_takesSteps (ω : Wd) : ∀ (y0 : Int32) (m : Mm), Ev ω true (108) 0 0 yX5_takesSteps cX5_takesSteps 4 (some .boolean) [.ref (zad ω 19), .int y0] m fI (f_Par_takesSteps y0 m) := (ct_Par_all ω 100).1
theorem ct_Par_takesBranch (ω : Wd) : ∀ (y0 : Int32) (m : Mm), Ev ω true (108) 0 0 yX5_takesBranch cX5_takesBranch 4 (some .boolean) [.ref (zad ω 19), .int y0] m fI (f_Par_takesBranch y0 m) := (ct_Par_all ω 100).2.1
theorem ct_Par_takesLogic (ω : Wd) : ∀ (y0 : Int32) (m : Mm), Ev ω true (108) 0 0 yX5_takesLogic cX5_takesLogic 2 (some .boolean) [.ref (zad ω 19), .int y0] m fI (f_Par_takesLogic y0 m) := (ct_Par_all ω 100).2.2.1
theorem ct_Par_takesPair (ω : Wd) : ∀ (y0 : Int32) (m : Mm), Ev ω true (108) 0 0 yX5_takesPair cX5_takesPair 4 (some .boolean) [.ref (zad ω 19), .int y0] m fI (f_Par_takesPair y0 m) := (ct_Par_all ω 100).2.2.2
abbrev kk_Par_readRule : Kx := (yX5_readRule.cls, cX5_readRule, 2, (some .int), [], false)
set_option maxHeartbeats 4000000 in
set_option maxRecDepth 100000 in
theorem c_Par_readRule (ω : Wd) (o1 : Nat) (ho1 : zT o1 = 8) (m : Mm) : Ev ω true 109 0 0 yX5_readRule cX5_readRule 2 (some .int) [.ref (zad ω 19), .ref (zad ω o1)] m fI (f_Par_readRule o1 m) := by
  refine Ev.of (b := false) (ls := [some (.ref (zad ω 19)), some (.ref (zad ω o1))]) (plainFor_of_name (by decide +kernel)) (fun h => by cases h) rfl (Nat.le_of_ble_eq_true rfl) rfl ?_
  change Sx ω ω true 109 0 0 kk_Par_readRule fI 0 0 m 0 _ _ _
  unfold f_Par_readRule
  refine x_aload_n dX5_readRule_0 rfl ?_
  refine x_aload_n dX5_readRule_1 rfl ?_
  refine x_iconst (v := 1) dX5_readRule_2 (by decide) ?_
  refine y_callVV (rest := []) (c1 := 0) (s1 := 0) (c_Par_startOn ω o1 ho1 1 m) mv_RX5_25 hz_19 rfl (Nat.le_of_ble_eq_true rfl) (Nat.le_of_ble_eq_true rfl) (Nat.le_of_ble_eq_true rfl) ⟨rfl, rfl⟩ ⟨(Nat.le_of_ble_eq_true rfl), (Nat.le_of_ble_eq_true rfl)⟩ dX5_readRule_3 (fun m1 => ?_)
  refine x_aload_n dX5_readRule_6 rfl ?_
  refine y_callVI (rest := []) (c1 := 0) (s1 := 0) (c_Par_takesStart ω m1) mv_RX5_29 hz_19 rfl (Nat.le_of_ble_eq_true rfl) (Nat.le_of_ble_eq_true rfl) (Nat.le_of_ble_eq_true rfl) ⟨rfl, rfl⟩ ⟨(Nat.le_of_ble_eq_true rfl), (Nat.le_of_ble_eq_true rfl)⟩ dX5_readRule_7 (fun v3 m2 => ?_)
  refine y_join (fun j6 => ∀ (m5 : Mm), Sx ω ω true 109 0 0 kk_Par_readRule fI 0 0 m5 39 [some (.ref (zad ω 19)), none] [] (j6 m5)) ?_ (fun j6 hj6 => ?_)
  · intro m5
    refine x_aload_n dX5_readRule_39 rfl ?_
    refine y_getI fl_RX5_37 hz_19 dX5_readRule_40 ?_
    exact x_iret rfl rfl ⟨(Nat.le_of_ble_eq_true rfl), (Nat.le_of_ble_eq_true rfl)⟩ dX5_readRule_43
  · refine x_if_eq (tgt := 39) dX5_readRule_10 (by decide) (fun hc4 => ?_) (fun hc4 => ?_)
    · refine y_mask (bs := [true, false]) (ls' := [some (.ref (zad ω 19)), none]) rfl ?_
      exact hj6 _
    · refine x_aload_n dX5_readRule_13 rfl ?_
      refine x_iconst (v := 0) dX5_readRule_14 (by decide) ?_
      refine y_callVI (rest := []) (c1 := 0) (s1 := 0) (ct_Par_takesSteps ω 0 m2) mv_RX5_33 hz_19 rfl (Nat.le_of_ble_eq_true rfl) (Nat.le_of_ble_eq_true rfl) (Nat.le_of_ble_eq_true rfl) ⟨rfl, rfl⟩ ⟨(Nat.le_of_ble_eq_true rfl), (Nat.le_of_ble_eq_true rfl)⟩ dX5_readRule_15 (fun v8 m7 => ?_)
      refine x_if_eq (tgt := 39) dX5_readRule_18 (by decide) (fun hc9 => ?_) (fun hc9 => ?_)
      · refine y_mask (bs := [true, false]) (ls' := [some (.ref (zad ω 19)), none]) rfl ?_
        exact hj6 _
      · refine x_aload_n dX5_readRule_21 rfl ?_
        refine y_getI fl_RX5_37 hz_19 dX5_readRule_22 ?_
        refine x_aload_n dX5_readRule_25 rfl ?_
        refine y_getR fl_RX5_21 hz_19 (by decide) dX5_readRule_26 (fun q10 hq10 => ?_)
        refine y_callVP (rest := [.int (zI m7 19 2)]) (c1 := 0) (s1 := 0) (c_Txt_length ω q10 hq10 m7) mv_RX5_41 hq10 rfl (Nat.le_of_ble_eq_true rfl) (Nat.le_of_ble_eq_true rfl) (Nat.le_of_ble_eq_true rfl) ⟨rfl, rfl⟩ ⟨(Nat.le_of_ble_eq_true rfl), (Nat.le_of_ble_eq_true rfl)⟩ dX5_readRule_29 (fun v11 => ?_)
        refine x_icmp_ne (tgt := 39) dX5_readRule_32 (by decide) (fun hc12 => ?_) (fun hc12 => ?_)
        · refine x_iconst (v := (-1)) dX5_readRule_35 (by decide) ?_
          refine x_goto (tgt := 43) dX5_readRule_36 (by decide) ?_
          exact x_iret rfl rfl ⟨(Nat.le_of_ble_eq_true rfl), (Nat.le_of_ble_eq_true rfl)⟩ dX5_readRule_43
        · refine y_mask (bs := [true, false]) (ls' := [some (.ref (zad ω 19)), none]) rfl ?_
          exact hj6 _
abbrev kk_Par_readQuestion : Kx := (yX5_readQuestion.cls, cX5_readQuestion, 2, (some .int), [], false)
set_option maxHeartbeats 4000000 in
set_option maxRecDepth 100000 in
theorem c_Par_readQuestion (ω : Wd) (o1 : Nat) (ho1 : zT o1 = 8) (m : Mm) : Ev ω true 109 0 0 yX5_readQuestion cX5_readQuestion 2 (some .int) [.ref (zad ω 19), .ref (zad ω o1)] m fI (f_Par_readQuestion o1 m) := by
  refine Ev.of (b := false) (ls := [some (.ref (zad ω 19)), some (.ref (zad ω o1))]) (plainFor_of_name (by decide +kernel)) (fun h => by cases h) rfl (Nat.le_of_ble_eq_true rfl) rfl ?_
  change Sx ω ω true 109 0 0 kk_Par_readQuestion fI 0 0 m 0 _ _ _
  unfold f_Par_readQuestion
  refine x_aload_n dX5_readQuestion_0 rfl ?_
  refine x_aload_n dX5_readQuestion_1 rfl ?_
  refine x_iconst (v := 0) dX5_readQuestion_2 (by decide) ?_
  refine y_callVV (rest := []) (c1 := 0) (s1 := 0) (c_Par_startOn ω o1 ho1 0 m) mv_RX5_25 hz_19 rfl (Nat.le_of_ble_eq_true rfl) (Nat.le_of_ble_eq_true rfl) (Nat.le_of_ble_eq_true rfl) ⟨rfl, rfl⟩ ⟨(Nat.le_of_ble_eq_true rfl), (Nat.le_of_ble_eq_true rfl)⟩ dX5_readQuestion_3 (fun m1 => ?_)
  refine x_aload_n dX5_readQuestion_6 rfl ?_
  refine x_iconst (v := 0) dX5_readQuestion_7 (by decide) ?_
  refine y_callVI (rest := []) (c1 := 0) (s1 := 0) (ct_Par_takesLogic ω 0 m1) mv_RX5_45 hz_19 rfl (Nat.le_of_ble_eq_true rfl) (Nat.le_of_ble_eq_true rfl) (Nat.le_of_ble_eq_true rfl) ⟨rfl, rfl⟩ ⟨(Nat.le_of_ble_eq_true rfl), (Nat.le_of_ble_eq_true rfl)⟩ dX5_readQuestion_8 (fun v3 m2 => ?_)
  refine y_join (fun j5 => Sx ω ω true 109 0 0 kk_Par_readQuestion fI 0 0 m2 32 [some (.ref (zad ω 19)), none] [] j5) ?_ (fun j5 hj5 => ?_)
  · refine x_aload_n dX5_readQuestion_32 rfl ?_
    refine y_getI fl_RX5_37 hz_19 dX5_readQuestion_33 ?_
    exact x_iret rfl rfl ⟨(Nat.le_of_ble_eq_true rfl), (Nat.le_of_ble_eq_true rfl)⟩ dX5_readQuestion_36
  · refine x_if_eq (tgt := 32) dX5_readQuestion_11 (by decide) (fun hc4 => ?_) (fun hc4 => ?_)
    · refine y_mask (bs := [true, false]) (ls' := [some (.ref (zad ω 19)), none]) rfl ?_
      exact hj5
    · refine x_aload_n dX5_readQuestion_14 rfl ?_
      refine y_getI fl_RX5_37 hz_19 dX5_readQuestion_15 ?_
      refine x_aload_n dX5_readQuestion_18 rfl ?_
      refine y_getR fl_RX5_21 hz_19 (by decide) dX5_readQuestion_19 (fun q6 hq6 => ?_)
      refine y_callVP (rest := [.int (zI m2 19 2)]) (c1 := 0) (s1 := 0) (c_Txt_length ω q6 hq6 m2) mv_RX5_41 hq6 rfl (Nat.le_of_ble_eq_true rfl) (Nat.le_of_ble_eq_true rfl) (Nat.le_of_ble_eq_true rfl) ⟨rfl, rfl⟩ ⟨(Nat.le_of_ble_eq_true rfl), (Nat.le_of_ble_eq_true rfl)⟩ dX5_readQuestion_22 (fun v7 => ?_)
      refine x_icmp_ne (tgt := 32) dX5_readQuestion_25 (by decide) (fun hc8 => ?_) (fun hc8 => ?_)
      · refine x_iconst (v := (-1)) dX5_readQuestion_28 (by decide) ?_
        refine x_goto (tgt := 36) dX5_readQuestion_29 (by decide) ?_
        exact x_iret rfl rfl ⟨(Nat.le_of_ble_eq_true rfl), (Nat.le_of_ble_eq_true rfl)⟩ dX5_readQuestion_36
      · refine y_mask (bs := [true, false]) (ls' := [some (.ref (zad ω 19)), none]) rfl ?_
        exact hj5
abbrev kk_Par_code : Kx := (yX5_code.cls, cX5_code, 1, (some (.object "AlmanacLoom$Code")), [], false)
set_option maxHeartbeats 4000000 in
set_option maxRecDepth 100000 in
theorem c_Par_code (ω : Wd) (m : Mm) : Ev ω true 1 0 0 yX5_code cX5_code 1 (some (.object "AlmanacLoom$Code")) [.ref (zad ω 19)] m (fPR ω m) (f_Par_code m) := by
  refine Ev.of (b := false) (ls := [some (.ref (zad ω 19))]) (plainFor_of_name (by decide +kernel)) (fun h => by cases h) rfl (Nat.le_of_ble_eq_true rfl) rfl ?_
  change Sx ω ω true 1 0 0 kk_Par_code (fPR ω m) 0 0 m 0 _ _ _
  unfold f_Par_code
  refine x_aload_n dX5_code_0 rfl ?_
  refine y_getF fl_RX5_14 hz_19 hq_19_0 (by rw [hz_20]; decide) dX5_code_1 ?_
  exact x_aret rfl rfl ⟨(Nat.le_of_ble_eq_true rfl), (Nat.le_of_ble_eq_true rfl)⟩ dX5_code_4
