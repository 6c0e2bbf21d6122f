abbrev kk_Sol_start : Kx := (yX7_start.cls, cX7_start, 3, none, [], false)
set_option maxHeartbeats 4000000 in
set_option maxRecDepth 100000 in
theorem c_Sol_start (ω : Wd) (o1 : Nat) (ho1 : zT o1 = 3) (p2 : Int32) (m : Mm) : Ev ω true 3 0 0 yX7_start cX7_start 3 none [.ref (zad ω 170), .ref (zad ω o1), .int p2] m fV (f_Sol_start o1 p2 m) := by
  refine Ev.of (b := false) (ls := [some (.ref (zad ω 170)), some (.ref (zad ω o1)), some (.int p2)]) (plainFor_of_name (by decide +kernel)) (fun h => by cases h) rfl (Nat.le_of_ble_eq_true rfl) rfl ?_
  change Sx ω ω true 3 0 0 kk_Sol_start fV 0 0 m 0 _ _ _
  unfold f_Sol_start
  refine x_aload_n dX7_start_0 rfl ?_
  refine y_getF fl_RX7_12 hz_170 hq_170_0 (by rw [hz_171]; decide) dX7_start_1 ?_
  refine x_aload_n dX7_start_4 rfl ?_
  refine y_callVV (rest := []) (c1 := 0) (s1 := 0) (c_Cod_copyFrom ω 171 hz_171 o1 ho1 m) mv_RX7_18 hz_171 rfl (Nat.le_of_ble_eq_true rfl) (Nat.le_of_ble_eq_true rfl) (Nat.le_of_ble_eq_true rfl) ⟨rfl, rfl⟩ ⟨(Nat.le_of_ble_eq_true rfl), (Nat.le_of_ble_eq_true rfl)⟩ dX7_start_5 (fun m1 => ?_)
  refine x_aload_n dX7_start_8 rfl ?_
  refine x_iload_n dX7_start_9 rfl ?_
  refine y_putI fp_RX7_22 hz_170 dX7_start_10 ?_
  refine y_letM (fun m2 => ?_)
  refine x_aload_n dX7_start_13 rfl ?_
  refine x_iconst (v := 1) dX7_start_14 (by decide) ?_
  refine y_putZ fp_RX7_26 hz_170 (by decide) dX7_start_15 ?_
  refine y_letM (fun m3 => ?_)
  exact x_vret rfl rfl ⟨(Nat.le_of_ble_eq_true rfl), (Nat.le_of_ble_eq_true rfl)⟩ dX7_start_18
abbrev kk_Sol_isStarted : Kx := (yX7_isStarted.cls, cX7_isStarted, 1, (some .boolean), [], false)
set_option maxHeartbeats 4000000 in
set_option maxRecDepth 100000 in
theorem c_Sol_isStarted (ω : Wd) (m : Mm) : Ev ω true 1 0 0 yX7_isStarted cX7_isStarted 1 (some .boolean) [.ref (zad ω 170)] m (fP m) (f_Sol_isStarted m) := by
  refine Ev.of (b := false) (ls := [some (.ref (zad ω 170))]) (plainFor_of_name (by decide +kernel)) (fun h => by cases h) rfl (Nat.le_of_ble_eq_true rfl) rfl ?_
  change Sx ω ω true 1 0 0 kk_Sol_isStarted (fP m) 0 0 m 0 _ _ _
  unfold f_Sol_isStarted
  refine x_aload_n dX7_isStarted_0 rfl ?_
  refine y_getI fl_RX7_26 hz_170 dX7_isStarted_1 ?_
  refine x_guard (fun hv => ?_)
  exact x_zret rfl rfl (zBo_nar hv) ⟨(Nat.le_of_ble_eq_true rfl), (Nat.le_of_ble_eq_true rfl)⟩ dX7_isStarted_4
abbrev kk_Sol_questionHolds : Kx := (yX7_questionHolds.cls, cX7_questionHolds, 6, (some .boolean), [], false)
set_option maxHeartbeats 4000000 in
set_option maxRecDepth 100000 in
theorem c_Sol_questionHolds (ω : Wd) (o1 : Nat) (ho1 : zT o1 = 10) (m : Mm) : Ev ω true 5 0 0 yX7_questionHolds cX7_questionHolds 6 (some .boolean) [.ref (zad ω 170), .ref (zad ω o1)] m fI (f_Sol_questionHolds o1 m) := by
  refine Ev.of (b := false) (ls := [some (.ref (zad ω 170)), some (.ref (zad ω o1)), none, none, none, none]) (plainFor_of_name (by decide +kernel)) (fun h => by cases h) rfl (Nat.le_of_ble_eq_true rfl) rfl ?_
  change Sx ω ω true 5 0 0 kk_Sol_questionHolds fI 0 0 m 0 _ _ _
  unfold f_Sol_questionHolds
  refine x_iconst (v := 0) dX7_questionHolds_0 (by decide) ?_
  refine x_istore_n (ls' := [some (.ref (zad ω 170)), some (.ref (zad ω o1)), some (.int 0), none, none, none]) dX7_questionHolds_1 (Nat.le_of_ble_eq_true rfl) rfl ?_
  refine x_iconst (v := 0) dX7_questionHolds_2 (by decide) ?_
  refine x_istore_n (ls' := [some (.ref (zad ω 170)), some (.ref (zad ω o1)), some (.int 0), some (.int 0), none, none]) dX7_questionHolds_3 (Nat.le_of_ble_eq_true rfl) rfl ?_
  refine x_iconst (v := 0) dX7_questionHolds_4 (by decide) ?_
  refine x_istore (ls' := [some (.ref (zad ω 170)), some (.ref (zad ω o1)), some (.int 0), some (.int 0), some (.int 0), none]) dX7_questionHolds_5 (Nat.le_of_ble_eq_true rfl) rfl ?_
  refine y_Lp3 (fun x1 x2 x3 => [some (.ref (zad ω 170)), some (.ref (zad ω o1)), some (.int x1), some (.int x2), some (.int x3), none]) (fun r4 hr4 x1 x2 x3 m5 => ?_) zFu _ _ _ _
  refine x_iload dX7_questionHolds_7 rfl ?_
  refine x_aload_n dX7_questionHolds_9 rfl ?_
  refine y_getF fl_RX7_12 hz_170 hq_170_0 (by rw [hz_171]; decide) dX7_questionHolds_10 ?_
  refine y_callVP (rest := [.int x3]) (c1 := 0) (s1 := 0) (c_Cod_size ω 171 hz_171 m5) mv_RX7_51 hz_171 rfl (Nat.le_of_ble_eq_true rfl) (Nat.le_of_ble_eq_true rfl) (Nat.le_of_ble_eq_true rfl) ⟨rfl, rfl⟩ ⟨(Nat.le_of_ble_eq_true rfl), (Nat.le_of_ble_eq_true rfl)⟩ dX7_questionHolds_13 (fun v6 => ?_)
  refine x_icmp_ge (tgt := 98) dX7_questionHolds_16 (by decide) (fun hc7 => ?_) (fun hc7 => ?_)
  · refine x_iload_n dX7_questionHolds_98 rfl ?_
    refine x_guard (fun hv => ?_)
    exact x_zret rfl rfl (zBo_nar hv) ⟨(Nat.le_of_ble_eq_true rfl), (Nat.le_of_ble_eq_true rfl)⟩ dX7_questionHolds_99
  · refine x_iload_n dX7_questionHolds_19 rfl ?_
    refine x_aload_n dX7_questionHolds_20 rfl ?_
    refine y_getF fl_RX7_12 hz_170 hq_170_0 (by rw [hz_171]; decide) dX7_questionHolds_21 ?_
    refine y_callVP (rest := [.int x2]) (c1 := 0) (s1 := 0) (c_Cod_size ω 171 hz_171 m5) mv_RX7_51 hz_171 rfl (Nat.le_of_ble_eq_true rfl) (Nat.le_of_ble_eq_true rfl) (Nat.le_of_ble_eq_true rfl) ⟨rfl, rfl⟩ ⟨(Nat.le_of_ble_eq_true rfl), (Nat.le_of_ble_eq_true rfl)⟩ dX7_questionHolds_24 (fun v8 => ?_)
    refine x_icmp_ge (tgt := 98) dX7_questionHolds_27 (by decide) (fun hc9 => ?_) (fun hc9 => ?_)
    · refine x_iload_n dX7_questionHolds_98 rfl ?_
      refine x_guard (fun hv => ?_)
      exact x_zret rfl rfl (zBo_nar hv) ⟨(Nat.le_of_ble_eq_true rfl), (Nat.le_of_ble_eq_true rfl)⟩ dX7_questionHolds_99
    · refine x_aload_n dX7_questionHolds_30 rfl ?_
      refine y_getF fl_RX7_12 hz_170 hq_170_0 (by rw [hz_171]; decide) dX7_questionHolds_31 ?_
      refine x_iload_n dX7_questionHolds_34 rfl ?_
      refine y_callVP (rest := []) (c1 := 0) (s1 := 0) (c_Cod_kindAt ω 171 hz_171 x2 m5) mv_RX7_54 hz_171 rfl (Nat.le_of_ble_eq_true rfl) (Nat.le_of_ble_eq_true rfl) (Nat.le_of_ble_eq_true rfl) ⟨rfl, rfl⟩ ⟨(Nat.le_of_ble_eq_true rfl), (Nat.le_of_ble_eq_true rfl)⟩ dX7_questionHolds_35 (fun v10 => ?_)
      refine x_istore (ls' := [some (.ref (zad ω 170)), some (.ref (zad ω o1)), some (.int x1), some (.int x2), some (.int x3), some (.int v10)]) dX7_questionHolds_38 (Nat.le_of_ble_eq_true rfl) rfl ?_
      refine x_iload dX7_questionHolds_40 rfl ?_
      refine x_bipush (v := 17) dX7_questionHolds_42 (by decide) ?_
      refine y_join (fun j14 => ∀ (x12 : Int32) (m13 : Mm), Sx ω ω true 5 0 0 kk_Sol_questionHolds fI 0 0 m13 82 [some (.ref (zad ω 170)), some (.ref (zad ω o1)), some (.int x12), some (.int x2), some (.int x3), none] [] (j14 x12 m13)) ?_ (fun j14 hj14 => ?_)
      · intro x12 m13
        refine x_aload_n dX7_questionHolds_82 rfl ?_
        refine y_getF fl_RX7_12 hz_170 hq_170_0 (by rw [hz_171]; decide) dX7_questionHolds_83 ?_
        refine x_iload_n dX7_questionHolds_86 rfl ?_
        refine x_iload_n dX7_questionHolds_87 rfl ?_
        refine y_callVP (rest := []) (c1 := 0) (s1 := 0) (c_Cod_placeAfter ω 171 hz_171 x2 x12 m13) mv_RX7_65 hz_171 rfl (Nat.le_of_ble_eq_true rfl) (Nat.le_of_ble_eq_true rfl) (Nat.le_of_ble_eq_true rfl) ⟨rfl, rfl⟩ ⟨(Nat.le_of_ble_eq_true rfl), (Nat.le_of_ble_eq_true rfl)⟩ dX7_questionHolds_88 (fun v15 => ?_)
        refine x_istore_n (ls' := [some (.ref (zad ω 170)), some (.ref (zad ω o1)), some (.int x12), some (.int v15), some (.int x3), none]) dX7_questionHolds_91 (Nat.le_of_ble_eq_true rfl) rfl ?_
        refine y_iinc (w := 1) dX7_questionHolds_92 rfl (by decide) (Nat.le_of_ble_eq_true rfl) (fun x16 => ?_)
        refine x_goto (tgt := 7) dX7_questionHolds_95 (by decide) ?_
        exact hr4 _ _ _ _
      · refine x_icmp_ne (tgt := 60) dX7_questionHolds_44 (by decide) (fun hc11 => ?_) (fun hc11 => ?_)
        · refine x_iload_n dX7_questionHolds_47 rfl ?_
          refine y_join (fun j23 => ∀ (x22 : Int32), Sx ω ω true 5 0 0 kk_Sol_questionHolds fI 0 0 m5 56 [some (.ref (zad ω 170)), some (.ref (zad ω o1)), none, some (.int x2), some (.int x3), none] [.int x22] (j23 x22)) ?_ (fun j23 hj23 => ?_)
          · intro x22
            refine x_istore_n (ls' := [some (.ref (zad ω 170)), some (.ref (zad ω o1)), some (.int x22), some (.int x2), some (.int x3), none]) dX7_questionHolds_56 (Nat.le_of_ble_eq_true rfl) rfl ?_
            refine x_goto (tgt := 82) dX7_questionHolds_57 (by decide) ?_
            exact hj14 _ _
          · refine x_if_ne (tgt := 55) dX7_questionHolds_48 (by decide) (fun hc21 => ?_) (fun hc21 => ?_)
            · refine x_iconst (v := 1) dX7_questionHolds_51 (by decide) ?_
              refine x_goto (tgt := 56) dX7_questionHolds_52 (by decide) ?_
              refine y_mask (bs := [true, true, false, true, true, false]) (ls' := [some (.ref (zad ω 170)), some (.ref (zad ω o1)), none, some (.int x2), some (.int x3), none]) rfl ?_
              exact hj23 _
            · refine x_iconst (v := 0) dX7_questionHolds_55 (by decide) ?_
              refine y_mask (bs := [true, true, false, true, true, false]) (ls' := [some (.ref (zad ω 170)), some (.ref (zad ω o1)), none, some (.int x2), some (.int x3), none]) rfl ?_
              exact hj23 _
        · refine x_iload dX7_questionHolds_60 rfl ?_
          refine x_bipush (v := 21) dX7_questionHolds_62 (by decide) ?_
          refine x_icmp_lt (tgt := 82) dX7_questionHolds_64 (by decide) (fun hc17 => ?_) (fun hc17 => ?_)
          · refine y_mask (bs := [true, true, true, true, true, false]) (ls' := [some (.ref (zad ω 170)), some (.ref (zad ω o1)), some (.int x1), some (.int x2), some (.int x3), none]) rfl ?_
            exact hj14 _ _
          · refine x_aload_n dX7_questionHolds_67 rfl ?_
            refine x_iload dX7_questionHolds_68 rfl ?_
            refine x_aload_n dX7_questionHolds_70 rfl ?_
            refine y_getF fl_RX7_12 hz_170 hq_170_0 (by rw [hz_171]; decide) dX7_questionHolds_71 ?_
            refine x_iload_n dX7_questionHolds_74 rfl ?_
            refine y_callVP (rest := [.int v10, .ref (zad ω o1)]) (c1 := 0) (s1 := 0) (c_Cod_argumentAt ω 171 hz_171 x2 m5) mv_RX7_58 hz_171 rfl (Nat.le_of_ble_eq_true rfl) (Nat.le_of_ble_eq_true rfl) (Nat.le_of_ble_eq_true rfl) ⟨rfl, rfl⟩ ⟨(Nat.le_of_ble_eq_true rfl), (Nat.le_of_ble_eq_true rfl)⟩ dX7_questionHolds_75 (fun v18 => ?_)
            refine y_callVI (rest := []) (c1 := 0) (s1 := 0) (c_Boo_claimHolds ω o1 ho1 v10 v18 m5) mv_RX7_61 ho1 rfl (Nat.le_of_ble_eq_true rfl) (Nat.le_of_ble_eq_true rfl) (Nat.le_of_ble_eq_true rfl) ⟨rfl, rfl⟩ ⟨(Nat.le_of_ble_eq_true rfl), (Nat.le_of_ble_eq_true rfl)⟩ dX7_questionHolds_78 (fun v20 m19 => ?_)
            refine x_istore_n (ls' := [some (.ref (zad ω 170)), some (.ref (zad ω o1)), some (.int v20), some (.int x2), some (.int x3), some (.int v10)]) dX7_questionHolds_81 (Nat.le_of_ble_eq_true rfl) rfl ?_
            refine y_mask (bs := [true, true, true, true, true, false]) (ls' := [some (.ref (zad ω 170)), some (.ref (zad ω o1)), some (.int v20), some (.int x2), some (.int x3), none]) rfl ?_
            exact hj14 _ _
abbrev kk_Sol_look : Kx := (yX7_look.cls, cX7_look, 7, (some .int), [], false)
set_option maxHeartbeats 4000000 in
set_option maxRecDepth 100000 in
theorem c_Sol_look (ω : Wd) (p1 : Int32) (o2 : Nat) (ho2 : zT o2 = 10) (p3 : Int32) (m : Mm) : Ev ω true 7 0 0 yX7_look cX7_look 7 (some .int) [.ref (zad ω 170), .int p1, .ref (zad ω o2), .int p3] m fI (f_Sol_look p1 o2 p3 m) := by
  refine Ev.of (b := false) (ls := [some (.ref (zad ω 170)), some (.int p1), some (.ref (zad ω o2)), some (.int p3), none, none, none]) (plainFor_of_name (by decide +kernel)) (fun h => by cases h) rfl (Nat.le_of_ble_eq_true rfl) rfl ?_
  change Sx ω ω true 7 0 0 kk_Sol_look fI 0 0 m 0 _ _ _
  unfold f_Sol_look
  refine x_iload_n dX7_look_0 rfl ?_
  refine x_istore (ls' := [some (.ref (zad ω 170)), some (.int p1), some (.ref (zad ω o2)), some (.int p3), some (.int p1), none, none]) dX7_look_1 (Nat.le_of_ble_eq_true rfl) rfl ?_
  refine x_aload_n dX7_look_3 rfl ?_
  refine y_getI fl_RX7_22 hz_170 dX7_look_4 ?_
  refine y_letI (fun x1 => ?_)
  refine x_istore (ls' := [some (.ref (zad ω 170)), some (.int p1), some (.ref (zad ω o2)), some (.int p3), some (.int p1), some (.int x1), none]) dX7_look_7 (Nat.le_of_ble_eq_true rfl) rfl ?_
  refine y_mask (bs := [true, false, true, true, true, true, false]) (ls' := [some (.ref (zad ω 170)), none, some (.ref (zad ω o2)), some (.int p3), some (.int p1), some (.int x1), none]) rfl ?_
  refine y_Lp2 (fun x2 x3 => [some (.ref (zad ω 170)), none, some (.ref (zad ω o2)), some (.int p3), some (.int x2), some (.int x3), none]) (fun r4 hr4 x2 x3 m5 => ?_) zFu _ _ _
  refine x_iload dX7_look_9 rfl ?_
  refine x_sipush (v := 399) dX7_look_11 (by decide) ?_
  refine x_icmp_gt (tgt := 88) dX7_look_14 (by decide) (fun hc6 => ?_) (fun hc6 => ?_)
  · refine x_iconst (v := (-1)) dX7_look_88 (by decide) ?_
    exact x_iret rfl rfl ⟨(Nat.le_of_ble_eq_true rfl), (Nat.le_of_ble_eq_true rfl)⟩ dX7_look_89
  · refine x_aload_n dX7_look_17 rfl ?_
    refine x_iload dX7_look_18 rfl ?_
    refine x_iload_n dX7_look_20 rfl ?_
    refine y_callVV (rest := []) (c1 := 0) (s1 := 0) (c_Boo_reckon ω o2 ho2 x3 p3 m5) mv_RX7_34 ho2 rfl (Nat.le_of_ble_eq_true rfl) (Nat.le_of_ble_eq_true rfl) (Nat.le_of_ble_eq_true rfl) ⟨rfl, rfl⟩ ⟨(Nat.le_of_ble_eq_true rfl), (Nat.le_of_ble_eq_true rfl)⟩ dX7_look_21 (fun m7 => ?_)
    refine x_aload_n dX7_look_24 rfl ?_
    refine y_callVP (rest := []) (c1 := 0) (s1 := 0) (c_Boo_costOfAll ω o2 ho2 m7) mv_RX7_40 ho2 rfl (Nat.le_of_ble_eq_true rfl) (Nat.le_of_ble_eq_true rfl) (Nat.le_of_ble_eq_true rfl) ⟨rfl, rfl⟩ ⟨(Nat.le_of_ble_eq_true rfl), (Nat.le_of_ble_eq_true rfl)⟩ dX7_look_25 (fun v8 => ?_)
    refine x_istore (ls' := [some (.ref (zad ω 170)), none, some (.ref (zad ω o2)), some (.int p3), some (.int x2), some (.int x3), some (.int v8)]) dX7_look_28 (Nat.le_of_ble_eq_true rfl) rfl ?_
    refine x_iload dX7_look_30 rfl ?_
    refine x_iload dX7_look_32 rfl ?_
    refine x_icmp_le (tgt := 40) dX7_look_34 (by decide) (fun hc9 => ?_) (fun hc9 => ?_)
    · refine x_iload dX7_look_40 rfl ?_
      refine x_iload dX7_look_42 rfl ?_
      refine x_isub dX7_look_44 ?_
      refine y_letI (fun x10 => ?_)
      refine x_istore (ls' := [some (.ref (zad ω 170)), none, some (.ref (zad ω o2)), some (.int p3), some (.int x10), some (.int x3), some (.int v8)]) dX7_look_45 (Nat.le_of_ble_eq_true rfl) rfl ?_
      refine x_aload_n dX7_look_47 rfl ?_
      refine x_dup dX7_look_48 rfl ?_
      refine y_getL fl_RX7_30 hz_170 dX7_look_49 ?_
      refine x_iload dX7_look_52 rfl ?_
      refine x_i2l dX7_look_54 ?_
      refine x_ladd dX7_look_55 ?_
      refine y_putL fp_RX7_30 hz_170 dX7_look_56 ?_
      refine y_letM (fun m11 => ?_)
      refine x_aload_n dX7_look_59 rfl ?_
      refine x_iload dX7_look_60 rfl ?_
      refine x_iconst (v := 1) dX7_look_62 (by decide) ?_
      refine x_iadd dX7_look_63 ?_
      refine y_putI fp_RX7_22 hz_170 dX7_look_64 ?_
      refine y_letM (fun m12 => ?_)
      refine x_aload_n dX7_look_67 rfl ?_
      refine y_callVV (rest := []) (c1 := 0) (s1 := 0) (c_Boo_placeAll ω o2 ho2 m12) mv_RX7_44 ho2 rfl (Nat.le_of_ble_eq_true rfl) (Nat.le_of_ble_eq_true rfl) (Nat.le_of_ble_eq_true rfl) ⟨rfl, rfl⟩ ⟨(Nat.le_of_ble_eq_true rfl), (Nat.le_of_ble_eq_true rfl)⟩ dX7_look_68 (fun m13 => ?_)
      refine x_aload_n dX7_look_71 rfl ?_
      refine x_aload_n dX7_look_72 rfl ?_
      refine y_callVI (rest := []) (c1 := 0) (s1 := 0) (c_Sol_questionHolds ω o2 ho2 m13) mv_RX7_47 hz_170 rfl (Nat.le_of_ble_eq_true rfl) (Nat.le_of_ble_eq_true rfl) (Nat.le_of_ble_eq_true rfl) ⟨rfl, rfl⟩ ⟨(Nat.le_of_ble_eq_true rfl), (Nat.le_of_ble_eq_true rfl)⟩ dX7_look_73 (fun v15 m14 => ?_)
      refine x_if_eq (tgt := 82) dX7_look_76 (by decide) (fun hc16 => ?_) (fun hc16 => ?_)
      · refine y_iinc (w := 1) dX7_look_82 rfl (by decide) (Nat.le_of_ble_eq_true rfl) (fun x17 => ?_)
        refine x_goto (tgt := 9) dX7_look_85 (by decide) ?_
        refine y_mask (bs := [true, false, true, true, true, true, false]) (ls' := [some (.ref (zad ω 170)), none, some (.ref (zad ω o2)), some (.int p3), some (.int x10), some (.int x17), none]) rfl ?_
        exact hr4 _ _ _
      · refine x_iload dX7_look_79 rfl ?_
        exact x_iret rfl rfl ⟨(Nat.le_of_ble_eq_true rfl), (Nat.le_of_ble_eq_true rfl)⟩ dX7_look_81
    · refine x_bipush (v := (-2)) dX7_look_37 (by decide) ?_
      exact x_iret rfl rfl ⟨(Nat.le_of_ble_eq_true rfl), (Nat.le_of_ble_eq_true rfl)⟩ dX7_look_39
abbrev kk_Sol_paid : Kx := (yX7_paid.cls, cX7_paid, 1, (some .long), [], false)
set_option maxHeartbeats 4000000 in
set_option maxRecDepth 100000 in
theorem c_Sol_paid (ω : Wd) (m : Mm) : Ev ω true 1 0 0 yX7_paid cX7_paid 1 (some .long) [.ref (zad ω 170)] m (fPJ m) (f_Sol_paid m) := by
  refine Ev.of (b := false) (ls := [some (.ref (zad ω 170))]) (plainFor_of_name (by decide +kernel)) (fun h => by cases h) rfl (Nat.le_of_ble_eq_true rfl) rfl ?_
  change Sx ω ω true 1 0 0 kk_Sol_paid (fPJ m) 0 0 m 0 _ _ _
  unfold f_Sol_paid
  refine x_aload_n dX7_paid_0 rfl ?_
  refine y_getL fl_RX7_30 hz_170 dX7_paid_1 ?_
  exact x_lret rfl rfl ⟨(Nat.le_of_ble_eq_true rfl), (Nat.le_of_ble_eq_true rfl)⟩ dX7_paid_4
abbrev kk_Bel_hang : Kx := (yX1_hang.cls, cX1_hang, 4, (some .int), [], false)
set_option maxHeartbeats 4000000 in
set_option maxRecDepth 100000 in
theorem c_Bel_hang (ω : Wd) (p1 : Int32) (p2 : Int32) (m : Mm) : Ev ω true 1 0 0 yX1_hang cX1_hang 4 (some .int) [.ref (zad ω 174), .int p1, .int p2] m fI (f_Bel_hang p1 p2 m) := by
  refine Ev.of (b := false) (ls := [some (.ref (zad ω 174)), some (.int p1), some (.int p2), none]) (plainFor_of_name (by decide +kernel)) (fun h => by cases h) rfl (Nat.le_of_ble_eq_true rfl) rfl ?_
  change Sx ω ω true 1 0 0 kk_Bel_hang fI 0 0 m 0 _ _ _
  unfold f_Bel_hang
  refine x_aload_n dX1_hang_0 rfl ?_
  refine y_getF fl_RX1_11 hz_174 hq_174_0 (by rw [hz_175]; decide) dX1_hang_1 ?_
  refine x_iload_n dX1_hang_4 rfl ?_
  refine y_iald hz_175 hn_175 dX1_hang_5 (fun hi => ?_)
  refine y_letI (fun x1 => ?_)
  refine x_istore_n (ls' := [some (.ref (zad ω 174)), some (.int p1), some (.int p2), some (.int x1)]) dX1_hang_6 (Nat.le_of_ble_eq_true rfl) rfl ?_
  refine x_aload_n dX1_hang_7 rfl ?_
  refine y_getF fl_RX1_11 hz_174 hq_174_0 (by rw [hz_175]; decide) dX1_hang_8 ?_
  refine x_iload_n dX1_hang_11 rfl ?_
  refine x_iload_n dX1_hang_12 rfl ?_
  refine y_iast hz_175 hn_175 dX1_hang_13 (fun hi => ?_)
  refine y_letM (fun m2 => ?_)
  refine x_iload_n dX1_hang_14 rfl ?_
  exact x_iret rfl rfl ⟨(Nat.le_of_ble_eq_true rfl), (Nat.le_of_ble_eq_true rfl)⟩ dX1_hang_15
abbrev kk_Bel_hire : Kx := (yX1_hire.cls, cX1_hire, 3, (some .int), [], false)
set_option maxHeartbeats 4000000 in
set_option maxRecDepth 100000 in
theorem c_Bel_hire (ω : Wd) (p1 : Int32) (p2 : Int32) (m : Mm) : Ev ω true 1 0 0 yX1_hire cX1_hire 3 (some .int) [.ref (zad ω 174), .int p1, .int p2] m fI (f_Bel_hire p1 p2 m) := by
  refine Ev.of (b := false) (ls := [some (.ref (zad ω 174)), some (.int p1), some (.int p2)]) (plainFor_of_name (by decide +kernel)) (fun h => by cases h) rfl (Nat.le_of_ble_eq_true rfl) rfl ?_
  change Sx ω ω true 1 0 0 kk_Bel_hire fI 0 0 m 0 _ _ _
  unfold f_Bel_hire
  refine x_aload_n dX1_hire_0 rfl ?_
  refine y_getI fl_RX1_34 hz_174 dX1_hire_1 ?_
  refine x_bipush (v := 24) dX1_hire_4 (by decide) ?_
  refine x_icmp_lt (tgt := 11) dX1_hire_6 (by decide) (fun hc1 => ?_) (fun hc1 => ?_)
  · refine x_aload_n dX1_hire_11 rfl ?_
    refine y_getF fl_RX1_15 hz_174 hq_174_1 (by rw [hz_176]; decide) dX1_hire_12 ?_
    refine x_aload_n dX1_hire_15 rfl ?_
    refine y_getI fl_RX1_34 hz_174 dX1_hire_16 ?_
    refine x_iload_n dX1_hire_19 rfl ?_
    refine y_iast hz_176 hn_176 dX1_hire_20 (fun hi => ?_)
    refine y_letM (fun m2 => ?_)
    refine x_aload_n dX1_hire_21 rfl ?_
    refine y_getF fl_RX1_18 hz_174 hq_174_2 (by rw [hz_177]; decide) dX1_hire_22 ?_
    refine x_aload_n dX1_hire_25 rfl ?_
    refine y_getI fl_RX1_34 hz_174 dX1_hire_26 ?_
    refine x_iload_n dX1_hire_29 rfl ?_
    refine y_iast hz_177 hn_177 dX1_hire_30 (fun hi => ?_)
    refine y_letM (fun m3 => ?_)
    refine x_aload_n dX1_hire_31 rfl ?_
    refine x_dup dX1_hire_32 rfl ?_
    refine y_getI fl_RX1_34 hz_174 dX1_hire_33 ?_
    refine x_iconst (v := 1) dX1_hire_36 (by decide) ?_
    refine x_iadd dX1_hire_37 ?_
    refine y_putI fp_RX1_34 hz_174 dX1_hire_38 ?_
    refine y_letM (fun m4 => ?_)
    refine x_aload_n dX1_hire_41 rfl ?_
    refine y_getI fl_RX1_34 hz_174 dX1_hire_42 ?_
    refine x_iconst (v := 1) dX1_hire_45 (by decide) ?_
    refine x_isub dX1_hire_46 ?_
    exact x_iret rfl rfl ⟨(Nat.le_of_ble_eq_true rfl), (Nat.le_of_ble_eq_true rfl)⟩ dX1_hire_47
  · refine x_iconst (v := (-1)) dX1_hire_9 (by decide) ?_
    exact x_iret rfl rfl ⟨(Nat.le_of_ble_eq_true rfl), (Nat.le_of_ble_eq_true rfl)⟩ dX1_hire_10
abbrev kk_Bel_forgetYear : Kx := (yX1_forgetYear.cls, cX1_forgetYear, 3, none, [], false)
set_option maxHeartbeats 4000000 in
set_option maxRecDepth 100000 in
theorem c_Bel_forgetYear (ω : Wd) (m : Mm) : Ev ω true 1 0 0 yX1_forgetYear cX1_forgetYear 3 none [.ref (zad ω 174)] m fV (f_Bel_forgetYear m) := by
  refine Ev.of (b := false) (ls := [some (.ref (zad ω 174)), none, none]) (plainFor_of_name (by decide +kernel)) (fun h => by cases h) rfl (Nat.le_of_ble_eq_true rfl) rfl ?_
  change Sx ω ω true 1 0 0 kk_Bel_forgetYear fV 0 0 m 0 _ _ _
  unfold f_Bel_forgetYear
  refine x_aload_n dX1_forgetYear_0 rfl ?_
  refine x_iconst (v := 0) dX1_forgetYear_1 (by decide) ?_
  refine y_putI fp_RX1_58 hz_174 dX1_forgetYear_2 ?_
  refine y_letM (fun m1 => ?_)
  refine x_iconst (v := 0) dX1_forgetYear_5 (by decide) ?_
  refine x_istore_n (ls' := [some (.ref (zad ω 174)), some (.int 0), none]) dX1_forgetYear_6 (Nat.le_of_ble_eq_true rfl) rfl ?_
  refine y_Lp1 (fun x2 => [some (.ref (zad ω 174)), some (.int x2), none]) (fun r3 hr3 x2 m4 => ?_) zFu _ _
  refine x_iload_n dX1_forgetYear_7 rfl ?_
  refine x_bipush (v := 24) dX1_forgetYear_8 (by decide) ?_
  refine x_icmp_ge (tgt := 33) dX1_forgetYear_10 (by decide) (fun hc5 => ?_) (fun hc5 => ?_)
  · refine x_iconst (v := 0) dX1_forgetYear_33 (by decide) ?_
    refine x_istore_n (ls' := [some (.ref (zad ω 174)), some (.int 0), none]) dX1_forgetYear_34 (Nat.le_of_ble_eq_true rfl) rfl ?_
    refine y_Lp1 (fun x6 => [some (.ref (zad ω 174)), some (.int x6), none]) (fun r7 hr7 x6 m8 => ?_) zFu _ _
    refine x_iload_n dX1_forgetYear_35 rfl ?_
    refine x_bipush (v := 20) dX1_forgetYear_36 (by decide) ?_
    refine x_icmp_ge (tgt := 70) dX1_forgetYear_38 (by decide) (fun hc9 => ?_) (fun hc9 => ?_)
    · exact x_vret rfl rfl ⟨(Nat.le_of_ble_eq_true rfl), (Nat.le_of_ble_eq_true rfl)⟩ dX1_forgetYear_70
    · refine x_iconst (v := 0) dX1_forgetYear_41 (by decide) ?_
      refine x_istore_n (ls' := [some (.ref (zad ω 174)), some (.int x6), some (.int 0)]) dX1_forgetYear_42 (Nat.le_of_ble_eq_true rfl) rfl ?_
      refine y_Lp1 (fun x10 => [some (.ref (zad ω 174)), some (.int x6), some (.int x10)]) (fun r11 hr11 x10 m12 => ?_) zFu _ _
      refine x_iload_n dX1_forgetYear_43 rfl ?_
      refine x_bipush (v := 36) dX1_forgetYear_44 (by decide) ?_
      refine x_icmp_ge (tgt := 64) dX1_forgetYear_46 (by decide) (fun hc13 => ?_) (fun hc13 => ?_)
      · refine y_iinc (w := 1) dX1_forgetYear_64 rfl (by decide) (Nat.le_of_ble_eq_true rfl) (fun x14 => ?_)
        refine x_goto (tgt := 35) dX1_forgetYear_67 (by decide) ?_
        refine y_mask (bs := [true, true, false]) (ls' := [some (.ref (zad ω 174)), some (.int x14), none]) rfl ?_
        exact hr7 _ _
      · refine x_aload_n dX1_forgetYear_49 rfl ?_
        refine y_getF fl_RX1_31 hz_174 hq_174_6 (by rw [hz_180]; decide) dX1_forgetYear_50 ?_
        refine x_iload_n dX1_forgetYear_53 rfl ?_
        refine y_aald (q := fun j => 181 + j) (Or.inr rfl) hz_180 hn_180 la_180 dX1_forgetYear_54 (fun hi15 => ?_)
        refine x_iload_n dX1_forgetYear_55 rfl ?_
        refine x_iconst (v := (-1)) dX1_forgetYear_56 (by decide) ?_
        refine y_iast (lr_rung (zIn_ix hi15)) (lr_rungn (zIn_ix hi15)) dX1_forgetYear_57 (fun hi => ?_)
        refine y_letM (fun m16 => ?_)
        refine y_iinc (w := 1) dX1_forgetYear_58 rfl (by decide) (Nat.le_of_ble_eq_true rfl) (fun x17 => ?_)
        refine x_goto (tgt := 43) dX1_forgetYear_61 (by decide) ?_
        exact hr11 _ _
  · refine x_aload_n dX1_forgetYear_13 rfl ?_
    refine y_getF fl_RX1_21 hz_174 hq_174_4 (by rw [hz_178]; decide) dX1_forgetYear_14 ?_
    refine x_iload_n dX1_forgetYear_17 rfl ?_
    refine x_iconst (v := (-1)) dX1_forgetYear_18 (by decide) ?_
    refine y_iast hz_178 hn_178 dX1_forgetYear_19 (fun hi => ?_)
    refine y_letM (fun m18 => ?_)
    refine x_aload_n dX1_forgetYear_20 rfl ?_
    refine y_getF fl_RX1_24 hz_174 hq_174_5 (by rw [hz_179]; decide) dX1_forgetYear_21 ?_
    refine x_iload_n dX1_forgetYear_24 rfl ?_
    refine x_iconst (v := 0) dX1_forgetYear_25 (by decide) ?_
    refine y_iast hz_179 hn_179 dX1_forgetYear_26 (fun hi => ?_)
    refine y_letM (fun m19 => ?_)
    refine y_iinc (w := 1) dX1_forgetYear_27 rfl (by decide) (Nat.le_of_ble_eq_true rfl) (fun x20 => ?_)
    refine x_goto (tgt := 7) dX1_forgetYear_30 (by decide) ?_
    exact hr3 _ _
abbrev kk_Bel_isRested : Kx := (yX1_isRested.cls, cX1_isRested, 3, (some .boolean), [], false)
set_option maxHeartbeats 4000000 in
set_option maxRecDepth 100000 in
theorem c_Bel_isRested (ω : Wd) (p1 : Int32) (p2 : Int32) (m : Mm) : Ev ω true 1 0 0 yX1_isRested cX1_isRested 3 (some .boolean) [.ref (zad ω 174), .int p1, .int p2] m (fP m) (f_Bel_isRested p1 p2 m) := by
  refine Ev.of (b := false) (ls := [some (.ref (zad ω 174)), some (.int p1), some (.int p2)]) (plainFor_of_name (by decide +kernel)) (fun h => by cases h) rfl (Nat.le_of_ble_eq_true rfl) rfl ?_
  change Sx ω ω true 1 0 0 kk_Bel_isRested (fP m) 0 0 m 0 _ _ _
  unfold f_Bel_isRested
  refine x_aload_n dX1_isRested_0 rfl ?_
  refine y_getF fl_RX1_21 hz_174 hq_174_4 (by rw [hz_178]; decide) dX1_isRested_1 ?_
  refine x_iload_n dX1_isRested_4 rfl ?_
  refine y_iald hz_178 hn_178 dX1_isRested_5 (fun hi => ?_)
  refine x_iconst (v := (-1)) dX1_isRested_6 (by decide) ?_
  refine y_join (fun j2 => Sx ω ω true 1 0 0 kk_Bel_isRested (fP m) 0 0 m 27 [none, none, none] [] j2) ?_ (fun j2 hj2 => ?_)
  · refine x_iconst (v := 1) dX1_isRested_27 (by decide) ?_
    refine x_goto (tgt := 32) dX1_isRested_28 (by decide) ?_
    exact x_zret rfl rfl (zBo_nar (by decide)) ⟨(Nat.le_of_ble_eq_true rfl), (Nat.le_of_ble_eq_true rfl)⟩ dX1_isRested_32
  · refine x_icmp_eq (tgt := 27) dX1_isRested_7 (by decide) (fun hc1 => ?_) (fun hc1 => ?_)
    · refine y_mask (bs := [false, false, false]) (ls' := [none, none, none]) rfl ?_
      exact hj2
    · refine x_iload_n dX1_isRested_10 rfl ?_
      refine x_aload_n dX1_isRested_11 rfl ?_
      refine y_getF fl_RX1_21 hz_174 hq_174_4 (by rw [hz_178]; decide) dX1_isRested_12 ?_
      refine x_iload_n dX1_isRested_15 rfl ?_
      refine y_iald hz_178 hn_178 dX1_isRested_16 (fun hi => ?_)
      refine x_isub dX1_isRested_17 ?_
      refine x_aload_n dX1_isRested_18 rfl ?_
      refine y_getF fl_RX1_18 hz_174 hq_174_2 (by rw [hz_177]; decide) dX1_isRested_19 ?_
      refine x_iload_n dX1_isRested_22 rfl ?_
      refine y_iald hz_177 hn_177 dX1_isRested_23 (fun hi => ?_)
      refine x_icmp_le (tgt := 31) dX1_isRested_24 (by decide) (fun hc3 => ?_) (fun hc3 => ?_)
      · refine x_iconst (v := 0) dX1_isRested_31 (by decide) ?_
        exact x_zret rfl rfl (zBo_nar (by decide)) ⟨(Nat.le_of_ble_eq_true rfl), (Nat.le_of_ble_eq_true rfl)⟩ dX1_isRested_32
      · refine y_mask (bs := [false, false, false]) (ls' := [none, none, none]) rfl ?_
        exact hj2
abbrev kk_Bel_ringerFor : Kx := (yX1_ringerFor.cls, cX1_ringerFor, 6, (some .int), [], false)
set_option maxHeartbeats 4000000 in
set_option maxRecDepth 100000 in
theorem c_Bel_ringerFor (ω : Wd) (p1 : Int32) (p2 : Int32) (m : Mm) : Ev ω true 2 0 0 yX1_ringerFor cX1_ringerFor 6 (some .int) [.ref (zad ω 174), .int p1, .int p2] m (fP m) (f_Bel_ringerFor p1 p2 m) := by
  refine Ev.of (b := false) (ls := [some (.ref (zad ω 174)), some (.int p1), some (.int p2), none, none, none]) (plainFor_of_name (by decide +kernel)) (fun h => by cases h) rfl (Nat.le_of_ble_eq_true rfl) rfl ?_
  change Sx ω ω true 2 0 0 kk_Bel_ringerFor (fP m) 0 0 m 0 _ _ _
  unfold f_Bel_ringerFor
  refine x_iconst (v := (-1)) dX1_ringerFor_0 (by decide) ?_
  refine x_istore_n (ls' := [some (.ref (zad ω 174)), some (.int p1), some (.int p2), some (.int (-1)), none, none]) dX1_ringerFor_1 (Nat.le_of_ble_eq_true rfl) rfl ?_
  refine x_iconst (v := 0) dX1_ringerFor_2 (by decide) ?_
  refine x_istore (ls' := [some (.ref (zad ω 174)), some (.int p1), some (.int p2), some (.int (-1)), some (.int 0), none]) dX1_ringerFor_3 (Nat.le_of_ble_eq_true rfl) rfl ?_
  refine y_Lq2 (fun x1 x2 => [some (.ref (zad ω 174)), some (.int p1), some (.int p2), some (.int x1), some (.int x2), none]) (fun r3 hr3 x1 x2 => ?_) zFu _ _
  refine x_iload dX1_ringerFor_5 rfl ?_
  refine x_aload_n dX1_ringerFor_7 rfl ?_
  refine y_getI fl_RX1_34 hz_174 dX1_ringerFor_8 ?_
  refine x_icmp_ge (tgt := 77) dX1_ringerFor_11 (by decide) (fun hc4 => ?_) (fun hc4 => ?_)
  · refine x_iload_n dX1_ringerFor_77 rfl ?_
    exact x_iret rfl rfl ⟨(Nat.le_of_ble_eq_true rfl), (Nat.le_of_ble_eq_true rfl)⟩ dX1_ringerFor_78
  · refine x_aload_n dX1_ringerFor_14 rfl ?_
    refine y_getF fl_RX1_15 hz_174 hq_174_1 (by rw [hz_176]; decide) dX1_ringerFor_15 ?_
    refine x_iload dX1_ringerFor_18 rfl ?_
    refine y_iald hz_176 hn_176 dX1_ringerFor_20 (fun hi => ?_)
    refine x_iload_n dX1_ringerFor_21 rfl ?_
    refine y_join (fun j7 => ∀ (x6 : Int32), Sx ω ω true 2 0 0 kk_Bel_ringerFor (fP m) 0 0 m 40 [some (.ref (zad ω 174)), some (.int p1), some (.int p2), some (.int x1), some (.int x2), none] [.int x6] (j7 x6)) ?_ (fun j7 hj7 => ?_)
    · intro x6
      refine x_istore (ls' := [some (.ref (zad ω 174)), some (.int p1), some (.int p2), some (.int x1), some (.int x2), some (.int x6)]) dX1_ringerFor_40 (Nat.le_of_ble_eq_true rfl) rfl ?_
      refine x_iload dX1_ringerFor_42 rfl ?_
      refine y_join (fun j10 => ∀ (x9 : Int32), Sx ω ω true 2 0 0 kk_Bel_ringerFor (fP m) 0 0 m 71 [some (.ref (zad ω 174)), some (.int p1), some (.int p2), some (.int x9), some (.int x2), none] [] (j10 x9)) ?_ (fun j10 hj10 => ?_)
      · intro x9
        refine y_iinc (w := 1) dX1_ringerFor_71 rfl (by decide) (Nat.le_of_ble_eq_true rfl) (fun x11 => ?_)
        refine x_goto (tgt := 5) dX1_ringerFor_74 (by decide) ?_
        exact hr3 _ _
      · refine x_if_eq (tgt := 71) dX1_ringerFor_44 (by decide) (fun hc8 => ?_) (fun hc8 => ?_)
        · refine y_mask (bs := [true, true, true, true, true, false]) (ls' := [some (.ref (zad ω 174)), some (.int p1), some (.int p2), some (.int x1), some (.int x2), none]) rfl ?_
          exact hj10 _
        · refine x_iload_n dX1_ringerFor_47 rfl ?_
          refine x_iconst (v := (-1)) dX1_ringerFor_48 (by decide) ?_
          refine y_join (fun j13 => Sx ω ω true 2 0 0 kk_Bel_ringerFor (fP m) 0 0 m 68 [some (.ref (zad ω 174)), some (.int p1), some (.int p2), none, some (.int x2), none] [] j13) ?_ (fun j13 hj13 => ?_)
          · refine x_iload dX1_ringerFor_68 rfl ?_
            refine x_istore_n (ls' := [some (.ref (zad ω 174)), some (.int p1), some (.int p2), some (.int x2), some (.int x2), none]) dX1_ringerFor_70 (Nat.le_of_ble_eq_true rfl) rfl ?_
            exact hj10 _
          · refine x_icmp_eq (tgt := 68) dX1_ringerFor_49 (by decide) (fun hc12 => ?_) (fun hc12 => ?_)
            · refine y_mask (bs := [true, true, true, false, true, false]) (ls' := [some (.ref (zad ω 174)), some (.int p1), some (.int p2), none, some (.int x2), none]) rfl ?_
              exact hj13
            · refine x_aload_n dX1_ringerFor_52 rfl ?_
              refine y_getF fl_RX1_24 hz_174 hq_174_5 (by rw [hz_179]; decide) dX1_ringerFor_53 ?_
              refine x_iload dX1_ringerFor_56 rfl ?_
              refine y_iald hz_179 hn_179 dX1_ringerFor_58 (fun hi => ?_)
              refine x_aload_n dX1_ringerFor_59 rfl ?_
              refine y_getF fl_RX1_24 hz_174 hq_174_5 (by rw [hz_179]; decide) dX1_ringerFor_60 ?_
              refine x_iload_n dX1_ringerFor_63 rfl ?_
              refine y_iald hz_179 hn_179 dX1_ringerFor_64 (fun hi => ?_)
              refine x_icmp_ge (tgt := 71) dX1_ringerFor_65 (by decide) (fun hc14 => ?_) (fun hc14 => ?_)
              · refine y_mask (bs := [true, true, true, true, true, false]) (ls' := [some (.ref (zad ω 174)), some (.int p1), some (.int p2), some (.int x1), some (.int x2), none]) rfl ?_
                exact hj10 _
              · refine y_mask (bs := [true, true, true, false, true, false]) (ls' := [some (.ref (zad ω 174)), some (.int p1), some (.int p2), none, some (.int x2), none]) rfl ?_
                exact hj13
    · refine y_join (fun j15 => Sx ω ω true 2 0 0 kk_Bel_ringerFor (fP m) 0 0 m 39 [some (.ref (zad ω 174)), some (.int p1), some (.int p2), some (.int x1), some (.int x2), none] [] j15) ?_ (fun j15 hj15 => ?_)
      · refine x_iconst (v := 0) dX1_ringerFor_39 (by decide) ?_
        exact hj7 _
      · refine x_icmp_ne (tgt := 39) dX1_ringerFor_22 (by decide) (fun hc5 => ?_) (fun hc5 => ?_)
        · refine x_aload_n dX1_ringerFor_25 rfl ?_
          refine x_iload dX1_ringerFor_26 rfl ?_
          refine x_iload_n dX1_ringerFor_28 rfl ?_
          refine y_callVP (rest := []) (c1 := 0) (s1 := 0) (c_Bel_isRested ω x2 p2 m) mv_RX1_65 hz_174 rfl (Nat.le_of_ble_eq_true rfl) (Nat.le_of_ble_eq_true rfl) (Nat.le_of_ble_eq_true rfl) ⟨rfl, rfl⟩ ⟨(Nat.le_of_ble_eq_true rfl), (Nat.le_of_ble_eq_true rfl)⟩ dX1_ringerFor_29 (fun v16 => ?_)
          refine x_if_eq (tgt := 39) dX1_ringerFor_32 (by decide) (fun hc17 => ?_) (fun hc17 => ?_)
          · exact hj15
          · refine x_iconst (v := 1) dX1_ringerFor_35 (by decide) ?_
            refine x_goto (tgt := 40) dX1_ringerFor_36 (by decide) ?_
            exact hj7 _
        · exact hj15
abbrev kk_Bel_ringFeast : Kx := (yX1_ringFeast.cls, cX1_ringFeast, 8, none, [], false)
set_option maxHeartbeats 4000000 in
set_option maxRecDepth 100000 in
theorem c_Bel_ringFeast (ω : Wd) (p1 : Int32) (p2 : Int32) (p3 : Int32) (p4 : Int32) (m : Mm) : Ev ω true 3 0 0 yX1_ringFeast cX1_ringFeast 8 none [.ref (zad ω 174), .int p1, .int p2, .int p3, .int p4] m fV (f_Bel_ringFeast p1 p2 p3 p4 m) := by
  refine Ev.of (b := false) (ls := [some (.ref (zad ω 174)), some (.int p1), some (.int p2), some (.int p3), some (.int p4), none, none, none]) (plainFor_of_name (by decide +kernel)) (fun h => by cases h) rfl (Nat.le_of_ble_eq_true rfl) rfl ?_
  change Sx ω ω true 3 0 0 kk_Bel_ringFeast fV 0 0 m 0 _ _ _
  unfold f_Bel_ringFeast
  refine x_iconst (v := 0) dX1_ringFeast_0 (by decide) ?_
  refine x_istore (ls' := [some (.ref (zad ω 174)), some (.int p1), some (.int p2), some (.int p3), some (.int p4), some (.int 0), none, none]) dX1_ringFeast_1 (Nat.le_of_ble_eq_true rfl) rfl ?_
  refine y_Lp1 (fun x1 => [some (.ref (zad ω 174)), some (.int p1), some (.int p2), some (.int p3), some (.int p4), some (.int x1), none, none]) (fun r2 hr2 x1 m3 => ?_) zFu _ _
  refine x_iload dX1_ringFeast_3 rfl ?_
  refine x_bipush (v := 6) dX1_ringFeast_5 (by decide) ?_
  refine x_icmp_ge (tgt := 108) dX1_ringFeast_7 (by decide) (fun hc4 => ?_) (fun hc4 => ?_)
  · exact x_vret rfl rfl ⟨(Nat.le_of_ble_eq_true rfl), (Nat.le_of_ble_eq_true rfl)⟩ dX1_ringFeast_108
  · refine x_iconst (v := 0) dX1_ringFeast_10 (by decide) ?_
    refine x_istore (ls' := [some (.ref (zad ω 174)), some (.int p1), some (.int p2), some (.int p3), some (.int p4), some (.int x1), some (.int 0), none]) dX1_ringFeast_11 (Nat.le_of_ble_eq_true rfl) rfl ?_
    refine y_Lp1 (fun x5 => [some (.ref (zad ω 174)), some (.int p1), some (.int p2), some (.int p3), some (.int p4), some (.int x1), some (.int x5), none]) (fun r6 hr6 x5 m7 => ?_) zFu _ _
    refine x_iload dX1_ringFeast_13 rfl ?_
    refine x_iload_n dX1_ringFeast_15 rfl ?_
    refine y_join (fun j9 => Sx ω ω true 3 0 0 kk_Bel_ringFeast fV 0 0 m7 102 [some (.ref (zad ω 174)), some (.int p1), some (.int p2), some (.int p3), some (.int p4), some (.int x1), none, none] [] j9) ?_ (fun j9 hj9 => ?_)
    · refine y_iinc (w := 1) dX1_ringFeast_102 rfl (by decide) (Nat.le_of_ble_eq_true rfl) (fun x10 => ?_)
      refine x_goto (tgt := 3) dX1_ringFeast_105 (by decide) ?_
      exact hr2 _ _
    · refine x_icmp_ge (tgt := 102) dX1_ringFeast_16 (by decide) (fun hc8 => ?_) (fun hc8 => ?_)
      · refine y_mask (bs := [true, true, true, true, true, true, false, false]) (ls' := [some (.ref (zad ω 174)), some (.int p1), some (.int p2), some (.int p3), some (.int p4), some (.int x1), none, none]) rfl ?_
        exact hj9
      · refine x_iload dX1_ringFeast_19 rfl ?_
        refine x_aload_n dX1_ringFeast_21 rfl ?_
        refine y_getF fl_RX1_11 hz_174 hq_174_0 (by rw [hz_175]; decide) dX1_ringFeast_22 ?_
        refine x_iload dX1_ringFeast_25 rfl ?_
        refine y_iald hz_175 hn_175 dX1_ringFeast_27 (fun hi => ?_)
        refine x_icmp_ge (tgt := 102) dX1_ringFeast_28 (by decide) (fun hc11 => ?_) (fun hc11 => ?_)
        · refine y_mask (bs := [true, true, true, true, true, true, false, false]) (ls' := [some (.ref (zad ω 174)), some (.int p1), some (.int p2), some (.int p3), some (.int p4), some (.int x1), none, none]) rfl ?_
          exact hj9
        · refine x_aload_n dX1_ringFeast_31 rfl ?_
          refine x_iload dX1_ringFeast_32 rfl ?_
          refine x_iload_n dX1_ringFeast_34 rfl ?_
          refine y_callVP (rest := []) (c1 := 0) (s1 := 0) (c_Bel_ringerFor ω x1 p3 m7) mv_RX1_61 hz_174 rfl (Nat.le_of_ble_eq_true rfl) (Nat.le_of_ble_eq_true rfl) (Nat.le_of_ble_eq_true rfl) ⟨rfl, rfl⟩ ⟨(Nat.le_of_ble_eq_true rfl), (Nat.le_of_ble_eq_true rfl)⟩ dX1_ringFeast_35 (fun v12 => ?_)
          refine x_istore (ls' := [some (.ref (zad ω 174)), some (.int p1), some (.int p2), some (.int p3), some (.int p4), some (.int x1), some (.int x5), some (.int v12)]) dX1_ringFeast_38 (Nat.le_of_ble_eq_true rfl) rfl ?_
          refine x_aload_n dX1_ringFeast_40 rfl ?_
          refine y_getF fl_RX1_31 hz_174 hq_174_6 (by rw [hz_180]; decide) dX1_ringFeast_41 ?_
          refine x_iload_n dX1_ringFeast_44 rfl ?_
          refine y_aald (q := fun j => 181 + j) (Or.inr rfl) hz_180 hn_180 la_180 dX1_ringFeast_45 (fun hi13 => ?_)
          refine x_bipush (v := 6) dX1_ringFeast_46 (by decide) ?_
          refine x_iload dX1_ringFeast_48 rfl ?_
          refine x_imul dX1_ringFeast_50 ?_
          refine x_iload dX1_ringFeast_51 rfl ?_
          refine x_iadd dX1_ringFeast_53 ?_
          refine x_iload dX1_ringFeast_54 rfl ?_
          refine y_iast (lr_rung (zIn_ix hi13)) (lr_rungn (zIn_ix hi13)) dX1_ringFeast_56 (fun hi => ?_)
          refine y_letM (fun m14 => ?_)
          refine x_iload dX1_ringFeast_57 rfl ?_
          refine x_iconst (v := (-1)) dX1_ringFeast_59 (by decide) ?_
          refine y_join (fun j17 => ∀ (m16 : Mm), Sx ω ω true 3 0 0 kk_Bel_ringFeast fV 0 0 m16 96 [some (.ref (zad ω 174)), some (.int p1), some (.int p2), some (.int p3), some (.int p4), some (.int x1), some (.int x5), none] [] (j17 m16)) ?_ (fun j17 hj17 => ?_)
          · intro m16
            refine y_iinc (w := 1) dX1_ringFeast_96 rfl (by decide) (Nat.le_of_ble_eq_true rfl) (fun x18 => ?_)
            refine x_goto (tgt := 13) dX1_ringFeast_99 (by decide) ?_
            exact hr6 _ _
          · refine x_icmp_ne (tgt := 76) dX1_ringFeast_60 (by decide) (fun hc15 => ?_) (fun hc15 => ?_)
            · refine x_aload_n dX1_ringFeast_63 rfl ?_
              refine x_dup dX1_ringFeast_64 rfl ?_
              refine y_getI fl_RX1_58 hz_174 dX1_ringFeast_65 ?_
              refine x_iconst (v := 1) dX1_ringFeast_68 (by decide) ?_
              refine x_iadd dX1_ringFeast_69 ?_
              refine y_putI fp_RX1_58 hz_174 dX1_ringFeast_70 ?_
              refine y_letM (fun m21 => ?_)
              refine x_goto (tgt := 96) dX1_ringFeast_73 (by decide) ?_
              refine y_mask (bs := [true, true, true, true, true, true, true, false]) (ls' := [some (.ref (zad ω 174)), some (.int p1), some (.int p2), some (.int p3), some (.int p4), some (.int x1), some (.int x5), none]) rfl ?_
              exact hj17 _
            · refine x_aload_n dX1_ringFeast_76 rfl ?_
              refine y_getF fl_RX1_24 hz_174 hq_174_5 (by rw [hz_179]; decide) dX1_ringFeast_77 ?_
              refine x_iload dX1_ringFeast_80 rfl ?_
              refine x_dup2 dX1_ringFeast_82 rfl rfl ?_
              refine y_iald hz_179 hn_179 dX1_ringFeast_83 (fun hi => ?_)
              refine x_iconst (v := 1) dX1_ringFeast_84 (by decide) ?_
              refine x_iadd dX1_ringFeast_85 ?_
              refine y_iast hz_179 hn_179 dX1_ringFeast_86 (fun hi => ?_)
              refine y_letM (fun m19 => ?_)
              refine x_aload_n dX1_ringFeast_87 rfl ?_
              refine y_getF fl_RX1_21 hz_174 hq_174_4 (by rw [hz_178]; decide) dX1_ringFeast_88 ?_
              refine x_iload dX1_ringFeast_91 rfl ?_
              refine x_iload dX1_ringFeast_93 rfl ?_
              refine y_iast hz_178 hn_178 dX1_ringFeast_95 (fun hi => ?_)
              refine y_letM (fun m20 => ?_)
              refine y_mask (bs := [true, true, true, true, true, true, true, false]) (ls' := [some (.ref (zad ω 174)), some (.int p1), some (.int p2), some (.int p3), some (.int p4), some (.int x1), some (.int x5), none]) rfl ?_
              exact hj17 _
abbrev kk_Bel_ringYear : Kx := (yX1_ringYear.cls, cX1_ringYear, 7, none, [], false)
set_option maxHeartbeats 4000000 in
set_option maxRecDepth 100000 in
theorem c_Bel_ringYear (ω : Wd) (o2 : Nat) (ho2 : zT o2 = 10) (o3 : Nat) (ho3 : zT o3 = 10) (m : Mm) : Ev ω true 4 0 0 yX1_ringYear cX1_ringYear 7 none [.ref (zad ω 174), .ref (zad ω 25), .ref (zad ω o2), .ref (zad ω o3)] m fV (f_Bel_ringYear o2 o3 m) := by
  refine Ev.of (b := false) (ls := [some (.ref (zad ω 174)), some (.ref (zad ω 25)), some (.ref (zad ω o2)), some (.ref (zad ω o3)), none, none, none]) (plainFor_of_name (by decide +kernel)) (fun h => by cases h) rfl (Nat.le_of_ble_eq_true rfl) rfl ?_
  change Sx ω ω true 4 0 0 kk_Bel_ringYear fV 0 0 m 0 _ _ _
  unfold f_Bel_ringYear
  refine x_aload_n dX1_ringYear_0 rfl ?_
  refine y_callVV (rest := []) (c1 := 0) (s1 := 0) (c_Bel_forgetYear ω m) mv_RX1_38 hz_174 rfl (Nat.le_of_ble_eq_true rfl) (Nat.le_of_ble_eq_true rfl) (Nat.le_of_ble_eq_true rfl) ⟨rfl, rfl⟩ ⟨(Nat.le_of_ble_eq_true rfl), (Nat.le_of_ble_eq_true rfl)⟩ dX1_ringYear_1 (fun m1 => ?_)
  refine x_iconst (v := 0) dX1_ringYear_4 (by decide) ?_
  refine x_istore (ls' := [some (.ref (zad ω 174)), some (.ref (zad ω 25)), some (.ref (zad ω o2)), some (.ref (zad ω o3)), some (.int 0), none, none]) dX1_ringYear_5 (Nat.le_of_ble_eq_true rfl) rfl ?_
  refine y_Lp1 (fun x2 => [some (.ref (zad ω 174)), some (.ref (zad ω 25)), some (.ref (zad ω o2)), some (.ref (zad ω o3)), some (.int x2), none, none]) (fun r3 hr3 x2 m4 => ?_) zFu _ _
  refine x_iload dX1_ringYear_7 rfl ?_
  refine x_sipush (v := 365) dX1_ringYear_9 (by decide) ?_
  refine x_icmp_gt (tgt := 72) dX1_ringYear_12 (by decide) (fun hc5 => ?_) (fun hc5 => ?_)
  · exact x_vret rfl rfl ⟨(Nat.le_of_ble_eq_true rfl), (Nat.le_of_ble_eq_true rfl)⟩ dX1_ringYear_72
  · refine x_aload_n dX1_ringYear_15 rfl ?_
    refine x_iload dX1_ringYear_16 rfl ?_
    refine y_callVP (rest := []) (c1 := 0) (s1 := 0) (c_Boo_feastOn ω o2 ho2 x2 m4) mv_RX1_41 ho2 rfl (Nat.le_of_ble_eq_true rfl) (Nat.le_of_ble_eq_true rfl) (Nat.le_of_ble_eq_true rfl) ⟨rfl, rfl⟩ ⟨(Nat.le_of_ble_eq_true rfl), (Nat.le_of_ble_eq_true rfl)⟩ dX1_ringYear_18 (fun v6 => ?_)
    refine x_istore (ls' := [some (.ref (zad ω 174)), some (.ref (zad ω 25)), some (.ref (zad ω o2)), some (.ref (zad ω o3)), some (.int x2), some (.int v6), none]) dX1_ringYear_21 (Nat.le_of_ble_eq_true rfl) rfl ?_
    refine x_iload dX1_ringYear_23 rfl ?_
    refine x_iconst (v := (-1)) dX1_ringYear_25 (by decide) ?_
    refine y_join (fun j9 => ∀ (m8 : Mm), Sx ω ω true 4 0 0 kk_Bel_ringYear fV 0 0 m8 66 [some (.ref (zad ω 174)), some (.ref (zad ω 25)), some (.ref (zad ω o2)), some (.ref (zad ω o3)), some (.int x2), none, none] [] (j9 m8)) ?_ (fun j9 hj9 => ?_)
    · intro m8
      refine y_iinc (w := 1) dX1_ringYear_66 rfl (by decide) (Nat.le_of_ble_eq_true rfl) (fun x10 => ?_)
      refine x_goto (tgt := 7) dX1_ringYear_69 (by decide) ?_
      exact hr3 _ _
    · refine x_icmp_eq (tgt := 66) dX1_ringYear_26 (by decide) (fun hc7 => ?_) (fun hc7 => ?_)
      · refine y_mask (bs := [true, true, true, true, true, false, false]) (ls' := [some (.ref (zad ω 174)), some (.ref (zad ω 25)), some (.ref (zad ω o2)), some (.ref (zad ω o3)), some (.int x2), none, none]) rfl ?_
        exact hj9 _
      · refine x_aload_n dX1_ringYear_29 rfl ?_
        refine x_aload_n dX1_ringYear_30 rfl ?_
        refine x_iload dX1_ringYear_31 rfl ?_
        refine y_callVP (rest := []) (c1 := 0) (s1 := 0) (c_Boo_isNextTo ω o2 ho2 o3 ho3 v6 m4) mv_RX1_47 ho2 rfl (Nat.le_of_ble_eq_true rfl) (Nat.le_of_ble_eq_true rfl) (Nat.le_of_ble_eq_true rfl) ⟨rfl, rfl⟩ ⟨(Nat.le_of_ble_eq_true rfl), (Nat.le_of_ble_eq_true rfl)⟩ dX1_ringYear_33 (fun v11 => ?_)
        refine y_join (fun j14 => ∀ (x13 : Int32), Sx ω ω true 4 0 0 kk_Bel_ringYear fV 0 0 m4 48 [some (.ref (zad ω 174)), some (.ref (zad ω 25)), some (.ref (zad ω o2)), some (.ref (zad ω o3)), some (.int x2), some (.int v6), none] [.int x13] (j14 x13)) ?_ (fun j14 hj14 => ?_)
        · intro x13
          refine x_istore (ls' := [some (.ref (zad ω 174)), some (.ref (zad ω 25)), some (.ref (zad ω o2)), some (.ref (zad ω o3)), some (.int x2), some (.int v6), some (.int x13)]) dX1_ringYear_48 (Nat.le_of_ble_eq_true rfl) rfl ?_
          refine x_aload_n dX1_ringYear_50 rfl ?_
          refine x_iload dX1_ringYear_51 rfl ?_
          refine x_aload_n dX1_ringYear_53 rfl ?_
          refine x_iload dX1_ringYear_54 rfl ?_
          refine y_callVP (rest := [.int v6, .ref (zad ω 174)]) (c1 := 0) (s1 := 0) (c_Alm_rankOf ω v6 m4) mv_RX1_51 hz_25 rfl (Nat.le_of_ble_eq_true rfl) (Nat.le_of_ble_eq_true rfl) (Nat.le_of_ble_eq_true rfl) ⟨rfl, rfl⟩ ⟨(Nat.le_of_ble_eq_true rfl), (Nat.le_of_ble_eq_true rfl)⟩ dX1_ringYear_56 (fun v15 => ?_)
          refine x_iload dX1_ringYear_59 rfl ?_
          refine x_iload dX1_ringYear_61 rfl ?_
          refine y_callVV (rest := []) (c1 := 0) (s1 := 0) (c_Bel_ringFeast ω v6 v15 x2 x13 m4) mv_RX1_54 hz_174 rfl (Nat.le_of_ble_eq_true rfl) (Nat.le_of_ble_eq_true rfl) (Nat.le_of_ble_eq_true rfl) ⟨rfl, rfl⟩ ⟨(Nat.le_of_ble_eq_true rfl), (Nat.le_of_ble_eq_true rfl)⟩ dX1_ringYear_63 (fun m16 => ?_)
          refine y_mask (bs := [true, true, true, true, true, false, false]) (ls' := [some (.ref (zad ω 174)), some (.ref (zad ω 25)), some (.ref (zad ω o2)), some (.ref (zad ω o3)), some (.int x2), none, none]) rfl ?_
          exact hj9 _
        · refine x_if_eq (tgt := 46) dX1_ringYear_36 (by decide) (fun hc12 => ?_) (fun hc12 => ?_)
          · refine x_iload dX1_ringYear_46 rfl ?_
            exact hj14 _
          · refine x_iload dX1_ringYear_39 rfl ?_
            refine x_iconst (v := 1) dX1_ringYear_41 (by decide) ?_
            refine x_iadd dX1_ringYear_42 ?_
            refine x_goto (tgt := 48) dX1_ringYear_43 (by decide) ?_
            exact hj14 _
abbrev kk_Bel_ringerAt : Kx := (yX1_ringerAt.cls, cX1_ringerAt, 4, (some .int), [], false)
set_option maxHeartbeats 4000000 in
set_option maxRecDepth 100000 in
theorem c_Bel_ringerAt (ω : Wd) (p1 : Int32) (p2 : Int32) (p3 : Int32) (m : Mm) : Ev ω true 1 0 0 yX1_ringerAt cX1_ringerAt 4 (some .int) [.ref (zad ω 174), .int p1, .int p2, .int p3] m (fP m) (f_Bel_ringerAt p1 p2 p3 m) := by
  refine Ev.of (b := false) (ls := [some (.ref (zad ω 174)), some (.int p1), some (.int p2), some (.int p3)]) (plainFor_of_name (by decide +kernel)) (fun h => by cases h) rfl (Nat.le_of_ble_eq_true rfl) rfl ?_
  change Sx ω ω true 1 0 0 kk_Bel_ringerAt (fP m) 0 0 m 0 _ _ _
  unfold f_Bel_ringerAt
  refine x_aload_n dX1_ringerAt_0 rfl ?_
  refine y_getF fl_RX1_31 hz_174 hq_174_6 (by rw [hz_180]; decide) dX1_ringerAt_1 ?_
  refine x_iload_n dX1_ringerAt_4 rfl ?_
  refine y_aald (q := fun j => 181 + j) (Or.inr rfl) hz_180 hn_180 la_180 dX1_ringerAt_5 (fun hi1 => ?_)
  refine x_bipush (v := 6) dX1_ringerAt_6 (by decide) ?_
  refine x_iload_n dX1_ringerAt_8 rfl ?_
  refine x_imul dX1_ringerAt_9 ?_
  refine x_iload_n dX1_ringerAt_10 rfl ?_
  refine x_iadd dX1_ringerAt_11 ?_
  refine y_iald (lr_rung (zIn_ix hi1)) (lr_rungn (zIn_ix hi1)) dX1_ringerAt_12 (fun hi => ?_)
  exact x_iret rfl rfl ⟨(Nat.le_of_ble_eq_true rfl), (Nat.le_of_ble_eq_true rfl)⟩ dX1_ringerAt_13
abbrev kk_Bel_silences : Kx := (yX1_silences.cls, cX1_silences, 1, (some .int), [], false)
set_option maxHeartbeats 4000000 in
set_option maxRecDepth 100000 in
theorem c_Bel_silences (ω : Wd) (m : Mm) : Ev ω true 1 0 0 yX1_silences cX1_silences 1 (some .int) [.ref (zad ω 174)] m (fP m) (f_Bel_silences m) := by
  refine Ev.of (b := false) (ls := [some (.ref (zad ω 174))]) (plainFor_of_name (by decide +kernel)) (fun h => by cases h) rfl (Nat.le_of_ble_eq_true rfl) rfl ?_
  change Sx ω ω true 1 0 0 kk_Bel_silences (fP m) 0 0 m 0 _ _ _
  unfold f_Bel_silences
  refine x_aload_n dX1_silences_0 rfl ?_
  refine y_getI fl_RX1_58 hz_174 dX1_silences_1 ?_
  exact x_iret rfl rfl ⟨(Nat.le_of_ble_eq_true rfl), (Nat.le_of_ble_eq_true rfl)⟩ dX1_silences_4
abbrev kk_Bel_size : Kx := (yX1_size.cls, cX1_size, 1, (some .int), [], false)
set_option maxHeartbeats 4000000 in
set_option maxRecDepth 100000 in
theorem c_Bel_size (ω : Wd) (m : Mm) : Ev ω true 1 0 0 yX1_size cX1_size 1 (some .int) [.ref (zad ω 174)] m (fP m) (f_Bel_size m) := by
  refine Ev.of (b := false) (ls := [some (.ref (zad ω 174))]) (plainFor_of_name (by decide +kernel)) (fun h => by cases h) rfl (Nat.le_of_ble_eq_true rfl) rfl ?_
  change Sx ω ω true 1 0 0 kk_Bel_size (fP m) 0 0 m 0 _ _ _
  unfold f_Bel_size
  refine x_aload_n dX1_size_0 rfl ?_
  refine y_getI fl_RX1_34 hz_174 dX1_size_1 ?_
  exact x_iret rfl rfl ⟨(Nat.le_of_ble_eq_true rfl), (Nat.le_of_ble_eq_true rfl)⟩ dX1_size_4
abbrev kk_Bel_countOf : Kx := (yX1_countOf.cls, cX1_countOf, 2, (some .int), [], false)
set_option maxHeartbeats 4000000 in
set_option maxRecDepth 100000 in
theorem c_Bel_countOf (ω : Wd) (p1 : Int32) (m : Mm) : Ev ω true 1 0 0 yX1_countOf cX1_countOf 2 (some .int) [.ref (zad ω 174), .int p1] m (fP m) (f_Bel_countOf p1 m) := by
  refine Ev.of (b := false) (ls := [some (.ref (zad ω 174)), some (.int p1)]) (plainFor_of_name (by decide +kernel)) (fun h => by cases h) rfl (Nat.le_of_ble_eq_true rfl) rfl ?_
  change Sx ω ω true 1 0 0 kk_Bel_countOf (fP m) 0 0 m 0 _ _ _
  unfold f_Bel_countOf
  refine x_aload_n dX1_countOf_0 rfl ?_
  refine y_getF fl_RX1_24 hz_174 hq_174_5 (by rw [hz_179]; decide) dX1_countOf_1 ?_
  refine x_iload_n dX1_countOf_4 rfl ?_
  refine y_iald hz_179 hn_179 dX1_countOf_5 (fun hi => ?_)
  exact x_iret rfl rfl ⟨(Nat.le_of_ble_eq_true rfl), (Nat.le_of_ble_eq_true rfl)⟩ dX1_countOf_6
