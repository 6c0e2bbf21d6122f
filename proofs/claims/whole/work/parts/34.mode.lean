abbrev kk_Mod_bendOf : Kx := (yX12_bendOf.cls, cX12_bendOf, 5, (some .int), [], false)
set_option maxHeartbeats 4000000 in
set_option maxRecDepth 100000 in
theorem c_Mod_bendOf (ω : Wd) (p1 : Int32) (p2 : Int32) (m : Mm) : Ev ω true 1 0 0 yX12_bendOf cX12_bendOf 5 (some .int) [.ref (zad ω 201), .int p1, .int p2] m (fP m) (f_Mod_bendOf p1 p2 m) := by
  refine Ev.of (b := false) (ls := [some (.ref (zad ω 201)), some (.int p1), some (.int p2), none, none]) (plainFor_of_name (by decide +kernel)) (fun h => by cases h) rfl (Nat.le_of_ble_eq_true rfl) rfl ?_
  change Sx ω true 1 0 0 kk_Mod_bendOf (fP m) 0 0 m 0 _ _ _
  unfold f_Mod_bendOf
  refine x_iconst (v := (-1)) dX12_bendOf_0 (by decide) ?_
  refine x_istore_n (ls' := [some (.ref (zad ω 201)), some (.int p1), some (.int p2), some (.int (-1)), none]) dX12_bendOf_1 (Nat.le_of_ble_eq_true rfl) rfl ?_
  refine x_iconst (v := 0) dX12_bendOf_2 (by decide) ?_
  refine x_istore (ls' := [some (.ref (zad ω 201)), some (.int p1), some (.int p2), some (.int (-1)), some (.int 0)]) dX12_bendOf_3 (Nat.le_of_ble_eq_true rfl) rfl ?_
  refine y_Lq2 (fun x1 x2 => [some (.ref (zad ω 201)), some (.int p1), some (.int p2), some (.int x1), some (.int x2)]) (fun r3 hr3 x1 x2 => ?_) zFu _ _
  refine x_iload dX12_bendOf_5 rfl ?_
  refine x_aload_n dX12_bendOf_7 rfl ?_
  refine y_getI fl_RX12_253 hz_201 dX12_bendOf_8 ?_
  refine x_icmp_ge (tgt := 49) dX12_bendOf_11 (by decide) (fun hc4 => ?_) (fun hc4 => ?_)
  · refine x_iload_n dX12_bendOf_49 rfl ?_
    exact x_iret rfl rfl ⟨(Nat.le_of_ble_eq_true rfl), (Nat.le_of_ble_eq_true rfl)⟩ dX12_bendOf_50
  · refine x_aload_n dX12_bendOf_14 rfl ?_
    refine y_getF fl_RX12_45 hz_201 hq_201_26 (by rw [hz_213]; decide) dX12_bendOf_15 ?_
    refine x_iload dX12_bendOf_18 rfl ?_
    refine y_iald hz_213 hn_213 dX12_bendOf_20 (fun hi => ?_)
    refine x_iload_n dX12_bendOf_21 rfl ?_
    refine y_join (fun j7 => ∀ (x6 : Int32), Sx ω true 1 0 0 kk_Mod_bendOf (fP m) 0 0 m 42 [some (.ref (zad ω 201)), some (.int p1), some (.int p2), none, some (.int x2)] [.int x6] (j7 x6)) ?_ (fun j7 hj7 => ?_)
    · intro x6
      refine x_istore_n (ls' := [some (.ref (zad ω 201)), some (.int p1), some (.int p2), some (.int x6), some (.int x2)]) dX12_bendOf_42 (Nat.le_of_ble_eq_true rfl) rfl ?_
      refine y_iinc (w := 1) dX12_bendOf_43 rfl (by decide) (Nat.le_of_ble_eq_true rfl) (fun x8 => ?_)
      refine x_goto (tgt := 5) dX12_bendOf_46 (by decide) ?_
      exact hr3 _ _
    · refine y_join (fun j9 => Sx ω true 1 0 0 kk_Mod_bendOf (fP m) 0 0 m 41 [some (.ref (zad ω 201)), some (.int p1), some (.int p2), some (.int x1), some (.int x2)] [] j9) ?_ (fun j9 hj9 => ?_)
      · refine x_iload_n dX12_bendOf_41 rfl ?_
        refine y_mask (bs := [true, true, true, false, true]) (ls' := [some (.ref (zad ω 201)), some (.int p1), some (.int p2), none, some (.int x2)]) rfl ?_
        exact hj7 _
      · refine x_icmp_ne (tgt := 41) dX12_bendOf_22 (by decide) (fun hc5 => ?_) (fun hc5 => ?_)
        · refine x_aload_n dX12_bendOf_25 rfl ?_
          refine y_getF fl_RX12_48 hz_201 hq_201_27 (by rw [hz_214]; decide) dX12_bendOf_26 ?_
          refine x_iload dX12_bendOf_29 rfl ?_
          refine y_iald hz_214 hn_214 dX12_bendOf_31 (fun hi => ?_)
          refine x_iload_n dX12_bendOf_32 rfl ?_
          refine x_icmp_ne (tgt := 41) dX12_bendOf_33 (by decide) (fun hc10 => ?_) (fun hc10 => ?_)
          · refine x_iload dX12_bendOf_36 rfl ?_
            refine x_goto (tgt := 42) dX12_bendOf_38 (by decide) ?_
            refine y_mask (bs := [true, true, true, false, true]) (ls' := [some (.ref (zad ω 201)), some (.int p1), some (.int p2), none, some (.int x2)]) rfl ?_
            exact hj7 _
          · exact hj9
        · exact hj9
abbrev kk_Mod_takeBack : Kx := (yX12_takeBack.cls, cX12_takeBack, 5, (some .int), [], false)
set_option maxHeartbeats 4000000 in
set_option maxRecDepth 100000 in
theorem c_Mod_takeBack (ω : Wd) (p1 : Int32) (p2 : Int32) (m : Mm) : Ev ω true 3 0 0 yX12_takeBack cX12_takeBack 5 (some .int) [.ref (zad ω 201), .int p1, .int p2] m fI (f_Mod_takeBack p1 p2 m) := by
  refine Ev.of (b := false) (ls := [some (.ref (zad ω 201)), some (.int p1), some (.int p2), none, none]) (plainFor_of_name (by decide +kernel)) (fun h => by cases h) rfl (Nat.le_of_ble_eq_true rfl) rfl ?_
  change Sx ω true 3 0 0 kk_Mod_takeBack fI 0 0 m 0 _ _ _
  unfold f_Mod_takeBack
  refine x_aload_n dX12_takeBack_0 rfl ?_
  refine x_aload_n dX12_takeBack_1 rfl ?_
  refine x_iload_n dX12_takeBack_2 rfl ?_
  refine y_callVP (rest := [.ref (zad ω 201)]) (c1 := 0) (s1 := 0) (c_Mod_isFeast ω p1 m) mv_RX12_244 hz_201 rfl (Nat.le_of_ble_eq_true rfl) (Nat.le_of_ble_eq_true rfl) (Nat.le_of_ble_eq_true rfl) ⟨rfl, rfl⟩ ⟨(Nat.le_of_ble_eq_true rfl), (Nat.le_of_ble_eq_true rfl)⟩ dX12_takeBack_3 (fun v1 => ?_)
  refine y_join (fun j4 => ∀ (x3 : Int32), Sx ω true 3 0 0 kk_Mod_takeBack fI 0 0 m 25 [some (.ref (zad ω 201)), some (.int p1), some (.int p2), none, none] [.int x3, .ref (zad ω 201)] (j4 x3)) ?_ (fun j4 hj4 => ?_)
  · intro x3
    refine y_putI fp_RX12_93 hz_201 dX12_takeBack_25 ?_
    refine y_letM (fun m5 => ?_)
    refine x_aload_n dX12_takeBack_28 rfl ?_
    refine y_getI fl_RX12_93 hz_201 dX12_takeBack_29 ?_
    refine x_if_le (tgt := 37) dX12_takeBack_32 (by decide) (fun hc6 => ?_) (fun hc6 => ?_)
    · refine x_aload_n dX12_takeBack_37 rfl ?_
      refine x_iload_n dX12_takeBack_38 rfl ?_
      refine x_iload_n dX12_takeBack_39 rfl ?_
      refine y_callVP (rest := []) (c1 := 0) (s1 := 0) (c_Mod_bendOf ω p1 p2 m5) mv_RX12_256 hz_201 rfl (Nat.le_of_ble_eq_true rfl) (Nat.le_of_ble_eq_true rfl) (Nat.le_of_ble_eq_true rfl) ⟨rfl, rfl⟩ ⟨(Nat.le_of_ble_eq_true rfl), (Nat.le_of_ble_eq_true rfl)⟩ dX12_takeBack_40 (fun v7 => ?_)
      refine x_istore_n (ls' := [some (.ref (zad ω 201)), some (.int p1), some (.int p2), some (.int v7), none]) dX12_takeBack_43 (Nat.le_of_ble_eq_true rfl) rfl ?_
      refine x_aload_n dX12_takeBack_44 rfl ?_
      refine x_iload_n dX12_takeBack_45 rfl ?_
      refine x_iconst (v := (-1)) dX12_takeBack_46 (by decide) ?_
      refine y_join (fun j10 => ∀ (x9 : Int32), Sx ω true 3 0 0 kk_Mod_takeBack fI 0 0 m5 55 [some (.ref (zad ω 201)), none, none, some (.int v7), none] [.int x9, .ref (zad ω 201)] (j10 x9)) ?_ (fun j10 hj10 => ?_)
      · intro x9
        refine y_putI fp_RX12_93 hz_201 dX12_takeBack_55 ?_
        refine y_letM (fun m11 => ?_)
        refine x_aload_n dX12_takeBack_58 rfl ?_
        refine y_getI fl_RX12_93 hz_201 dX12_takeBack_59 ?_
        refine x_if_le (tgt := 67) dX12_takeBack_62 (by decide) (fun hc12 => ?_) (fun hc12 => ?_)
        · refine x_aload_n dX12_takeBack_67 rfl ?_
          refine y_getF fl_RX12_51 hz_201 hq_201_28 (by rw [hz_215]; decide) dX12_takeBack_68 ?_
          refine x_iload_n dX12_takeBack_71 rfl ?_
          refine y_iald hz_215 hn_215 dX12_takeBack_72 (fun hi => ?_)
          refine y_letI (fun x13 => ?_)
          refine x_istore (ls' := [some (.ref (zad ω 201)), none, none, some (.int v7), some (.int x13)]) dX12_takeBack_73 (Nat.le_of_ble_eq_true rfl) rfl ?_
          refine x_aload_n dX12_takeBack_75 rfl ?_
          refine x_dup dX12_takeBack_76 rfl ?_
          refine y_getI fl_RX12_253 hz_201 dX12_takeBack_77 ?_
          refine x_iconst (v := 1) dX12_takeBack_80 (by decide) ?_
          refine x_isub dX12_takeBack_81 ?_
          refine y_putI fp_RX12_253 hz_201 dX12_takeBack_82 ?_
          refine y_letM (fun m14 => ?_)
          refine x_aload_n dX12_takeBack_85 rfl ?_
          refine y_getF fl_RX12_45 hz_201 hq_201_26 (by rw [hz_213]; decide) dX12_takeBack_86 ?_
          refine x_iload_n dX12_takeBack_89 rfl ?_
          refine x_aload_n dX12_takeBack_90 rfl ?_
          refine y_getF fl_RX12_45 hz_201 hq_201_26 (by rw [hz_213]; decide) dX12_takeBack_91 ?_
          refine x_aload_n dX12_takeBack_94 rfl ?_
          refine y_getI fl_RX12_253 hz_201 dX12_takeBack_95 ?_
          refine y_iald hz_213 hn_213 dX12_takeBack_98 (fun hi => ?_)
          refine y_iast hz_213 hn_213 dX12_takeBack_99 (fun hi => ?_)
          refine y_letM (fun m15 => ?_)
          refine x_aload_n dX12_takeBack_100 rfl ?_
          refine y_getF fl_RX12_48 hz_201 hq_201_27 (by rw [hz_214]; decide) dX12_takeBack_101 ?_
          refine x_iload_n dX12_takeBack_104 rfl ?_
          refine x_aload_n dX12_takeBack_105 rfl ?_
          refine y_getF fl_RX12_48 hz_201 hq_201_27 (by rw [hz_214]; decide) dX12_takeBack_106 ?_
          refine x_aload_n dX12_takeBack_109 rfl ?_
          refine y_getI fl_RX12_253 hz_201 dX12_takeBack_110 ?_
          refine y_iald hz_214 hn_214 dX12_takeBack_113 (fun hi => ?_)
          refine y_iast hz_214 hn_214 dX12_takeBack_114 (fun hi => ?_)
          refine y_letM (fun m16 => ?_)
          refine x_aload_n dX12_takeBack_115 rfl ?_
          refine y_getF fl_RX12_51 hz_201 hq_201_28 (by rw [hz_215]; decide) dX12_takeBack_116 ?_
          refine x_iload_n dX12_takeBack_119 rfl ?_
          refine x_aload_n dX12_takeBack_120 rfl ?_
          refine y_getF fl_RX12_51 hz_201 hq_201_28 (by rw [hz_215]; decide) dX12_takeBack_121 ?_
          refine x_aload_n dX12_takeBack_124 rfl ?_
          refine y_getI fl_RX12_253 hz_201 dX12_takeBack_125 ?_
          refine y_iald hz_215 hn_215 dX12_takeBack_128 (fun hi => ?_)
          refine y_iast hz_215 hn_215 dX12_takeBack_129 (fun hi => ?_)
          refine y_letM (fun m17 => ?_)
          refine x_iload dX12_takeBack_130 rfl ?_
          exact x_iret rfl rfl ⟨(Nat.le_of_ble_eq_true rfl), (Nat.le_of_ble_eq_true rfl)⟩ dX12_takeBack_132
        · refine x_iconst (v := 0) dX12_takeBack_65 (by decide) ?_
          exact x_iret rfl rfl ⟨(Nat.le_of_ble_eq_true rfl), (Nat.le_of_ble_eq_true rfl)⟩ dX12_takeBack_66
      · refine x_icmp_ne (tgt := 54) dX12_takeBack_47 (by decide) (fun hc8 => ?_) (fun hc8 => ?_)
        · refine x_iconst (v := 3) dX12_takeBack_50 (by decide) ?_
          refine x_goto (tgt := 55) dX12_takeBack_51 (by decide) ?_
          refine y_mask (bs := [true, false, false, true, false]) (ls' := [some (.ref (zad ω 201)), none, none, some (.int v7), none]) rfl ?_
          exact hj10 _
        · refine x_iconst (v := 0) dX12_takeBack_54 (by decide) ?_
          refine y_mask (bs := [true, false, false, true, false]) (ls' := [some (.ref (zad ω 201)), none, none, some (.int v7), none]) rfl ?_
          exact hj10 _
    · refine x_iconst (v := 0) dX12_takeBack_35 (by decide) ?_
      exact x_iret rfl rfl ⟨(Nat.le_of_ble_eq_true rfl), (Nat.le_of_ble_eq_true rfl)⟩ dX12_takeBack_36
  · refine x_if_ne (tgt := 13) dX12_takeBack_6 (by decide) (fun hc2 => ?_) (fun hc2 => ?_)
    · refine x_iconst (v := 1) dX12_takeBack_9 (by decide) ?_
      refine x_goto (tgt := 25) dX12_takeBack_10 (by decide) ?_
      exact hj4 _
    · refine x_iload_n dX12_takeBack_13 rfl ?_
      refine y_callSP (rest := [.ref (zad ω 201)]) (c1 := 0) (s1 := 0) (c_Mod_isYear ω p2 m) ms_RX12_250 rfl (Nat.le_of_ble_eq_true rfl) (Nat.le_of_ble_eq_true rfl) (Nat.le_of_ble_eq_true rfl) ⟨rfl, rfl⟩ ⟨(Nat.le_of_ble_eq_true rfl), (Nat.le_of_ble_eq_true rfl)⟩ dX12_takeBack_14 (fun v18 => ?_)
      refine x_if_eq (tgt := 24) dX12_takeBack_17 (by decide) (fun hc19 => ?_) (fun hc19 => ?_)
      · refine x_iconst (v := 2) dX12_takeBack_24 (by decide) ?_
        exact hj4 _
      · refine x_iconst (v := 0) dX12_takeBack_20 (by decide) ?_
        refine x_goto (tgt := 25) dX12_takeBack_21 (by decide) ?_
        exact hj4 _
abbrev kk_Mod_feasts : Kx := (yX12_feasts.cls, cX12_feasts, 1, (some .int), [], false)
set_option maxHeartbeats 4000000 in
set_option maxRecDepth 100000 in
theorem c_Mod_feasts (ω : Wd) (m : Mm) : Ev ω true 1 0 0 yX12_feasts cX12_feasts 1 (some .int) [.ref (zad ω 201)] m fI (f_Mod_feasts m) := by
  refine Ev.of (b := false) (ls := [some (.ref (zad ω 201))]) (plainFor_of_name (by decide +kernel)) (fun h => by cases h) rfl (Nat.le_of_ble_eq_true rfl) rfl ?_
  change Sx ω true 1 0 0 kk_Mod_feasts fI 0 0 m 0 _ _ _
  unfold f_Mod_feasts
  refine x_aload_n dX12_feasts_0 rfl ?_
  refine x_iconst (v := 0) dX12_feasts_1 (by decide) ?_
  refine y_putI fp_RX12_93 hz_201 dX12_feasts_2 ?_
  refine y_letM (fun m1 => ?_)
  refine x_aload_n dX12_feasts_5 rfl ?_
  refine y_getI fl_RX12_231 hz_201 dX12_feasts_6 ?_
  exact x_iret rfl rfl ⟨(Nat.le_of_ble_eq_true rfl), (Nat.le_of_ble_eq_true rfl)⟩ dX12_feasts_9
abbrev kk_Mod_within : Kx := (yX12_within.cls, cX12_within, 2, (some .int), [], false)
set_option maxHeartbeats 4000000 in
set_option maxRecDepth 100000 in
theorem c_Mod_within (ω : Wd) (p1 : Int32) (p2 : Int32) (m : Mm) : Ev ω true 3 0 0 yX12_within cX12_within 2 (some .int) [.int p1, .int p2] m (fP m) (f_Mod_within p1 p2 m) := by
  refine Ev.of (b := false) (ls := [some (.int p1), some (.int p2)]) (plainFor_of_name (by decide +kernel)) (fun h => by cases h) rfl (Nat.le_of_ble_eq_true rfl) rfl ?_
  change Sx ω true 3 0 0 kk_Mod_within (fP m) 0 0 m 0 _ _ _
  unfold f_Mod_within
  refine x_iload_n dX12_within_0 rfl ?_
  refine x_iconst (v := 0) dX12_within_1 (by decide) ?_
  refine x_iload_n dX12_within_2 rfl ?_
  refine y_callSP (rest := [.int 0, .int p2]) (c1 := 0) (s1 := 0) (c_Mod_lengthOf ω p1 m) ms_RX12_123 rfl (Nat.le_of_ble_eq_true rfl) (Nat.le_of_ble_eq_true rfl) (Nat.le_of_ble_eq_true rfl) ⟨rfl, rfl⟩ ⟨(Nat.le_of_ble_eq_true rfl), (Nat.le_of_ble_eq_true rfl)⟩ dX12_within_3 (fun v1 => ?_)
  refine x_iconst (v := 1) dX12_within_6 (by decide) ?_
  refine x_isub dX12_within_7 ?_
  refine y_callSP (rest := []) (c1 := 0) (s1 := 0) (c_Mod_isIn ω p2 0 (v1 - 1) m) ms_RX12_115 rfl (Nat.le_of_ble_eq_true rfl) (Nat.le_of_ble_eq_true rfl) (Nat.le_of_ble_eq_true rfl) ⟨rfl, rfl⟩ ⟨(Nat.le_of_ble_eq_true rfl), (Nat.le_of_ble_eq_true rfl)⟩ dX12_within_8 (fun v2 => ?_)
  refine x_if_eq (tgt := 18) dX12_within_11 (by decide) (fun hc3 => ?_) (fun hc3 => ?_)
  · refine x_iconst (v := (-1)) dX12_within_18 (by decide) ?_
    exact x_iret rfl rfl ⟨(Nat.le_of_ble_eq_true rfl), (Nat.le_of_ble_eq_true rfl)⟩ dX12_within_19
  · refine x_iload_n dX12_within_14 rfl ?_
    refine x_goto (tgt := 19) dX12_within_15 (by decide) ?_
    exact x_iret rfl rfl ⟨(Nat.le_of_ble_eq_true rfl), (Nat.le_of_ble_eq_true rfl)⟩ dX12_within_19
abbrev kk_Mod_starts : Kx := (yX12_starts.cls, cX12_starts, 9, (some .int), [], false)
set_option maxHeartbeats 4000000 in
set_option maxRecDepth 100000 in
theorem c_Mod_starts (ω : Wd) (p1 : Int32) (p2 : Int32) (p3 : Int32) (m : Mm) : Ev ω true 3 0 0 yX12_starts cX12_starts 9 (some .int) [.int p1, .int p2, .int p3] m (fP m) (f_Mod_starts p1 p2 p3 m) := by
  refine Ev.of (b := false) (ls := [some (.int p1), some (.int p2), some (.int p3), none, none, none, none, none, none]) (plainFor_of_name (by decide +kernel)) (fun h => by cases h) rfl (Nat.le_of_ble_eq_true rfl) rfl ?_
  change Sx ω true 3 0 0 kk_Mod_starts (fP m) 0 0 m 0 _ _ _
  unfold f_Mod_starts
  refine x_iload_n dX12_starts_0 rfl ?_
  refine x_iconst (v := 1) dX12_starts_1 (by decide) ?_
  refine y_join (fun j3 => ∀ (x2 : Int32), Sx ω true 3 0 0 kk_Mod_starts (fP m) 0 0 m 16 [some (.int p1), some (.int p2), some (.int p3), none, none, none, none, none, none] [.int x2] (j3 x2)) ?_ (fun j3 hj3 => ?_)
  · intro x2
    refine x_istore_n (ls' := [some (.int p1), some (.int p2), some (.int p3), some (.int x2), none, none, none, none, none]) dX12_starts_16 (Nat.le_of_ble_eq_true rfl) rfl ?_
    refine x_iload_n dX12_starts_17 rfl ?_
    refine x_iload_n dX12_starts_18 rfl ?_
    refine y_callSP (rest := []) (c1 := 0) (s1 := 0) (c_Mod_beginOfMonth ω p3 x2 m) ms_RX12_259 rfl (Nat.le_of_ble_eq_true rfl) (Nat.le_of_ble_eq_true rfl) (Nat.le_of_ble_eq_true rfl) ⟨rfl, rfl⟩ ⟨(Nat.le_of_ble_eq_true rfl), (Nat.le_of_ble_eq_true rfl)⟩ dX12_starts_19 (fun v4 => ?_)
    refine x_istore (ls' := [some (.int p1), some (.int p2), some (.int p3), some (.int x2), some (.int v4), none, none, none, none]) dX12_starts_22 (Nat.le_of_ble_eq_true rfl) rfl ?_
    refine x_iload_n dX12_starts_24 rfl ?_
    refine x_iload_n dX12_starts_25 rfl ?_
    refine y_callSP (rest := [.int x2]) (c1 := 0) (s1 := 0) (c_Mod_isLeap ω p3 m) ms_RX12_97 rfl (Nat.le_of_ble_eq_true rfl) (Nat.le_of_ble_eq_true rfl) (Nat.le_of_ble_eq_true rfl) ⟨rfl, rfl⟩ ⟨(Nat.le_of_ble_eq_true rfl), (Nat.le_of_ble_eq_true rfl)⟩ dX12_starts_26 (fun v5 => ?_)
    refine y_callSP (rest := []) (c1 := 0) (s1 := 0) (c_Mod_lengthOfMonth ω x2 v5 m) ms_RX12_101 rfl (Nat.le_of_ble_eq_true rfl) (Nat.le_of_ble_eq_true rfl) (Nat.le_of_ble_eq_true rfl) ⟨rfl, rfl⟩ ⟨(Nat.le_of_ble_eq_true rfl), (Nat.le_of_ble_eq_true rfl)⟩ dX12_starts_29 (fun v6 => ?_)
    refine x_istore (ls' := [some (.int p1), some (.int p2), some (.int p3), some (.int x2), some (.int v4), some (.int v6), none, none, none]) dX12_starts_32 (Nat.le_of_ble_eq_true rfl) rfl ?_
    refine x_iload_n dX12_starts_34 rfl ?_
    refine x_iconst (v := 1) dX12_starts_35 (by decide) ?_
    refine x_icmp_ne (tgt := 62) dX12_starts_36 (by decide) (fun hc7 => ?_) (fun hc7 => ?_)
    · refine x_iload_n dX12_starts_39 rfl ?_
      refine x_bipush (v := 100) dX12_starts_40 (by decide) ?_
      refine x_irem dX12_starts_42 (by decide) ?_
      refine x_iload dX12_starts_43 rfl ?_
      refine x_icmp_gt (tgt := 60) dX12_starts_45 (by decide) (fun hc18 => ?_) (fun hc18 => ?_)
      · refine x_iconst (v := (-1)) dX12_starts_60 (by decide) ?_
        exact x_iret rfl rfl ⟨(Nat.le_of_ble_eq_true rfl), (Nat.le_of_ble_eq_true rfl)⟩ dX12_starts_61
      · refine x_iload dX12_starts_48 rfl ?_
        refine x_iload_n dX12_starts_50 rfl ?_
        refine x_bipush (v := 100) dX12_starts_51 (by decide) ?_
        refine x_irem dX12_starts_53 (by decide) ?_
        refine x_iadd dX12_starts_54 ?_
        refine x_iconst (v := 1) dX12_starts_55 (by decide) ?_
        refine x_isub dX12_starts_56 ?_
        refine x_goto (tgt := 61) dX12_starts_57 (by decide) ?_
        exact x_iret rfl rfl ⟨(Nat.le_of_ble_eq_true rfl), (Nat.le_of_ble_eq_true rfl)⟩ dX12_starts_61
    · refine x_iload_n dX12_starts_62 rfl ?_
      refine x_bipush (v := 100) dX12_starts_63 (by decide) ?_
      refine x_idiv dX12_starts_65 (by decide) ?_
      refine x_bipush (v := 10) dX12_starts_66 (by decide) ?_
      refine x_irem dX12_starts_68 (by decide) ?_
      refine y_letI (fun x8 => ?_)
      refine x_istore (ls' := [some (.int p1), some (.int p2), some (.int p3), some (.int x2), some (.int v4), some (.int v6), some (.int x8), none, none]) dX12_starts_69 (Nat.le_of_ble_eq_true rfl) rfl ?_
      refine x_iload_n dX12_starts_71 rfl ?_
      refine x_iconst (v := 3) dX12_starts_72 (by decide) ?_
      refine x_icmp_ne (tgt := 108) dX12_starts_73 (by decide) (fun hc9 => ?_) (fun hc9 => ?_)
      · refine x_iload dX12_starts_76 rfl ?_
        refine x_iload dX12_starts_78 rfl ?_
        refine x_iadd dX12_starts_80 ?_
        refine x_iconst (v := 1) dX12_starts_81 (by decide) ?_
        refine x_isub dX12_starts_82 ?_
        refine y_letI (fun x15 => ?_)
        refine x_istore (ls' := [some (.int p1), some (.int p2), some (.int p3), some (.int x2), some (.int v4), some (.int v6), some (.int x8), some (.int x15), none]) dX12_starts_83 (Nat.le_of_ble_eq_true rfl) rfl ?_
        refine x_iload dX12_starts_85 rfl ?_
        refine x_iload_n dX12_starts_87 rfl ?_
        refine y_callSP (rest := [.int x15]) (c1 := 0) (s1 := 0) (c_Mod_beginOf ω p3 m) ms_RX12_119 rfl (Nat.le_of_ble_eq_true rfl) (Nat.le_of_ble_eq_true rfl) (Nat.le_of_ble_eq_true rfl) ⟨rfl, rfl⟩ ⟨(Nat.le_of_ble_eq_true rfl), (Nat.le_of_ble_eq_true rfl)⟩ dX12_starts_88 (fun v16 => ?_)
        refine x_iload dX12_starts_91 rfl ?_
        refine x_iadd dX12_starts_93 ?_
        refine y_callSP (rest := [.int x15]) (c1 := 0) (s1 := 0) (c_Mod_weekday ω (v16 + x15) m) ms_RX12_262 rfl (Nat.le_of_ble_eq_true rfl) (Nat.le_of_ble_eq_true rfl) (Nat.le_of_ble_eq_true rfl) ⟨rfl, rfl⟩ ⟨(Nat.le_of_ble_eq_true rfl), (Nat.le_of_ble_eq_true rfl)⟩ dX12_starts_94 (fun v17 => ?_)
        refine x_iload dX12_starts_97 rfl ?_
        refine x_isub dX12_starts_99 ?_
        refine x_bipush (v := 7) dX12_starts_100 (by decide) ?_
        refine x_iadd dX12_starts_102 ?_
        refine x_bipush (v := 7) dX12_starts_103 (by decide) ?_
        refine x_irem dX12_starts_105 (by decide) ?_
        refine x_isub dX12_starts_106 ?_
        exact x_iret rfl rfl ⟨(Nat.le_of_ble_eq_true rfl), (Nat.le_of_ble_eq_true rfl)⟩ dX12_starts_107
      · refine x_iload dX12_starts_108 rfl ?_
        refine x_iload_n dX12_starts_110 rfl ?_
        refine y_callSP (rest := [.int x8]) (c1 := 0) (s1 := 0) (c_Mod_beginOf ω p3 m) ms_RX12_119 rfl (Nat.le_of_ble_eq_true rfl) (Nat.le_of_ble_eq_true rfl) (Nat.le_of_ble_eq_true rfl) ⟨rfl, rfl⟩ ⟨(Nat.le_of_ble_eq_true rfl), (Nat.le_of_ble_eq_true rfl)⟩ dX12_starts_111 (fun v10 => ?_)
        refine x_iload dX12_starts_114 rfl ?_
        refine x_iadd dX12_starts_116 ?_
        refine y_callSP (rest := [.int x8]) (c1 := 0) (s1 := 0) (c_Mod_weekday ω (v10 + v4) m) ms_RX12_262 rfl (Nat.le_of_ble_eq_true rfl) (Nat.le_of_ble_eq_true rfl) (Nat.le_of_ble_eq_true rfl) ⟨rfl, rfl⟩ ⟨(Nat.le_of_ble_eq_true rfl), (Nat.le_of_ble_eq_true rfl)⟩ dX12_starts_117 (fun v11 => ?_)
        refine x_isub dX12_starts_120 ?_
        refine x_bipush (v := 7) dX12_starts_121 (by decide) ?_
        refine x_iadd dX12_starts_123 ?_
        refine x_bipush (v := 7) dX12_starts_124 (by decide) ?_
        refine x_irem dX12_starts_126 (by decide) ?_
        refine y_letI (fun x12 => ?_)
        refine x_istore (ls' := [some (.int p1), some (.int p2), some (.int p3), some (.int x2), some (.int v4), some (.int v6), some (.int x8), some (.int x12), none]) dX12_starts_127 (Nat.le_of_ble_eq_true rfl) rfl ?_
        refine x_iload dX12_starts_129 rfl ?_
        refine x_bipush (v := 7) dX12_starts_131 (by decide) ?_
        refine x_iload_n dX12_starts_133 rfl ?_
        refine x_sipush (v := 1000) dX12_starts_134 (by decide) ?_
        refine x_idiv dX12_starts_137 (by decide) ?_
        refine x_iconst (v := 1) dX12_starts_138 (by decide) ?_
        refine x_isub dX12_starts_139 ?_
        refine x_imul dX12_starts_140 ?_
        refine x_iadd dX12_starts_141 ?_
        refine y_letI (fun x13 => ?_)
        refine x_istore (ls' := [some (.int p1), some (.int p2), some (.int p3), some (.int x2), some (.int v4), some (.int v6), some (.int x8), some (.int x12), some (.int x13)]) dX12_starts_142 (Nat.le_of_ble_eq_true rfl) rfl ?_
        refine x_iload dX12_starts_144 rfl ?_
        refine x_iload dX12_starts_146 rfl ?_
        refine x_icmp_ge (tgt := 159) dX12_starts_148 (by decide) (fun hc14 => ?_) (fun hc14 => ?_)
        · refine x_iconst (v := (-1)) dX12_starts_159 (by decide) ?_
          exact x_iret rfl rfl ⟨(Nat.le_of_ble_eq_true rfl), (Nat.le_of_ble_eq_true rfl)⟩ dX12_starts_160
        · refine x_iload dX12_starts_151 rfl ?_
          refine x_iload dX12_starts_153 rfl ?_
          refine x_iadd dX12_starts_155 ?_
          refine x_goto (tgt := 160) dX12_starts_156 (by decide) ?_
          exact x_iret rfl rfl ⟨(Nat.le_of_ble_eq_true rfl), (Nat.le_of_ble_eq_true rfl)⟩ dX12_starts_160
  · refine x_icmp_ne (tgt := 12) dX12_starts_2 (by decide) (fun hc1 => ?_) (fun hc1 => ?_)
    · refine x_iload_n dX12_starts_5 rfl ?_
      refine x_bipush (v := 100) dX12_starts_6 (by decide) ?_
      refine x_idiv dX12_starts_8 (by decide) ?_
      refine x_goto (tgt := 16) dX12_starts_9 (by decide) ?_
      exact hj3 _
    · refine x_iload_n dX12_starts_12 rfl ?_
      refine x_bipush (v := 100) dX12_starts_13 (by decide) ?_
      refine x_irem dX12_starts_15 (by decide) ?_
      exact hj3 _
abbrev kk_Mod_toWeekday : Kx := (yX12_toWeekday.cls, cX12_toWeekday, 7, (some .int), [], false)
set_option maxHeartbeats 4000000 in
set_option maxRecDepth 100000 in
theorem c_Mod_toWeekday (ω : Wd) (p1 : Int32) (p2 : Int32) (p3 : Int32) (p4 : Int32) (m : Mm) : Ev ω true 2 0 0 yX12_toWeekday cX12_toWeekday 7 (some .int) [.int p1, .int p2, .int p3, .int p4] m (fP m) (f_Mod_toWeekday p1 p2 p3 p4 m) := by
  refine Ev.of (b := false) (ls := [some (.int p1), some (.int p2), some (.int p3), some (.int p4), none, none, none]) (plainFor_of_name (by decide +kernel)) (fun h => by cases h) rfl (Nat.le_of_ble_eq_true rfl) rfl ?_
  change Sx ω true 2 0 0 kk_Mod_toWeekday (fP m) 0 0 m 0 _ _ _
  unfold f_Mod_toWeekday
  refine x_iload_n dX12_toWeekday_0 rfl ?_
  refine y_callSP (rest := []) (c1 := 0) (s1 := 0) (c_Mod_beginOf ω p3 m) ms_RX12_119 rfl (Nat.le_of_ble_eq_true rfl) (Nat.le_of_ble_eq_true rfl) (Nat.le_of_ble_eq_true rfl) ⟨rfl, rfl⟩ ⟨(Nat.le_of_ble_eq_true rfl), (Nat.le_of_ble_eq_true rfl)⟩ dX12_toWeekday_1 (fun v1 => ?_)
  refine x_iload_n dX12_toWeekday_4 rfl ?_
  refine x_iadd dX12_toWeekday_5 ?_
  refine y_callSP (rest := []) (c1 := 0) (s1 := 0) (c_Mod_weekday ω (v1 + p4) m) ms_RX12_262 rfl (Nat.le_of_ble_eq_true rfl) (Nat.le_of_ble_eq_true rfl) (Nat.le_of_ble_eq_true rfl) ⟨rfl, rfl⟩ ⟨(Nat.le_of_ble_eq_true rfl), (Nat.le_of_ble_eq_true rfl)⟩ dX12_toWeekday_6 (fun v2 => ?_)
  refine x_istore (ls' := [some (.int p1), some (.int p2), some (.int p3), some (.int p4), some (.int v2), none, none]) dX12_toWeekday_9 (Nat.le_of_ble_eq_true rfl) rfl ?_
  refine x_iload_n dX12_toWeekday_11 rfl ?_
  refine x_iload dX12_toWeekday_12 rfl ?_
  refine x_isub dX12_toWeekday_14 ?_
  refine x_bipush (v := 7) dX12_toWeekday_15 (by decide) ?_
  refine x_iadd dX12_toWeekday_17 ?_
  refine x_bipush (v := 7) dX12_toWeekday_18 (by decide) ?_
  refine x_irem dX12_toWeekday_20 (by decide) ?_
  refine y_letI (fun x3 => ?_)
  refine x_istore (ls' := [some (.int p1), some (.int p2), some (.int p3), some (.int p4), some (.int v2), some (.int x3), none]) dX12_toWeekday_21 (Nat.le_of_ble_eq_true rfl) rfl ?_
  refine x_iload dX12_toWeekday_23 rfl ?_
  refine x_iload_n dX12_toWeekday_25 rfl ?_
  refine x_isub dX12_toWeekday_26 ?_
  refine x_bipush (v := 7) dX12_toWeekday_27 (by decide) ?_
  refine x_iadd dX12_toWeekday_29 ?_
  refine x_bipush (v := 7) dX12_toWeekday_30 (by decide) ?_
  refine x_irem dX12_toWeekday_32 (by decide) ?_
  refine y_letI (fun x4 => ?_)
  refine x_istore (ls' := [some (.int p1), some (.int p2), some (.int p3), some (.int p4), some (.int v2), some (.int x3), some (.int x4)]) dX12_toWeekday_33 (Nat.le_of_ble_eq_true rfl) rfl ?_
  refine x_iload_n dX12_toWeekday_35 rfl ?_
  refine x_bipush (v := 6) dX12_toWeekday_36 (by decide) ?_
  refine x_icmp_ne (tgt := 56) dX12_toWeekday_38 (by decide) (fun hc5 => ?_) (fun hc5 => ?_)
  · refine x_iload_n dX12_toWeekday_41 rfl ?_
    refine x_iload dX12_toWeekday_42 rfl ?_
    refine x_if_ne (tgt := 52) dX12_toWeekday_44 (by decide) (fun hc9 => ?_) (fun hc9 => ?_)
    · refine x_bipush (v := 7) dX12_toWeekday_47 (by decide) ?_
      refine x_goto (tgt := 54) dX12_toWeekday_49 (by decide) ?_
      refine x_iadd dX12_toWeekday_54 ?_
      exact x_iret rfl rfl ⟨(Nat.le_of_ble_eq_true rfl), (Nat.le_of_ble_eq_true rfl)⟩ dX12_toWeekday_55
    · refine x_iload dX12_toWeekday_52 rfl ?_
      refine x_iadd dX12_toWeekday_54 ?_
      exact x_iret rfl rfl ⟨(Nat.le_of_ble_eq_true rfl), (Nat.le_of_ble_eq_true rfl)⟩ dX12_toWeekday_55
  · refine x_iload_n dX12_toWeekday_56 rfl ?_
    refine x_bipush (v := 7) dX12_toWeekday_57 (by decide) ?_
    refine x_icmp_ne (tgt := 77) dX12_toWeekday_59 (by decide) (fun hc6 => ?_) (fun hc6 => ?_)
    · refine x_iload_n dX12_toWeekday_62 rfl ?_
      refine x_iload dX12_toWeekday_63 rfl ?_
      refine x_if_ne (tgt := 73) dX12_toWeekday_65 (by decide) (fun hc8 => ?_) (fun hc8 => ?_)
      · refine x_bipush (v := 7) dX12_toWeekday_68 (by decide) ?_
        refine x_goto (tgt := 75) dX12_toWeekday_70 (by decide) ?_
        refine x_isub dX12_toWeekday_75 ?_
        exact x_iret rfl rfl ⟨(Nat.le_of_ble_eq_true rfl), (Nat.le_of_ble_eq_true rfl)⟩ dX12_toWeekday_76
      · refine x_iload dX12_toWeekday_73 rfl ?_
        refine x_isub dX12_toWeekday_75 ?_
        exact x_iret rfl rfl ⟨(Nat.le_of_ble_eq_true rfl), (Nat.le_of_ble_eq_true rfl)⟩ dX12_toWeekday_76
    · refine x_iload_n dX12_toWeekday_77 rfl ?_
      refine x_bipush (v := 8) dX12_toWeekday_78 (by decide) ?_
      refine x_icmp_ne (tgt := 90) dX12_toWeekday_80 (by decide) (fun hc7 => ?_) (fun hc7 => ?_)
      · refine x_iload_n dX12_toWeekday_83 rfl ?_
        refine x_iload dX12_toWeekday_84 rfl ?_
        refine x_iadd dX12_toWeekday_86 ?_
        refine x_goto (tgt := 94) dX12_toWeekday_87 (by decide) ?_
        exact x_iret rfl rfl ⟨(Nat.le_of_ble_eq_true rfl), (Nat.le_of_ble_eq_true rfl)⟩ dX12_toWeekday_94
      · refine x_iload_n dX12_toWeekday_90 rfl ?_
        refine x_iload dX12_toWeekday_91 rfl ?_
        refine x_isub dX12_toWeekday_93 ?_
        exact x_iret rfl rfl ⟨(Nat.le_of_ble_eq_true rfl), (Nat.le_of_ble_eq_true rfl)⟩ dX12_toWeekday_94
abbrev kk_Mod_toMoon : Kx := (yX12_toMoon.cls, cX12_toMoon, 8, (some .int), [], false)
set_option maxHeartbeats 4000000 in
set_option maxRecDepth 100000 in
theorem c_Mod_toMoon (ω : Wd) (p1 : Int32) (p2 : Int32) (p3 : Int32) (p4 : Int32) (m : Mm) : Ev ω true 4 0 0 yX12_toMoon cX12_toMoon 8 (some .int) [.int p1, .int p2, .int p3, .int p4] m (fP m) (f_Mod_toMoon p1 p2 p3 p4 m) := by
  refine Ev.of (b := false) (ls := [some (.int p1), some (.int p2), some (.int p3), some (.int p4), none, none, none, none]) (plainFor_of_name (by decide +kernel)) (fun h => by cases h) rfl (Nat.le_of_ble_eq_true rfl) rfl ?_
  change Sx ω true 4 0 0 kk_Mod_toMoon (fP m) 0 0 m 0 _ _ _
  unfold f_Mod_toMoon
  refine x_iload_n dX12_toMoon_0 rfl ?_
  refine y_callSP (rest := []) (c1 := 0) (s1 := 0) (c_Mod_beginOf ω p2 m) ms_RX12_119 rfl (Nat.le_of_ble_eq_true rfl) (Nat.le_of_ble_eq_true rfl) (Nat.le_of_ble_eq_true rfl) ⟨rfl, rfl⟩ ⟨(Nat.le_of_ble_eq_true rfl), (Nat.le_of_ble_eq_true rfl)⟩ dX12_toMoon_1 (fun v1 => ?_)
  refine x_iload_n dX12_toMoon_4 rfl ?_
  refine x_iadd dX12_toMoon_5 ?_
  refine y_letI (fun x2 => ?_)
  refine x_istore (ls' := [some (.int p1), some (.int p2), some (.int p3), some (.int p4), some (.int x2), none, none, none]) dX12_toMoon_6 (Nat.le_of_ble_eq_true rfl) rfl ?_
  refine x_iload dX12_toMoon_8 rfl ?_
  refine x_iload_n dX12_toMoon_10 rfl ?_
  refine y_callSP (rest := []) (c1 := 0) (s1 := 0) (c_Mod_lastMoon ω x2 p4 m) ms_RX12_109 rfl (Nat.le_of_ble_eq_true rfl) (Nat.le_of_ble_eq_true rfl) (Nat.le_of_ble_eq_true rfl) ⟨rfl, rfl⟩ ⟨(Nat.le_of_ble_eq_true rfl), (Nat.le_of_ble_eq_true rfl)⟩ dX12_toMoon_11 (fun v3 => ?_)
  refine x_istore (ls' := [some (.int p1), some (.int p2), some (.int p3), some (.int p4), some (.int x2), some (.int v3), none, none]) dX12_toMoon_14 (Nat.le_of_ble_eq_true rfl) rfl ?_
  refine x_iload dX12_toMoon_16 rfl ?_
  refine x_iload_n dX12_toMoon_18 rfl ?_
  refine y_callSP (rest := []) (c1 := 0) (s1 := 0) (c_Mod_ageOf ω x2 p4 m) ms_RX12_130 rfl (Nat.le_of_ble_eq_true rfl) (Nat.le_of_ble_eq_true rfl) (Nat.le_of_ble_eq_true rfl) ⟨rfl, rfl⟩ ⟨(Nat.le_of_ble_eq_true rfl), (Nat.le_of_ble_eq_true rfl)⟩ dX12_toMoon_19 (fun v4 => ?_)
  refine x_istore (ls' := [some (.int p1), some (.int p2), some (.int p3), some (.int p4), some (.int x2), some (.int v3), some (.int v4), none]) dX12_toMoon_22 (Nat.le_of_ble_eq_true rfl) rfl ?_
  refine x_iload_n dX12_toMoon_24 rfl ?_
  refine x_bipush (v := 10) dX12_toMoon_25 (by decide) ?_
  refine y_join (fun j7 => ∀ (x6 : Int32), Sx ω true 4 0 0 kk_Mod_toMoon (fP m) 0 0 m 74 [none, some (.int p2), none, none, none, none, none, none] [.int x6] (j7 x6)) ?_ (fun j7 hj7 => ?_)
  · intro x6
    refine x_istore (ls' := [none, some (.int p2), none, none, none, none, none, some (.int x6)]) dX12_toMoon_74 (Nat.le_of_ble_eq_true rfl) rfl ?_
    refine x_iload dX12_toMoon_76 rfl ?_
    refine x_iload_n dX12_toMoon_78 rfl ?_
    refine y_callSP (rest := [.int x6]) (c1 := 0) (s1 := 0) (c_Mod_beginOf ω p2 m) ms_RX12_119 rfl (Nat.le_of_ble_eq_true rfl) (Nat.le_of_ble_eq_true rfl) (Nat.le_of_ble_eq_true rfl) ⟨rfl, rfl⟩ ⟨(Nat.le_of_ble_eq_true rfl), (Nat.le_of_ble_eq_true rfl)⟩ dX12_toMoon_79 (fun v8 => ?_)
    refine x_isub dX12_toMoon_82 ?_
    exact x_iret rfl rfl ⟨(Nat.le_of_ble_eq_true rfl), (Nat.le_of_ble_eq_true rfl)⟩ dX12_toMoon_83
  · refine x_icmp_ne (tgt := 56) dX12_toMoon_27 (by decide) (fun hc5 => ?_) (fun hc5 => ?_)
    · refine x_iload dX12_toMoon_30 rfl ?_
      refine x_bipush (v := 14) dX12_toMoon_32 (by decide) ?_
      refine y_join (fun j13 => ∀ (x12 : Int32), Sx ω true 4 0 0 kk_Mod_toMoon (fP m) 0 0 m 46 [none, some (.int p2), none, some (.int p4), none, none, none, none] [.int x12] (j13 x12)) ?_ (fun j13 hj13 => ?_)
      · intro x12
        refine x_iload_n dX12_toMoon_46 rfl ?_
        refine y_callSP (rest := []) (c1 := 0) (s1 := 0) (c_Mod_moonOf ω x12 p4 m) ms_RX12_112 rfl (Nat.le_of_ble_eq_true rfl) (Nat.le_of_ble_eq_true rfl) (Nat.le_of_ble_eq_true rfl) ⟨rfl, rfl⟩ ⟨(Nat.le_of_ble_eq_true rfl), (Nat.le_of_ble_eq_true rfl)⟩ dX12_toMoon_47 (fun v14 => ?_)
        refine x_bipush (v := 14) dX12_toMoon_50 (by decide) ?_
        refine x_iadd dX12_toMoon_52 ?_
        refine x_goto (tgt := 74) dX12_toMoon_53 (by decide) ?_
        refine y_mask (bs := [false, true, false, false, false, false, false, false]) (ls' := [none, some (.int p2), none, none, none, none, none, none]) rfl ?_
        exact hj7 _
      · refine x_icmp_gt (tgt := 42) dX12_toMoon_34 (by decide) (fun hc11 => ?_) (fun hc11 => ?_)
        · refine x_iload dX12_toMoon_42 rfl ?_
          refine x_iconst (v := 1) dX12_toMoon_44 (by decide) ?_
          refine x_iadd dX12_toMoon_45 ?_
          refine y_mask (bs := [false, true, false, true, false, false, false, false]) (ls' := [none, some (.int p2), none, some (.int p4), none, none, none, none]) rfl ?_
          exact hj13 _
        · refine x_iload dX12_toMoon_37 rfl ?_
          refine x_goto (tgt := 46) dX12_toMoon_39 (by decide) ?_
          refine y_mask (bs := [false, true, false, true, false, false, false, false]) (ls' := [none, some (.int p2), none, some (.int p4), none, none, none, none]) rfl ?_
          exact hj13 _
    · refine x_iload dX12_toMoon_56 rfl ?_
      refine x_if_ne (tgt := 66) dX12_toMoon_58 (by decide) (fun hc9 => ?_) (fun hc9 => ?_)
      · refine x_iload dX12_toMoon_61 rfl ?_
        refine x_goto (tgt := 74) dX12_toMoon_63 (by decide) ?_
        refine y_mask (bs := [false, true, false, false, false, false, false, false]) (ls' := [none, some (.int p2), none, none, none, none, none, none]) rfl ?_
        exact hj7 _
      · refine x_iload dX12_toMoon_66 rfl ?_
        refine x_iconst (v := 1) dX12_toMoon_68 (by decide) ?_
        refine x_iadd dX12_toMoon_69 ?_
        refine x_iload_n dX12_toMoon_70 rfl ?_
        refine y_callSP (rest := []) (c1 := 0) (s1 := 0) (c_Mod_moonOf ω (v3 + 1) p4 m) ms_RX12_112 rfl (Nat.le_of_ble_eq_true rfl) (Nat.le_of_ble_eq_true rfl) (Nat.le_of_ble_eq_true rfl) ⟨rfl, rfl⟩ ⟨(Nat.le_of_ble_eq_true rfl), (Nat.le_of_ble_eq_true rfl)⟩ dX12_toMoon_71 (fun v10 => ?_)
        refine y_mask (bs := [false, true, false, false, false, false, false, false]) (ls' := [none, some (.int p2), none, none, none, none, none, none]) rfl ?_
        exact hj7 _
abbrev kk_Mod_costOf : Kx := (yX12_costOf.cls, cX12_costOf, 1, (some .int), [], false)
set_option maxHeartbeats 4000000 in
set_option maxRecDepth 100000 in
theorem c_Mod_costOf (ω : Wd) (p1 : Int32) (m : Mm) : Ev ω true 1 0 0 yX12_costOf cX12_costOf 1 (some .int) [.int p1] m (fP m) (f_Mod_costOf p1 m) := by
  refine Ev.of (b := false) (ls := [some (.int p1)]) (plainFor_of_name (by decide +kernel)) (fun h => by cases h) rfl (Nat.le_of_ble_eq_true rfl) rfl ?_
  change Sx ω true 1 0 0 kk_Mod_costOf (fP m) 0 0 m 0 _ _ _
  unfold f_Mod_costOf
  refine x_iload_n dX12_costOf_0 rfl ?_
  refine x_iconst (v := 2) dX12_costOf_1 (by decide) ?_
  refine x_icmp_eq (tgt := 10) dX12_costOf_2 (by decide) (fun hc1 => ?_) (fun hc1 => ?_)
  · refine x_iconst (v := 3) dX12_costOf_10 (by decide) ?_
    exact x_iret rfl rfl ⟨(Nat.le_of_ble_eq_true rfl), (Nat.le_of_ble_eq_true rfl)⟩ dX12_costOf_11
  · refine x_iload_n dX12_costOf_5 rfl ?_
    refine x_iconst (v := 3) dX12_costOf_6 (by decide) ?_
    refine x_icmp_ne (tgt := 12) dX12_costOf_7 (by decide) (fun hc2 => ?_) (fun hc2 => ?_)
    · refine x_iconst (v := 3) dX12_costOf_10 (by decide) ?_
      exact x_iret rfl rfl ⟨(Nat.le_of_ble_eq_true rfl), (Nat.le_of_ble_eq_true rfl)⟩ dX12_costOf_11
    · refine x_iload_n dX12_costOf_12 rfl ?_
      refine x_bipush (v := 10) dX12_costOf_13 (by decide) ?_
      refine x_icmp_eq (tgt := 24) dX12_costOf_15 (by decide) (fun hc3 => ?_) (fun hc3 => ?_)
      · refine x_bipush (v := 6) dX12_costOf_24 (by decide) ?_
        exact x_iret rfl rfl ⟨(Nat.le_of_ble_eq_true rfl), (Nat.le_of_ble_eq_true rfl)⟩ dX12_costOf_26
      · refine x_iload_n dX12_costOf_18 rfl ?_
        refine x_bipush (v := 11) dX12_costOf_19 (by decide) ?_
        refine x_icmp_ne (tgt := 27) dX12_costOf_21 (by decide) (fun hc4 => ?_) (fun hc4 => ?_)
        · refine x_bipush (v := 6) dX12_costOf_24 (by decide) ?_
          exact x_iret rfl rfl ⟨(Nat.le_of_ble_eq_true rfl), (Nat.le_of_ble_eq_true rfl)⟩ dX12_costOf_26
        · refine x_iload_n dX12_costOf_27 rfl ?_
          refine x_iconst (v := 4) dX12_costOf_28 (by decide) ?_
          refine y_join (fun j6 => Sx ω true 1 0 0 kk_Mod_costOf (fP m) 0 0 m 50 [none] [] j6) ?_ (fun j6 hj6 => ?_)
          · refine x_iconst (v := 2) dX12_costOf_50 (by decide) ?_
            refine x_goto (tgt := 55) dX12_costOf_51 (by decide) ?_
            exact x_iret rfl rfl ⟨(Nat.le_of_ble_eq_true rfl), (Nat.le_of_ble_eq_true rfl)⟩ dX12_costOf_55
          · refine x_icmp_eq (tgt := 50) dX12_costOf_29 (by decide) (fun hc5 => ?_) (fun hc5 => ?_)
            · refine y_mask (bs := [false]) (ls' := [none]) rfl ?_
              exact hj6
            · refine x_iload_n dX12_costOf_32 rfl ?_
              refine x_bipush (v := 6) dX12_costOf_33 (by decide) ?_
              refine y_join (fun j8 => Sx ω true 1 0 0 kk_Mod_costOf (fP m) 0 0 m 44 [some (.int p1)] [] j8) ?_ (fun j8 hj8 => ?_)
              · refine x_iload_n dX12_costOf_44 rfl ?_
                refine x_bipush (v := 15) dX12_costOf_45 (by decide) ?_
                refine x_icmp_ne (tgt := 54) dX12_costOf_47 (by decide) (fun hc9 => ?_) (fun hc9 => ?_)
                · refine y_mask (bs := [false]) (ls' := [none]) rfl ?_
                  exact hj6
                · refine x_iconst (v := 1) dX12_costOf_54 (by decide) ?_
                  exact x_iret rfl rfl ⟨(Nat.le_of_ble_eq_true rfl), (Nat.le_of_ble_eq_true rfl)⟩ dX12_costOf_55
              · refine x_icmp_lt (tgt := 44) dX12_costOf_35 (by decide) (fun hc7 => ?_) (fun hc7 => ?_)
                · exact hj8
                · refine x_iload_n dX12_costOf_38 rfl ?_
                  refine x_bipush (v := 9) dX12_costOf_39 (by decide) ?_
                  refine x_icmp_le (tgt := 50) dX12_costOf_41 (by decide) (fun hc10 => ?_) (fun hc10 => ?_)
                  · refine y_mask (bs := [false]) (ls' := [none]) rfl ?_
                    exact hj6
                  · exact hj8
abbrev kk_Mod_moved : Kx := (yX12_moved.cls, cX12_moved, 5, (some .int), [], false)
set_option maxHeartbeats 4000000 in
set_option maxRecDepth 100000 in
theorem c_Mod_moved (ω : Wd) (p1 : Int32) (p2 : Int32) (p3 : Int32) (p4 : Int32) (p5 : Int32) (m : Mm) : Ev ω true 5 0 0 yX12_moved cX12_moved 5 (some .int) [.int p1, .int p2, .int p3, .int p4, .int p5] m (fP m) (f_Mod_moved p1 p2 p3 p4 p5 m) := by
  refine Ev.of (b := false) (ls := [some (.int p1), some (.int p2), some (.int p3), some (.int p4), some (.int p5)]) (plainFor_of_name (by decide +kernel)) (fun h => by cases h) rfl (Nat.le_of_ble_eq_true rfl) rfl ?_
  change Sx ω true 5 0 0 kk_Mod_moved (fP m) 0 0 m 0 _ _ _
  unfold f_Mod_moved
  refine x_iload_n dX12_moved_0 rfl ?_
  refine x_iconst (v := (-1)) dX12_moved_1 (by decide) ?_
  refine x_icmp_eq (tgt := 11) dX12_moved_2 (by decide) (fun hc1 => ?_) (fun hc1 => ?_)
  · refine x_iconst (v := (-1)) dX12_moved_11 (by decide) ?_
    exact x_iret rfl rfl ⟨(Nat.le_of_ble_eq_true rfl), (Nat.le_of_ble_eq_true rfl)⟩ dX12_moved_12
  · refine x_iload_n dX12_moved_5 rfl ?_
    refine x_bipush (v := 12) dX12_moved_6 (by decide) ?_
    refine x_icmp_ne (tgt := 13) dX12_moved_8 (by decide) (fun hc2 => ?_) (fun hc2 => ?_)
    · refine x_iconst (v := (-1)) dX12_moved_11 (by decide) ?_
      exact x_iret rfl rfl ⟨(Nat.le_of_ble_eq_true rfl), (Nat.le_of_ble_eq_true rfl)⟩ dX12_moved_12
    · refine x_iload_n dX12_moved_13 rfl ?_
      refine x_iconst (v := 5) dX12_moved_14 (by decide) ?_
      refine x_icmp_ne (tgt := 30) dX12_moved_15 (by decide) (fun hc3 => ?_) (fun hc3 => ?_)
      · refine x_iload_n dX12_moved_18 rfl ?_
        refine x_iload_n dX12_moved_19 rfl ?_
        refine x_iload_n dX12_moved_20 rfl ?_
        refine x_iadd dX12_moved_21 ?_
        refine x_sipush (v := 5000) dX12_moved_22 (by decide) ?_
        refine x_isub dX12_moved_25 ?_
        refine y_callSP (rest := []) (c1 := 0) (s1 := 0) (c_Mod_within ω p3 ((p4 + p2) - 5000) m) ms_RX12_265 rfl (Nat.le_of_ble_eq_true rfl) (Nat.le_of_ble_eq_true rfl) (Nat.le_of_ble_eq_true rfl) ⟨rfl, rfl⟩ ⟨(Nat.le_of_ble_eq_true rfl), (Nat.le_of_ble_eq_true rfl)⟩ dX12_moved_26 (fun v10 => ?_)
        exact x_iret rfl rfl ⟨(Nat.le_of_ble_eq_true rfl), (Nat.le_of_ble_eq_true rfl)⟩ dX12_moved_29
      · refine x_iload_n dX12_moved_30 rfl ?_
        refine x_iload_n dX12_moved_31 rfl ?_
        refine x_bipush (v := 10) dX12_moved_32 (by decide) ?_
        refine y_join (fun j6 => ∀ (x5 : Int32), Sx ω true 5 0 0 kk_Mod_moved (fP m) 0 0 m 55 [none, none, none, none, none] [.int x5, .int p3] (j6 x5)) ?_ (fun j6 hj6 => ?_)
        · intro x5
          refine y_callSP (rest := []) (c1 := 0) (s1 := 0) (c_Mod_within ω p3 x5 m) ms_RX12_265 rfl (Nat.le_of_ble_eq_true rfl) (Nat.le_of_ble_eq_true rfl) (Nat.le_of_ble_eq_true rfl) ⟨rfl, rfl⟩ ⟨(Nat.le_of_ble_eq_true rfl), (Nat.le_of_ble_eq_true rfl)⟩ dX12_moved_55 (fun v7 => ?_)
          exact x_iret rfl rfl ⟨(Nat.le_of_ble_eq_true rfl), (Nat.le_of_ble_eq_true rfl)⟩ dX12_moved_58
        · refine x_icmp_ge (tgt := 47) dX12_moved_34 (by decide) (fun hc4 => ?_) (fun hc4 => ?_)
          · refine x_iload_n dX12_moved_47 rfl ?_
            refine x_iload_n dX12_moved_48 rfl ?_
            refine x_iload_n dX12_moved_49 rfl ?_
            refine x_iload dX12_moved_50 rfl ?_
            refine y_callSP (rest := [.int p3]) (c1 := 0) (s1 := 0) (c_Mod_toMoon ω p1 p3 p4 p5 m) ms_RX12_272 rfl (Nat.le_of_ble_eq_true rfl) (Nat.le_of_ble_eq_true rfl) (Nat.le_of_ble_eq_true rfl) ⟨rfl, rfl⟩ ⟨(Nat.le_of_ble_eq_true rfl), (Nat.le_of_ble_eq_true rfl)⟩ dX12_moved_52 (fun v8 => ?_)
            refine y_mask (bs := [false, false, false, false, false]) (ls' := [none, none, none, none, none]) rfl ?_
            exact hj6 _
          · refine x_iload_n dX12_moved_37 rfl ?_
            refine x_iload_n dX12_moved_38 rfl ?_
            refine x_iload_n dX12_moved_39 rfl ?_
            refine x_iload_n dX12_moved_40 rfl ?_
            refine y_callSP (rest := [.int p3]) (c1 := 0) (s1 := 0) (c_Mod_toWeekday ω p1 p2 p3 p4 m) ms_RX12_268 rfl (Nat.le_of_ble_eq_true rfl) (Nat.le_of_ble_eq_true rfl) (Nat.le_of_ble_eq_true rfl) ⟨rfl, rfl⟩ ⟨(Nat.le_of_ble_eq_true rfl), (Nat.le_of_ble_eq_true rfl)⟩ dX12_moved_41 (fun v9 => ?_)
            refine x_goto (tgt := 55) dX12_moved_44 (by decide) ?_
            refine y_mask (bs := [false, false, false, false, false]) (ls' := [none, none, none, none, none]) rfl ?_
            exact hj6 _
abbrev kk_Mod_isSo : Kx := (yX12_isSo.cls, cX12_isSo, 6, (some .boolean), [], false)
set_option maxHeartbeats 4000000 in
set_option maxRecDepth 100000 in
theorem c_Mod_isSo (ω : Wd) (p1 : Int32) (p2 : Int32) (p3 : Int32) (p4 : Int32) (p5 : Int32) (m : Mm) : Ev ω true 3 0 0 yX12_isSo cX12_isSo 6 (some .boolean) [.ref (zad ω 201), .int p1, .int p2, .int p3, .int p4, .int p5] m (fP m) (f_Mod_isSo p1 p2 p3 p4 p5 m) := by
  refine Ev.of (b := false) (ls := [some (.ref (zad ω 201)), some (.int p1), some (.int p2), some (.int p3), some (.int p4), some (.int p5)]) (plainFor_of_name (by decide +kernel)) (fun h => by cases h) rfl (Nat.le_of_ble_eq_true rfl) rfl ?_
  change Sx ω true 3 0 0 kk_Mod_isSo (fP m) 0 0 m 0 _ _ _
  unfold f_Mod_isSo
  refine x_iload_n dX12_isSo_0 rfl ?_
  refine x_bipush (v := 14) dX12_isSo_1 (by decide) ?_
  refine x_icmp_ne (tgt := 11) dX12_isSo_3 (by decide) (fun hc1 => ?_) (fun hc1 => ?_)
  · refine x_iload_n dX12_isSo_6 rfl ?_
    refine y_callSP (rest := []) (c1 := 0) (s1 := 0) (c_Mod_isLeap ω p3 m) ms_RX12_97 rfl (Nat.le_of_ble_eq_true rfl) (Nat.le_of_ble_eq_true rfl) (Nat.le_of_ble_eq_true rfl) ⟨rfl, rfl⟩ ⟨(Nat.le_of_ble_eq_true rfl), (Nat.le_of_ble_eq_true rfl)⟩ dX12_isSo_7 (fun v11 => ?_)
    refine x_guard (fun hv => ?_)
    exact x_zret rfl rfl (zBo_nar hv) ⟨(Nat.le_of_ble_eq_true rfl), (Nat.le_of_ble_eq_true rfl)⟩ dX12_isSo_10
  · refine x_iload dX12_isSo_11 rfl ?_
    refine x_iconst (v := (-1)) dX12_isSo_13 (by decide) ?_
    refine x_icmp_ne (tgt := 19) dX12_isSo_14 (by decide) (fun hc2 => ?_) (fun hc2 => ?_)
    · refine x_iconst (v := 0) dX12_isSo_17 (by decide) ?_
      exact x_zret rfl rfl (zBo_nar (by decide)) ⟨(Nat.le_of_ble_eq_true rfl), (Nat.le_of_ble_eq_true rfl)⟩ dX12_isSo_18
    · refine x_iload_n dX12_isSo_19 rfl ?_
      refine x_bipush (v := 13) dX12_isSo_20 (by decide) ?_
      refine x_icmp_ne (tgt := 45) dX12_isSo_22 (by decide) (fun hc3 => ?_) (fun hc3 => ?_)
      · refine x_iload_n dX12_isSo_25 rfl ?_
        refine y_callSP (rest := []) (c1 := 0) (s1 := 0) (c_Mod_beginOf ω p3 m) ms_RX12_119 rfl (Nat.le_of_ble_eq_true rfl) (Nat.le_of_ble_eq_true rfl) (Nat.le_of_ble_eq_true rfl) ⟨rfl, rfl⟩ ⟨(Nat.le_of_ble_eq_true rfl), (Nat.le_of_ble_eq_true rfl)⟩ dX12_isSo_26 (fun v8 => ?_)
        refine x_iload dX12_isSo_29 rfl ?_
        refine x_iadd dX12_isSo_31 ?_
        refine y_callSP (rest := []) (c1 := 0) (s1 := 0) (c_Mod_weekday ω (v8 + p4) m) ms_RX12_262 rfl (Nat.le_of_ble_eq_true rfl) (Nat.le_of_ble_eq_true rfl) (Nat.le_of_ble_eq_true rfl) ⟨rfl, rfl⟩ ⟨(Nat.le_of_ble_eq_true rfl), (Nat.le_of_ble_eq_true rfl)⟩ dX12_isSo_32 (fun v9 => ?_)
        refine x_iload_n dX12_isSo_35 rfl ?_
        refine x_icmp_ne (tgt := 43) dX12_isSo_36 (by decide) (fun hc10 => ?_) (fun hc10 => ?_)
        · refine x_iconst (v := 1) dX12_isSo_39 (by decide) ?_
          refine x_goto (tgt := 44) dX12_isSo_40 (by decide) ?_
          exact x_zret rfl rfl (zBo_nar (by decide)) ⟨(Nat.le_of_ble_eq_true rfl), (Nat.le_of_ble_eq_true rfl)⟩ dX12_isSo_44
        · refine x_iconst (v := 0) dX12_isSo_43 (by decide) ?_
          exact x_zret rfl rfl (zBo_nar (by decide)) ⟨(Nat.le_of_ble_eq_true rfl), (Nat.le_of_ble_eq_true rfl)⟩ dX12_isSo_44
      · refine x_iload_n dX12_isSo_45 rfl ?_
        refine x_bipush (v := 15) dX12_isSo_46 (by decide) ?_
        refine x_icmp_ne (tgt := 76) dX12_isSo_48 (by decide) (fun hc4 => ?_) (fun hc4 => ?_)
        · refine x_aload_n dX12_isSo_51 rfl ?_
          refine y_getF fl_RX12_54 hz_201 hq_201_29 (by rw [hz_216]; decide) dX12_isSo_52 ?_
          refine x_bipush (v := 20) dX12_isSo_55 (by decide) ?_
          refine x_iload dX12_isSo_57 rfl ?_
          refine x_imul dX12_isSo_59 ?_
          refine x_iload_n dX12_isSo_60 rfl ?_
          refine x_iadd dX12_isSo_61 ?_
          refine y_iald hz_216 hn_216 dX12_isSo_62 (fun hi => ?_)
          refine x_iload dX12_isSo_63 rfl ?_
          refine x_icmp_ne (tgt := 72) dX12_isSo_65 (by decide) (fun hc7 => ?_) (fun hc7 => ?_)
          · refine x_iconst (v := 1) dX12_isSo_68 (by decide) ?_
            refine x_goto (tgt := 91) dX12_isSo_69 (by decide) ?_
            exact x_zret rfl rfl (zBo_nar (by decide)) ⟨(Nat.le_of_ble_eq_true rfl), (Nat.le_of_ble_eq_true rfl)⟩ dX12_isSo_91
          · refine x_iconst (v := 0) dX12_isSo_72 (by decide) ?_
            refine x_goto (tgt := 91) dX12_isSo_73 (by decide) ?_
            exact x_zret rfl rfl (zBo_nar (by decide)) ⟨(Nat.le_of_ble_eq_true rfl), (Nat.le_of_ble_eq_true rfl)⟩ dX12_isSo_91
        · refine x_iload_n dX12_isSo_76 rfl ?_
          refine x_iload dX12_isSo_77 rfl ?_
          refine y_callSP (rest := []) (c1 := 0) (s1 := 0) (c_Mod_dateOf ω p3 p4 m) ms_RX12_126 rfl (Nat.le_of_ble_eq_true rfl) (Nat.le_of_ble_eq_true rfl) (Nat.le_of_ble_eq_true rfl) ⟨rfl, rfl⟩ ⟨(Nat.le_of_ble_eq_true rfl), (Nat.le_of_ble_eq_true rfl)⟩ dX12_isSo_79 (fun v5 => ?_)
          refine x_iload_n dX12_isSo_82 rfl ?_
          refine x_icmp_ge (tgt := 90) dX12_isSo_83 (by decide) (fun hc6 => ?_) (fun hc6 => ?_)
          · refine x_iconst (v := 0) dX12_isSo_90 (by decide) ?_
            exact x_zret rfl rfl (zBo_nar (by decide)) ⟨(Nat.le_of_ble_eq_true rfl), (Nat.le_of_ble_eq_true rfl)⟩ dX12_isSo_91
          · refine x_iconst (v := 1) dX12_isSo_86 (by decide) ?_
            refine x_goto (tgt := 91) dX12_isSo_87 (by decide) ?_
            exact x_zret rfl rfl (zBo_nar (by decide)) ⟨(Nat.le_of_ble_eq_true rfl), (Nat.le_of_ble_eq_true rfl)⟩ dX12_isSo_91
abbrev kk_Mod_goesThrough : Kx := (yX12_goesThrough.cls, cX12_goesThrough, 10, none, [], false)
set_option maxHeartbeats 4000000 in
set_option maxRecDepth 100000 in
theorem c_Mod_goesThrough (ω : Wd) (p1 : Int32) (p2 : Int32) (p3 : Int32) (m : Mm) : Ev ω true 6 0 0 yX12_goesThrough cX12_goesThrough 10 none [.ref (zad ω 201), .int p1, .int p2, .int p3] m fV (f_Mod_goesThrough p1 p2 p3 m) := by
  refine Ev.of (b := false) (ls := [some (.ref (zad ω 201)), some (.int p1), some (.int p2), some (.int p3), none, none, none, none, none, none]) (plainFor_of_name (by decide +kernel)) (fun h => by cases h) rfl (Nat.le_of_ble_eq_true rfl) rfl ?_
  change Sx ω true 6 0 0 kk_Mod_goesThrough fV 0 0 m 0 _ _ _
  unfold f_Mod_goesThrough
  refine x_iconst (v := (-1)) dX12_goesThrough_0 (by decide) ?_
  refine x_istore (ls' := [some (.ref (zad ω 201)), some (.int p1), some (.int p2), some (.int p3), some (.int (-1)), none, none, none, none, none]) dX12_goesThrough_1 (Nat.le_of_ble_eq_true rfl) rfl ?_
  refine x_iconst (v := 0) dX12_goesThrough_3 (by decide) ?_
  refine x_istore (ls' := [some (.ref (zad ω 201)), some (.int p1), some (.int p2), some (.int p3), some (.int (-1)), some (.int 0), none, none, none, none]) dX12_goesThrough_4 (Nat.le_of_ble_eq_true rfl) rfl ?_
  refine x_iconst (v := 0) dX12_goesThrough_6 (by decide) ?_
  refine x_istore (ls' := [some (.ref (zad ω 201)), some (.int p1), some (.int p2), some (.int p3), some (.int (-1)), some (.int 0), some (.int 0), none, none, none]) dX12_goesThrough_7 (Nat.le_of_ble_eq_true rfl) rfl ?_
  refine x_iconst (v := 0) dX12_goesThrough_9 (by decide) ?_
  refine x_istore (ls' := [some (.ref (zad ω 201)), some (.int p1), some (.int p2), some (.int p3), some (.int (-1)), some (.int 0), some (.int 0), some (.int 0), none, none]) dX12_goesThrough_10 (Nat.le_of_ble_eq_true rfl) rfl ?_
  refine y_Lq4 (fun x1 x2 x3 x4 => [some (.ref (zad ω 201)), some (.int p1), some (.int p2), some (.int p3), some (.int x1), some (.int x2), some (.int x3), some (.int x4), none, none]) (fun r5 hr5 x1 x2 x3 x4 => ?_) zFu _ _ _ _
  refine x_iload dX12_goesThrough_12 rfl ?_
  refine x_aload_n dX12_goesThrough_14 rfl ?_
  refine y_getF fl_RX12_36 hz_201 hq_201_22 (by rw [hz_210]; decide) dX12_goesThrough_15 ?_
  refine x_iload_n dX12_goesThrough_18 rfl ?_
  refine y_iald hz_210 hn_210 dX12_goesThrough_19 (fun hi => ?_)
  refine x_icmp_ge (tgt := 213) dX12_goesThrough_20 (by decide) (fun hc6 => ?_) (fun hc6 => ?_)
  · refine x_aload_n dX12_goesThrough_213 rfl ?_
    refine x_iload_n dX12_goesThrough_214 rfl ?_
    refine x_iload_n dX12_goesThrough_215 rfl ?_
    refine y_callVP (rest := []) (c1 := 0) (s1 := 0) (c_Mod_bendOf ω p1 p2 m) mv_RX12_256 hz_201 rfl (Nat.le_of_ble_eq_true rfl) (Nat.le_of_ble_eq_true rfl) (Nat.le_of_ble_eq_true rfl) ⟨rfl, rfl⟩ ⟨(Nat.le_of_ble_eq_true rfl), (Nat.le_of_ble_eq_true rfl)⟩ dX12_goesThrough_216 (fun v7 => ?_)
    refine x_istore (ls' := [some (.ref (zad ω 201)), some (.int p1), some (.int p2), some (.int p3), some (.int x1), some (.int x2), some (.int x3), some (.int x4), some (.int v7), none]) dX12_goesThrough_219 (Nat.le_of_ble_eq_true rfl) rfl ?_
    refine x_iload dX12_goesThrough_221 rfl ?_
    refine x_iconst (v := (-1)) dX12_goesThrough_223 (by decide) ?_
    refine y_join (fun j10 => ∀ (x9 : Int32), Sx ω true 6 0 0 kk_Mod_goesThrough fV 0 0 m 265 [some (.ref (zad ω 201)), some (.int p1), none, some (.int p3), some (.int x9), none, some (.int x3), none, none, none] [] (j10 x9)) ?_ (fun j10 hj10 => ?_)
    · intro x9
      refine x_aload_n dX12_goesThrough_265 rfl ?_
      refine y_getF fl_RX12_54 hz_201 hq_201_29 (by rw [hz_216]; decide) dX12_goesThrough_266 ?_
      refine x_bipush (v := 20) dX12_goesThrough_269 (by decide) ?_
      refine x_iload_n dX12_goesThrough_271 rfl ?_
      refine x_imul dX12_goesThrough_272 ?_
      refine x_iload_n dX12_goesThrough_273 rfl ?_
      refine x_iadd dX12_goesThrough_274 ?_
      refine x_iload dX12_goesThrough_275 rfl ?_
      refine y_iast hz_216 hn_216 dX12_goesThrough_277 (fun hi => ?_)
      refine y_letM (fun m11 => ?_)
      refine x_aload_n dX12_goesThrough_278 rfl ?_
      refine y_getF fl_RX12_60 hz_201 hq_201_31 (by rw [hz_218]; decide) dX12_goesThrough_279 ?_
      refine x_iload_n dX12_goesThrough_282 rfl ?_
      refine x_iload dX12_goesThrough_283 rfl ?_
      refine y_iast hz_218 hn_218 dX12_goesThrough_285 (fun hi => ?_)
      refine y_letM (fun m12 => ?_)
      exact x_vret rfl rfl ⟨(Nat.le_of_ble_eq_true rfl), (Nat.le_of_ble_eq_true rfl)⟩ dX12_goesThrough_286
    · refine x_icmp_eq (tgt := 265) dX12_goesThrough_224 (by decide) (fun hc8 => ?_) (fun hc8 => ?_)
      · refine y_mask (bs := [true, true, false, true, true, false, true, false, false, false]) (ls' := [some (.ref (zad ω 201)), some (.int p1), none, some (.int p3), some (.int x1), none, some (.int x3), none, none, none]) rfl ?_
        exact hj10 _
      · refine x_iload dX12_goesThrough_227 rfl ?_
        refine x_iconst (v := (-1)) dX12_goesThrough_229 (by decide) ?_
        refine x_icmp_eq (tgt := 265) dX12_goesThrough_230 (by decide) (fun hc13 => ?_) (fun hc13 => ?_)
        · refine y_mask (bs := [true, true, false, true, true, false, true, false, false, false]) (ls' := [some (.ref (zad ω 201)), some (.int p1), none, some (.int p3), some (.int x1), none, some (.int x3), none, none, none]) rfl ?_
          exact hj10 _
        · refine x_aload_n dX12_goesThrough_233 rfl ?_
          refine y_getF fl_RX12_51 hz_201 hq_201_28 (by rw [hz_215]; decide) dX12_goesThrough_234 ?_
          refine x_iload dX12_goesThrough_237 rfl ?_
          refine y_iald hz_215 hn_215 dX12_goesThrough_239 (fun hi => ?_)
          refine x_bipush (v := 99) dX12_goesThrough_240 (by decide) ?_
          refine y_join (fun j16 => ∀ (x15 : Int32), Sx ω true 6 0 0 kk_Mod_goesThrough fV 0 0 m 263 [some (.ref (zad ω 201)), some (.int p1), none, some (.int p3), none, none, some (.int x3), none, none, none] [.int x15] (j16 x15)) ?_ (fun j16 hj16 => ?_)
          · intro x15
            refine x_istore (ls' := [some (.ref (zad ω 201)), some (.int p1), none, some (.int p3), some (.int x15), none, some (.int x3), none, none, none]) dX12_goesThrough_263 (Nat.le_of_ble_eq_true rfl) rfl ?_
            exact hj10 _
          · refine x_icmp_ne (tgt := 249) dX12_goesThrough_242 (by decide) (fun hc14 => ?_) (fun hc14 => ?_)
            · refine x_iconst (v := (-1)) dX12_goesThrough_245 (by decide) ?_
              refine x_goto (tgt := 263) dX12_goesThrough_246 (by decide) ?_
              refine y_mask (bs := [true, true, false, true, false, false, true, false, false, false]) (ls' := [some (.ref (zad ω 201)), some (.int p1), none, some (.int p3), none, none, some (.int x3), none, none, none]) rfl ?_
              exact hj16 _
            · refine x_iload_n dX12_goesThrough_249 rfl ?_
              refine x_iload dX12_goesThrough_250 rfl ?_
              refine x_aload_n dX12_goesThrough_252 rfl ?_
              refine y_getF fl_RX12_51 hz_201 hq_201_28 (by rw [hz_215]; decide) dX12_goesThrough_253 ?_
              refine x_iload dX12_goesThrough_256 rfl ?_
              refine y_iald hz_215 hn_215 dX12_goesThrough_258 (fun hi => ?_)
              refine x_iadd dX12_goesThrough_259 ?_
              refine y_callSP (rest := []) (c1 := 0) (s1 := 0) (c_Mod_within ω p2 (x1 + (zI m 215 (zIx v7))) m) ms_RX12_265 rfl (Nat.le_of_ble_eq_true rfl) (Nat.le_of_ble_eq_true rfl) (Nat.le_of_ble_eq_true rfl) ⟨rfl, rfl⟩ ⟨(Nat.le_of_ble_eq_true rfl), (Nat.le_of_ble_eq_true rfl)⟩ dX12_goesThrough_260 (fun v17 => ?_)
              refine y_mask (bs := [true, true, false, true, false, false, true, false, false, false]) (ls' := [some (.ref (zad ω 201)), some (.int p1), none, some (.int p3), none, none, some (.int x3), none, none, none]) rfl ?_
              exact hj16 _
  · refine x_aload_n dX12_goesThrough_23 rfl ?_
    refine y_getF fl_RX12_39 hz_201 hq_201_23 (by rw [hz_211]; decide) dX12_goesThrough_24 ?_
    refine x_bipush (v := 80) dX12_goesThrough_27 (by decide) ?_
    refine x_iload_n dX12_goesThrough_29 rfl ?_
    refine x_imul dX12_goesThrough_30 ?_
    refine x_iload dX12_goesThrough_31 rfl ?_
    refine x_iadd dX12_goesThrough_33 ?_
    refine y_iald hz_211 hn_211 dX12_goesThrough_34 (fun hi => ?_)
    refine y_letI (fun x18 => ?_)
    refine x_istore (ls' := [some (.ref (zad ω 201)), some (.int p1), some (.int p2), some (.int p3), some (.int x1), some (.int x2), some (.int x3), some (.int x4), some (.int x18), none]) dX12_goesThrough_35 (Nat.le_of_ble_eq_true rfl) rfl ?_
    refine x_aload_n dX12_goesThrough_37 rfl ?_
    refine y_getF fl_RX12_42 hz_201 hq_201_24 (by rw [hz_212]; decide) dX12_goesThrough_38 ?_
    refine x_bipush (v := 80) dX12_goesThrough_41 (by decide) ?_
    refine x_iload_n dX12_goesThrough_43 rfl ?_
    refine x_imul dX12_goesThrough_44 ?_
    refine x_iload dX12_goesThrough_45 rfl ?_
    refine x_iadd dX12_goesThrough_47 ?_
    refine y_iald hz_212 hn_212 dX12_goesThrough_48 (fun hi => ?_)
    refine y_letI (fun x19 => ?_)
    refine x_istore (ls' := [some (.ref (zad ω 201)), some (.int p1), some (.int p2), some (.int p3), some (.int x1), some (.int x2), some (.int x3), some (.int x4), some (.int x18), some (.int x19)]) dX12_goesThrough_49 (Nat.le_of_ble_eq_true rfl) rfl ?_
    refine x_iload dX12_goesThrough_51 rfl ?_
    refine x_iload dX12_goesThrough_53 rfl ?_
    refine y_callSP (rest := [.int x3]) (c1 := 0) (s1 := 0) (c_Mod_costOf ω x18 m) ms_RX12_275 rfl (Nat.le_of_ble_eq_true rfl) (Nat.le_of_ble_eq_true rfl) (Nat.le_of_ble_eq_true rfl) ⟨rfl, rfl⟩ ⟨(Nat.le_of_ble_eq_true rfl), (Nat.le_of_ble_eq_true rfl)⟩ dX12_goesThrough_55 (fun v20 => ?_)
    refine x_iadd dX12_goesThrough_58 ?_
    refine y_letI (fun x21 => ?_)
    refine x_istore (ls' := [some (.ref (zad ω 201)), some (.int p1), some (.int p2), some (.int p3), some (.int x1), some (.int x2), some (.int x21), some (.int x4), some (.int x18), some (.int x19)]) dX12_goesThrough_59 (Nat.le_of_ble_eq_true rfl) rfl ?_
    refine y_iinc (w := 1) dX12_goesThrough_61 rfl (by decide) (Nat.le_of_ble_eq_true rfl) (fun x22 => ?_)
    refine x_iload dX12_goesThrough_64 rfl ?_
    refine x_iconst (v := 3) dX12_goesThrough_66 (by decide) ?_
    refine x_icmp_gt (tgt := 83) dX12_goesThrough_67 (by decide) (fun hc23 => ?_) (fun hc23 => ?_)
    · refine x_iload dX12_goesThrough_83 rfl ?_
      refine x_iconst (v := 4) dX12_goesThrough_85 (by decide) ?_
      refine x_icmp_ne (tgt := 106) dX12_goesThrough_86 (by decide) (fun hc24 => ?_) (fun hc24 => ?_)
      · refine x_aload_n dX12_goesThrough_89 rfl ?_
        refine y_getF fl_RX12_54 hz_201 hq_201_29 (by rw [hz_216]; decide) dX12_goesThrough_90 ?_
        refine x_bipush (v := 20) dX12_goesThrough_93 (by decide) ?_
        refine x_iload_n dX12_goesThrough_95 rfl ?_
        refine x_imul dX12_goesThrough_96 ?_
        refine x_iload dX12_goesThrough_97 rfl ?_
        refine x_iadd dX12_goesThrough_99 ?_
        refine y_iald hz_216 hn_216 dX12_goesThrough_100 (fun hi => ?_)
        refine y_letI (fun x40 => ?_)
        refine x_istore (ls' := [some (.ref (zad ω 201)), some (.int p1), some (.int p2), some (.int p3), some (.int x40), some (.int x2), some (.int x21), some (.int x22), some (.int x18), some (.int x19)]) dX12_goesThrough_101 (Nat.le_of_ble_eq_true rfl) rfl ?_
        refine x_goto (tgt := 210) dX12_goesThrough_103 (by decide) ?_
        refine x_goto (tgt := 12) dX12_goesThrough_210 (by decide) ?_
        refine y_mask (bs := [true, true, true, true, true, true, true, true, false, false]) (ls' := [some (.ref (zad ω 201)), some (.int p1), some (.int p2), some (.int p3), some (.int x40), some (.int x2), some (.int x21), some (.int x22), none, none]) rfl ?_
        exact hr5 _ _ _ _
      · refine x_iload dX12_goesThrough_106 rfl ?_
        refine x_bipush (v := 12) dX12_goesThrough_108 (by decide) ?_
        refine x_icmp_gt (tgt := 129) dX12_goesThrough_110 (by decide) (fun hc25 => ?_) (fun hc25 => ?_)
        · refine x_iload dX12_goesThrough_129 rfl ?_
          refine x_bipush (v := 16) dX12_goesThrough_131 (by decide) ?_
          refine x_icmp_gt (tgt := 153) dX12_goesThrough_133 (by decide) (fun hc26 => ?_) (fun hc26 => ?_)
          · refine x_iload dX12_goesThrough_153 rfl ?_
            refine x_bipush (v := 17) dX12_goesThrough_155 (by decide) ?_
            refine x_icmp_ne (tgt := 175) dX12_goesThrough_157 (by decide) (fun hc27 => ?_) (fun hc27 => ?_)
            · refine x_iload dX12_goesThrough_160 rfl ?_
              refine y_join (fun j37 => ∀ (x36 : Int32), Sx ω true 6 0 0 kk_Mod_goesThrough fV 0 0 m 170 [some (.ref (zad ω 201)), some (.int p1), some (.int p2), some (.int p3), some (.int x1), none, some (.int x21), some (.int x22), none, none] [.int x36] (j37 x36)) ?_ (fun j37 hj37 => ?_)
              · intro x36
                refine x_istore (ls' := [some (.ref (zad ω 201)), some (.int p1), some (.int p2), some (.int p3), some (.int x1), some (.int x36), some (.int x21), some (.int x22), none, none]) dX12_goesThrough_170 (Nat.le_of_ble_eq_true rfl) rfl ?_
                refine x_goto (tgt := 210) dX12_goesThrough_172 (by decide) ?_
                refine x_goto (tgt := 12) dX12_goesThrough_210 (by decide) ?_
                exact hr5 _ _ _ _
              · refine x_if_ne (tgt := 169) dX12_goesThrough_162 (by decide) (fun hc35 => ?_) (fun hc35 => ?_)
                · refine x_iconst (v := 1) dX12_goesThrough_165 (by decide) ?_
                  refine x_goto (tgt := 170) dX12_goesThrough_166 (by decide) ?_
                  refine y_mask (bs := [true, true, true, true, true, false, true, true, false, false]) (ls' := [some (.ref (zad ω 201)), some (.int p1), some (.int p2), some (.int p3), some (.int x1), none, some (.int x21), some (.int x22), none, none]) rfl ?_
                  exact hj37 _
                · refine x_iconst (v := 0) dX12_goesThrough_169 (by decide) ?_
                  refine y_mask (bs := [true, true, true, true, true, false, true, true, false, false]) (ls' := [some (.ref (zad ω 201)), some (.int p1), some (.int p2), some (.int p3), some (.int x1), none, some (.int x21), some (.int x22), none, none]) rfl ?_
                  exact hj37 _
            · refine x_iload dX12_goesThrough_175 rfl ?_
              refine x_bipush (v := 18) dX12_goesThrough_177 (by decide) ?_
              refine y_join (fun j29 => Sx ω true 6 0 0 kk_Mod_goesThrough fV 0 0 m 206 [some (.ref (zad ω 201)), some (.int p1), some (.int p2), some (.int p3), some (.int x1), some (.int x2), some (.int x21), none, none, some (.int x19)] [] j29) ?_ (fun j29 hj29 => ?_)
              · refine x_iload dX12_goesThrough_206 rfl ?_
                refine x_istore (ls' := [some (.ref (zad ω 201)), some (.int p1), some (.int p2), some (.int p3), some (.int x1), some (.int x2), some (.int x21), some (.int x19), none, some (.int x19)]) dX12_goesThrough_208 (Nat.le_of_ble_eq_true rfl) rfl ?_
                refine x_goto (tgt := 12) dX12_goesThrough_210 (by decide) ?_
                refine y_mask (bs := [true, true, true, true, true, true, true, true, false, false]) (ls' := [some (.ref (zad ω 201)), some (.int p1), some (.int p2), some (.int p3), some (.int x1), some (.int x2), some (.int x21), some (.int x19), none, none]) rfl ?_
                exact hr5 _ _ _ _
              · refine x_icmp_eq (tgt := 206) dX12_goesThrough_179 (by decide) (fun hc28 => ?_) (fun hc28 => ?_)
                · refine y_mask (bs := [true, true, true, true, true, true, true, false, false, true]) (ls' := [some (.ref (zad ω 201)), some (.int p1), some (.int p2), some (.int p3), some (.int x1), some (.int x2), some (.int x21), none, none, some (.int x19)]) rfl ?_
                  exact hj29
                · refine x_iload dX12_goesThrough_182 rfl ?_
                  refine x_bipush (v := 19) dX12_goesThrough_184 (by decide) ?_
                  refine y_join (fun j31 => Sx ω true 6 0 0 kk_Mod_goesThrough fV 0 0 m 194 [some (.ref (zad ω 201)), some (.int p1), some (.int p2), some (.int p3), some (.int x1), some (.int x2), some (.int x21), some (.int x22), some (.int x18), some (.int x19)] [] j31) ?_ (fun j31 hj31 => ?_)
                  · refine x_iload dX12_goesThrough_194 rfl ?_
                    refine x_bipush (v := 20) dX12_goesThrough_196 (by decide) ?_
                    refine x_icmp_ne (tgt := 210) dX12_goesThrough_198 (by decide) (fun hc32 => ?_) (fun hc32 => ?_)
                    · refine x_iload dX12_goesThrough_201 rfl ?_
                      refine x_if_eq (tgt := 210) dX12_goesThrough_203 (by decide) (fun hc33 => ?_) (fun hc33 => ?_)
                      · refine x_goto (tgt := 12) dX12_goesThrough_210 (by decide) ?_
                        refine y_mask (bs := [true, true, true, true, true, true, true, true, false, false]) (ls' := [some (.ref (zad ω 201)), some (.int p1), some (.int p2), some (.int p3), some (.int x1), some (.int x2), some (.int x21), some (.int x22), none, none]) rfl ?_
                        exact hr5 _ _ _ _
                      · refine y_mask (bs := [true, true, true, true, true, true, true, false, false, true]) (ls' := [some (.ref (zad ω 201)), some (.int p1), some (.int p2), some (.int p3), some (.int x1), some (.int x2), some (.int x21), none, none, some (.int x19)]) rfl ?_
                        exact hj29
                    · refine x_goto (tgt := 12) dX12_goesThrough_210 (by decide) ?_
                      refine y_mask (bs := [true, true, true, true, true, true, true, true, false, false]) (ls' := [some (.ref (zad ω 201)), some (.int p1), some (.int p2), some (.int p3), some (.int x1), some (.int x2), some (.int x21), some (.int x22), none, none]) rfl ?_
                      exact hr5 _ _ _ _
                  · refine x_icmp_ne (tgt := 194) dX12_goesThrough_186 (by decide) (fun hc30 => ?_) (fun hc30 => ?_)
                    · refine x_iload dX12_goesThrough_189 rfl ?_
                      refine x_if_eq (tgt := 206) dX12_goesThrough_191 (by decide) (fun hc34 => ?_) (fun hc34 => ?_)
                      · refine y_mask (bs := [true, true, true, true, true, true, true, false, false, true]) (ls' := [some (.ref (zad ω 201)), some (.int p1), some (.int p2), some (.int p3), some (.int x1), some (.int x2), some (.int x21), none, none, some (.int x19)]) rfl ?_
                        exact hj29
                      · exact hj31
                    · exact hj31
          · refine x_aload_n dX12_goesThrough_136 rfl ?_
            refine x_iload dX12_goesThrough_137 rfl ?_
            refine x_iload dX12_goesThrough_139 rfl ?_
            refine x_iload_n dX12_goesThrough_141 rfl ?_
            refine x_iload dX12_goesThrough_142 rfl ?_
            refine x_iload_n dX12_goesThrough_144 rfl ?_
            refine y_callVP (rest := []) (c1 := 0) (s1 := 0) (c_Mod_isSo ω x18 x19 p2 x1 p3 m) mv_RX12_286 hz_201 rfl (Nat.le_of_ble_eq_true rfl) (Nat.le_of_ble_eq_true rfl) (Nat.le_of_ble_eq_true rfl) ⟨rfl, rfl⟩ ⟨(Nat.le_of_ble_eq_true rfl), (Nat.le_of_ble_eq_true rfl)⟩ dX12_goesThrough_145 (fun v38 => ?_)
            refine x_istore (ls' := [some (.ref (zad ω 201)), some (.int p1), some (.int p2), some (.int p3), some (.int x1), some (.int v38), some (.int x21), some (.int x22), some (.int x18), some (.int x19)]) dX12_goesThrough_148 (Nat.le_of_ble_eq_true rfl) rfl ?_
            refine x_goto (tgt := 210) dX12_goesThrough_150 (by decide) ?_
            refine x_goto (tgt := 12) dX12_goesThrough_210 (by decide) ?_
            refine y_mask (bs := [true, true, true, true, true, true, true, true, false, false]) (ls' := [some (.ref (zad ω 201)), some (.int p1), some (.int p2), some (.int p3), some (.int x1), some (.int v38), some (.int x21), some (.int x22), none, none]) rfl ?_
            exact hr5 _ _ _ _
        · refine x_iload dX12_goesThrough_113 rfl ?_
          refine x_iload dX12_goesThrough_115 rfl ?_
          refine x_iload_n dX12_goesThrough_117 rfl ?_
          refine x_iload dX12_goesThrough_118 rfl ?_
          refine x_iload_n dX12_goesThrough_120 rfl ?_
          refine y_callSP (rest := []) (c1 := 0) (s1 := 0) (c_Mod_moved ω x18 x19 p2 x1 p3 m) ms_RX12_282 rfl (Nat.le_of_ble_eq_true rfl) (Nat.le_of_ble_eq_true rfl) (Nat.le_of_ble_eq_true rfl) ⟨rfl, rfl⟩ ⟨(Nat.le_of_ble_eq_true rfl), (Nat.le_of_ble_eq_true rfl)⟩ dX12_goesThrough_121 (fun v39 => ?_)
          refine x_istore (ls' := [some (.ref (zad ω 201)), some (.int p1), some (.int p2), some (.int p3), some (.int v39), some (.int x2), some (.int x21), some (.int x22), some (.int x18), some (.int x19)]) dX12_goesThrough_124 (Nat.le_of_ble_eq_true rfl) rfl ?_
          refine x_goto (tgt := 210) dX12_goesThrough_126 (by decide) ?_
          refine x_goto (tgt := 12) dX12_goesThrough_210 (by decide) ?_
          refine y_mask (bs := [true, true, true, true, true, true, true, true, false, false]) (ls' := [some (.ref (zad ω 201)), some (.int p1), some (.int p2), some (.int p3), some (.int v39), some (.int x2), some (.int x21), some (.int x22), none, none]) rfl ?_
          exact hr5 _ _ _ _
    · refine x_iload dX12_goesThrough_70 rfl ?_
      refine x_iload dX12_goesThrough_72 rfl ?_
      refine x_iload_n dX12_goesThrough_74 rfl ?_
      refine y_callSP (rest := []) (c1 := 0) (s1 := 0) (c_Mod_starts ω x18 x19 p2 m) ms_RX12_278 rfl (Nat.le_of_ble_eq_true rfl) (Nat.le_of_ble_eq_true rfl) (Nat.le_of_ble_eq_true rfl) ⟨rfl, rfl⟩ ⟨(Nat.le_of_ble_eq_true rfl), (Nat.le_of_ble_eq_true rfl)⟩ dX12_goesThrough_75 (fun v41 => ?_)
      refine x_istore (ls' := [some (.ref (zad ω 201)), some (.int p1), some (.int p2), some (.int p3), some (.int v41), some (.int x2), some (.int x21), some (.int x22), some (.int x18), some (.int x19)]) dX12_goesThrough_78 (Nat.le_of_ble_eq_true rfl) rfl ?_
      refine x_goto (tgt := 210) dX12_goesThrough_80 (by decide) ?_
      refine x_goto (tgt := 12) dX12_goesThrough_210 (by decide) ?_
      refine y_mask (bs := [true, true, true, true, true, true, true, true, false, false]) (ls' := [some (.ref (zad ω 201)), some (.int p1), some (.int p2), some (.int p3), some (.int v41), some (.int x2), some (.int x21), some (.int x22), none, none]) rfl ?_
      exact hr5 _ _ _ _
