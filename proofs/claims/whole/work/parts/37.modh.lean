abbrev kk_Mod_spent : Kx := (yX12_spent.cls, cX12_spent, 1, (some .long), [], false)
set_option maxHeartbeats 4000000 in
set_option maxRecDepth 100000 in
theorem c_Mod_spent (ω : Wd) (m : Mm) : Ev ω true 1 0 0 yX12_spent cX12_spent 1 (some .long) [.ref (zad ω 201)] m fL (f_Mod_spent m) := by
  refine Ev.of (b := false) (ls := [some (.ref (zad ω 201))]) (plainFor_of_name (by decide +kernel)) (fun h => by cases h) rfl (Nat.le_of_ble_eq_true rfl) rfl ?_
  change Sx ω true 1 0 0 kk_Mod_spent fL 0 0 m 0 _ _ _
  unfold f_Mod_spent
  refine x_aload_n dX12_spent_0 rfl ?_
  refine x_iconst (v := 0) dX12_spent_1 (by decide) ?_
  refine y_putI fp_RX12_93 hz_201 dX12_spent_2 ?_
  refine y_letM (fun m1 => ?_)
  refine x_aload_n dX12_spent_5 rfl ?_
  refine y_getL fl_RX12_339 hz_201 dX12_spent_6 ?_
  exact x_lret rfl rfl ⟨(Nat.le_of_ble_eq_true rfl), (Nat.le_of_ble_eq_true rfl)⟩ dX12_spent_9
abbrev kk_Mod_bells : Kx := (yX12_bells.cls, cX12_bells, 4, (some .int), [], false)
set_option maxHeartbeats 4000000 in
set_option maxRecDepth 100000 in
theorem c_Mod_bells (ω : Wd) (p1 : Int32) (p2 : Int32) (m : Mm) : Ev ω true 2 0 0 yX12_bells cX12_bells 4 (some .int) [.ref (zad ω 201), .int p1, .int p2] m fI (f_Mod_bells p1 p2 m) := by
  refine Ev.of (b := false) (ls := [some (.ref (zad ω 201)), some (.int p1), some (.int p2), none]) (plainFor_of_name (by decide +kernel)) (fun h => by cases h) rfl (Nat.le_of_ble_eq_true rfl) rfl ?_
  change Sx ω true 2 0 0 kk_Mod_bells fI 0 0 m 0 _ _ _
  unfold f_Mod_bells
  refine x_aload_n dX12_bells_0 rfl ?_
  refine x_iload_n dX12_bells_1 rfl ?_
  refine x_iconst (v := 0) dX12_bells_2 (by decide) ?_
  refine x_iconst (v := 5) dX12_bells_3 (by decide) ?_
  refine y_callSP (rest := [.ref (zad ω 201)]) (c1 := 0) (s1 := 0) (c_Mod_isIn ω p1 0 5 m) ms_RX12_115 rfl (Nat.le_of_ble_eq_true rfl) (Nat.le_of_ble_eq_true rfl) (Nat.le_of_ble_eq_true rfl) ⟨rfl, rfl⟩ ⟨(Nat.le_of_ble_eq_true rfl), (Nat.le_of_ble_eq_true rfl)⟩ dX12_bells_4 (fun v1 => ?_)
  refine y_join (fun j4 => ∀ (x3 : Int32), Sx ω true 2 0 0 kk_Mod_bells fI 0 0 m 29 [some (.ref (zad ω 201)), some (.int p1), some (.int p2), none] [.int x3, .ref (zad ω 201)] (j4 x3)) ?_ (fun j4 hj4 => ?_)
  · intro x3
    refine y_putI fp_RX12_93 hz_201 dX12_bells_29 ?_
    refine y_letM (fun m5 => ?_)
    refine x_aload_n dX12_bells_32 rfl ?_
    refine y_getI fl_RX12_93 hz_201 dX12_bells_33 ?_
    refine x_if_le (tgt := 41) dX12_bells_36 (by decide) (fun hc6 => ?_) (fun hc6 => ?_)
    · refine x_aload_n dX12_bells_41 rfl ?_
      refine y_getF fl_RX12_75 hz_201 hq_201_40 (by rw [hz_223]; decide) dX12_bells_42 ?_
      refine x_iload_n dX12_bells_45 rfl ?_
      refine y_iald hz_223 hn_223 dX12_bells_46 (fun hi => ?_)
      refine y_letI (fun x7 => ?_)
      refine x_istore_n (ls' := [some (.ref (zad ω 201)), some (.int p1), some (.int p2), some (.int x7)]) dX12_bells_47 (Nat.le_of_ble_eq_true rfl) rfl ?_
      refine x_aload_n dX12_bells_48 rfl ?_
      refine y_getF fl_RX12_75 hz_201 hq_201_40 (by rw [hz_223]; decide) dX12_bells_49 ?_
      refine x_iload_n dX12_bells_52 rfl ?_
      refine x_iload_n dX12_bells_53 rfl ?_
      refine y_iast hz_223 hn_223 dX12_bells_54 (fun hi => ?_)
      refine y_letM (fun m8 => ?_)
      refine x_iload_n dX12_bells_55 rfl ?_
      exact x_iret rfl rfl ⟨(Nat.le_of_ble_eq_true rfl), (Nat.le_of_ble_eq_true rfl)⟩ dX12_bells_56
    · refine x_iconst (v := 0) dX12_bells_39 (by decide) ?_
      exact x_iret rfl rfl ⟨(Nat.le_of_ble_eq_true rfl), (Nat.le_of_ble_eq_true rfl)⟩ dX12_bells_40
  · refine x_if_ne (tgt := 14) dX12_bells_7 (by decide) (fun hc2 => ?_) (fun hc2 => ?_)
    · refine x_iconst (v := 1) dX12_bells_10 (by decide) ?_
      refine x_goto (tgt := 29) dX12_bells_11 (by decide) ?_
      exact hj4 _
    · refine x_iload_n dX12_bells_14 rfl ?_
      refine x_iconst (v := 0) dX12_bells_15 (by decide) ?_
      refine x_bipush (v := 6) dX12_bells_16 (by decide) ?_
      refine y_callSP (rest := [.ref (zad ω 201)]) (c1 := 0) (s1 := 0) (c_Mod_isIn ω p2 0 6 m) ms_RX12_115 rfl (Nat.le_of_ble_eq_true rfl) (Nat.le_of_ble_eq_true rfl) (Nat.le_of_ble_eq_true rfl) ⟨rfl, rfl⟩ ⟨(Nat.le_of_ble_eq_true rfl), (Nat.le_of_ble_eq_true rfl)⟩ dX12_bells_18 (fun v9 => ?_)
      refine x_if_eq (tgt := 28) dX12_bells_21 (by decide) (fun hc10 => ?_) (fun hc10 => ?_)
      · refine x_iconst (v := 2) dX12_bells_28 (by decide) ?_
        exact hj4 _
      · refine x_iconst (v := 0) dX12_bells_24 (by decide) ?_
        refine x_goto (tgt := 29) dX12_bells_25 (by decide) ?_
        exact hj4 _
abbrev kk_Mod_ringer : Kx := (yX12_ringer.cls, cX12_ringer, 3, (some .int), [], false)
set_option maxHeartbeats 4000000 in
set_option maxRecDepth 100000 in
theorem c_Mod_ringer (ω : Wd) (p1 : Int32) (p2 : Int32) (m : Mm) : Ev ω true 2 0 0 yX12_ringer cX12_ringer 3 (some .int) [.ref (zad ω 201), .int p1, .int p2] m fI (f_Mod_ringer p1 p2 m) := by
  refine Ev.of (b := false) (ls := [some (.ref (zad ω 201)), some (.int p1), some (.int p2)]) (plainFor_of_name (by decide +kernel)) (fun h => by cases h) rfl (Nat.le_of_ble_eq_true rfl) rfl ?_
  change Sx ω true 2 0 0 kk_Mod_ringer fI 0 0 m 0 _ _ _
  unfold f_Mod_ringer
  refine x_aload_n dX12_ringer_0 rfl ?_
  refine x_iload_n dX12_ringer_1 rfl ?_
  refine x_iconst (v := 0) dX12_ringer_2 (by decide) ?_
  refine x_iconst (v := 5) dX12_ringer_3 (by decide) ?_
  refine y_callSP (rest := [.ref (zad ω 201)]) (c1 := 0) (s1 := 0) (c_Mod_isIn ω p1 0 5 m) ms_RX12_115 rfl (Nat.le_of_ble_eq_true rfl) (Nat.le_of_ble_eq_true rfl) (Nat.le_of_ble_eq_true rfl) ⟨rfl, rfl⟩ ⟨(Nat.le_of_ble_eq_true rfl), (Nat.le_of_ble_eq_true rfl)⟩ dX12_ringer_4 (fun v1 => ?_)
  refine y_join (fun j4 => ∀ (x3 : Int32), Sx ω true 2 0 0 kk_Mod_ringer fI 0 0 m 42 [some (.ref (zad ω 201)), some (.int p1), some (.int p2)] [.int x3, .ref (zad ω 201)] (j4 x3)) ?_ (fun j4 hj4 => ?_)
  · intro x3
    refine y_putI fp_RX12_93 hz_201 dX12_ringer_42 ?_
    refine y_letM (fun m5 => ?_)
    refine x_aload_n dX12_ringer_45 rfl ?_
    refine y_getI fl_RX12_93 hz_201 dX12_ringer_46 ?_
    refine x_if_le (tgt := 54) dX12_ringer_49 (by decide) (fun hc6 => ?_) (fun hc6 => ?_)
    · refine x_aload_n dX12_ringer_54 rfl ?_
      refine y_getF fl_RX12_78 hz_201 hq_201_42 (by rw [hz_224]; decide) dX12_ringer_55 ?_
      refine x_aload_n dX12_ringer_58 rfl ?_
      refine y_getI fl_RX12_346 hz_201 dX12_ringer_59 ?_
      refine x_iload_n dX12_ringer_62 rfl ?_
      refine y_iast hz_224 hn_224 dX12_ringer_63 (fun hi => ?_)
      refine y_letM (fun m7 => ?_)
      refine x_aload_n dX12_ringer_64 rfl ?_
      refine y_getF fl_RX12_81 hz_201 hq_201_43 (by rw [hz_225]; decide) dX12_ringer_65 ?_
      refine x_aload_n dX12_ringer_68 rfl ?_
      refine y_getI fl_RX12_346 hz_201 dX12_ringer_69 ?_
      refine x_iload_n dX12_ringer_72 rfl ?_
      refine y_iast hz_225 hn_225 dX12_ringer_73 (fun hi => ?_)
      refine y_letM (fun m8 => ?_)
      refine x_aload_n dX12_ringer_74 rfl ?_
      refine x_dup dX12_ringer_75 rfl ?_
      refine y_getI fl_RX12_346 hz_201 dX12_ringer_76 ?_
      refine x_iconst (v := 1) dX12_ringer_79 (by decide) ?_
      refine x_iadd dX12_ringer_80 ?_
      refine y_putI fp_RX12_346 hz_201 dX12_ringer_81 ?_
      refine y_letM (fun m9 => ?_)
      refine x_aload_n dX12_ringer_84 rfl ?_
      refine y_getI fl_RX12_346 hz_201 dX12_ringer_85 ?_
      refine x_iconst (v := 1) dX12_ringer_88 (by decide) ?_
      refine x_isub dX12_ringer_89 ?_
      exact x_iret rfl rfl ⟨(Nat.le_of_ble_eq_true rfl), (Nat.le_of_ble_eq_true rfl)⟩ dX12_ringer_90
    · refine x_iconst (v := 0) dX12_ringer_52 (by decide) ?_
      exact x_iret rfl rfl ⟨(Nat.le_of_ble_eq_true rfl), (Nat.le_of_ble_eq_true rfl)⟩ dX12_ringer_53
  · refine x_if_ne (tgt := 14) dX12_ringer_7 (by decide) (fun hc2 => ?_) (fun hc2 => ?_)
    · refine x_iconst (v := 1) dX12_ringer_10 (by decide) ?_
      refine x_goto (tgt := 42) dX12_ringer_11 (by decide) ?_
      exact hj4 _
    · refine x_iload_n dX12_ringer_14 rfl ?_
      refine x_iconst (v := 0) dX12_ringer_15 (by decide) ?_
      refine x_bipush (v := 6) dX12_ringer_16 (by decide) ?_
      refine y_callSP (rest := [.ref (zad ω 201)]) (c1 := 0) (s1 := 0) (c_Mod_isIn ω p2 0 6 m) ms_RX12_115 rfl (Nat.le_of_ble_eq_true rfl) (Nat.le_of_ble_eq_true rfl) (Nat.le_of_ble_eq_true rfl) ⟨rfl, rfl⟩ ⟨(Nat.le_of_ble_eq_true rfl), (Nat.le_of_ble_eq_true rfl)⟩ dX12_ringer_18 (fun v10 => ?_)
      refine x_if_ne (tgt := 28) dX12_ringer_21 (by decide) (fun hc11 => ?_) (fun hc11 => ?_)
      · refine x_iconst (v := 2) dX12_ringer_24 (by decide) ?_
        refine x_goto (tgt := 42) dX12_ringer_25 (by decide) ?_
        exact hj4 _
      · refine x_aload_n dX12_ringer_28 rfl ?_
        refine y_getI fl_RX12_346 hz_201 dX12_ringer_29 ?_
        refine x_bipush (v := 24) dX12_ringer_32 (by decide) ?_
        refine x_icmp_ne (tgt := 41) dX12_ringer_34 (by decide) (fun hc12 => ?_) (fun hc12 => ?_)
        · refine x_iconst (v := 3) dX12_ringer_37 (by decide) ?_
          refine x_goto (tgt := 42) dX12_ringer_38 (by decide) ?_
          exact hj4 _
        · refine x_iconst (v := 0) dX12_ringer_41 (by decide) ?_
          exact hj4 _
abbrev kk_Mod_bestRinger : Kx := (yX12_bestRinger.cls, cX12_bestRinger, 6, (some .int), [], false)
set_option maxHeartbeats 4000000 in
set_option maxRecDepth 100000 in
theorem c_Mod_bestRinger (ω : Wd) (p1 : Int32) (p2 : Int32) (m : Mm) : Ev ω true 1 0 0 yX12_bestRinger cX12_bestRinger 6 (some .int) [.ref (zad ω 201), .int p1, .int p2] m (fP m) (f_Mod_bestRinger p1 p2 m) := by
  refine Ev.of (b := false) (ls := [some (.ref (zad ω 201)), some (.int p1), some (.int p2), none, none, none]) (plainFor_of_name (by decide +kernel)) (fun h => by cases h) rfl (Nat.le_of_ble_eq_true rfl) rfl ?_
  change Sx ω true 1 0 0 kk_Mod_bestRinger (fP m) 0 0 m 0 _ _ _
  unfold f_Mod_bestRinger
  refine x_iconst (v := (-1)) dX12_bestRinger_0 (by decide) ?_
  refine x_istore_n (ls' := [some (.ref (zad ω 201)), some (.int p1), some (.int p2), some (.int (-1)), none, none]) dX12_bestRinger_1 (Nat.le_of_ble_eq_true rfl) rfl ?_
  refine x_aload_n dX12_bestRinger_2 rfl ?_
  refine y_getI fl_RX12_346 hz_201 dX12_bestRinger_3 ?_
  refine x_iconst (v := 1) dX12_bestRinger_6 (by decide) ?_
  refine x_isub dX12_bestRinger_7 ?_
  refine y_letI (fun x1 => ?_)
  refine x_istore (ls' := [some (.ref (zad ω 201)), some (.int p1), some (.int p2), some (.int (-1)), some (.int x1), none]) dX12_bestRinger_8 (Nat.le_of_ble_eq_true rfl) rfl ?_
  refine y_Lq2 (fun x2 x3 => [some (.ref (zad ω 201)), some (.int p1), some (.int p2), some (.int x2), some (.int x3), none]) (fun r4 hr4 x2 x3 => ?_) zFu _ _
  refine x_iload dX12_bestRinger_10 rfl ?_
  refine x_if_lt (tgt := 110) dX12_bestRinger_12 (by decide) (fun hc5 => ?_) (fun hc5 => ?_)
  · refine x_iload_n dX12_bestRinger_110 rfl ?_
    exact x_iret rfl rfl ⟨(Nat.le_of_ble_eq_true rfl), (Nat.le_of_ble_eq_true rfl)⟩ dX12_bestRinger_111
  · refine x_aload_n dX12_bestRinger_15 rfl ?_
    refine y_getF fl_RX12_78 hz_201 hq_201_42 (by rw [hz_224]; decide) dX12_bestRinger_16 ?_
    refine x_iload dX12_bestRinger_19 rfl ?_
    refine y_iald hz_224 hn_224 dX12_bestRinger_21 (fun hi => ?_)
    refine x_iload_n dX12_bestRinger_22 rfl ?_
    refine y_join (fun j8 => ∀ (x7 : Int32), Sx ω true 1 0 0 kk_Mod_bestRinger (fP m) 0 0 m 60 [some (.ref (zad ω 201)), some (.int p1), some (.int p2), some (.int x2), some (.int x3), none] [.int x7] (j8 x7)) ?_ (fun j8 hj8 => ?_)
    · intro x7
      refine x_istore (ls' := [some (.ref (zad ω 201)), some (.int p1), some (.int p2), some (.int x2), some (.int x3), some (.int x7)]) dX12_bestRinger_60 (Nat.le_of_ble_eq_true rfl) rfl ?_
      refine x_iload dX12_bestRinger_62 rfl ?_
      refine y_join (fun j11 => ∀ (x10 : Int32), Sx ω true 1 0 0 kk_Mod_bestRinger (fP m) 0 0 m 103 [some (.ref (zad ω 201)), some (.int p1), some (.int p2), none, some (.int x3), none] [.int x10] (j11 x10)) ?_ (fun j11 hj11 => ?_)
      · intro x10
        refine x_istore_n (ls' := [some (.ref (zad ω 201)), some (.int p1), some (.int p2), some (.int x10), some (.int x3), none]) dX12_bestRinger_103 (Nat.le_of_ble_eq_true rfl) rfl ?_
        refine y_iinc (w := (-1)) dX12_bestRinger_104 rfl (by decide) (Nat.le_of_ble_eq_true rfl) (fun x12 => ?_)
        refine x_goto (tgt := 10) dX12_bestRinger_107 (by decide) ?_
        exact hr4 _ _
      · refine y_join (fun j13 => Sx ω true 1 0 0 kk_Mod_bestRinger (fP m) 0 0 m 102 [some (.ref (zad ω 201)), some (.int p1), some (.int p2), some (.int x2), some (.int x3), none] [] j13) ?_ (fun j13 hj13 => ?_)
        · refine x_iload_n dX12_bestRinger_102 rfl ?_
          refine y_mask (bs := [true, true, true, false, true, false]) (ls' := [some (.ref (zad ω 201)), some (.int p1), some (.int p2), none, some (.int x3), none]) rfl ?_
          exact hj11 _
        · refine x_if_eq (tgt := 102) dX12_bestRinger_64 (by decide) (fun hc9 => ?_) (fun hc9 => ?_)
          · refine y_mask (bs := [true, true, true, true, true, false]) (ls' := [some (.ref (zad ω 201)), some (.int p1), some (.int p2), some (.int x2), some (.int x3), none]) rfl ?_
            exact hj13
          · refine x_iload_n dX12_bestRinger_67 rfl ?_
            refine x_iconst (v := (-1)) dX12_bestRinger_68 (by decide) ?_
            refine y_join (fun j15 => Sx ω true 1 0 0 kk_Mod_bestRinger (fP m) 0 0 m 97 [some (.ref (zad ω 201)), some (.int p1), some (.int p2), none, some (.int x3), none] [] j15) ?_ (fun j15 hj15 => ?_)
            · refine x_iload dX12_bestRinger_97 rfl ?_
              refine x_goto (tgt := 103) dX12_bestRinger_99 (by decide) ?_
              exact hj11 _
            · refine x_icmp_eq (tgt := 97) dX12_bestRinger_69 (by decide) (fun hc14 => ?_) (fun hc14 => ?_)
              · refine y_mask (bs := [true, true, true, false, true, false]) (ls' := [some (.ref (zad ω 201)), some (.int p1), some (.int p2), none, some (.int x3), none]) rfl ?_
                exact hj15
              · refine x_aload_n dX12_bestRinger_72 rfl ?_
                refine y_getF fl_RX12_84 hz_201 hq_201_44 (by rw [hz_226]; decide) dX12_bestRinger_73 ?_
                refine x_iload dX12_bestRinger_76 rfl ?_
                refine y_iald hz_226 hn_226 dX12_bestRinger_78 (fun hi => ?_)
                refine x_aload_n dX12_bestRinger_79 rfl ?_
                refine y_getF fl_RX12_84 hz_201 hq_201_44 (by rw [hz_226]; decide) dX12_bestRinger_80 ?_
                refine x_iload_n dX12_bestRinger_83 rfl ?_
                refine x_iconst (v := (-1)) dX12_bestRinger_84 (by decide) ?_
                refine y_join (fun j18 => ∀ (x17 : Int32), Sx ω true 1 0 0 kk_Mod_bestRinger (fP m) 0 0 m 93 [some (.ref (zad ω 201)), some (.int p1), some (.int p2), some (.int x2), some (.int x3), none] [.int x17, .ref (zad ω 226), .int (zI m 226 (zIx x3))] (j18 x17)) ?_ (fun j18 hj18 => ?_)
                · intro x17
                  refine y_iald hz_226 hn_226 dX12_bestRinger_93 (fun hi => ?_)
                  refine x_icmp_gt (tgt := 102) dX12_bestRinger_94 (by decide) (fun hc19 => ?_) (fun hc19 => ?_)
                  · exact hj13
                  · refine y_mask (bs := [true, true, true, false, true, false]) (ls' := [some (.ref (zad ω 201)), some (.int p1), some (.int p2), none, some (.int x3), none]) rfl ?_
                    exact hj15
                · refine x_icmp_ne (tgt := 92) dX12_bestRinger_85 (by decide) (fun hc16 => ?_) (fun hc16 => ?_)
                  · refine x_iconst (v := 0) dX12_bestRinger_88 (by decide) ?_
                    refine x_goto (tgt := 93) dX12_bestRinger_89 (by decide) ?_
                    refine y_mask (bs := [true, true, true, true, true, false]) (ls' := [some (.ref (zad ω 201)), some (.int p1), some (.int p2), some (.int x2), some (.int x3), none]) rfl ?_
                    exact hj18 _
                  · refine x_iload_n dX12_bestRinger_92 rfl ?_
                    refine y_mask (bs := [true, true, true, true, true, false]) (ls' := [some (.ref (zad ω 201)), some (.int p1), some (.int p2), some (.int x2), some (.int x3), none]) rfl ?_
                    exact hj18 _
    · refine y_join (fun j20 => Sx ω true 1 0 0 kk_Mod_bestRinger (fP m) 0 0 m 59 [some (.ref (zad ω 201)), some (.int p1), some (.int p2), some (.int x2), some (.int x3), none] [] j20) ?_ (fun j20 hj20 => ?_)
      · refine x_iconst (v := 0) dX12_bestRinger_59 (by decide) ?_
        exact hj8 _
      · refine x_icmp_ne (tgt := 59) dX12_bestRinger_23 (by decide) (fun hc6 => ?_) (fun hc6 => ?_)
        · refine x_aload_n dX12_bestRinger_26 rfl ?_
          refine y_getF fl_RX12_84 hz_201 hq_201_44 (by rw [hz_226]; decide) dX12_bestRinger_27 ?_
          refine x_iload dX12_bestRinger_30 rfl ?_
          refine y_iald hz_226 hn_226 dX12_bestRinger_32 (fun hi => ?_)
          refine y_join (fun j22 => Sx ω true 1 0 0 kk_Mod_bestRinger (fP m) 0 0 m 55 [some (.ref (zad ω 201)), some (.int p1), some (.int p2), some (.int x2), some (.int x3), none] [] j22) ?_ (fun j22 hj22 => ?_)
          · refine x_iconst (v := 1) dX12_bestRinger_55 (by decide) ?_
            refine x_goto (tgt := 60) dX12_bestRinger_56 (by decide) ?_
            exact hj8 _
          · refine x_if_eq (tgt := 55) dX12_bestRinger_33 (by decide) (fun hc21 => ?_) (fun hc21 => ?_)
            · exact hj22
            · refine x_iload_n dX12_bestRinger_36 rfl ?_
              refine x_aload_n dX12_bestRinger_37 rfl ?_
              refine y_getF fl_RX12_87 hz_201 hq_201_45 (by rw [hz_227]; decide) dX12_bestRinger_38 ?_
              refine x_iload dX12_bestRinger_41 rfl ?_
              refine y_iald hz_227 hn_227 dX12_bestRinger_43 (fun hi => ?_)
              refine x_isub dX12_bestRinger_44 ?_
              refine x_aload_n dX12_bestRinger_45 rfl ?_
              refine y_getF fl_RX12_81 hz_201 hq_201_43 (by rw [hz_225]; decide) dX12_bestRinger_46 ?_
              refine x_iload dX12_bestRinger_49 rfl ?_
              refine y_iald hz_225 hn_225 dX12_bestRinger_51 (fun hi => ?_)
              refine x_icmp_le (tgt := 59) dX12_bestRinger_52 (by decide) (fun hc23 => ?_) (fun hc23 => ?_)
              · exact hj20
              · exact hj22
        · exact hj20
abbrev kk_Mod_peal : Kx := (yX12_peal.cls, cX12_peal, 7, none, [], false)
set_option maxHeartbeats 4000000 in
set_option maxRecDepth 100000 in
theorem c_Mod_peal (ω : Wd) (p1 : Int32) (p2 : Int32) (m : Mm) : Ev ω true 2 0 0 yX12_peal cX12_peal 7 none [.ref (zad ω 201), .int p1, .int p2] m fV (f_Mod_peal p1 p2 m) := by
  refine Ev.of (b := false) (ls := [some (.ref (zad ω 201)), some (.int p1), some (.int p2), none, none, none, none]) (plainFor_of_name (by decide +kernel)) (fun h => by cases h) rfl (Nat.le_of_ble_eq_true rfl) rfl ?_
  change Sx ω true 2 0 0 kk_Mod_peal fV 0 0 m 0 _ _ _
  unfold f_Mod_peal
  refine x_iconst (v := 0) dX12_peal_0 (by decide) ?_
  refine x_istore_n (ls' := [some (.ref (zad ω 201)), some (.int p1), some (.int p2), some (.int 0), none, none, none]) dX12_peal_1 (Nat.le_of_ble_eq_true rfl) rfl ?_
  refine y_Lp1 (fun x1 => [some (.ref (zad ω 201)), some (.int p1), some (.int p2), some (.int x1), none, none, none]) (fun r2 hr2 x1 m3 => ?_) zFu _ _
  refine x_iload_n dX12_peal_2 rfl ?_
  refine x_bipush (v := 6) dX12_peal_3 (by decide) ?_
  refine x_icmp_ge (tgt := 128) dX12_peal_5 (by decide) (fun hc4 => ?_) (fun hc4 => ?_)
  · exact x_vret rfl rfl ⟨(Nat.le_of_ble_eq_true rfl), (Nat.le_of_ble_eq_true rfl)⟩ dX12_peal_128
  · refine x_aload_n dX12_peal_8 rfl ?_
    refine y_getF fl_RX12_29 hz_201 hq_201_20 (by rw [hz_208]; decide) dX12_peal_9 ?_
    refine x_iload_n dX12_peal_12 rfl ?_
    refine y_iald hz_208 hn_208 dX12_peal_13 (fun hi => ?_)
    refine x_aload_n dX12_peal_14 rfl ?_
    refine y_getF fl_RX12_75 hz_201 hq_201_40 (by rw [hz_223]; decide) dX12_peal_15 ?_
    refine x_iload_n dX12_peal_18 rfl ?_
    refine y_iald hz_223 hn_223 dX12_peal_19 (fun hi => ?_)
    refine y_join (fun j7 => ∀ (x6 : Int32), Sx ω true 2 0 0 kk_Mod_peal fV 0 0 m3 38 [some (.ref (zad ω 201)), some (.int p1), some (.int p2), some (.int x1), none, none, none] [.int x6] (j7 x6)) ?_ (fun j7 hj7 => ?_)
    · intro x6
      refine x_istore (ls' := [some (.ref (zad ω 201)), some (.int p1), some (.int p2), some (.int x1), some (.int x6), none, none]) dX12_peal_38 (Nat.le_of_ble_eq_true rfl) rfl ?_
      refine x_iconst (v := 0) dX12_peal_40 (by decide) ?_
      refine x_istore (ls' := [some (.ref (zad ω 201)), some (.int p1), some (.int p2), some (.int x1), some (.int x6), some (.int 0), none]) dX12_peal_41 (Nat.le_of_ble_eq_true rfl) rfl ?_
      refine y_Lp1 (fun x8 => [some (.ref (zad ω 201)), some (.int p1), some (.int p2), some (.int x1), some (.int x6), some (.int x8), none]) (fun r9 hr9 x8 m10 => ?_) zFu _ _
      refine x_iload dX12_peal_43 rfl ?_
      refine x_iload dX12_peal_45 rfl ?_
      refine x_icmp_ge (tgt := 122) dX12_peal_47 (by decide) (fun hc11 => ?_) (fun hc11 => ?_)
      · refine y_iinc (w := 1) dX12_peal_122 rfl (by decide) (Nat.le_of_ble_eq_true rfl) (fun x12 => ?_)
        refine x_goto (tgt := 2) dX12_peal_125 (by decide) ?_
        refine y_mask (bs := [true, true, true, true, false, false, false]) (ls' := [some (.ref (zad ω 201)), some (.int p1), some (.int p2), some (.int x12), none, none, none]) rfl ?_
        exact hr2 _ _
      · refine x_aload_n dX12_peal_50 rfl ?_
        refine x_iload_n dX12_peal_51 rfl ?_
        refine x_iload_n dX12_peal_52 rfl ?_
        refine y_callVP (rest := []) (c1 := 0) (s1 := 0) (c_Mod_bestRinger ω x1 p2 m10) mv_RX12_349 hz_201 rfl (Nat.le_of_ble_eq_true rfl) (Nat.le_of_ble_eq_true rfl) (Nat.le_of_ble_eq_true rfl) ⟨rfl, rfl⟩ ⟨(Nat.le_of_ble_eq_true rfl), (Nat.le_of_ble_eq_true rfl)⟩ dX12_peal_53 (fun v13 => ?_)
        refine x_istore (ls' := [some (.ref (zad ω 201)), some (.int p1), some (.int p2), some (.int x1), some (.int x6), some (.int x8), some (.int v13)]) dX12_peal_56 (Nat.le_of_ble_eq_true rfl) rfl ?_
        refine x_aload_n dX12_peal_58 rfl ?_
        refine y_getF fl_RX12_90 hz_201 hq_201_46 (by rw [hz_228]; decide) dX12_peal_59 ?_
        refine x_bipush (v := 36) dX12_peal_62 (by decide) ?_
        refine x_iload_n dX12_peal_64 rfl ?_
        refine x_imul dX12_peal_65 ?_
        refine x_bipush (v := 6) dX12_peal_66 (by decide) ?_
        refine x_iload_n dX12_peal_68 rfl ?_
        refine x_imul dX12_peal_69 ?_
        refine x_iadd dX12_peal_70 ?_
        refine x_iload dX12_peal_71 rfl ?_
        refine x_iadd dX12_peal_73 ?_
        refine x_iload dX12_peal_74 rfl ?_
        refine y_iast hz_228 hn_228 dX12_peal_76 (fun hi => ?_)
        refine y_letM (fun m14 => ?_)
        refine x_iload dX12_peal_77 rfl ?_
        refine x_iconst (v := (-1)) dX12_peal_79 (by decide) ?_
        refine y_join (fun j17 => ∀ (m16 : Mm), Sx ω true 2 0 0 kk_Mod_peal fV 0 0 m16 116 [some (.ref (zad ω 201)), some (.int p1), some (.int p2), some (.int x1), some (.int x6), some (.int x8), none] [] (j17 m16)) ?_ (fun j17 hj17 => ?_)
        · intro m16
          refine y_iinc (w := 1) dX12_peal_116 rfl (by decide) (Nat.le_of_ble_eq_true rfl) (fun x18 => ?_)
          refine x_goto (tgt := 43) dX12_peal_119 (by decide) ?_
          exact hr9 _ _
        · refine x_icmp_eq (tgt := 116) dX12_peal_80 (by decide) (fun hc15 => ?_) (fun hc15 => ?_)
          · refine y_mask (bs := [true, true, true, true, true, true, false]) (ls' := [some (.ref (zad ω 201)), some (.int p1), some (.int p2), some (.int x1), some (.int x6), some (.int x8), none]) rfl ?_
            exact hj17 _
          · refine x_aload_n dX12_peal_83 rfl ?_
            refine y_getF fl_RX12_84 hz_201 hq_201_44 (by rw [hz_226]; decide) dX12_peal_84 ?_
            refine x_iload dX12_peal_87 rfl ?_
            refine x_dup2 dX12_peal_89 rfl rfl ?_
            refine y_iald hz_226 hn_226 dX12_peal_90 (fun hi => ?_)
            refine x_iconst (v := 1) dX12_peal_91 (by decide) ?_
            refine x_iadd dX12_peal_92 ?_
            refine y_iast hz_226 hn_226 dX12_peal_93 (fun hi => ?_)
            refine y_letM (fun m19 => ?_)
            refine x_aload_n dX12_peal_94 rfl ?_
            refine y_getF fl_RX12_87 hz_201 hq_201_45 (by rw [hz_227]; decide) dX12_peal_95 ?_
            refine x_iload dX12_peal_98 rfl ?_
            refine x_aload_n dX12_peal_100 rfl ?_
            refine x_iload_n dX12_peal_101 rfl ?_
            refine y_callVP (rest := [.int v13, .ref (zad ω 227)]) (c1 := 0) (s1 := 0) (c_Mod_isNight ω p1 m19) mv_RX12_317 hz_201 rfl (Nat.le_of_ble_eq_true rfl) (Nat.le_of_ble_eq_true rfl) (Nat.le_of_ble_eq_true rfl) ⟨rfl, rfl⟩ ⟨(Nat.le_of_ble_eq_true rfl), (Nat.le_of_ble_eq_true rfl)⟩ dX12_peal_102 (fun v20 => ?_)
            refine y_join (fun j23 => ∀ (x22 : Int32), Sx ω true 2 0 0 kk_Mod_peal fV 0 0 m19 115 [some (.ref (zad ω 201)), some (.int p1), some (.int p2), some (.int x1), some (.int x6), some (.int x8), none] [.int x22, .int v13, .ref (zad ω 227)] (j23 x22)) ?_ (fun j23 hj23 => ?_)
            · intro x22
              refine y_iast hz_227 hn_227 dX12_peal_115 (fun hi => ?_)
              refine y_letM (fun m24 => ?_)
              exact hj17 _
            · refine x_if_eq (tgt := 114) dX12_peal_105 (by decide) (fun hc21 => ?_) (fun hc21 => ?_)
              · refine x_iload_n dX12_peal_114 rfl ?_
                refine y_mask (bs := [true, true, true, true, true, true, false]) (ls' := [some (.ref (zad ω 201)), some (.int p1), some (.int p2), some (.int x1), some (.int x6), some (.int x8), none]) rfl ?_
                exact hj23 _
              · refine x_iload_n dX12_peal_108 rfl ?_
                refine x_iconst (v := 1) dX12_peal_109 (by decide) ?_
                refine x_iadd dX12_peal_110 ?_
                refine x_goto (tgt := 115) dX12_peal_111 (by decide) ?_
                refine y_mask (bs := [true, true, true, true, true, true, false]) (ls' := [some (.ref (zad ω 201)), some (.int p1), some (.int p2), some (.int x1), some (.int x6), some (.int x8), none]) rfl ?_
                exact hj23 _
    · refine x_icmp_ge (tgt := 32) dX12_peal_20 (by decide) (fun hc5 => ?_) (fun hc5 => ?_)
      · refine x_aload_n dX12_peal_32 rfl ?_
        refine y_getF fl_RX12_75 hz_201 hq_201_40 (by rw [hz_223]; decide) dX12_peal_33 ?_
        refine x_iload_n dX12_peal_36 rfl ?_
        refine y_iald hz_223 hn_223 dX12_peal_37 (fun hi => ?_)
        exact hj7 _
      · refine x_aload_n dX12_peal_23 rfl ?_
        refine y_getF fl_RX12_29 hz_201 hq_201_20 (by rw [hz_208]; decide) dX12_peal_24 ?_
        refine x_iload_n dX12_peal_27 rfl ?_
        refine y_iald hz_208 hn_208 dX12_peal_28 (fun hi => ?_)
        refine x_goto (tgt := 38) dX12_peal_29 (by decide) ?_
        exact hj7 _
abbrev kk_Mod_ringsAll : Kx := (yX12_ringsAll.cls, cX12_ringsAll, 4, none, [], false)
set_option maxHeartbeats 4000000 in
set_option maxRecDepth 100000 in
theorem c_Mod_ringsAll (ω : Wd) (p1 : Int32) (m : Mm) : Ev ω true 9 0 0 yX12_ringsAll cX12_ringsAll 4 none [.ref (zad ω 201), .int p1] m fV (f_Mod_ringsAll p1 m) := by
  refine Ev.of (b := false) (ls := [some (.ref (zad ω 201)), some (.int p1), none, none]) (plainFor_of_name (by decide +kernel)) (fun h => by cases h) rfl (Nat.le_of_ble_eq_true rfl) rfl ?_
  change Sx ω true 9 0 0 kk_Mod_ringsAll fV 0 0 m 0 _ _ _
  unfold f_Mod_ringsAll
  refine x_aload_n dX12_ringsAll_0 rfl ?_
  refine x_iload_n dX12_ringsAll_1 rfl ?_
  refine x_iconst (v := 1) dX12_ringsAll_2 (by decide) ?_
  refine x_aload_n dX12_ringsAll_3 rfl ?_
  refine y_getI fl_RX12_133 hz_201 dX12_ringsAll_4 ?_
  refine x_isub dX12_ringsAll_7 ?_
  refine y_callVV (rest := []) (c1 := 0) (s1 := 0) (c_Mod_finds ω p1 (1 - (zI m 201 1)) m) mv_RX12_300 hz_201 rfl (Nat.le_of_ble_eq_true rfl) (Nat.le_of_ble_eq_true rfl) (Nat.le_of_ble_eq_true rfl) ⟨rfl, rfl⟩ ⟨(Nat.le_of_ble_eq_true rfl), (Nat.le_of_ble_eq_true rfl)⟩ dX12_ringsAll_8 (fun m1 => ?_)
  refine x_aload_n dX12_ringsAll_11 rfl ?_
  refine x_iload_n dX12_ringsAll_12 rfl ?_
  refine y_callVV (rest := []) (c1 := 0) (s1 := 0) (c_Mod_places ω p1 m1) mv_RX12_310 hz_201 rfl (Nat.le_of_ble_eq_true rfl) (Nat.le_of_ble_eq_true rfl) (Nat.le_of_ble_eq_true rfl) ⟨rfl, rfl⟩ ⟨(Nat.le_of_ble_eq_true rfl), (Nat.le_of_ble_eq_true rfl)⟩ dX12_ringsAll_13 (fun m2 => ?_)
  refine x_iconst (v := 0) dX12_ringsAll_16 (by decide) ?_
  refine x_istore_n (ls' := [some (.ref (zad ω 201)), some (.int p1), some (.int 0), none]) dX12_ringsAll_17 (Nat.le_of_ble_eq_true rfl) rfl ?_
  refine y_Lp1 (fun x3 => [some (.ref (zad ω 201)), some (.int p1), some (.int x3), none]) (fun r4 hr4 x3 m5 => ?_) zFu _ _
  refine x_iload_n dX12_ringsAll_18 rfl ?_
  refine x_sipush (v := 720) dX12_ringsAll_19 (by decide) ?_
  refine x_icmp_ge (tgt := 39) dX12_ringsAll_22 (by decide) (fun hc6 => ?_) (fun hc6 => ?_)
  · refine x_iconst (v := 0) dX12_ringsAll_39 (by decide) ?_
    refine x_istore_n (ls' := [some (.ref (zad ω 201)), some (.int p1), some (.int 0), none]) dX12_ringsAll_40 (Nat.le_of_ble_eq_true rfl) rfl ?_
    refine y_Lp1 (fun x7 => [some (.ref (zad ω 201)), some (.int p1), some (.int x7), none]) (fun r8 hr8 x7 m9 => ?_) zFu _ _
    refine x_iload_n dX12_ringsAll_41 rfl ?_
    refine x_aload_n dX12_ringsAll_42 rfl ?_
    refine y_getI fl_RX12_346 hz_201 dX12_ringsAll_43 ?_
    refine x_icmp_ge (tgt := 62) dX12_ringsAll_46 (by decide) (fun hc10 => ?_) (fun hc10 => ?_)
    · refine x_iconst (v := 0) dX12_ringsAll_62 (by decide) ?_
      refine x_istore_n (ls' := [some (.ref (zad ω 201)), some (.int p1), some (.int 0), none]) dX12_ringsAll_63 (Nat.le_of_ble_eq_true rfl) rfl ?_
      refine y_Lp1 (fun x11 => [some (.ref (zad ω 201)), some (.int p1), some (.int x11), none]) (fun r12 hr12 x11 m13 => ?_) zFu _ _
      refine x_iload_n dX12_ringsAll_64 rfl ?_
      refine x_iload_n dX12_ringsAll_65 rfl ?_
      refine y_callSP (rest := [.int x11]) (c1 := 0) (s1 := 0) (c_Mod_lengthOf ω p1 m13) ms_RX12_123 rfl (Nat.le_of_ble_eq_true rfl) (Nat.le_of_ble_eq_true rfl) (Nat.le_of_ble_eq_true rfl) ⟨rfl, rfl⟩ ⟨(Nat.le_of_ble_eq_true rfl), (Nat.le_of_ble_eq_true rfl)⟩ dX12_ringsAll_66 (fun v14 => ?_)
      refine x_icmp_ge (tgt := 110) dX12_ringsAll_69 (by decide) (fun hc15 => ?_) (fun hc15 => ?_)
      · exact x_vret rfl rfl ⟨(Nat.le_of_ble_eq_true rfl), (Nat.le_of_ble_eq_true rfl)⟩ dX12_ringsAll_110
      · refine x_iconst (v := 0) dX12_ringsAll_72 (by decide) ?_
        refine x_istore_n (ls' := [some (.ref (zad ω 201)), some (.int p1), some (.int x11), some (.int 0)]) dX12_ringsAll_73 (Nat.le_of_ble_eq_true rfl) rfl ?_
        refine y_Lp1 (fun x16 => [some (.ref (zad ω 201)), some (.int p1), some (.int x11), some (.int x16)]) (fun r17 hr17 x16 m18 => ?_) zFu _ _
        refine x_iload_n dX12_ringsAll_74 rfl ?_
        refine x_aload_n dX12_ringsAll_75 rfl ?_
        refine y_getI fl_RX12_231 hz_201 dX12_ringsAll_76 ?_
        refine x_icmp_ge (tgt := 104) dX12_ringsAll_79 (by decide) (fun hc19 => ?_) (fun hc19 => ?_)
        · refine y_iinc (w := 1) dX12_ringsAll_104 rfl (by decide) (Nat.le_of_ble_eq_true rfl) (fun x20 => ?_)
          refine x_goto (tgt := 64) dX12_ringsAll_107 (by decide) ?_
          refine y_mask (bs := [true, true, true, false]) (ls' := [some (.ref (zad ω 201)), some (.int p1), some (.int x20), none]) rfl ?_
          exact hr12 _ _
        · refine x_aload_n dX12_ringsAll_82 rfl ?_
          refine y_getF fl_RX12_63 hz_201 hq_201_32 (by rw [hz_219]; decide) dX12_ringsAll_83 ?_
          refine x_iload_n dX12_ringsAll_86 rfl ?_
          refine y_iald hz_219 hn_219 dX12_ringsAll_87 (fun hi => ?_)
          refine x_iload_n dX12_ringsAll_88 rfl ?_
          refine y_join (fun j23 => ∀ (m22 : Mm), Sx ω true 9 0 0 kk_Mod_ringsAll fV 0 0 m22 98 [some (.ref (zad ω 201)), some (.int p1), some (.int x11), some (.int x16)] [] (j23 m22)) ?_ (fun j23 hj23 => ?_)
          · intro m22
            refine y_iinc (w := 1) dX12_ringsAll_98 rfl (by decide) (Nat.le_of_ble_eq_true rfl) (fun x24 => ?_)
            refine x_goto (tgt := 74) dX12_ringsAll_101 (by decide) ?_
            exact hr17 _ _
          · refine x_icmp_ne (tgt := 98) dX12_ringsAll_89 (by decide) (fun hc21 => ?_) (fun hc21 => ?_)
            · refine x_aload_n dX12_ringsAll_92 rfl ?_
              refine x_iload_n dX12_ringsAll_93 rfl ?_
              refine x_iload_n dX12_ringsAll_94 rfl ?_
              refine y_callVV (rest := []) (c1 := 0) (s1 := 0) (c_Mod_peal ω x16 x11 m18) mv_RX12_352 hz_201 rfl (Nat.le_of_ble_eq_true rfl) (Nat.le_of_ble_eq_true rfl) (Nat.le_of_ble_eq_true rfl) ⟨rfl, rfl⟩ ⟨(Nat.le_of_ble_eq_true rfl), (Nat.le_of_ble_eq_true rfl)⟩ dX12_ringsAll_95 (fun m25 => ?_)
              exact hj23 _
            · exact hj23 _
    · refine x_aload_n dX12_ringsAll_49 rfl ?_
      refine y_getF fl_RX12_84 hz_201 hq_201_44 (by rw [hz_226]; decide) dX12_ringsAll_50 ?_
      refine x_iload_n dX12_ringsAll_53 rfl ?_
      refine x_iconst (v := 0) dX12_ringsAll_54 (by decide) ?_
      refine y_iast hz_226 hn_226 dX12_ringsAll_55 (fun hi => ?_)
      refine y_letM (fun m26 => ?_)
      refine y_iinc (w := 1) dX12_ringsAll_56 rfl (by decide) (Nat.le_of_ble_eq_true rfl) (fun x27 => ?_)
      refine x_goto (tgt := 41) dX12_ringsAll_59 (by decide) ?_
      exact hr8 _ _
  · refine x_aload_n dX12_ringsAll_25 rfl ?_
    refine y_getF fl_RX12_90 hz_201 hq_201_46 (by rw [hz_228]; decide) dX12_ringsAll_26 ?_
    refine x_iload_n dX12_ringsAll_29 rfl ?_
    refine x_bipush (v := (-2)) dX12_ringsAll_30 (by decide) ?_
    refine y_iast hz_228 hn_228 dX12_ringsAll_32 (fun hi => ?_)
    refine y_letM (fun m28 => ?_)
    refine y_iinc (w := 1) dX12_ringsAll_33 rfl (by decide) (Nat.le_of_ble_eq_true rfl) (fun x29 => ?_)
    refine x_goto (tgt := 18) dX12_ringsAll_36 (by decide) ?_
    exact hr4 _ _
abbrev kk_Mod_rings : Kx := (yX12_rings.cls, cX12_rings, 7, (some .int), [], false)
set_option maxHeartbeats 4000000 in
set_option maxRecDepth 100000 in
theorem c_Mod_rings (ω : Wd) (p1 : Int32) (p2 : Int32) (p3 : Int32) (p4 : Int32) (m : Mm) : Ev ω true 10 0 0 yX12_rings cX12_rings 7 (some .int) [.ref (zad ω 201), .int p1, .int p2, .int p3, .int p4] m fI (f_Mod_rings p1 p2 p3 p4 m) := by
  refine Ev.of (b := false) (ls := [some (.ref (zad ω 201)), some (.int p1), some (.int p2), some (.int p3), some (.int p4), none, none]) (plainFor_of_name (by decide +kernel)) (fun h => by cases h) rfl (Nat.le_of_ble_eq_true rfl) rfl ?_
  change Sx ω true 10 0 0 kk_Mod_rings fI 0 0 m 0 _ _ _
  unfold f_Mod_rings
  refine x_aload_n dX12_rings_0 rfl ?_
  refine x_iload_n dX12_rings_1 rfl ?_
  refine y_callVP (rest := []) (c1 := 0) (s1 := 0) (c_Mod_isFeast ω p1 m) mv_RX12_244 hz_201 rfl (Nat.le_of_ble_eq_true rfl) (Nat.le_of_ble_eq_true rfl) (Nat.le_of_ble_eq_true rfl) ⟨rfl, rfl⟩ ⟨(Nat.le_of_ble_eq_true rfl), (Nat.le_of_ble_eq_true rfl)⟩ dX12_rings_2 (fun v1 => ?_)
  refine y_join (fun j4 => ∀ (x3 : Int32), Sx ω true 10 0 0 kk_Mod_rings fI 0 0 m 22 [some (.ref (zad ω 201)), some (.int p1), some (.int p2), some (.int p3), some (.int p4), none, none] [.int x3] (j4 x3)) ?_ (fun j4 hj4 => ?_)
  · intro x3
    refine x_istore (ls' := [some (.ref (zad ω 201)), some (.int p1), some (.int p2), some (.int p3), some (.int p4), some (.int x3), none]) dX12_rings_22 (Nat.le_of_ble_eq_true rfl) rfl ?_
    refine x_aload_n dX12_rings_24 rfl ?_
    refine x_iload dX12_rings_25 rfl ?_
    refine y_join (fun j7 => ∀ (x6 : Int32), Sx ω true 10 0 0 kk_Mod_rings fI 0 0 m 56 [some (.ref (zad ω 201)), some (.int p1), some (.int p2), some (.int p3), some (.int p4), none, none] [.int x6, .ref (zad ω 201)] (j7 x6)) ?_ (fun j7 hj7 => ?_)
    · intro x6
      refine y_putI fp_RX12_93 hz_201 dX12_rings_56 ?_
      refine y_letM (fun m8 => ?_)
      refine x_aload_n dX12_rings_59 rfl ?_
      refine y_getI fl_RX12_93 hz_201 dX12_rings_60 ?_
      refine x_if_le (tgt := 68) dX12_rings_63 (by decide) (fun hc9 => ?_) (fun hc9 => ?_)
      · refine x_aload_n dX12_rings_68 rfl ?_
        refine x_iload_n dX12_rings_69 rfl ?_
        refine y_callVV (rest := []) (c1 := 0) (s1 := 0) (c_Mod_ringsAll ω p2 m8) mv_RX12_355 hz_201 rfl (Nat.le_of_ble_eq_true rfl) (Nat.le_of_ble_eq_true rfl) (Nat.le_of_ble_eq_true rfl) ⟨rfl, rfl⟩ ⟨(Nat.le_of_ble_eq_true rfl), (Nat.le_of_ble_eq_true rfl)⟩ dX12_rings_70 (fun m10 => ?_)
        refine x_aload_n dX12_rings_73 rfl ?_
        refine y_getF fl_RX12_90 hz_201 hq_201_46 (by rw [hz_228]; decide) dX12_rings_74 ?_
        refine x_bipush (v := 36) dX12_rings_77 (by decide) ?_
        refine x_iload_n dX12_rings_79 rfl ?_
        refine x_imul dX12_rings_80 ?_
        refine x_bipush (v := 6) dX12_rings_81 (by decide) ?_
        refine x_iload_n dX12_rings_83 rfl ?_
        refine x_imul dX12_rings_84 ?_
        refine x_iadd dX12_rings_85 ?_
        refine x_iload dX12_rings_86 rfl ?_
        refine x_iadd dX12_rings_88 ?_
        refine y_iald hz_228 hn_228 dX12_rings_89 (fun hi => ?_)
        refine y_letI (fun x11 => ?_)
        refine x_istore (ls' := [some (.ref (zad ω 201)), some (.int p1), some (.int p2), some (.int p3), some (.int p4), none, some (.int x11)]) dX12_rings_90 (Nat.le_of_ble_eq_true rfl) rfl ?_
        refine x_iload dX12_rings_92 rfl ?_
        refine x_if_ge (tgt := 101) dX12_rings_94 (by decide) (fun hc12 => ?_) (fun hc12 => ?_)
        · refine x_iload dX12_rings_101 rfl ?_
          exact x_iret rfl rfl ⟨(Nat.le_of_ble_eq_true rfl), (Nat.le_of_ble_eq_true rfl)⟩ dX12_rings_103
        · refine x_iconst (v := (-1)) dX12_rings_97 (by decide) ?_
          refine x_goto (tgt := 103) dX12_rings_98 (by decide) ?_
          exact x_iret rfl rfl ⟨(Nat.le_of_ble_eq_true rfl), (Nat.le_of_ble_eq_true rfl)⟩ dX12_rings_103
      · refine x_iconst (v := 0) dX12_rings_66 (by decide) ?_
        exact x_iret rfl rfl ⟨(Nat.le_of_ble_eq_true rfl), (Nat.le_of_ble_eq_true rfl)⟩ dX12_rings_67
    · refine x_if_ne (tgt := 34) dX12_rings_27 (by decide) (fun hc5 => ?_) (fun hc5 => ?_)
      · refine x_iconst (v := 1) dX12_rings_30 (by decide) ?_
        refine x_goto (tgt := 56) dX12_rings_31 (by decide) ?_
        refine y_mask (bs := [true, true, true, true, true, false, false]) (ls' := [some (.ref (zad ω 201)), some (.int p1), some (.int p2), some (.int p3), some (.int p4), none, none]) rfl ?_
        exact hj7 _
      · refine x_iload_n dX12_rings_34 rfl ?_
        refine y_callSP (rest := [.ref (zad ω 201)]) (c1 := 0) (s1 := 0) (c_Mod_isYear ω p2 m) ms_RX12_250 rfl (Nat.le_of_ble_eq_true rfl) (Nat.le_of_ble_eq_true rfl) (Nat.le_of_ble_eq_true rfl) ⟨rfl, rfl⟩ ⟨(Nat.le_of_ble_eq_true rfl), (Nat.le_of_ble_eq_true rfl)⟩ dX12_rings_35 (fun v13 => ?_)
        refine y_join (fun j15 => Sx ω true 10 0 0 kk_Mod_rings fI 0 0 m 55 [some (.ref (zad ω 201)), some (.int p1), some (.int p2), some (.int p3), some (.int p4), none, none] [.ref (zad ω 201)] j15) ?_ (fun j15 hj15 => ?_)
        · refine x_iconst (v := 2) dX12_rings_55 (by decide) ?_
          exact hj7 _
        · refine x_if_eq (tgt := 55) dX12_rings_38 (by decide) (fun hc14 => ?_) (fun hc14 => ?_)
          · refine y_mask (bs := [true, true, true, true, true, false, false]) (ls' := [some (.ref (zad ω 201)), some (.int p1), some (.int p2), some (.int p3), some (.int p4), none, none]) rfl ?_
            exact hj15
          · refine x_iload dX12_rings_41 rfl ?_
            refine x_iconst (v := 0) dX12_rings_43 (by decide) ?_
            refine x_iconst (v := 5) dX12_rings_44 (by decide) ?_
            refine y_callSP (rest := [.ref (zad ω 201)]) (c1 := 0) (s1 := 0) (c_Mod_isIn ω p4 0 5 m) ms_RX12_115 rfl (Nat.le_of_ble_eq_true rfl) (Nat.le_of_ble_eq_true rfl) (Nat.le_of_ble_eq_true rfl) ⟨rfl, rfl⟩ ⟨(Nat.le_of_ble_eq_true rfl), (Nat.le_of_ble_eq_true rfl)⟩ dX12_rings_45 (fun v16 => ?_)
            refine x_if_eq (tgt := 55) dX12_rings_48 (by decide) (fun hc17 => ?_) (fun hc17 => ?_)
            · refine y_mask (bs := [true, true, true, true, true, false, false]) (ls' := [some (.ref (zad ω 201)), some (.int p1), some (.int p2), some (.int p3), some (.int p4), none, none]) rfl ?_
              exact hj15
            · refine x_iconst (v := 0) dX12_rings_51 (by decide) ?_
              refine x_goto (tgt := 56) dX12_rings_52 (by decide) ?_
              refine y_mask (bs := [true, true, true, true, true, false, false]) (ls' := [some (.ref (zad ω 201)), some (.int p1), some (.int p2), some (.int p3), some (.int p4), none, none]) rfl ?_
              exact hj7 _
  · refine y_join (fun j18 => Sx ω true 10 0 0 kk_Mod_rings fI 0 0 m 21 [some (.ref (zad ω 201)), some (.int p1), some (.int p2), some (.int p3), some (.int p4), none, none] [] j18) ?_ (fun j18 hj18 => ?_)
    · refine x_iconst (v := 0) dX12_rings_21 (by decide) ?_
      exact hj4 _
    · refine x_if_eq (tgt := 21) dX12_rings_5 (by decide) (fun hc2 => ?_) (fun hc2 => ?_)
      · exact hj18
      · refine x_iload_n dX12_rings_8 rfl ?_
        refine x_iconst (v := 0) dX12_rings_9 (by decide) ?_
        refine x_iconst (v := 5) dX12_rings_10 (by decide) ?_
        refine y_callSP (rest := []) (c1 := 0) (s1 := 0) (c_Mod_isIn ω p3 0 5 m) ms_RX12_115 rfl (Nat.le_of_ble_eq_true rfl) (Nat.le_of_ble_eq_true rfl) (Nat.le_of_ble_eq_true rfl) ⟨rfl, rfl⟩ ⟨(Nat.le_of_ble_eq_true rfl), (Nat.le_of_ble_eq_true rfl)⟩ dX12_rings_11 (fun v19 => ?_)
        refine x_if_eq (tgt := 21) dX12_rings_14 (by decide) (fun hc20 => ?_) (fun hc20 => ?_)
        · exact hj18
        · refine x_iconst (v := 1) dX12_rings_17 (by decide) ?_
          refine x_goto (tgt := 22) dX12_rings_18 (by decide) ?_
          exact hj4 _
abbrev kk_Mod_silent : Kx := (yX12_silent.cls, cX12_silent, 4, (some .int), [], false)
set_option maxHeartbeats 4000000 in
set_option maxRecDepth 100000 in
theorem c_Mod_silent (ω : Wd) (p1 : Int32) (m : Mm) : Ev ω true 10 0 0 yX12_silent cX12_silent 4 (some .int) [.ref (zad ω 201), .int p1] m fI (f_Mod_silent p1 m) := by
  refine Ev.of (b := false) (ls := [some (.ref (zad ω 201)), some (.int p1), none, none]) (plainFor_of_name (by decide +kernel)) (fun h => by cases h) rfl (Nat.le_of_ble_eq_true rfl) rfl ?_
  change Sx ω true 10 0 0 kk_Mod_silent fI 0 0 m 0 _ _ _
  unfold f_Mod_silent
  refine x_aload_n dX12_silent_0 rfl ?_
  refine x_iload_n dX12_silent_1 rfl ?_
  refine y_callSP (rest := [.ref (zad ω 201)]) (c1 := 0) (s1 := 0) (c_Mod_isYear ω p1 m) ms_RX12_250 rfl (Nat.le_of_ble_eq_true rfl) (Nat.le_of_ble_eq_true rfl) (Nat.le_of_ble_eq_true rfl) ⟨rfl, rfl⟩ ⟨(Nat.le_of_ble_eq_true rfl), (Nat.le_of_ble_eq_true rfl)⟩ dX12_silent_2 (fun v1 => ?_)
  refine y_join (fun j4 => ∀ (x3 : Int32), Sx ω true 10 0 0 kk_Mod_silent fI 0 0 m 13 [some (.ref (zad ω 201)), some (.int p1), none, none] [.int x3, .ref (zad ω 201)] (j4 x3)) ?_ (fun j4 hj4 => ?_)
  · intro x3
    refine y_putI fp_RX12_93 hz_201 dX12_silent_13 ?_
    refine y_letM (fun m5 => ?_)
    refine x_aload_n dX12_silent_16 rfl ?_
    refine y_getI fl_RX12_93 hz_201 dX12_silent_17 ?_
    refine x_if_le (tgt := 25) dX12_silent_20 (by decide) (fun hc6 => ?_) (fun hc6 => ?_)
    · refine x_aload_n dX12_silent_25 rfl ?_
      refine x_iload_n dX12_silent_26 rfl ?_
      refine y_callVV (rest := []) (c1 := 0) (s1 := 0) (c_Mod_ringsAll ω p1 m5) mv_RX12_355 hz_201 rfl (Nat.le_of_ble_eq_true rfl) (Nat.le_of_ble_eq_true rfl) (Nat.le_of_ble_eq_true rfl) ⟨rfl, rfl⟩ ⟨(Nat.le_of_ble_eq_true rfl), (Nat.le_of_ble_eq_true rfl)⟩ dX12_silent_27 (fun m7 => ?_)
      refine x_iconst (v := 0) dX12_silent_30 (by decide) ?_
      refine x_istore_n (ls' := [some (.ref (zad ω 201)), some (.int p1), some (.int 0), none]) dX12_silent_31 (Nat.le_of_ble_eq_true rfl) rfl ?_
      refine x_iconst (v := 0) dX12_silent_32 (by decide) ?_
      refine x_istore_n (ls' := [some (.ref (zad ω 201)), some (.int p1), some (.int 0), some (.int 0)]) dX12_silent_33 (Nat.le_of_ble_eq_true rfl) rfl ?_
      refine y_mask (bs := [true, false, true, true]) (ls' := [some (.ref (zad ω 201)), none, some (.int 0), some (.int 0)]) rfl ?_
      refine y_Lq2 (fun x8 x9 => [some (.ref (zad ω 201)), none, some (.int x8), some (.int x9)]) (fun r10 hr10 x8 x9 => ?_) zFu _ _
      refine x_iload_n dX12_silent_34 rfl ?_
      refine x_bipush (v := 36) dX12_silent_35 (by decide) ?_
      refine x_aload_n dX12_silent_37 rfl ?_
      refine y_getI fl_RX12_231 hz_201 dX12_silent_38 ?_
      refine x_imul dX12_silent_41 ?_
      refine x_icmp_ge (tgt := 69) dX12_silent_42 (by decide) (fun hc11 => ?_) (fun hc11 => ?_)
      · refine x_iload_n dX12_silent_69 rfl ?_
        exact x_iret rfl rfl ⟨(Nat.le_of_ble_eq_true rfl), (Nat.le_of_ble_eq_true rfl)⟩ dX12_silent_70
      · refine x_iload_n dX12_silent_45 rfl ?_
        refine x_aload_n dX12_silent_46 rfl ?_
        refine y_getF fl_RX12_90 hz_201 hq_201_46 (by rw [hz_228]; decide) dX12_silent_47 ?_
        refine x_iload_n dX12_silent_50 rfl ?_
        refine y_iald hz_228 hn_228 dX12_silent_51 (fun hi => ?_)
        refine x_iconst (v := (-1)) dX12_silent_52 (by decide) ?_
        refine y_join (fun j14 => ∀ (x13 : Int32), Sx ω true 10 0 0 kk_Mod_silent fI 0 0 m7 61 [some (.ref (zad ω 201)), none, none, some (.int x9)] [.int x13, .int x8] (j14 x13)) ?_ (fun j14 hj14 => ?_)
        · intro x13
          refine x_iadd dX12_silent_61 ?_
          refine y_letI (fun x15 => ?_)
          refine x_istore_n (ls' := [some (.ref (zad ω 201)), none, some (.int x15), some (.int x9)]) dX12_silent_62 (Nat.le_of_ble_eq_true rfl) rfl ?_
          refine y_iinc (w := 1) dX12_silent_63 rfl (by decide) (Nat.le_of_ble_eq_true rfl) (fun x16 => ?_)
          refine x_goto (tgt := 34) dX12_silent_66 (by decide) ?_
          exact hr10 _ _
        · refine x_icmp_ne (tgt := 60) dX12_silent_53 (by decide) (fun hc12 => ?_) (fun hc12 => ?_)
          · refine x_iconst (v := 1) dX12_silent_56 (by decide) ?_
            refine x_goto (tgt := 61) dX12_silent_57 (by decide) ?_
            refine y_mask (bs := [true, false, false, true]) (ls' := [some (.ref (zad ω 201)), none, none, some (.int x9)]) rfl ?_
            exact hj14 _
          · refine x_iconst (v := 0) dX12_silent_60 (by decide) ?_
            refine y_mask (bs := [true, false, false, true]) (ls' := [some (.ref (zad ω 201)), none, none, some (.int x9)]) rfl ?_
            exact hj14 _
    · refine x_iconst (v := 0) dX12_silent_23 (by decide) ?_
      exact x_iret rfl rfl ⟨(Nat.le_of_ble_eq_true rfl), (Nat.le_of_ble_eq_true rfl)⟩ dX12_silent_24
  · refine x_if_eq (tgt := 12) dX12_silent_5 (by decide) (fun hc2 => ?_) (fun hc2 => ?_)
    · refine x_iconst (v := 1) dX12_silent_12 (by decide) ?_
      exact hj4 _
    · refine x_iconst (v := 0) dX12_silent_8 (by decide) ?_
      refine x_goto (tgt := 13) dX12_silent_9 (by decide) ?_
      exact hj4 _
abbrev kk_Mod_peals : Kx := (yX12_peals.cls, cX12_peals, 3, (some .int), [], false)
set_option maxHeartbeats 4000000 in
set_option maxRecDepth 100000 in
theorem c_Mod_peals (ω : Wd) (p1 : Int32) (p2 : Int32) (m : Mm) : Ev ω true 10 0 0 yX12_peals cX12_peals 3 (some .int) [.ref (zad ω 201), .int p1, .int p2] m fI (f_Mod_peals p1 p2 m) := by
  refine Ev.of (b := false) (ls := [some (.ref (zad ω 201)), some (.int p1), some (.int p2)]) (plainFor_of_name (by decide +kernel)) (fun h => by cases h) rfl (Nat.le_of_ble_eq_true rfl) rfl ?_
  change Sx ω true 10 0 0 kk_Mod_peals fI 0 0 m 0 _ _ _
  unfold f_Mod_peals
  refine x_aload_n dX12_peals_0 rfl ?_
  refine x_iload_n dX12_peals_1 rfl ?_
  refine x_iconst (v := 0) dX12_peals_2 (by decide) ?_
  refine x_aload_n dX12_peals_3 rfl ?_
  refine y_getI fl_RX12_346 hz_201 dX12_peals_4 ?_
  refine x_iconst (v := 1) dX12_peals_7 (by decide) ?_
  refine x_isub dX12_peals_8 ?_
  refine y_callSP (rest := [.ref (zad ω 201)]) (c1 := 0) (s1 := 0) (c_Mod_isIn ω p1 0 ((zI m 201 41) - 1) m) ms_RX12_115 rfl (Nat.le_of_ble_eq_true rfl) (Nat.le_of_ble_eq_true rfl) (Nat.le_of_ble_eq_true rfl) ⟨rfl, rfl⟩ ⟨(Nat.le_of_ble_eq_true rfl), (Nat.le_of_ble_eq_true rfl)⟩ dX12_peals_9 (fun v1 => ?_)
  refine y_join (fun j4 => ∀ (x3 : Int32), Sx ω true 10 0 0 kk_Mod_peals fI 0 0 m 31 [some (.ref (zad ω 201)), some (.int p1), some (.int p2)] [.int x3, .ref (zad ω 201)] (j4 x3)) ?_ (fun j4 hj4 => ?_)
  · intro x3
    refine y_putI fp_RX12_93 hz_201 dX12_peals_31 ?_
    refine y_letM (fun m5 => ?_)
    refine x_aload_n dX12_peals_34 rfl ?_
    refine y_getI fl_RX12_93 hz_201 dX12_peals_35 ?_
    refine x_if_le (tgt := 43) dX12_peals_38 (by decide) (fun hc6 => ?_) (fun hc6 => ?_)
    · refine x_aload_n dX12_peals_43 rfl ?_
      refine x_iload_n dX12_peals_44 rfl ?_
      refine y_callVV (rest := []) (c1 := 0) (s1 := 0) (c_Mod_ringsAll ω p2 m5) mv_RX12_355 hz_201 rfl (Nat.le_of_ble_eq_true rfl) (Nat.le_of_ble_eq_true rfl) (Nat.le_of_ble_eq_true rfl) ⟨rfl, rfl⟩ ⟨(Nat.le_of_ble_eq_true rfl), (Nat.le_of_ble_eq_true rfl)⟩ dX12_peals_45 (fun m7 => ?_)
      refine x_aload_n dX12_peals_48 rfl ?_
      refine y_getF fl_RX12_84 hz_201 hq_201_44 (by rw [hz_226]; decide) dX12_peals_49 ?_
      refine x_iload_n dX12_peals_52 rfl ?_
      refine y_iald hz_226 hn_226 dX12_peals_53 (fun hi => ?_)
      exact x_iret rfl rfl ⟨(Nat.le_of_ble_eq_true rfl), (Nat.le_of_ble_eq_true rfl)⟩ dX12_peals_54
    · refine x_iconst (v := 0) dX12_peals_41 (by decide) ?_
      exact x_iret rfl rfl ⟨(Nat.le_of_ble_eq_true rfl), (Nat.le_of_ble_eq_true rfl)⟩ dX12_peals_42
  · refine x_if_ne (tgt := 19) dX12_peals_12 (by decide) (fun hc2 => ?_) (fun hc2 => ?_)
    · refine x_iconst (v := 1) dX12_peals_15 (by decide) ?_
      refine x_goto (tgt := 31) dX12_peals_16 (by decide) ?_
      exact hj4 _
    · refine x_iload_n dX12_peals_19 rfl ?_
      refine y_callSP (rest := [.ref (zad ω 201)]) (c1 := 0) (s1 := 0) (c_Mod_isYear ω p2 m) ms_RX12_250 rfl (Nat.le_of_ble_eq_true rfl) (Nat.le_of_ble_eq_true rfl) (Nat.le_of_ble_eq_true rfl) ⟨rfl, rfl⟩ ⟨(Nat.le_of_ble_eq_true rfl), (Nat.le_of_ble_eq_true rfl)⟩ dX12_peals_20 (fun v8 => ?_)
      refine x_if_eq (tgt := 30) dX12_peals_23 (by decide) (fun hc9 => ?_) (fun hc9 => ?_)
      · refine x_iconst (v := 2) dX12_peals_30 (by decide) ?_
        exact hj4 _
      · refine x_iconst (v := 0) dX12_peals_26 (by decide) ?_
        refine x_goto (tgt := 31) dX12_peals_27 (by decide) ?_
        exact hj4 _
