abbrev kk_Mod_cost : Kx := (yX12_cost.cls, cX12_cost, 3, (some .int), [], false)
set_option maxHeartbeats 4000000 in
set_option maxRecDepth 100000 in
theorem c_Mod_cost (ω : Wd) (p1 : Int32) (p2 : Int32) (m : Mm) : Ev ω true 8 0 0 yX12_cost cX12_cost 3 (some .int) [.ref (zad ω 201), .int p1, .int p2] m fI (f_Mod_cost p1 p2 m) := by
  refine Ev.of (b := false) (ls := [some (.ref (zad ω 201)), some (.int p1), some (.int p2)]) (plainFor_of_name (by decide +kernel)) (fun h => by cases h) rfl (Nat.le_of_ble_eq_true rfl) rfl ?_
  change Sx ω true 8 0 0 kk_Mod_cost fI 0 0 m 0 _ _ _
  unfold f_Mod_cost
  refine x_aload_n dX12_cost_0 rfl ?_
  refine x_iload_n dX12_cost_1 rfl ?_
  refine x_iload_n dX12_cost_2 rfl ?_
  refine y_callVI (rest := []) (c1 := 0) (s1 := 0) (c_Mod_asks ω p1 p2 m) mv_RX12_306 hz_201 rfl (Nat.le_of_ble_eq_true rfl) (Nat.le_of_ble_eq_true rfl) (Nat.le_of_ble_eq_true rfl) ⟨rfl, rfl⟩ ⟨(Nat.le_of_ble_eq_true rfl), (Nat.le_of_ble_eq_true rfl)⟩ dX12_cost_3 (fun v2 m1 => ?_)
  refine x_if_ne (tgt := 11) dX12_cost_6 (by decide) (fun hc3 => ?_) (fun hc3 => ?_)
  · refine x_iconst (v := 0) dX12_cost_9 (by decide) ?_
    exact x_iret rfl rfl ⟨(Nat.le_of_ble_eq_true rfl), (Nat.le_of_ble_eq_true rfl)⟩ dX12_cost_10
  · refine x_aload_n dX12_cost_11 rfl ?_
    refine x_iload_n dX12_cost_12 rfl ?_
    refine x_aload_n dX12_cost_13 rfl ?_
    refine y_getI fl_RX12_133 hz_201 dX12_cost_14 ?_
    refine y_callVV (rest := []) (c1 := 0) (s1 := 0) (c_Mod_finds ω p2 (zI m1 201 1) m1) mv_RX12_300 hz_201 rfl (Nat.le_of_ble_eq_true rfl) (Nat.le_of_ble_eq_true rfl) (Nat.le_of_ble_eq_true rfl) ⟨rfl, rfl⟩ ⟨(Nat.le_of_ble_eq_true rfl), (Nat.le_of_ble_eq_true rfl)⟩ dX12_cost_17 (fun m4 => ?_)
    refine x_aload_n dX12_cost_20 rfl ?_
    refine y_getF fl_RX12_60 hz_201 hq_201_31 (by rw [hz_218]; decide) dX12_cost_21 ?_
    refine x_iload_n dX12_cost_24 rfl ?_
    refine y_iald hz_218 hn_218 dX12_cost_25 (fun hi => ?_)
    exact x_iret rfl rfl ⟨(Nat.le_of_ble_eq_true rfl), (Nat.le_of_ble_eq_true rfl)⟩ dX12_cost_26
abbrev kk_Mod_costNow : Kx := (yX12_costNow.cls, cX12_costNow, 3, (some .int), [], false)
set_option maxHeartbeats 4000000 in
set_option maxRecDepth 100000 in
theorem c_Mod_costNow (ω : Wd) (m : Mm) : Ev ω true 1 0 0 yX12_costNow cX12_costNow 3 (some .int) [.ref (zad ω 201)] m (fP m) (f_Mod_costNow m) := by
  refine Ev.of (b := false) (ls := [some (.ref (zad ω 201)), none, none]) (plainFor_of_name (by decide +kernel)) (fun h => by cases h) rfl (Nat.le_of_ble_eq_true rfl) rfl ?_
  change Sx ω true 1 0 0 kk_Mod_costNow (fP m) 0 0 m 0 _ _ _
  unfold f_Mod_costNow
  refine x_iconst (v := 1) dX12_costNow_0 (by decide) ?_
  refine x_istore_n (ls' := [some (.ref (zad ω 201)), some (.int 1), none]) dX12_costNow_1 (Nat.le_of_ble_eq_true rfl) rfl ?_
  refine x_iconst (v := 0) dX12_costNow_2 (by decide) ?_
  refine x_istore_n (ls' := [some (.ref (zad ω 201)), some (.int 1), some (.int 0)]) dX12_costNow_3 (Nat.le_of_ble_eq_true rfl) rfl ?_
  refine y_Lq2 (fun x1 x2 => [some (.ref (zad ω 201)), some (.int x1), some (.int x2)]) (fun r3 hr3 x1 x2 => ?_) zFu _ _
  refine x_iload_n dX12_costNow_4 rfl ?_
  refine x_aload_n dX12_costNow_5 rfl ?_
  refine y_getI fl_RX12_231 hz_201 dX12_costNow_6 ?_
  refine x_icmp_ge (tgt := 27) dX12_costNow_9 (by decide) (fun hc4 => ?_) (fun hc4 => ?_)
  · refine x_iload_n dX12_costNow_27 rfl ?_
    exact x_iret rfl rfl ⟨(Nat.le_of_ble_eq_true rfl), (Nat.le_of_ble_eq_true rfl)⟩ dX12_costNow_28
  · refine x_iload_n dX12_costNow_12 rfl ?_
    refine x_aload_n dX12_costNow_13 rfl ?_
    refine y_getF fl_RX12_60 hz_201 hq_201_31 (by rw [hz_218]; decide) dX12_costNow_14 ?_
    refine x_iload_n dX12_costNow_17 rfl ?_
    refine y_iald hz_218 hn_218 dX12_costNow_18 (fun hi => ?_)
    refine x_iadd dX12_costNow_19 ?_
    refine y_letI (fun x5 => ?_)
    refine x_istore_n (ls' := [some (.ref (zad ω 201)), some (.int x5), some (.int x2)]) dX12_costNow_20 (Nat.le_of_ble_eq_true rfl) rfl ?_
    refine y_iinc (w := 1) dX12_costNow_21 rfl (by decide) (Nat.le_of_ble_eq_true rfl) (fun x6 => ?_)
    refine x_goto (tgt := 4) dX12_costNow_24 (by decide) ?_
    exact hr3 _ _
abbrev kk_Mod_yearCost : Kx := (yX12_yearCost.cls, cX12_yearCost, 2, (some .int), [], false)
set_option maxHeartbeats 4000000 in
set_option maxRecDepth 100000 in
theorem c_Mod_yearCost (ω : Wd) (p1 : Int32) (m : Mm) : Ev ω true 8 0 0 yX12_yearCost cX12_yearCost 2 (some .int) [.ref (zad ω 201), .int p1] m fI (f_Mod_yearCost p1 m) := by
  refine Ev.of (b := false) (ls := [some (.ref (zad ω 201)), some (.int p1)]) (plainFor_of_name (by decide +kernel)) (fun h => by cases h) rfl (Nat.le_of_ble_eq_true rfl) rfl ?_
  change Sx ω true 8 0 0 kk_Mod_yearCost fI 0 0 m 0 _ _ _
  unfold f_Mod_yearCost
  refine x_aload_n dX12_yearCost_0 rfl ?_
  refine x_iload_n dX12_yearCost_1 rfl ?_
  refine y_callSP (rest := [.ref (zad ω 201)]) (c1 := 0) (s1 := 0) (c_Mod_isYear ω p1 m) ms_RX12_250 rfl (Nat.le_of_ble_eq_true rfl) (Nat.le_of_ble_eq_true rfl) (Nat.le_of_ble_eq_true rfl) ⟨rfl, rfl⟩ ⟨(Nat.le_of_ble_eq_true rfl), (Nat.le_of_ble_eq_true rfl)⟩ dX12_yearCost_2 (fun v1 => ?_)
  refine y_join (fun j4 => ∀ (x3 : Int32), Sx ω true 8 0 0 kk_Mod_yearCost fI 0 0 m 13 [some (.ref (zad ω 201)), some (.int p1)] [.int x3, .ref (zad ω 201)] (j4 x3)) ?_ (fun j4 hj4 => ?_)
  · intro x3
    refine y_putI fp_RX12_93 hz_201 dX12_yearCost_13 ?_
    refine y_letM (fun m5 => ?_)
    refine x_aload_n dX12_yearCost_16 rfl ?_
    refine y_getI fl_RX12_93 hz_201 dX12_yearCost_17 ?_
    refine x_if_le (tgt := 25) dX12_yearCost_20 (by decide) (fun hc6 => ?_) (fun hc6 => ?_)
    · refine x_aload_n dX12_yearCost_25 rfl ?_
      refine x_iload_n dX12_yearCost_26 rfl ?_
      refine x_aload_n dX12_yearCost_27 rfl ?_
      refine y_getI fl_RX12_133 hz_201 dX12_yearCost_28 ?_
      refine y_callVV (rest := []) (c1 := 0) (s1 := 0) (c_Mod_finds ω p1 (zI m5 201 1) m5) mv_RX12_300 hz_201 rfl (Nat.le_of_ble_eq_true rfl) (Nat.le_of_ble_eq_true rfl) (Nat.le_of_ble_eq_true rfl) ⟨rfl, rfl⟩ ⟨(Nat.le_of_ble_eq_true rfl), (Nat.le_of_ble_eq_true rfl)⟩ dX12_yearCost_31 (fun m7 => ?_)
      refine x_aload_n dX12_yearCost_34 rfl ?_
      refine y_callVP (rest := []) (c1 := 0) (s1 := 0) (c_Mod_costNow ω m7) mv_RX12_320 hz_201 rfl (Nat.le_of_ble_eq_true rfl) (Nat.le_of_ble_eq_true rfl) (Nat.le_of_ble_eq_true rfl) ⟨rfl, rfl⟩ ⟨(Nat.le_of_ble_eq_true rfl), (Nat.le_of_ble_eq_true rfl)⟩ dX12_yearCost_35 (fun v8 => ?_)
      exact x_iret rfl rfl ⟨(Nat.le_of_ble_eq_true rfl), (Nat.le_of_ble_eq_true rfl)⟩ dX12_yearCost_38
    · refine x_iconst (v := 0) dX12_yearCost_23 (by decide) ?_
      exact x_iret rfl rfl ⟨(Nat.le_of_ble_eq_true rfl), (Nat.le_of_ble_eq_true rfl)⟩ dX12_yearCost_24
  · refine x_if_eq (tgt := 12) dX12_yearCost_5 (by decide) (fun hc2 => ?_) (fun hc2 => ?_)
    · refine x_iconst (v := 1) dX12_yearCost_12 (by decide) ?_
      exact hj4 _
    · refine x_iconst (v := 0) dX12_yearCost_8 (by decide) ?_
      refine x_goto (tgt := 13) dX12_yearCost_9 (by decide) ?_
      exact hj4 _
abbrev kk_Mod_namesThere : Kx := (yX12_namesThere.cls, cX12_namesThere, 5, (some .boolean), [], false)
set_option maxHeartbeats 4000000 in
set_option maxRecDepth 100000 in
theorem c_Mod_namesThere (ω : Wd) (m : Mm) : Ev ω true 1 0 0 yX12_namesThere cX12_namesThere 5 (some .boolean) [.ref (zad ω 201)] m (fP m) (f_Mod_namesThere m) := by
  refine Ev.of (b := false) (ls := [some (.ref (zad ω 201)), none, none, none, none]) (plainFor_of_name (by decide +kernel)) (fun h => by cases h) rfl (Nat.le_of_ble_eq_true rfl) rfl ?_
  change Sx ω true 1 0 0 kk_Mod_namesThere (fP m) 0 0 m 0 _ _ _
  unfold f_Mod_namesThere
  refine x_iconst (v := 1) dX12_namesThere_0 (by decide) ?_
  refine x_istore_n (ls' := [some (.ref (zad ω 201)), some (.int 1), none, none, none]) dX12_namesThere_1 (Nat.le_of_ble_eq_true rfl) rfl ?_
  refine x_iconst (v := 0) dX12_namesThere_2 (by decide) ?_
  refine x_istore_n (ls' := [some (.ref (zad ω 201)), some (.int 1), some (.int 0), none, none]) dX12_namesThere_3 (Nat.le_of_ble_eq_true rfl) rfl ?_
  refine y_Lq2 (fun x1 x2 => [some (.ref (zad ω 201)), some (.int x1), some (.int x2), none, none]) (fun r3 hr3 x1 x2 => ?_) zFu _ _
  refine x_iload_n dX12_namesThere_4 rfl ?_
  refine x_aload_n dX12_namesThere_5 rfl ?_
  refine y_getI fl_RX12_142 hz_201 dX12_namesThere_6 ?_
  refine x_icmp_ge (tgt := 158) dX12_namesThere_9 (by decide) (fun hc4 => ?_) (fun hc4 => ?_)
  · refine x_iload_n dX12_namesThere_158 rfl ?_
    refine x_guard (fun hv => ?_)
    exact x_zret rfl rfl (zBo_nar hv) ⟨(Nat.le_of_ble_eq_true rfl), (Nat.le_of_ble_eq_true rfl)⟩ dX12_namesThere_159
  · refine x_aload_n dX12_namesThere_12 rfl ?_
    refine y_getF fl_RX12_23 hz_201 hq_201_9 (by rw [hz_206]; decide) dX12_namesThere_13 ?_
    refine x_iload_n dX12_namesThere_16 rfl ?_
    refine y_iald hz_206 hn_206 dX12_namesThere_17 (fun hi => ?_)
    refine x_iconst (v := 2) dX12_namesThere_18 (by decide) ?_
    refine y_join (fun j7 => ∀ (x6 : Int32), Sx ω true 1 0 0 kk_Mod_namesThere (fP m) 0 0 m 99 [some (.ref (zad ω 201)), some (.int x1), some (.int x2), none, none] [.int x6] (j7 x6)) ?_ (fun j7 hj7 => ?_)
    · intro x6
      refine x_istore_n (ls' := [some (.ref (zad ω 201)), some (.int x1), some (.int x2), some (.int x6), none]) dX12_namesThere_99 (Nat.le_of_ble_eq_true rfl) rfl ?_
      refine x_aload_n dX12_namesThere_100 rfl ?_
      refine y_getF fl_RX12_23 hz_201 hq_201_9 (by rw [hz_206]; decide) dX12_namesThere_101 ?_
      refine x_iload_n dX12_namesThere_104 rfl ?_
      refine y_iald hz_206 hn_206 dX12_namesThere_105 (fun hi => ?_)
      refine x_iconst (v := 5) dX12_namesThere_106 (by decide) ?_
      refine y_join (fun j10 => ∀ (x9 : Int32), Sx ω true 1 0 0 kk_Mod_namesThere (fP m) 0 0 m 123 [some (.ref (zad ω 201)), some (.int x1), some (.int x2), some (.int x6), none] [.int x9] (j10 x9)) ?_ (fun j10 hj10 => ?_)
      · intro x9
        refine x_istore (ls' := [some (.ref (zad ω 201)), some (.int x1), some (.int x2), some (.int x6), some (.int x9)]) dX12_namesThere_123 (Nat.le_of_ble_eq_true rfl) rfl ?_
        refine x_iload_n dX12_namesThere_125 rfl ?_
        refine y_join (fun j13 => ∀ (x12 : Int32), Sx ω true 1 0 0 kk_Mod_namesThere (fP m) 0 0 m 151 [some (.ref (zad ω 201)), none, some (.int x2), none, none] [.int x12] (j13 x12)) ?_ (fun j13 hj13 => ?_)
        · intro x12
          refine x_istore_n (ls' := [some (.ref (zad ω 201)), some (.int x12), some (.int x2), none, none]) dX12_namesThere_151 (Nat.le_of_ble_eq_true rfl) rfl ?_
          refine y_iinc (w := 1) dX12_namesThere_152 rfl (by decide) (Nat.le_of_ble_eq_true rfl) (fun x14 => ?_)
          refine x_goto (tgt := 4) dX12_namesThere_155 (by decide) ?_
          exact hr3 _ _
        · refine y_join (fun j15 => Sx ω true 1 0 0 kk_Mod_namesThere (fP m) 0 0 m 150 [some (.ref (zad ω 201)), none, some (.int x2), none, none] [] j15) ?_ (fun j15 hj15 => ?_)
          · refine x_iconst (v := 0) dX12_namesThere_150 (by decide) ?_
            exact hj13 _
          · refine x_if_eq (tgt := 150) dX12_namesThere_126 (by decide) (fun hc11 => ?_) (fun hc11 => ?_)
            · refine y_mask (bs := [true, false, true, false, false]) (ls' := [some (.ref (zad ω 201)), none, some (.int x2), none, none]) rfl ?_
              exact hj15
            · refine x_iload_n dX12_namesThere_129 rfl ?_
              refine x_aload_n dX12_namesThere_130 rfl ?_
              refine y_getI fl_RX12_231 hz_201 dX12_namesThere_131 ?_
              refine x_icmp_ge (tgt := 150) dX12_namesThere_134 (by decide) (fun hc16 => ?_) (fun hc16 => ?_)
              · refine y_mask (bs := [true, false, true, false, false]) (ls' := [some (.ref (zad ω 201)), none, some (.int x2), none, none]) rfl ?_
                exact hj15
              · refine x_iload dX12_namesThere_137 rfl ?_
                refine x_aload_n dX12_namesThere_139 rfl ?_
                refine y_getI fl_RX12_231 hz_201 dX12_namesThere_140 ?_
                refine x_icmp_ge (tgt := 150) dX12_namesThere_143 (by decide) (fun hc17 => ?_) (fun hc17 => ?_)
                · refine y_mask (bs := [true, false, true, false, false]) (ls' := [some (.ref (zad ω 201)), none, some (.int x2), none, none]) rfl ?_
                  exact hj15
                · refine x_iconst (v := 1) dX12_namesThere_146 (by decide) ?_
                  refine x_goto (tgt := 151) dX12_namesThere_147 (by decide) ?_
                  refine y_mask (bs := [true, false, true, false, false]) (ls' := [some (.ref (zad ω 201)), none, some (.int x2), none, none]) rfl ?_
                  exact hj13 _
      · refine x_icmp_ne (tgt := 122) dX12_namesThere_107 (by decide) (fun hc8 => ?_) (fun hc8 => ?_)
        · refine x_aload_n dX12_namesThere_110 rfl ?_
          refine y_getF fl_RX12_26 hz_201 hq_201_10 (by rw [hz_207]; decide) dX12_namesThere_111 ?_
          refine x_iload_n dX12_namesThere_114 rfl ?_
          refine y_iald hz_207 hn_207 dX12_namesThere_115 (fun hi => ?_)
          refine x_bipush (v := 100) dX12_namesThere_116 (by decide) ?_
          refine x_irem dX12_namesThere_118 (by decide) ?_
          refine x_goto (tgt := 123) dX12_namesThere_119 (by decide) ?_
          exact hj10 _
        · refine x_iconst (v := (-1)) dX12_namesThere_122 (by decide) ?_
          exact hj10 _
    · refine x_icmp_ne (tgt := 35) dX12_namesThere_19 (by decide) (fun hc5 => ?_) (fun hc5 => ?_)
      · refine x_aload_n dX12_namesThere_22 rfl ?_
        refine y_getF fl_RX12_26 hz_201 hq_201_10 (by rw [hz_207]; decide) dX12_namesThere_23 ?_
        refine x_iload_n dX12_namesThere_26 rfl ?_
        refine y_iald hz_207 hn_207 dX12_namesThere_27 (fun hi => ?_)
        refine x_sipush (v := 10000) dX12_namesThere_28 (by decide) ?_
        refine x_idiv dX12_namesThere_31 (by decide) ?_
        refine x_goto (tgt := 99) dX12_namesThere_32 (by decide) ?_
        exact hj7 _
      · refine x_aload_n dX12_namesThere_35 rfl ?_
        refine y_getF fl_RX12_23 hz_201 hq_201_9 (by rw [hz_206]; decide) dX12_namesThere_36 ?_
        refine x_iload_n dX12_namesThere_39 rfl ?_
        refine y_iald hz_206 hn_206 dX12_namesThere_40 (fun hi => ?_)
        refine x_iconst (v := 3) dX12_namesThere_41 (by decide) ?_
        refine x_icmp_ne (tgt := 57) dX12_namesThere_42 (by decide) (fun hc18 => ?_) (fun hc18 => ?_)
        · refine x_aload_n dX12_namesThere_45 rfl ?_
          refine y_getF fl_RX12_26 hz_201 hq_201_10 (by rw [hz_207]; decide) dX12_namesThere_46 ?_
          refine x_iload_n dX12_namesThere_49 rfl ?_
          refine y_iald hz_207 hn_207 dX12_namesThere_50 (fun hi => ?_)
          refine x_bipush (v := 10) dX12_namesThere_51 (by decide) ?_
          refine x_idiv dX12_namesThere_53 (by decide) ?_
          refine x_goto (tgt := 99) dX12_namesThere_54 (by decide) ?_
          exact hj7 _
        · refine x_aload_n dX12_namesThere_57 rfl ?_
          refine y_getF fl_RX12_23 hz_201 hq_201_9 (by rw [hz_206]; decide) dX12_namesThere_58 ?_
          refine x_iload_n dX12_namesThere_61 rfl ?_
          refine y_iald hz_206 hn_206 dX12_namesThere_62 (fun hi => ?_)
          refine x_iconst (v := 4) dX12_namesThere_63 (by decide) ?_
          refine x_icmp_ne (tgt := 76) dX12_namesThere_64 (by decide) (fun hc19 => ?_) (fun hc19 => ?_)
          · refine x_aload_n dX12_namesThere_67 rfl ?_
            refine y_getF fl_RX12_26 hz_201 hq_201_10 (by rw [hz_207]; decide) dX12_namesThere_68 ?_
            refine x_iload_n dX12_namesThere_71 rfl ?_
            refine y_iald hz_207 hn_207 dX12_namesThere_72 (fun hi => ?_)
            refine x_goto (tgt := 99) dX12_namesThere_73 (by decide) ?_
            exact hj7 _
          · refine x_aload_n dX12_namesThere_76 rfl ?_
            refine y_getF fl_RX12_23 hz_201 hq_201_9 (by rw [hz_206]; decide) dX12_namesThere_77 ?_
            refine x_iload_n dX12_namesThere_80 rfl ?_
            refine y_iald hz_206 hn_206 dX12_namesThere_81 (fun hi => ?_)
            refine x_iconst (v := 5) dX12_namesThere_82 (by decide) ?_
            refine x_icmp_ne (tgt := 98) dX12_namesThere_83 (by decide) (fun hc20 => ?_) (fun hc20 => ?_)
            · refine x_aload_n dX12_namesThere_86 rfl ?_
              refine y_getF fl_RX12_26 hz_201 hq_201_10 (by rw [hz_207]; decide) dX12_namesThere_87 ?_
              refine x_iload_n dX12_namesThere_90 rfl ?_
              refine y_iald hz_207 hn_207 dX12_namesThere_91 (fun hi => ?_)
              refine x_bipush (v := 100) dX12_namesThere_92 (by decide) ?_
              refine x_idiv dX12_namesThere_94 (by decide) ?_
              refine x_goto (tgt := 99) dX12_namesThere_95 (by decide) ?_
              exact hj7 _
            · refine x_iconst (v := (-1)) dX12_namesThere_98 (by decide) ?_
              exact hj7 _
abbrev kk_Mod_search : Kx := (yX12_search.cls, cX12_search, 3, (some .int), [], false)
set_option maxHeartbeats 4000000 in
set_option maxRecDepth 100000 in
theorem c_Mod_search (ω : Wd) (p1 : Int32) (m : Mm) : Ev ω true 8 0 0 yX12_search cX12_search 3 (some .int) [.ref (zad ω 201), .int p1] m fI (f_Mod_search p1 m) := by
  refine Ev.of (b := false) (ls := [some (.ref (zad ω 201)), some (.int p1), none]) (plainFor_of_name (by decide +kernel)) (fun h => by cases h) rfl (Nat.le_of_ble_eq_true rfl) rfl ?_
  change Sx ω true 8 0 0 kk_Mod_search fI 0 0 m 0 _ _ _
  unfold f_Mod_search
  refine x_aload_n dX12_search_0 rfl ?_
  refine x_iload_n dX12_search_1 rfl ?_
  refine y_callSP (rest := [.ref (zad ω 201)]) (c1 := 0) (s1 := 0) (c_Mod_isYear ω p1 m) ms_RX12_250 rfl (Nat.le_of_ble_eq_true rfl) (Nat.le_of_ble_eq_true rfl) (Nat.le_of_ble_eq_true rfl) ⟨rfl, rfl⟩ ⟨(Nat.le_of_ble_eq_true rfl), (Nat.le_of_ble_eq_true rfl)⟩ dX12_search_2 (fun v1 => ?_)
  refine y_join (fun j5 => ∀ (x3 : Int32) (m4 : Mm), Sx ω true 8 0 0 kk_Mod_search fI 0 0 m4 34 [some (.ref (zad ω 201)), some (.int p1), none] [.int x3, .ref (zad ω 201)] (j5 x3 m4)) ?_ (fun j5 hj5 => ?_)
  · intro x3 m4
    refine y_putI fp_RX12_93 hz_201 dX12_search_34 ?_
    refine y_letM (fun m6 => ?_)
    refine x_aload_n dX12_search_37 rfl ?_
    refine y_getI fl_RX12_93 hz_201 dX12_search_38 ?_
    refine x_if_le (tgt := 46) dX12_search_41 (by decide) (fun hc7 => ?_) (fun hc7 => ?_)
    · refine x_aload_n dX12_search_46 rfl ?_
      refine x_aload_n dX12_search_47 rfl ?_
      refine y_getI fl_RX12_142 hz_201 dX12_search_48 ?_
      refine y_putI fp_RX12_326 hz_201 dX12_search_51 ?_
      refine y_letM (fun m8 => ?_)
      refine x_iconst (v := 0) dX12_search_54 (by decide) ?_
      refine x_istore_n (ls' := [some (.ref (zad ω 201)), some (.int p1), some (.int 0)]) dX12_search_55 (Nat.le_of_ble_eq_true rfl) rfl ?_
      refine y_Lp1 (fun x9 => [some (.ref (zad ω 201)), some (.int p1), some (.int x9)]) (fun r10 hr10 x9 m11 => ?_) zFu _ _
      refine x_iload_n dX12_search_56 rfl ?_
      refine x_aload_n dX12_search_57 rfl ?_
      refine y_getI fl_RX12_142 hz_201 dX12_search_58 ?_
      refine x_icmp_ge (tgt := 94) dX12_search_61 (by decide) (fun hc12 => ?_) (fun hc12 => ?_)
      · refine x_aload_n dX12_search_94 rfl ?_
        refine x_iconst (v := 0) dX12_search_95 (by decide) ?_
        refine y_putI fp_RX12_136 hz_201 dX12_search_96 ?_
        refine y_letM (fun m13 => ?_)
        refine x_aload_n dX12_search_99 rfl ?_
        refine x_iconst (v := 1) dX12_search_100 (by decide) ?_
        refine y_putZ fp_RX12_329 hz_201 (by decide) dX12_search_101 ?_
        refine y_letM (fun m14 => ?_)
        refine x_aload_n dX12_search_104 rfl ?_
        refine x_iload_n dX12_search_105 rfl ?_
        refine y_putI fp_RX12_332 hz_201 dX12_search_106 ?_
        refine y_letM (fun m15 => ?_)
        refine x_aload_n dX12_search_109 rfl ?_
        refine x_iload_n dX12_search_110 rfl ?_
        refine x_aload_n dX12_search_111 rfl ?_
        refine y_getI fl_RX12_133 hz_201 dX12_search_112 ?_
        refine y_callVV (rest := []) (c1 := 0) (s1 := 0) (c_Mod_finds ω p1 (zI m15 201 1) m15) mv_RX12_300 hz_201 rfl (Nat.le_of_ble_eq_true rfl) (Nat.le_of_ble_eq_true rfl) (Nat.le_of_ble_eq_true rfl) ⟨rfl, rfl⟩ ⟨(Nat.le_of_ble_eq_true rfl), (Nat.le_of_ble_eq_true rfl)⟩ dX12_search_115 (fun m16 => ?_)
        refine x_aload_n dX12_search_118 rfl ?_
        refine y_callVP (rest := []) (c1 := 0) (s1 := 0) (c_Mod_costNow ω m16) mv_RX12_320 hz_201 rfl (Nat.le_of_ble_eq_true rfl) (Nat.le_of_ble_eq_true rfl) (Nat.le_of_ble_eq_true rfl) ⟨rfl, rfl⟩ ⟨(Nat.le_of_ble_eq_true rfl), (Nat.le_of_ble_eq_true rfl)⟩ dX12_search_119 (fun v17 => ?_)
        exact x_iret rfl rfl ⟨(Nat.le_of_ble_eq_true rfl), (Nat.le_of_ble_eq_true rfl)⟩ dX12_search_122
      · refine x_aload_n dX12_search_64 rfl ?_
        refine y_getF fl_RX12_66 hz_201 hq_201_35 (by rw [hz_220]; decide) dX12_search_65 ?_
        refine x_iload_n dX12_search_68 rfl ?_
        refine x_aload_n dX12_search_69 rfl ?_
        refine y_getF fl_RX12_23 hz_201 hq_201_9 (by rw [hz_206]; decide) dX12_search_70 ?_
        refine x_iload_n dX12_search_73 rfl ?_
        refine y_iald hz_206 hn_206 dX12_search_74 (fun hi => ?_)
        refine y_iast hz_220 hn_220 dX12_search_75 (fun hi => ?_)
        refine y_letM (fun m18 => ?_)
        refine x_aload_n dX12_search_76 rfl ?_
        refine y_getF fl_RX12_69 hz_201 hq_201_36 (by rw [hz_221]; decide) dX12_search_77 ?_
        refine x_iload_n dX12_search_80 rfl ?_
        refine x_aload_n dX12_search_81 rfl ?_
        refine y_getF fl_RX12_26 hz_201 hq_201_10 (by rw [hz_207]; decide) dX12_search_82 ?_
        refine x_iload_n dX12_search_85 rfl ?_
        refine y_iald hz_207 hn_207 dX12_search_86 (fun hi => ?_)
        refine y_iast hz_221 hn_221 dX12_search_87 (fun hi => ?_)
        refine y_letM (fun m19 => ?_)
        refine y_iinc (w := 1) dX12_search_88 rfl (by decide) (Nat.le_of_ble_eq_true rfl) (fun x20 => ?_)
        refine x_goto (tgt := 56) dX12_search_91 (by decide) ?_
        exact hr10 _ _
    · refine x_iconst (v := 0) dX12_search_44 (by decide) ?_
      exact x_iret rfl rfl ⟨(Nat.le_of_ble_eq_true rfl), (Nat.le_of_ble_eq_true rfl)⟩ dX12_search_45
  · refine y_join (fun j22 => ∀ (m21 : Mm), Sx ω true 8 0 0 kk_Mod_search fI 0 0 m21 18 [some (.ref (zad ω 201)), some (.int p1), none] [.ref (zad ω 201)] (j22 m21)) ?_ (fun j22 hj22 => ?_)
    · intro m21
      refine x_iconst (v := 1) dX12_search_18 (by decide) ?_
      refine x_goto (tgt := 34) dX12_search_19 (by decide) ?_
      exact hj5 _ _
    · refine x_if_eq (tgt := 18) dX12_search_5 (by decide) (fun hc2 => ?_) (fun hc2 => ?_)
      · exact hj22 _
      · refine x_aload_n dX12_search_8 rfl ?_
        refine x_bipush (v := 20) dX12_search_9 (by decide) ?_
        refine y_callVI (rest := [.ref (zad ω 201)]) (c1 := 0) (s1 := 0) (c_Mod_reads ω 20 m) mv_RX12_228 hz_201 rfl (Nat.le_of_ble_eq_true rfl) (Nat.le_of_ble_eq_true rfl) (Nat.le_of_ble_eq_true rfl) ⟨rfl, rfl⟩ ⟨(Nat.le_of_ble_eq_true rfl), (Nat.le_of_ble_eq_true rfl)⟩ dX12_search_11 (fun v24 m23 => ?_)
        refine x_iconst (v := (-1)) dX12_search_14 (by decide) ?_
        refine x_icmp_eq (tgt := 22) dX12_search_15 (by decide) (fun hc25 => ?_) (fun hc25 => ?_)
        · refine x_aload_n dX12_search_22 rfl ?_
          refine y_callVP (rest := [.ref (zad ω 201)]) (c1 := 0) (s1 := 0) (c_Mod_namesThere ω m23) mv_RX12_323 hz_201 rfl (Nat.le_of_ble_eq_true rfl) (Nat.le_of_ble_eq_true rfl) (Nat.le_of_ble_eq_true rfl) ⟨rfl, rfl⟩ ⟨(Nat.le_of_ble_eq_true rfl), (Nat.le_of_ble_eq_true rfl)⟩ dX12_search_23 (fun v26 => ?_)
          refine x_if_eq (tgt := 33) dX12_search_26 (by decide) (fun hc27 => ?_) (fun hc27 => ?_)
          · refine x_iconst (v := 2) dX12_search_33 (by decide) ?_
            exact hj5 _ _
          · refine x_iconst (v := 0) dX12_search_29 (by decide) ?_
            refine x_goto (tgt := 34) dX12_search_30 (by decide) ?_
            exact hj5 _ _
        · exact hj22 _
abbrev kk_Mod_isAnswered : Kx := (yX12_isAnswered.cls, cX12_isAnswered, 6, (some .boolean), [], false)
set_option maxHeartbeats 4000000 in
set_option maxRecDepth 100000 in
theorem c_Mod_isAnswered (ω : Wd) (p1 : Int32) (p2 : Int32) (p3 : Int32) (m : Mm) : Ev ω true 3 0 0 yX12_isAnswered cX12_isAnswered 6 (some .boolean) [.ref (zad ω 201), .int p1, .int p2, .int p3] m (fP m) (f_Mod_isAnswered p1 p2 p3 m) := by
  refine Ev.of (b := false) (ls := [some (.ref (zad ω 201)), some (.int p1), some (.int p2), some (.int p3), none, none]) (plainFor_of_name (by decide +kernel)) (fun h => by cases h) rfl (Nat.le_of_ble_eq_true rfl) rfl ?_
  change Sx ω true 3 0 0 kk_Mod_isAnswered (fP m) 0 0 m 0 _ _ _
  unfold f_Mod_isAnswered
  refine x_iload_n dX12_isAnswered_0 rfl ?_
  refine x_iconst (v := 1) dX12_isAnswered_1 (by decide) ?_
  refine x_icmp_ne (tgt := 18) dX12_isAnswered_2 (by decide) (fun hc1 => ?_) (fun hc1 => ?_)
  · refine x_aload_n dX12_isAnswered_5 rfl ?_
    refine y_callVP (rest := []) (c1 := 0) (s1 := 0) (c_Mod_clashesNow ω m) mv_RX12_313 hz_201 rfl (Nat.le_of_ble_eq_true rfl) (Nat.le_of_ble_eq_true rfl) (Nat.le_of_ble_eq_true rfl) ⟨rfl, rfl⟩ ⟨(Nat.le_of_ble_eq_true rfl), (Nat.le_of_ble_eq_true rfl)⟩ dX12_isAnswered_6 (fun v21 => ?_)
    refine x_if_ne (tgt := 16) dX12_isAnswered_9 (by decide) (fun hc22 => ?_) (fun hc22 => ?_)
    · refine x_iconst (v := 1) dX12_isAnswered_12 (by decide) ?_
      refine x_goto (tgt := 17) dX12_isAnswered_13 (by decide) ?_
      exact x_zret rfl rfl (zBo_nar (by decide)) ⟨(Nat.le_of_ble_eq_true rfl), (Nat.le_of_ble_eq_true rfl)⟩ dX12_isAnswered_17
    · refine x_iconst (v := 0) dX12_isAnswered_16 (by decide) ?_
      exact x_zret rfl rfl (zBo_nar (by decide)) ⟨(Nat.le_of_ble_eq_true rfl), (Nat.le_of_ble_eq_true rfl)⟩ dX12_isAnswered_17
  · refine x_iload_n dX12_isAnswered_18 rfl ?_
    refine x_iconst (v := 2) dX12_isAnswered_19 (by decide) ?_
    refine y_join (fun j4 => ∀ (x3 : Int32), Sx ω true 3 0 0 kk_Mod_isAnswered (fP m) 0 0 m 56 [some (.ref (zad ω 201)), some (.int p1), some (.int p2), some (.int p3), none, none] [.int x3] (j4 x3)) ?_ (fun j4 hj4 => ?_)
    · intro x3
      refine x_istore (ls' := [some (.ref (zad ω 201)), some (.int p1), some (.int p2), some (.int p3), some (.int x3), none]) dX12_isAnswered_56 (Nat.le_of_ble_eq_true rfl) rfl ?_
      refine x_aload_n dX12_isAnswered_58 rfl ?_
      refine y_getF fl_RX12_63 hz_201 hq_201_32 (by rw [hz_219]; decide) dX12_isAnswered_59 ?_
      refine x_iload dX12_isAnswered_62 rfl ?_
      refine y_iald hz_219 hn_219 dX12_isAnswered_64 (fun hi => ?_)
      refine y_letI (fun x5 => ?_)
      refine x_istore (ls' := [some (.ref (zad ω 201)), some (.int p1), some (.int p2), some (.int p3), some (.int x3), some (.int x5)]) dX12_isAnswered_65 (Nat.le_of_ble_eq_true rfl) rfl ?_
      refine x_iload_n dX12_isAnswered_67 rfl ?_
      refine x_iconst (v := 4) dX12_isAnswered_68 (by decide) ?_
      refine x_icmp_ne (tgt := 84) dX12_isAnswered_69 (by decide) (fun hc6 => ?_) (fun hc6 => ?_)
      · refine x_iload dX12_isAnswered_72 rfl ?_
        refine x_iconst (v := (-1)) dX12_isAnswered_74 (by decide) ?_
        refine x_icmp_ne (tgt := 82) dX12_isAnswered_75 (by decide) (fun hc18 => ?_) (fun hc18 => ?_)
        · refine x_iconst (v := 1) dX12_isAnswered_78 (by decide) ?_
          refine x_goto (tgt := 83) dX12_isAnswered_79 (by decide) ?_
          exact x_zret rfl rfl (zBo_nar (by decide)) ⟨(Nat.le_of_ble_eq_true rfl), (Nat.le_of_ble_eq_true rfl)⟩ dX12_isAnswered_83
        · refine x_iconst (v := 0) dX12_isAnswered_82 (by decide) ?_
          exact x_zret rfl rfl (zBo_nar (by decide)) ⟨(Nat.le_of_ble_eq_true rfl), (Nat.le_of_ble_eq_true rfl)⟩ dX12_isAnswered_83
      · refine x_iload dX12_isAnswered_84 rfl ?_
        refine x_iconst (v := (-1)) dX12_isAnswered_86 (by decide) ?_
        refine x_icmp_ne (tgt := 92) dX12_isAnswered_87 (by decide) (fun hc7 => ?_) (fun hc7 => ?_)
        · refine x_iconst (v := 0) dX12_isAnswered_90 (by decide) ?_
          exact x_zret rfl rfl (zBo_nar (by decide)) ⟨(Nat.le_of_ble_eq_true rfl), (Nat.le_of_ble_eq_true rfl)⟩ dX12_isAnswered_91
        · refine x_iload_n dX12_isAnswered_92 rfl ?_
          refine x_iconst (v := 2) dX12_isAnswered_93 (by decide) ?_
          refine x_icmp_ne (tgt := 117) dX12_isAnswered_94 (by decide) (fun hc8 => ?_) (fun hc8 => ?_)
          · refine x_iload_n dX12_isAnswered_97 rfl ?_
            refine x_iload dX12_isAnswered_98 rfl ?_
            refine y_callSP (rest := []) (c1 := 0) (s1 := 0) (c_Mod_dateOf ω p3 x5 m) ms_RX12_126 rfl (Nat.le_of_ble_eq_true rfl) (Nat.le_of_ble_eq_true rfl) (Nat.le_of_ble_eq_true rfl) ⟨rfl, rfl⟩ ⟨(Nat.le_of_ble_eq_true rfl), (Nat.le_of_ble_eq_true rfl)⟩ dX12_isAnswered_100 (fun v16 => ?_)
            refine x_iload_n dX12_isAnswered_103 rfl ?_
            refine x_sipush (v := 10000) dX12_isAnswered_104 (by decide) ?_
            refine x_irem dX12_isAnswered_107 (by decide) ?_
            refine x_icmp_ne (tgt := 115) dX12_isAnswered_108 (by decide) (fun hc17 => ?_) (fun hc17 => ?_)
            · refine x_iconst (v := 1) dX12_isAnswered_111 (by decide) ?_
              refine x_goto (tgt := 116) dX12_isAnswered_112 (by decide) ?_
              exact x_zret rfl rfl (zBo_nar (by decide)) ⟨(Nat.le_of_ble_eq_true rfl), (Nat.le_of_ble_eq_true rfl)⟩ dX12_isAnswered_116
            · refine x_iconst (v := 0) dX12_isAnswered_115 (by decide) ?_
              exact x_zret rfl rfl (zBo_nar (by decide)) ⟨(Nat.le_of_ble_eq_true rfl), (Nat.le_of_ble_eq_true rfl)⟩ dX12_isAnswered_116
          · refine x_iload_n dX12_isAnswered_117 rfl ?_
            refine x_iconst (v := 3) dX12_isAnswered_118 (by decide) ?_
            refine x_icmp_ne (tgt := 145) dX12_isAnswered_119 (by decide) (fun hc9 => ?_) (fun hc9 => ?_)
            · refine x_iload_n dX12_isAnswered_122 rfl ?_
              refine y_callSP (rest := []) (c1 := 0) (s1 := 0) (c_Mod_beginOf ω p3 m) ms_RX12_119 rfl (Nat.le_of_ble_eq_true rfl) (Nat.le_of_ble_eq_true rfl) (Nat.le_of_ble_eq_true rfl) ⟨rfl, rfl⟩ ⟨(Nat.le_of_ble_eq_true rfl), (Nat.le_of_ble_eq_true rfl)⟩ dX12_isAnswered_123 (fun v13 => ?_)
              refine x_iload dX12_isAnswered_126 rfl ?_
              refine x_iadd dX12_isAnswered_128 ?_
              refine y_callSP (rest := []) (c1 := 0) (s1 := 0) (c_Mod_weekday ω (v13 + x5) m) ms_RX12_262 rfl (Nat.le_of_ble_eq_true rfl) (Nat.le_of_ble_eq_true rfl) (Nat.le_of_ble_eq_true rfl) ⟨rfl, rfl⟩ ⟨(Nat.le_of_ble_eq_true rfl), (Nat.le_of_ble_eq_true rfl)⟩ dX12_isAnswered_129 (fun v14 => ?_)
              refine x_iload_n dX12_isAnswered_132 rfl ?_
              refine x_bipush (v := 10) dX12_isAnswered_133 (by decide) ?_
              refine x_irem dX12_isAnswered_135 (by decide) ?_
              refine x_icmp_ne (tgt := 143) dX12_isAnswered_136 (by decide) (fun hc15 => ?_) (fun hc15 => ?_)
              · refine x_iconst (v := 1) dX12_isAnswered_139 (by decide) ?_
                refine x_goto (tgt := 144) dX12_isAnswered_140 (by decide) ?_
                exact x_zret rfl rfl (zBo_nar (by decide)) ⟨(Nat.le_of_ble_eq_true rfl), (Nat.le_of_ble_eq_true rfl)⟩ dX12_isAnswered_144
              · refine x_iconst (v := 0) dX12_isAnswered_143 (by decide) ?_
                exact x_zret rfl rfl (zBo_nar (by decide)) ⟨(Nat.le_of_ble_eq_true rfl), (Nat.le_of_ble_eq_true rfl)⟩ dX12_isAnswered_144
            · refine x_aload_n dX12_isAnswered_145 rfl ?_
              refine y_getF fl_RX12_63 hz_201 hq_201_32 (by rw [hz_219]; decide) dX12_isAnswered_146 ?_
              refine x_iload_n dX12_isAnswered_149 rfl ?_
              refine x_bipush (v := 100) dX12_isAnswered_150 (by decide) ?_
              refine x_irem dX12_isAnswered_152 (by decide) ?_
              refine y_iald hz_219 hn_219 dX12_isAnswered_153 (fun hi => ?_)
              refine x_iconst (v := (-1)) dX12_isAnswered_154 (by decide) ?_
              refine y_join (fun j11 => Sx ω true 3 0 0 kk_Mod_isAnswered (fP m) 0 0 m 176 [none, none, none, none, none, none] [] j11) ?_ (fun j11 hj11 => ?_)
              · refine x_iconst (v := 0) dX12_isAnswered_176 (by decide) ?_
                exact x_zret rfl rfl (zBo_nar (by decide)) ⟨(Nat.le_of_ble_eq_true rfl), (Nat.le_of_ble_eq_true rfl)⟩ dX12_isAnswered_177
              · refine x_icmp_eq (tgt := 176) dX12_isAnswered_155 (by decide) (fun hc10 => ?_) (fun hc10 => ?_)
                · refine y_mask (bs := [false, false, false, false, false, false]) (ls' := [none, none, none, none, none, none]) rfl ?_
                  exact hj11
                · refine x_iload dX12_isAnswered_158 rfl ?_
                  refine x_aload_n dX12_isAnswered_160 rfl ?_
                  refine y_getF fl_RX12_63 hz_201 hq_201_32 (by rw [hz_219]; decide) dX12_isAnswered_161 ?_
                  refine x_iload_n dX12_isAnswered_164 rfl ?_
                  refine x_bipush (v := 100) dX12_isAnswered_165 (by decide) ?_
                  refine x_irem dX12_isAnswered_167 (by decide) ?_
                  refine y_iald hz_219 hn_219 dX12_isAnswered_168 (fun hi => ?_)
                  refine x_icmp_ge (tgt := 176) dX12_isAnswered_169 (by decide) (fun hc12 => ?_) (fun hc12 => ?_)
                  · refine y_mask (bs := [false, false, false, false, false, false]) (ls' := [none, none, none, none, none, none]) rfl ?_
                    exact hj11
                  · refine x_iconst (v := 1) dX12_isAnswered_172 (by decide) ?_
                    refine x_goto (tgt := 177) dX12_isAnswered_173 (by decide) ?_
                    exact x_zret rfl rfl (zBo_nar (by decide)) ⟨(Nat.le_of_ble_eq_true rfl), (Nat.le_of_ble_eq_true rfl)⟩ dX12_isAnswered_177
    · refine x_icmp_ne (tgt := 31) dX12_isAnswered_20 (by decide) (fun hc2 => ?_) (fun hc2 => ?_)
      · refine x_iload_n dX12_isAnswered_23 rfl ?_
        refine x_sipush (v := 10000) dX12_isAnswered_24 (by decide) ?_
        refine x_idiv dX12_isAnswered_27 (by decide) ?_
        refine x_goto (tgt := 56) dX12_isAnswered_28 (by decide) ?_
        exact hj4 _
      · refine x_iload_n dX12_isAnswered_31 rfl ?_
        refine x_iconst (v := 3) dX12_isAnswered_32 (by decide) ?_
        refine x_icmp_ne (tgt := 43) dX12_isAnswered_33 (by decide) (fun hc19 => ?_) (fun hc19 => ?_)
        · refine x_iload_n dX12_isAnswered_36 rfl ?_
          refine x_bipush (v := 10) dX12_isAnswered_37 (by decide) ?_
          refine x_idiv dX12_isAnswered_39 (by decide) ?_
          refine x_goto (tgt := 56) dX12_isAnswered_40 (by decide) ?_
          exact hj4 _
        · refine x_iload_n dX12_isAnswered_43 rfl ?_
          refine x_iconst (v := 4) dX12_isAnswered_44 (by decide) ?_
          refine x_icmp_ne (tgt := 52) dX12_isAnswered_45 (by decide) (fun hc20 => ?_) (fun hc20 => ?_)
          · refine x_iload_n dX12_isAnswered_48 rfl ?_
            refine x_goto (tgt := 56) dX12_isAnswered_49 (by decide) ?_
            exact hj4 _
          · refine x_iload_n dX12_isAnswered_52 rfl ?_
            refine x_bipush (v := 100) dX12_isAnswered_53 (by decide) ?_
            refine x_idiv dX12_isAnswered_55 (by decide) ?_
            exact hj4 _
abbrev kk_Mod_holdsFor : Kx := (yX12_holdsFor.cls, cX12_holdsFor, 7, (some .boolean), [], false)
set_option maxHeartbeats 4000000 in
set_option maxRecDepth 100000 in
theorem c_Mod_holdsFor (ω : Wd) (p1 : Int32) (m : Mm) : Ev ω true 9 0 0 yX12_holdsFor cX12_holdsFor 7 (some .boolean) [.ref (zad ω 201), .int p1] m fI (f_Mod_holdsFor p1 m) := by
  refine Ev.of (b := false) (ls := [some (.ref (zad ω 201)), some (.int p1), none, none, none, none, none]) (plainFor_of_name (by decide +kernel)) (fun h => by cases h) rfl (Nat.le_of_ble_eq_true rfl) rfl ?_
  change Sx ω true 9 0 0 kk_Mod_holdsFor fI 0 0 m 0 _ _ _
  unfold f_Mod_holdsFor
  refine x_aload_n dX12_holdsFor_0 rfl ?_
  refine x_iload_n dX12_holdsFor_1 rfl ?_
  refine y_callVV (rest := []) (c1 := 0) (s1 := 0) (c_Mod_places ω p1 m) mv_RX12_310 hz_201 rfl (Nat.le_of_ble_eq_true rfl) (Nat.le_of_ble_eq_true rfl) (Nat.le_of_ble_eq_true rfl) ⟨rfl, rfl⟩ ⟨(Nat.le_of_ble_eq_true rfl), (Nat.le_of_ble_eq_true rfl)⟩ dX12_holdsFor_2 (fun m1 => ?_)
  refine x_iconst (v := 0) dX12_holdsFor_5 (by decide) ?_
  refine x_istore_n (ls' := [some (.ref (zad ω 201)), some (.int p1), some (.int 0), none, none, none, none]) dX12_holdsFor_6 (Nat.le_of_ble_eq_true rfl) rfl ?_
  refine x_iconst (v := 0) dX12_holdsFor_7 (by decide) ?_
  refine x_istore_n (ls' := [some (.ref (zad ω 201)), some (.int p1), some (.int 0), some (.int 0), none, none, none]) dX12_holdsFor_8 (Nat.le_of_ble_eq_true rfl) rfl ?_
  refine y_Lp2 (fun x2 x3 => [some (.ref (zad ω 201)), some (.int p1), some (.int x2), some (.int x3), none, none, none]) (fun r4 hr4 x2 x3 m5 => ?_) zFu _ _ _
  refine x_iload_n dX12_holdsFor_9 rfl ?_
  refine x_aload_n dX12_holdsFor_10 rfl ?_
  refine y_getI fl_RX12_326 hz_201 dX12_holdsFor_11 ?_
  refine x_icmp_ge (tgt := 165) dX12_holdsFor_14 (by decide) (fun hc6 => ?_) (fun hc6 => ?_)
  · refine x_aload_n dX12_holdsFor_165 rfl ?_
    refine y_getF fl_RX12_72 hz_201 hq_201_37 (by rw [hz_222]; decide) dX12_holdsFor_166 ?_
    refine x_iconst (v := 0) dX12_holdsFor_169 (by decide) ?_
    refine y_zald hz_222 hn_222 dX12_holdsFor_170 (fun hi => ?_)
    refine x_guard (fun hv => ?_)
    exact x_zret rfl rfl (zBo_nar hv) ⟨(Nat.le_of_ble_eq_true rfl), (Nat.le_of_ble_eq_true rfl)⟩ dX12_holdsFor_171
  · refine x_aload_n dX12_holdsFor_17 rfl ?_
    refine y_getF fl_RX12_66 hz_201 hq_201_35 (by rw [hz_220]; decide) dX12_holdsFor_18 ?_
    refine x_iload_n dX12_holdsFor_21 rfl ?_
    refine y_iald hz_220 hn_220 dX12_holdsFor_22 (fun hi => ?_)
    refine y_letI (fun x7 => ?_)
    refine x_istore (ls' := [some (.ref (zad ω 201)), some (.int p1), some (.int x2), some (.int x3), some (.int x7), none, none]) dX12_holdsFor_23 (Nat.le_of_ble_eq_true rfl) rfl ?_
    refine x_iload dX12_holdsFor_25 rfl ?_
    refine x_iconst (v := 5) dX12_holdsFor_27 (by decide) ?_
    refine y_join (fun j11 => ∀ (x9 : Int32) (m10 : Mm), Sx ω true 9 0 0 kk_Mod_holdsFor fI 0 0 m10 159 [some (.ref (zad ω 201)), some (.int p1), some (.int x9), some (.int x3), none, none, none] [] (j11 x9 m10)) ?_ (fun j11 hj11 => ?_)
    · intro x9 m10
      refine y_iinc (w := 1) dX12_holdsFor_159 rfl (by decide) (Nat.le_of_ble_eq_true rfl) (fun x12 => ?_)
      refine x_goto (tgt := 9) dX12_holdsFor_162 (by decide) ?_
      exact hr4 _ _ _
    · refine x_icmp_gt (tgt := 56) dX12_holdsFor_28 (by decide) (fun hc8 => ?_) (fun hc8 => ?_)
      · refine x_iload dX12_holdsFor_56 rfl ?_
        refine x_bipush (v := 6) dX12_holdsFor_58 (by decide) ?_
        refine x_icmp_ne (tgt := 90) dX12_holdsFor_60 (by decide) (fun hc13 => ?_) (fun hc13 => ?_)
        · refine x_aload_n dX12_holdsFor_63 rfl ?_
          refine y_getF fl_RX12_72 hz_201 hq_201_37 (by rw [hz_222]; decide) dX12_holdsFor_64 ?_
          refine x_iload_n dX12_holdsFor_67 rfl ?_
          refine x_iconst (v := 1) dX12_holdsFor_68 (by decide) ?_
          refine x_isub dX12_holdsFor_69 ?_
          refine x_aload_n dX12_holdsFor_70 rfl ?_
          refine y_getF fl_RX12_72 hz_201 hq_201_37 (by rw [hz_222]; decide) dX12_holdsFor_71 ?_
          refine x_iload_n dX12_holdsFor_74 rfl ?_
          refine x_iconst (v := 1) dX12_holdsFor_75 (by decide) ?_
          refine x_isub dX12_holdsFor_76 ?_
          refine y_zald hz_222 hn_222 dX12_holdsFor_77 (fun hi => ?_)
          refine y_join (fun j29 => ∀ (x28 : Int32), Sx ω true 9 0 0 kk_Mod_holdsFor fI 0 0 m5 86 [some (.ref (zad ω 201)), some (.int p1), some (.int x2), some (.int x3), none, none, none] [.int x28, .int (x2 - 1), .ref (zad ω 222)] (j29 x28)) ?_ (fun j29 hj29 => ?_)
          · intro x28
            refine x_guard (fun hv => ?_)
            refine y_zast hz_222 hn_222 hv dX12_holdsFor_86 (fun hi => ?_)
            refine y_letM (fun m30 => ?_)
            refine x_goto (tgt := 159) dX12_holdsFor_87 (by decide) ?_
            exact hj11 _ _
          · refine x_if_ne (tgt := 85) dX12_holdsFor_78 (by decide) (fun hc27 => ?_) (fun hc27 => ?_)
            · refine x_iconst (v := 1) dX12_holdsFor_81 (by decide) ?_
              refine x_goto (tgt := 86) dX12_holdsFor_82 (by decide) ?_
              refine y_mask (bs := [true, true, true, true, false, false, false]) (ls' := [some (.ref (zad ω 201)), some (.int p1), some (.int x2), some (.int x3), none, none, none]) rfl ?_
              exact hj29 _
            · refine x_iconst (v := 0) dX12_holdsFor_85 (by decide) ?_
              refine y_mask (bs := [true, true, true, true, false, false, false]) (ls' := [some (.ref (zad ω 201)), some (.int p1), some (.int x2), some (.int x3), none, none, none]) rfl ?_
              exact hj29 _
        · refine y_iinc (w := (-1)) dX12_holdsFor_90 rfl (by decide) (Nat.le_of_ble_eq_true rfl) (fun x14 => ?_)
          refine x_aload_n dX12_holdsFor_93 rfl ?_
          refine y_getF fl_RX12_72 hz_201 hq_201_37 (by rw [hz_222]; decide) dX12_holdsFor_94 ?_
          refine x_iload_n dX12_holdsFor_97 rfl ?_
          refine x_iconst (v := 1) dX12_holdsFor_98 (by decide) ?_
          refine x_isub dX12_holdsFor_99 ?_
          refine y_zald hz_222 hn_222 dX12_holdsFor_100 (fun hi => ?_)
          refine y_letI (fun x15 => ?_)
          refine x_istore (ls' := [some (.ref (zad ω 201)), some (.int p1), some (.int x14), some (.int x3), some (.int x7), some (.int x15), none]) dX12_holdsFor_101 (Nat.le_of_ble_eq_true rfl) rfl ?_
          refine x_aload_n dX12_holdsFor_103 rfl ?_
          refine y_getF fl_RX12_72 hz_201 hq_201_37 (by rw [hz_222]; decide) dX12_holdsFor_104 ?_
          refine x_iload_n dX12_holdsFor_107 rfl ?_
          refine y_zald hz_222 hn_222 dX12_holdsFor_108 (fun hi => ?_)
          refine y_letI (fun x16 => ?_)
          refine x_istore (ls' := [some (.ref (zad ω 201)), some (.int p1), some (.int x14), some (.int x3), some (.int x7), some (.int x15), some (.int x16)]) dX12_holdsFor_109 (Nat.le_of_ble_eq_true rfl) rfl ?_
          refine x_aload_n dX12_holdsFor_111 rfl ?_
          refine y_getF fl_RX12_72 hz_201 hq_201_37 (by rw [hz_222]; decide) dX12_holdsFor_112 ?_
          refine x_iload_n dX12_holdsFor_115 rfl ?_
          refine x_iconst (v := 1) dX12_holdsFor_116 (by decide) ?_
          refine x_isub dX12_holdsFor_117 ?_
          refine x_iload dX12_holdsFor_118 rfl ?_
          refine x_bipush (v := 7) dX12_holdsFor_120 (by decide) ?_
          refine y_join (fun j19 => ∀ (x18 : Int32), Sx ω true 9 0 0 kk_Mod_holdsFor fI 0 0 m5 158 [some (.ref (zad ω 201)), some (.int p1), some (.int x14), some (.int x3), none, none, none] [.int x18, .int (x14 - 1), .ref (zad ω 222)] (j19 x18)) ?_ (fun j19 hj19 => ?_)
          · intro x18
            refine x_guard (fun hv => ?_)
            refine y_zast hz_222 hn_222 hv dX12_holdsFor_158 (fun hi => ?_)
            refine y_letM (fun m20 => ?_)
            exact hj11 _ _
          · refine x_icmp_ne (tgt := 143) dX12_holdsFor_122 (by decide) (fun hc17 => ?_) (fun hc17 => ?_)
            · refine x_iload dX12_holdsFor_125 rfl ?_
              refine y_join (fun j25 => Sx ω true 9 0 0 kk_Mod_holdsFor fI 0 0 m5 139 [some (.ref (zad ω 201)), some (.int p1), some (.int x14), some (.int x3), none, none, none] [.int (x14 - 1), .ref (zad ω 222)] j25) ?_ (fun j25 hj25 => ?_)
              · refine x_iconst (v := 0) dX12_holdsFor_139 (by decide) ?_
                refine x_goto (tgt := 158) dX12_holdsFor_140 (by decide) ?_
                exact hj19 _
              · refine x_if_eq (tgt := 139) dX12_holdsFor_127 (by decide) (fun hc24 => ?_) (fun hc24 => ?_)
                · refine y_mask (bs := [true, true, true, true, false, false, false]) (ls' := [some (.ref (zad ω 201)), some (.int p1), some (.int x14), some (.int x3), none, none, none]) rfl ?_
                  exact hj25
                · refine x_iload dX12_holdsFor_130 rfl ?_
                  refine x_if_eq (tgt := 139) dX12_holdsFor_132 (by decide) (fun hc26 => ?_) (fun hc26 => ?_)
                  · refine y_mask (bs := [true, true, true, true, false, false, false]) (ls' := [some (.ref (zad ω 201)), some (.int p1), some (.int x14), some (.int x3), none, none, none]) rfl ?_
                    exact hj25
                  · refine x_iconst (v := 1) dX12_holdsFor_135 (by decide) ?_
                    refine x_goto (tgt := 158) dX12_holdsFor_136 (by decide) ?_
                    refine y_mask (bs := [true, true, true, true, false, false, false]) (ls' := [some (.ref (zad ω 201)), some (.int p1), some (.int x14), some (.int x3), none, none, none]) rfl ?_
                    exact hj19 _
            · refine x_iload dX12_holdsFor_143 rfl ?_
              refine y_join (fun j22 => Sx ω true 9 0 0 kk_Mod_holdsFor fI 0 0 m5 153 [some (.ref (zad ω 201)), some (.int p1), some (.int x14), some (.int x3), none, none, none] [.int (x14 - 1), .ref (zad ω 222)] j22) ?_ (fun j22 hj22 => ?_)
              · refine x_iconst (v := 1) dX12_holdsFor_153 (by decide) ?_
                refine x_goto (tgt := 158) dX12_holdsFor_154 (by decide) ?_
                exact hj19 _
              · refine x_if_ne (tgt := 153) dX12_holdsFor_145 (by decide) (fun hc21 => ?_) (fun hc21 => ?_)
                · refine x_iload dX12_holdsFor_148 rfl ?_
                  refine x_if_eq (tgt := 157) dX12_holdsFor_150 (by decide) (fun hc23 => ?_) (fun hc23 => ?_)
                  · refine x_iconst (v := 0) dX12_holdsFor_157 (by decide) ?_
                    refine y_mask (bs := [true, true, true, true, false, false, false]) (ls' := [some (.ref (zad ω 201)), some (.int p1), some (.int x14), some (.int x3), none, none, none]) rfl ?_
                    exact hj19 _
                  · refine y_mask (bs := [true, true, true, true, false, false, false]) (ls' := [some (.ref (zad ω 201)), some (.int p1), some (.int x14), some (.int x3), none, none, none]) rfl ?_
                    exact hj22
                · refine y_mask (bs := [true, true, true, true, false, false, false]) (ls' := [some (.ref (zad ω 201)), some (.int p1), some (.int x14), some (.int x3), none, none, none]) rfl ?_
                  exact hj22
      · refine x_aload_n dX12_holdsFor_31 rfl ?_
        refine y_getF fl_RX12_72 hz_201 hq_201_37 (by rw [hz_222]; decide) dX12_holdsFor_32 ?_
        refine x_iload_n dX12_holdsFor_35 rfl ?_
        refine x_aload_n dX12_holdsFor_36 rfl ?_
        refine x_iload dX12_holdsFor_37 rfl ?_
        refine x_aload_n dX12_holdsFor_39 rfl ?_
        refine y_getF fl_RX12_69 hz_201 hq_201_36 (by rw [hz_221]; decide) dX12_holdsFor_40 ?_
        refine x_iload_n dX12_holdsFor_43 rfl ?_
        refine y_iald hz_221 hn_221 dX12_holdsFor_44 (fun hi => ?_)
        refine x_iload_n dX12_holdsFor_45 rfl ?_
        refine y_callVP (rest := [.int x2, .ref (zad ω 222)]) (c1 := 0) (s1 := 0) (c_Mod_isAnswered ω x7 (zI m5 221 (zIx x3)) p1 m5) mv_RX12_335 hz_201 rfl (Nat.le_of_ble_eq_true rfl) (Nat.le_of_ble_eq_true rfl) (Nat.le_of_ble_eq_true rfl) ⟨rfl, rfl⟩ ⟨(Nat.le_of_ble_eq_true rfl), (Nat.le_of_ble_eq_true rfl)⟩ dX12_holdsFor_46 (fun v31 => ?_)
        refine x_guard (fun hv => ?_)
        refine y_zast hz_222 hn_222 hv dX12_holdsFor_49 (fun hi => ?_)
        refine y_letM (fun m32 => ?_)
        refine y_iinc (w := 1) dX12_holdsFor_50 rfl (by decide) (Nat.le_of_ble_eq_true rfl) (fun x33 => ?_)
        refine x_goto (tgt := 159) dX12_holdsFor_53 (by decide) ?_
        refine y_mask (bs := [true, true, true, true, false, false, false]) (ls' := [some (.ref (zad ω 201)), some (.int p1), some (.int x33), some (.int x3), none, none, none]) rfl ?_
        exact hj11 _ _
abbrev kk_Mod_goOn : Kx := (yX12_goOn.cls, cX12_goOn, 4, (some .int), [], false)
set_option maxHeartbeats 4000000 in
set_option maxRecDepth 100000 in
theorem c_Mod_goOn (ω : Wd) (p1 : Int32) (m : Mm) : Ev ω true 10 0 0 yX12_goOn cX12_goOn 4 (some .int) [.ref (zad ω 201), .int p1] m fI (f_Mod_goOn p1 m) := by
  refine Ev.of (b := false) (ls := [some (.ref (zad ω 201)), some (.int p1), none, none]) (plainFor_of_name (by decide +kernel)) (fun h => by cases h) rfl (Nat.le_of_ble_eq_true rfl) rfl ?_
  change Sx ω true 10 0 0 kk_Mod_goOn fI 0 0 m 0 _ _ _
  unfold f_Mod_goOn
  refine x_aload_n dX12_goOn_0 rfl ?_
  refine x_iload_n dX12_goOn_1 rfl ?_
  refine x_iconst (v := 1) dX12_goOn_2 (by decide) ?_
  refine x_ldcWI (v := 100000) ci_RX12_338 dX12_goOn_3 ?_
  refine y_callSP (rest := [.ref (zad ω 201)]) (c1 := 0) (s1 := 0) (c_Mod_isIn ω p1 1 100000 m) ms_RX12_115 rfl (Nat.le_of_ble_eq_true rfl) (Nat.le_of_ble_eq_true rfl) (Nat.le_of_ble_eq_true rfl) ⟨rfl, rfl⟩ ⟨(Nat.le_of_ble_eq_true rfl), (Nat.le_of_ble_eq_true rfl)⟩ dX12_goOn_6 (fun v1 => ?_)
  refine y_join (fun j4 => ∀ (x3 : Int32), Sx ω true 10 0 0 kk_Mod_goOn fI 0 0 m 28 [some (.ref (zad ω 201)), some (.int p1), none, none] [.int x3, .ref (zad ω 201)] (j4 x3)) ?_ (fun j4 hj4 => ?_)
  · intro x3
    refine y_putI fp_RX12_93 hz_201 dX12_goOn_28 ?_
    refine y_letM (fun m5 => ?_)
    refine x_aload_n dX12_goOn_31 rfl ?_
    refine y_getI fl_RX12_93 hz_201 dX12_goOn_32 ?_
    refine x_if_le (tgt := 40) dX12_goOn_35 (by decide) (fun hc6 => ?_) (fun hc6 => ?_)
    · refine x_iload_n dX12_goOn_40 rfl ?_
      refine x_istore_n (ls' := [some (.ref (zad ω 201)), some (.int p1), some (.int p1), none]) dX12_goOn_41 (Nat.le_of_ble_eq_true rfl) rfl ?_
      refine y_mask (bs := [true, false, true, false]) (ls' := [some (.ref (zad ω 201)), none, some (.int p1), none]) rfl ?_
      refine y_Lp1 (fun x7 => [some (.ref (zad ω 201)), none, some (.int x7), none]) (fun r8 hr8 x7 m9 => ?_) zFu _ _
      refine x_aload_n dX12_goOn_42 rfl ?_
      refine y_getI fl_RX12_332 hz_201 dX12_goOn_43 ?_
      refine x_sipush (v := 400) dX12_goOn_46 (by decide) ?_
      refine x_icmp_ge (tgt := 125) dX12_goOn_49 (by decide) (fun hc10 => ?_) (fun hc10 => ?_)
      · refine x_iconst (v := (-1)) dX12_goOn_125 (by decide) ?_
        exact x_iret rfl rfl ⟨(Nat.le_of_ble_eq_true rfl), (Nat.le_of_ble_eq_true rfl)⟩ dX12_goOn_126
      · refine x_aload_n dX12_goOn_52 rfl ?_
        refine x_aload_n dX12_goOn_53 rfl ?_
        refine y_getI fl_RX12_332 hz_201 dX12_goOn_54 ?_
        refine x_aload_n dX12_goOn_57 rfl ?_
        refine y_getI fl_RX12_133 hz_201 dX12_goOn_58 ?_
        refine y_callVV (rest := []) (c1 := 0) (s1 := 0) (c_Mod_finds ω (zI m9 201 38) (zI m9 201 1) m9) mv_RX12_300 hz_201 rfl (Nat.le_of_ble_eq_true rfl) (Nat.le_of_ble_eq_true rfl) (Nat.le_of_ble_eq_true rfl) ⟨rfl, rfl⟩ ⟨(Nat.le_of_ble_eq_true rfl), (Nat.le_of_ble_eq_true rfl)⟩ dX12_goOn_61 (fun m11 => ?_)
        refine x_aload_n dX12_goOn_64 rfl ?_
        refine y_callVP (rest := []) (c1 := 0) (s1 := 0) (c_Mod_costNow ω m11) mv_RX12_320 hz_201 rfl (Nat.le_of_ble_eq_true rfl) (Nat.le_of_ble_eq_true rfl) (Nat.le_of_ble_eq_true rfl) ⟨rfl, rfl⟩ ⟨(Nat.le_of_ble_eq_true rfl), (Nat.le_of_ble_eq_true rfl)⟩ dX12_goOn_65 (fun v12 => ?_)
        refine x_istore_n (ls' := [some (.ref (zad ω 201)), none, some (.int x7), some (.int v12)]) dX12_goOn_68 (Nat.le_of_ble_eq_true rfl) rfl ?_
        refine x_iload_n dX12_goOn_69 rfl ?_
        refine x_iload_n dX12_goOn_70 rfl ?_
        refine x_icmp_le (tgt := 77) dX12_goOn_71 (by decide) (fun hc13 => ?_) (fun hc13 => ?_)
        · refine x_iload_n dX12_goOn_77 rfl ?_
          refine x_iload_n dX12_goOn_78 rfl ?_
          refine x_isub dX12_goOn_79 ?_
          refine y_letI (fun x14 => ?_)
          refine x_istore_n (ls' := [some (.ref (zad ω 201)), none, some (.int x14), some (.int v12)]) dX12_goOn_80 (Nat.le_of_ble_eq_true rfl) rfl ?_
          refine x_aload_n dX12_goOn_81 rfl ?_
          refine x_dup dX12_goOn_82 rfl ?_
          refine y_getL fl_RX12_339 hz_201 dX12_goOn_83 ?_
          refine x_iload_n dX12_goOn_86 rfl ?_
          refine x_i2l dX12_goOn_87 ?_
          refine x_ladd dX12_goOn_88 ?_
          refine y_putL fp_RX12_339 hz_201 dX12_goOn_89 ?_
          refine y_letM (fun m15 => ?_)
          refine x_aload_n dX12_goOn_92 rfl ?_
          refine x_dup dX12_goOn_93 rfl ?_
          refine y_getI fl_RX12_332 hz_201 dX12_goOn_94 ?_
          refine x_iconst (v := 1) dX12_goOn_97 (by decide) ?_
          refine x_iadd dX12_goOn_98 ?_
          refine y_putI fp_RX12_332 hz_201 dX12_goOn_99 ?_
          refine y_letM (fun m16 => ?_)
          refine x_aload_n dX12_goOn_102 rfl ?_
          refine x_aload_n dX12_goOn_103 rfl ?_
          refine y_getI fl_RX12_332 hz_201 dX12_goOn_104 ?_
          refine x_iconst (v := 1) dX12_goOn_107 (by decide) ?_
          refine x_isub dX12_goOn_108 ?_
          refine y_callVI (rest := []) (c1 := 0) (s1 := 0) (c_Mod_holdsFor ω ((zI m16 201 38) - 1) m16) mv_RX12_343 hz_201 rfl (Nat.le_of_ble_eq_true rfl) (Nat.le_of_ble_eq_true rfl) (Nat.le_of_ble_eq_true rfl) ⟨rfl, rfl⟩ ⟨(Nat.le_of_ble_eq_true rfl), (Nat.le_of_ble_eq_true rfl)⟩ dX12_goOn_109 (fun v18 m17 => ?_)
          refine x_if_eq (tgt := 122) dX12_goOn_112 (by decide) (fun hc19 => ?_) (fun hc19 => ?_)
          · refine x_goto (tgt := 42) dX12_goOn_122 (by decide) ?_
            refine y_mask (bs := [true, false, true, false]) (ls' := [some (.ref (zad ω 201)), none, some (.int x14), none]) rfl ?_
            exact hr8 _ _
          · refine x_aload_n dX12_goOn_115 rfl ?_
            refine y_getI fl_RX12_332 hz_201 dX12_goOn_116 ?_
            refine x_iconst (v := 1) dX12_goOn_119 (by decide) ?_
            refine x_isub dX12_goOn_120 ?_
            exact x_iret rfl rfl ⟨(Nat.le_of_ble_eq_true rfl), (Nat.le_of_ble_eq_true rfl)⟩ dX12_goOn_121
        · refine x_bipush (v := (-2)) dX12_goOn_74 (by decide) ?_
          exact x_iret rfl rfl ⟨(Nat.le_of_ble_eq_true rfl), (Nat.le_of_ble_eq_true rfl)⟩ dX12_goOn_76
    · refine x_iconst (v := 0) dX12_goOn_38 (by decide) ?_
      exact x_iret rfl rfl ⟨(Nat.le_of_ble_eq_true rfl), (Nat.le_of_ble_eq_true rfl)⟩ dX12_goOn_39
  · refine x_if_ne (tgt := 16) dX12_goOn_9 (by decide) (fun hc2 => ?_) (fun hc2 => ?_)
    · refine x_iconst (v := 1) dX12_goOn_12 (by decide) ?_
      refine x_goto (tgt := 28) dX12_goOn_13 (by decide) ?_
      exact hj4 _
    · refine x_aload_n dX12_goOn_16 rfl ?_
      refine y_getI fl_RX12_329 hz_201 dX12_goOn_17 ?_
      refine x_if_eq (tgt := 27) dX12_goOn_20 (by decide) (fun hc20 => ?_) (fun hc20 => ?_)
      · refine x_iconst (v := 2) dX12_goOn_27 (by decide) ?_
        exact hj4 _
      · refine x_iconst (v := 0) dX12_goOn_23 (by decide) ?_
        refine x_goto (tgt := 28) dX12_goOn_24 (by decide) ?_
        exact hj4 _
