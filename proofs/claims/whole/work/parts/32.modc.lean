abbrev kk_Mod_takesAsk : Kx := (yX12_takesAsk.cls, cX12_takesAsk, 2, (some .boolean), [], false)
set_option maxHeartbeats 4000000 in
set_option maxRecDepth 100000 in
theorem c_Mod_takesAsk (ω : Wd) (p1 : Int32) (m : Mm) : Ev ω true 4 0 0 yX12_takesAsk cX12_takesAsk 2 (some .boolean) [.ref (zad ω 201), .int p1] m fI (f_Mod_takesAsk p1 m) := by
  refine Ev.of (b := false) (ls := [some (.ref (zad ω 201)), some (.int p1)]) (plainFor_of_name (by decide +kernel)) (fun h => by cases h) rfl (Nat.le_of_ble_eq_true rfl) rfl ?_
  change Sx ω true 4 0 0 kk_Mod_takesAsk fI 0 0 m 0 _ _ _
  unfold f_Mod_takesAsk
  refine x_aload_n dX12_takesAsk_0 rfl ?_
  refine x_dup dX12_takesAsk_1 rfl ?_
  refine y_getI fl_RX12_139 hz_201 dX12_takesAsk_2 ?_
  refine x_iconst (v := 1) dX12_takesAsk_5 (by decide) ?_
  refine x_isub dX12_takesAsk_6 ?_
  refine y_putI fp_RX12_139 hz_201 dX12_takesAsk_7 ?_
  refine y_letM (fun m1 => ?_)
  refine x_iload_n dX12_takesAsk_10 rfl ?_
  refine x_bipush (v := 67) dX12_takesAsk_11 (by decide) ?_
  refine x_icmp_ne (tgt := 25) dX12_takesAsk_13 (by decide) (fun hc2 => ?_) (fun hc2 => ?_)
  · refine x_aload_n dX12_takesAsk_16 rfl ?_
    refine x_iconst (v := 1) dX12_takesAsk_17 (by decide) ?_
    refine x_iconst (v := 0) dX12_takesAsk_18 (by decide) ?_
    refine y_callVV (rest := []) (c1 := 0) (s1 := 0) (c_Mod_emits ω 1 0 m1) mv_RX12_148 hz_201 rfl (Nat.le_of_ble_eq_true rfl) (Nat.le_of_ble_eq_true rfl) (Nat.le_of_ble_eq_true rfl) ⟨rfl, rfl⟩ ⟨(Nat.le_of_ble_eq_true rfl), (Nat.le_of_ble_eq_true rfl)⟩ dX12_takesAsk_19 (fun m26 => ?_)
    refine x_goto (tgt := 183) dX12_takesAsk_22 (by decide) ?_
    refine x_iconst (v := 1) dX12_takesAsk_183 (by decide) ?_
    exact x_zret rfl rfl (zBo_nar (by decide)) ⟨(Nat.le_of_ble_eq_true rfl), (Nat.le_of_ble_eq_true rfl)⟩ dX12_takesAsk_184
  · refine x_iload_n dX12_takesAsk_25 rfl ?_
    refine x_bipush (v := 68) dX12_takesAsk_26 (by decide) ?_
    refine x_icmp_ne (tgt := 49) dX12_takesAsk_28 (by decide) (fun hc3 => ?_) (fun hc3 => ?_)
    · refine x_aload_n dX12_takesAsk_31 rfl ?_
      refine x_bipush (v := 10) dX12_takesAsk_32 (by decide) ?_
      refine x_iconst (v := 2) dX12_takesAsk_34 (by decide) ?_
      refine y_callVV (rest := []) (c1 := 0) (s1 := 0) (c_Mod_push ω 10 2 m1) mv_RX12_159 hz_201 rfl (Nat.le_of_ble_eq_true rfl) (Nat.le_of_ble_eq_true rfl) (Nat.le_of_ble_eq_true rfl) ⟨rfl, rfl⟩ ⟨(Nat.le_of_ble_eq_true rfl), (Nat.le_of_ble_eq_true rfl)⟩ dX12_takesAsk_35 (fun m23 => ?_)
      refine x_aload_n dX12_takesAsk_38 rfl ?_
      refine y_callVV (rest := []) (c1 := 0) (s1 := 0) (c_Mod_pushDate ω m23) mv_RX12_174 hz_201 rfl (Nat.le_of_ble_eq_true rfl) (Nat.le_of_ble_eq_true rfl) (Nat.le_of_ble_eq_true rfl) ⟨rfl, rfl⟩ ⟨(Nat.le_of_ble_eq_true rfl), (Nat.le_of_ble_eq_true rfl)⟩ dX12_takesAsk_39 (fun m24 => ?_)
      refine x_aload_n dX12_takesAsk_42 rfl ?_
      refine y_callVV (rest := []) (c1 := 0) (s1 := 0) (c_Mod_pushFeast ω m24) mv_RX12_177 hz_201 rfl (Nat.le_of_ble_eq_true rfl) (Nat.le_of_ble_eq_true rfl) (Nat.le_of_ble_eq_true rfl) ⟨rfl, rfl⟩ ⟨(Nat.le_of_ble_eq_true rfl), (Nat.le_of_ble_eq_true rfl)⟩ dX12_takesAsk_43 (fun m25 => ?_)
      refine x_goto (tgt := 183) dX12_takesAsk_46 (by decide) ?_
      refine x_iconst (v := 1) dX12_takesAsk_183 (by decide) ?_
      exact x_zret rfl rfl (zBo_nar (by decide)) ⟨(Nat.le_of_ble_eq_true rfl), (Nat.le_of_ble_eq_true rfl)⟩ dX12_takesAsk_184
    · refine x_iload_n dX12_takesAsk_49 rfl ?_
      refine x_bipush (v := 87) dX12_takesAsk_50 (by decide) ?_
      refine x_icmp_ne (tgt := 76) dX12_takesAsk_52 (by decide) (fun hc4 => ?_) (fun hc4 => ?_)
      · refine x_aload_n dX12_takesAsk_55 rfl ?_
        refine x_bipush (v := 10) dX12_takesAsk_56 (by decide) ?_
        refine x_iconst (v := 3) dX12_takesAsk_58 (by decide) ?_
        refine y_callVV (rest := []) (c1 := 0) (s1 := 0) (c_Mod_push ω 10 3 m1) mv_RX12_159 hz_201 rfl (Nat.le_of_ble_eq_true rfl) (Nat.le_of_ble_eq_true rfl) (Nat.le_of_ble_eq_true rfl) ⟨rfl, rfl⟩ ⟨(Nat.le_of_ble_eq_true rfl), (Nat.le_of_ble_eq_true rfl)⟩ dX12_takesAsk_59 (fun m20 => ?_)
        refine x_aload_n dX12_takesAsk_62 rfl ?_
        refine x_bipush (v := 17) dX12_takesAsk_63 (by decide) ?_
        refine x_iconst (v := 0) dX12_takesAsk_65 (by decide) ?_
        refine y_callVV (rest := []) (c1 := 0) (s1 := 0) (c_Mod_push ω 17 0 m20) mv_RX12_159 hz_201 rfl (Nat.le_of_ble_eq_true rfl) (Nat.le_of_ble_eq_true rfl) (Nat.le_of_ble_eq_true rfl) ⟨rfl, rfl⟩ ⟨(Nat.le_of_ble_eq_true rfl), (Nat.le_of_ble_eq_true rfl)⟩ dX12_takesAsk_66 (fun m21 => ?_)
        refine x_aload_n dX12_takesAsk_69 rfl ?_
        refine y_callVV (rest := []) (c1 := 0) (s1 := 0) (c_Mod_pushFeast ω m21) mv_RX12_177 hz_201 rfl (Nat.le_of_ble_eq_true rfl) (Nat.le_of_ble_eq_true rfl) (Nat.le_of_ble_eq_true rfl) ⟨rfl, rfl⟩ ⟨(Nat.le_of_ble_eq_true rfl), (Nat.le_of_ble_eq_true rfl)⟩ dX12_takesAsk_70 (fun m22 => ?_)
        refine x_goto (tgt := 183) dX12_takesAsk_73 (by decide) ?_
        refine x_iconst (v := 1) dX12_takesAsk_183 (by decide) ?_
        exact x_zret rfl rfl (zBo_nar (by decide)) ⟨(Nat.le_of_ble_eq_true rfl), (Nat.le_of_ble_eq_true rfl)⟩ dX12_takesAsk_184
      · refine x_iload_n dX12_takesAsk_76 rfl ?_
        refine x_bipush (v := 78) dX12_takesAsk_77 (by decide) ?_
        refine x_icmp_ne (tgt := 96) dX12_takesAsk_79 (by decide) (fun hc5 => ?_) (fun hc5 => ?_)
        · refine x_aload_n dX12_takesAsk_82 rfl ?_
          refine x_bipush (v := 10) dX12_takesAsk_83 (by decide) ?_
          refine x_iconst (v := 4) dX12_takesAsk_85 (by decide) ?_
          refine y_callVV (rest := []) (c1 := 0) (s1 := 0) (c_Mod_push ω 10 4 m1) mv_RX12_159 hz_201 rfl (Nat.le_of_ble_eq_true rfl) (Nat.le_of_ble_eq_true rfl) (Nat.le_of_ble_eq_true rfl) ⟨rfl, rfl⟩ ⟨(Nat.le_of_ble_eq_true rfl), (Nat.le_of_ble_eq_true rfl)⟩ dX12_takesAsk_86 (fun m18 => ?_)
          refine x_aload_n dX12_takesAsk_89 rfl ?_
          refine y_callVV (rest := []) (c1 := 0) (s1 := 0) (c_Mod_pushFeast ω m18) mv_RX12_177 hz_201 rfl (Nat.le_of_ble_eq_true rfl) (Nat.le_of_ble_eq_true rfl) (Nat.le_of_ble_eq_true rfl) ⟨rfl, rfl⟩ ⟨(Nat.le_of_ble_eq_true rfl), (Nat.le_of_ble_eq_true rfl)⟩ dX12_takesAsk_90 (fun m19 => ?_)
          refine x_goto (tgt := 183) dX12_takesAsk_93 (by decide) ?_
          refine x_iconst (v := 1) dX12_takesAsk_183 (by decide) ?_
          exact x_zret rfl rfl (zBo_nar (by decide)) ⟨(Nat.le_of_ble_eq_true rfl), (Nat.le_of_ble_eq_true rfl)⟩ dX12_takesAsk_184
        · refine x_iload_n dX12_takesAsk_96 rfl ?_
          refine x_bipush (v := 66) dX12_takesAsk_97 (by decide) ?_
          refine x_icmp_ne (tgt := 120) dX12_takesAsk_99 (by decide) (fun hc6 => ?_) (fun hc6 => ?_)
          · refine x_aload_n dX12_takesAsk_102 rfl ?_
            refine x_bipush (v := 10) dX12_takesAsk_103 (by decide) ?_
            refine x_iconst (v := 5) dX12_takesAsk_105 (by decide) ?_
            refine y_callVV (rest := []) (c1 := 0) (s1 := 0) (c_Mod_push ω 10 5 m1) mv_RX12_159 hz_201 rfl (Nat.le_of_ble_eq_true rfl) (Nat.le_of_ble_eq_true rfl) (Nat.le_of_ble_eq_true rfl) ⟨rfl, rfl⟩ ⟨(Nat.le_of_ble_eq_true rfl), (Nat.le_of_ble_eq_true rfl)⟩ dX12_takesAsk_106 (fun m15 => ?_)
            refine x_aload_n dX12_takesAsk_109 rfl ?_
            refine y_callVV (rest := []) (c1 := 0) (s1 := 0) (c_Mod_pushFeast ω m15) mv_RX12_177 hz_201 rfl (Nat.le_of_ble_eq_true rfl) (Nat.le_of_ble_eq_true rfl) (Nat.le_of_ble_eq_true rfl) ⟨rfl, rfl⟩ ⟨(Nat.le_of_ble_eq_true rfl), (Nat.le_of_ble_eq_true rfl)⟩ dX12_takesAsk_110 (fun m16 => ?_)
            refine x_aload_n dX12_takesAsk_113 rfl ?_
            refine y_callVV (rest := []) (c1 := 0) (s1 := 0) (c_Mod_pushFeast ω m16) mv_RX12_177 hz_201 rfl (Nat.le_of_ble_eq_true rfl) (Nat.le_of_ble_eq_true rfl) (Nat.le_of_ble_eq_true rfl) ⟨rfl, rfl⟩ ⟨(Nat.le_of_ble_eq_true rfl), (Nat.le_of_ble_eq_true rfl)⟩ dX12_takesAsk_114 (fun m17 => ?_)
            refine x_goto (tgt := 183) dX12_takesAsk_117 (by decide) ?_
            refine x_iconst (v := 1) dX12_takesAsk_183 (by decide) ?_
            exact x_zret rfl rfl (zBo_nar (by decide)) ⟨(Nat.le_of_ble_eq_true rfl), (Nat.le_of_ble_eq_true rfl)⟩ dX12_takesAsk_184
          · refine x_iload_n dX12_takesAsk_120 rfl ?_
            refine x_bipush (v := 33) dX12_takesAsk_121 (by decide) ?_
            refine x_icmp_ne (tgt := 144) dX12_takesAsk_123 (by decide) (fun hc7 => ?_) (fun hc7 => ?_)
            · refine x_aload_n dX12_takesAsk_126 rfl ?_
              refine x_bipush (v := 10) dX12_takesAsk_127 (by decide) ?_
              refine x_bipush (v := 6) dX12_takesAsk_129 (by decide) ?_
              refine y_callVV (rest := []) (c1 := 0) (s1 := 0) (c_Mod_push ω 10 6 m1) mv_RX12_159 hz_201 rfl (Nat.le_of_ble_eq_true rfl) (Nat.le_of_ble_eq_true rfl) (Nat.le_of_ble_eq_true rfl) ⟨rfl, rfl⟩ ⟨(Nat.le_of_ble_eq_true rfl), (Nat.le_of_ble_eq_true rfl)⟩ dX12_takesAsk_131 (fun m13 => ?_)
              refine x_aload_n dX12_takesAsk_134 rfl ?_
              refine x_bipush (v := 20) dX12_takesAsk_135 (by decide) ?_
              refine x_iconst (v := 0) dX12_takesAsk_137 (by decide) ?_
              refine y_callVV (rest := []) (c1 := 0) (s1 := 0) (c_Mod_push ω 20 0 m13) mv_RX12_159 hz_201 rfl (Nat.le_of_ble_eq_true rfl) (Nat.le_of_ble_eq_true rfl) (Nat.le_of_ble_eq_true rfl) ⟨rfl, rfl⟩ ⟨(Nat.le_of_ble_eq_true rfl), (Nat.le_of_ble_eq_true rfl)⟩ dX12_takesAsk_138 (fun m14 => ?_)
              refine x_goto (tgt := 183) dX12_takesAsk_141 (by decide) ?_
              refine x_iconst (v := 1) dX12_takesAsk_183 (by decide) ?_
              exact x_zret rfl rfl (zBo_nar (by decide)) ⟨(Nat.le_of_ble_eq_true rfl), (Nat.le_of_ble_eq_true rfl)⟩ dX12_takesAsk_184
            · refine x_iload_n dX12_takesAsk_144 rfl ?_
              refine x_bipush (v := 40) dX12_takesAsk_145 (by decide) ?_
              refine x_icmp_ne (tgt := 181) dX12_takesAsk_147 (by decide) (fun hc8 => ?_) (fun hc8 => ?_)
              · refine x_aload_n dX12_takesAsk_150 rfl ?_
                refine x_bipush (v := 22) dX12_takesAsk_151 (by decide) ?_
                refine x_iconst (v := 0) dX12_takesAsk_153 (by decide) ?_
                refine y_callVV (rest := []) (c1 := 0) (s1 := 0) (c_Mod_push ω 22 0 m1) mv_RX12_159 hz_201 rfl (Nat.le_of_ble_eq_true rfl) (Nat.le_of_ble_eq_true rfl) (Nat.le_of_ble_eq_true rfl) ⟨rfl, rfl⟩ ⟨(Nat.le_of_ble_eq_true rfl), (Nat.le_of_ble_eq_true rfl)⟩ dX12_takesAsk_154 (fun m9 => ?_)
                refine x_aload_n dX12_takesAsk_157 rfl ?_
                refine x_bipush (v := 20) dX12_takesAsk_158 (by decide) ?_
                refine x_iconst (v := 0) dX12_takesAsk_160 (by decide) ?_
                refine y_callVV (rest := []) (c1 := 0) (s1 := 0) (c_Mod_push ω 20 0 m9) mv_RX12_159 hz_201 rfl (Nat.le_of_ble_eq_true rfl) (Nat.le_of_ble_eq_true rfl) (Nat.le_of_ble_eq_true rfl) ⟨rfl, rfl⟩ ⟨(Nat.le_of_ble_eq_true rfl), (Nat.le_of_ble_eq_true rfl)⟩ dX12_takesAsk_161 (fun m10 => ?_)
                refine x_aload_n dX12_takesAsk_164 rfl ?_
                refine x_bipush (v := 21) dX12_takesAsk_165 (by decide) ?_
                refine x_iconst (v := 0) dX12_takesAsk_167 (by decide) ?_
                refine y_callVV (rest := []) (c1 := 0) (s1 := 0) (c_Mod_push ω 21 0 m10) mv_RX12_159 hz_201 rfl (Nat.le_of_ble_eq_true rfl) (Nat.le_of_ble_eq_true rfl) (Nat.le_of_ble_eq_true rfl) ⟨rfl, rfl⟩ ⟨(Nat.le_of_ble_eq_true rfl), (Nat.le_of_ble_eq_true rfl)⟩ dX12_takesAsk_168 (fun m11 => ?_)
                refine x_aload_n dX12_takesAsk_171 rfl ?_
                refine x_bipush (v := 20) dX12_takesAsk_172 (by decide) ?_
                refine x_iconst (v := 0) dX12_takesAsk_174 (by decide) ?_
                refine y_callVV (rest := []) (c1 := 0) (s1 := 0) (c_Mod_push ω 20 0 m11) mv_RX12_159 hz_201 rfl (Nat.le_of_ble_eq_true rfl) (Nat.le_of_ble_eq_true rfl) (Nat.le_of_ble_eq_true rfl) ⟨rfl, rfl⟩ ⟨(Nat.le_of_ble_eq_true rfl), (Nat.le_of_ble_eq_true rfl)⟩ dX12_takesAsk_175 (fun m12 => ?_)
                refine x_goto (tgt := 183) dX12_takesAsk_178 (by decide) ?_
                refine x_iconst (v := 1) dX12_takesAsk_183 (by decide) ?_
                exact x_zret rfl rfl (zBo_nar (by decide)) ⟨(Nat.le_of_ble_eq_true rfl), (Nat.le_of_ble_eq_true rfl)⟩ dX12_takesAsk_184
              · refine x_iconst (v := 0) dX12_takesAsk_181 (by decide) ?_
                exact x_zret rfl rfl (zBo_nar (by decide)) ⟨(Nat.le_of_ble_eq_true rfl), (Nat.le_of_ble_eq_true rfl)⟩ dX12_takesAsk_182
abbrev kk_Mod_takesMark : Kx := (yX12_takesMark.cls, cX12_takesMark, 3, (some .boolean), [], false)
set_option maxHeartbeats 4000000 in
set_option maxRecDepth 100000 in
theorem c_Mod_takesMark (ω : Wd) (p1 : Int32) (p2 : Int32) (m : Mm) : Ev ω true 3 0 0 yX12_takesMark cX12_takesMark 3 (some .boolean) [.ref (zad ω 201), .int p1, .int p2] m fI (f_Mod_takesMark p1 p2 m) := by
  refine Ev.of (b := false) (ls := [some (.ref (zad ω 201)), some (.int p1), some (.int p2)]) (plainFor_of_name (by decide +kernel)) (fun h => by cases h) rfl (Nat.le_of_ble_eq_true rfl) rfl ?_
  change Sx ω true 3 0 0 kk_Mod_takesMark fI 0 0 m 0 _ _ _
  unfold f_Mod_takesMark
  refine x_iload_n dX12_takesMark_0 rfl ?_
  refine x_iconst (v := 4) dX12_takesMark_1 (by decide) ?_
  refine y_join (fun j2 => Sx ω true 3 0 0 kk_Mod_takesMark fI 0 0 m 29 [some (.ref (zad ω 201)), some (.int p1), some (.int p2)] [] j2) ?_ (fun j2 hj2 => ?_)
  · refine x_iload_n dX12_takesMark_29 rfl ?_
    refine x_iconst (v := 5) dX12_takesMark_30 (by decide) ?_
    refine y_join (fun j4 => Sx ω true 3 0 0 kk_Mod_takesMark fI 0 0 m 68 [some (.ref (zad ω 201)), some (.int p1), some (.int p2)] [] j4) ?_ (fun j4 hj4 => ?_)
    · refine x_iload_n dX12_takesMark_68 rfl ?_
      refine x_bipush (v := 8) dX12_takesMark_69 (by decide) ?_
      refine y_join (fun j6 => Sx ω true 3 0 0 kk_Mod_takesMark fI 0 0 m 115 [some (.ref (zad ω 201)), some (.int p1), some (.int p2)] [] j6) ?_ (fun j6 hj6 => ?_)
      · refine x_iload_n dX12_takesMark_115 rfl ?_
        refine x_bipush (v := 9) dX12_takesMark_116 (by decide) ?_
        refine y_join (fun j8 => Sx ω true 3 0 0 kk_Mod_takesMark fI 0 0 m 143 [some (.ref (zad ω 201)), some (.int p1), some (.int p2)] [] j8) ?_ (fun j8 hj8 => ?_)
        · refine x_iload_n dX12_takesMark_143 rfl ?_
          refine x_bipush (v := 21) dX12_takesMark_144 (by decide) ?_
          refine y_join (fun j10 => Sx ω true 3 0 0 kk_Mod_takesMark fI 0 0 m 205 [some (.ref (zad ω 201)), some (.int p1), some (.int p2)] [] j10) ?_ (fun j10 hj10 => ?_)
          · refine x_iload_n dX12_takesMark_205 rfl ?_
            refine x_bipush (v := 22) dX12_takesMark_206 (by decide) ?_
            refine x_icmp_ne (tgt := 253) dX12_takesMark_208 (by decide) (fun hc11 => ?_) (fun hc11 => ?_)
            · refine x_iload_n dX12_takesMark_211 rfl ?_
              refine x_bipush (v := 41) dX12_takesMark_212 (by decide) ?_
              refine x_icmp_ne (tgt := 253) dX12_takesMark_214 (by decide) (fun hc12 => ?_) (fun hc12 => ?_)
              · refine x_aload_n dX12_takesMark_217 rfl ?_
                refine x_dup dX12_takesMark_218 rfl ?_
                refine y_getI fl_RX12_139 hz_201 dX12_takesMark_219 ?_
                refine x_iconst (v := 1) dX12_takesMark_222 (by decide) ?_
                refine x_isub dX12_takesMark_223 ?_
                refine y_putI fp_RX12_139 hz_201 dX12_takesMark_224 ?_
                refine y_letM (fun m13 => ?_)
                refine x_aload_n dX12_takesMark_227 rfl ?_
                refine x_dup dX12_takesMark_228 rfl ?_
                refine y_getI fl_RX12_145 hz_201 dX12_takesMark_229 ?_
                refine x_iconst (v := 1) dX12_takesMark_232 (by decide) ?_
                refine x_isub dX12_takesMark_233 ?_
                refine y_putI fp_RX12_145 hz_201 dX12_takesMark_234 ?_
                refine y_letM (fun m14 => ?_)
                refine x_aload_n dX12_takesMark_237 rfl ?_
                refine x_aload_n dX12_takesMark_238 rfl ?_
                refine y_getF fl_RX12_20 hz_201 hq_201_7 (by rw [hz_205]; decide) dX12_takesMark_239 ?_
                refine x_aload_n dX12_takesMark_242 rfl ?_
                refine y_getI fl_RX12_145 hz_201 dX12_takesMark_243 ?_
                refine y_iald hz_205 hn_205 dX12_takesMark_246 (fun hi => ?_)
                refine x_iconst (v := 0) dX12_takesMark_247 (by decide) ?_
                refine y_callVV (rest := []) (c1 := 0) (s1 := 0) (c_Mod_emits ω (zI m14 205 (zIx (zI m14 201 8))) 0 m14) mv_RX12_148 hz_201 rfl (Nat.le_of_ble_eq_true rfl) (Nat.le_of_ble_eq_true rfl) (Nat.le_of_ble_eq_true rfl) ⟨rfl, rfl⟩ ⟨(Nat.le_of_ble_eq_true rfl), (Nat.le_of_ble_eq_true rfl)⟩ dX12_takesMark_248 (fun m15 => ?_)
                refine x_iconst (v := 1) dX12_takesMark_251 (by decide) ?_
                exact x_zret rfl rfl (zBo_nar (by decide)) ⟨(Nat.le_of_ble_eq_true rfl), (Nat.le_of_ble_eq_true rfl)⟩ dX12_takesMark_252
              · refine x_iconst (v := 0) dX12_takesMark_253 (by decide) ?_
                exact x_zret rfl rfl (zBo_nar (by decide)) ⟨(Nat.le_of_ble_eq_true rfl), (Nat.le_of_ble_eq_true rfl)⟩ dX12_takesMark_254
            · refine x_iconst (v := 0) dX12_takesMark_253 (by decide) ?_
              exact x_zret rfl rfl (zBo_nar (by decide)) ⟨(Nat.le_of_ble_eq_true rfl), (Nat.le_of_ble_eq_true rfl)⟩ dX12_takesMark_254
          · refine x_icmp_ne (tgt := 205) dX12_takesMark_146 (by decide) (fun hc9 => ?_) (fun hc9 => ?_)
            · refine x_iload_n dX12_takesMark_149 rfl ?_
              refine x_bipush (v := 38) dX12_takesMark_150 (by decide) ?_
              refine y_join (fun j17 => Sx ω true 3 0 0 kk_Mod_takesMark fI 0 0 m 161 [some (.ref (zad ω 201)), none, some (.int p2)] [] j17) ?_ (fun j17 hj17 => ?_)
              · refine x_aload_n dX12_takesMark_161 rfl ?_
                refine x_dup dX12_takesMark_162 rfl ?_
                refine y_getI fl_RX12_139 hz_201 dX12_takesMark_163 ?_
                refine x_iconst (v := 1) dX12_takesMark_166 (by decide) ?_
                refine x_isub dX12_takesMark_167 ?_
                refine y_putI fp_RX12_139 hz_201 dX12_takesMark_168 ?_
                refine y_letM (fun m18 => ?_)
                refine x_aload_n dX12_takesMark_171 rfl ?_
                refine y_getF fl_RX12_20 hz_201 hq_201_7 (by rw [hz_205]; decide) dX12_takesMark_172 ?_
                refine x_aload_n dX12_takesMark_175 rfl ?_
                refine y_getI fl_RX12_145 hz_201 dX12_takesMark_176 ?_
                refine x_iload_n dX12_takesMark_179 rfl ?_
                refine x_bipush (v := 38) dX12_takesMark_180 (by decide) ?_
                refine y_join (fun j21 => ∀ (x20 : Int32), Sx ω true 3 0 0 kk_Mod_takesMark fI 0 0 m18 192 [some (.ref (zad ω 201)), none, none] [.int x20, .int (zI m18 201 8), .ref (zad ω 205)] (j21 x20)) ?_ (fun j21 hj21 => ?_)
                · intro x20
                  refine y_iast hz_205 hn_205 dX12_takesMark_192 (fun hi => ?_)
                  refine y_letM (fun m22 => ?_)
                  refine x_aload_n dX12_takesMark_193 rfl ?_
                  refine x_dup dX12_takesMark_194 rfl ?_
                  refine y_getI fl_RX12_145 hz_201 dX12_takesMark_195 ?_
                  refine x_iconst (v := 1) dX12_takesMark_198 (by decide) ?_
                  refine x_iadd dX12_takesMark_199 ?_
                  refine y_putI fp_RX12_145 hz_201 dX12_takesMark_200 ?_
                  refine y_letM (fun m23 => ?_)
                  refine x_iconst (v := 1) dX12_takesMark_203 (by decide) ?_
                  exact x_zret rfl rfl (zBo_nar (by decide)) ⟨(Nat.le_of_ble_eq_true rfl), (Nat.le_of_ble_eq_true rfl)⟩ dX12_takesMark_204
                · refine x_icmp_ne (tgt := 190) dX12_takesMark_182 (by decide) (fun hc19 => ?_) (fun hc19 => ?_)
                  · refine x_bipush (v := 7) dX12_takesMark_185 (by decide) ?_
                    refine x_goto (tgt := 192) dX12_takesMark_187 (by decide) ?_
                    refine y_mask (bs := [true, false, false]) (ls' := [some (.ref (zad ω 201)), none, none]) rfl ?_
                    exact hj21 _
                  · refine x_bipush (v := 8) dX12_takesMark_190 (by decide) ?_
                    refine y_mask (bs := [true, false, false]) (ls' := [some (.ref (zad ω 201)), none, none]) rfl ?_
                    exact hj21 _
              · refine x_icmp_eq (tgt := 161) dX12_takesMark_152 (by decide) (fun hc16 => ?_) (fun hc16 => ?_)
                · refine y_mask (bs := [true, false, true]) (ls' := [some (.ref (zad ω 201)), none, some (.int p2)]) rfl ?_
                  exact hj17
                · refine x_iload_n dX12_takesMark_155 rfl ?_
                  refine x_bipush (v := 124) dX12_takesMark_156 (by decide) ?_
                  refine x_icmp_ne (tgt := 205) dX12_takesMark_158 (by decide) (fun hc24 => ?_) (fun hc24 => ?_)
                  · refine y_mask (bs := [true, false, true]) (ls' := [some (.ref (zad ω 201)), none, some (.int p2)]) rfl ?_
                    exact hj17
                  · exact hj10
            · exact hj10
        · refine x_icmp_ne (tgt := 143) dX12_takesMark_118 (by decide) (fun hc7 => ?_) (fun hc7 => ?_)
          · refine x_iload_n dX12_takesMark_121 rfl ?_
            refine x_bipush (v := 41) dX12_takesMark_122 (by decide) ?_
            refine x_icmp_ne (tgt := 143) dX12_takesMark_124 (by decide) (fun hc25 => ?_) (fun hc25 => ?_)
            · refine x_aload_n dX12_takesMark_127 rfl ?_
              refine x_dup dX12_takesMark_128 rfl ?_
              refine y_getI fl_RX12_139 hz_201 dX12_takesMark_129 ?_
              refine x_iconst (v := 1) dX12_takesMark_132 (by decide) ?_
              refine x_isub dX12_takesMark_133 ?_
              refine y_putI fp_RX12_139 hz_201 dX12_takesMark_134 ?_
              refine y_letM (fun m26 => ?_)
              refine x_aload_n dX12_takesMark_137 rfl ?_
              refine y_callVV (rest := []) (c1 := 0) (s1 := 0) (c_Mod_lands ω m26) mv_RX12_192 hz_201 rfl (Nat.le_of_ble_eq_true rfl) (Nat.le_of_ble_eq_true rfl) (Nat.le_of_ble_eq_true rfl) ⟨rfl, rfl⟩ ⟨(Nat.le_of_ble_eq_true rfl), (Nat.le_of_ble_eq_true rfl)⟩ dX12_takesMark_138 (fun m27 => ?_)
              refine x_iconst (v := 1) dX12_takesMark_141 (by decide) ?_
              exact x_zret rfl rfl (zBo_nar (by decide)) ⟨(Nat.le_of_ble_eq_true rfl), (Nat.le_of_ble_eq_true rfl)⟩ dX12_takesMark_142
            · exact hj8
          · exact hj8
      · refine x_icmp_ne (tgt := 115) dX12_takesMark_71 (by decide) (fun hc5 => ?_) (fun hc5 => ?_)
        · refine x_iload_n dX12_takesMark_74 rfl ?_
          refine x_bipush (v := 38) dX12_takesMark_75 (by decide) ?_
          refine y_join (fun j29 => Sx ω true 3 0 0 kk_Mod_takesMark fI 0 0 m 86 [some (.ref (zad ω 201)), none, some (.int p2)] [] j29) ?_ (fun j29 hj29 => ?_)
          · refine x_aload_n dX12_takesMark_86 rfl ?_
            refine x_dup dX12_takesMark_87 rfl ?_
            refine y_getI fl_RX12_139 hz_201 dX12_takesMark_88 ?_
            refine x_iconst (v := 1) dX12_takesMark_91 (by decide) ?_
            refine x_isub dX12_takesMark_92 ?_
            refine y_putI fp_RX12_139 hz_201 dX12_takesMark_93 ?_
            refine y_letM (fun m30 => ?_)
            refine x_aload_n dX12_takesMark_96 rfl ?_
            refine x_iload_n dX12_takesMark_97 rfl ?_
            refine x_bipush (v := 38) dX12_takesMark_98 (by decide) ?_
            refine y_join (fun j33 => ∀ (x32 : Int32), Sx ω true 3 0 0 kk_Mod_takesMark fI 0 0 m30 110 [none, none, none] [.int x32, .ref (zad ω 201)] (j33 x32)) ?_ (fun j33 hj33 => ?_)
            · intro x32
              refine y_callVV (rest := []) (c1 := 0) (s1 := 0) (c_Mod_jumps ω x32 m30) mv_RX12_189 hz_201 rfl (Nat.le_of_ble_eq_true rfl) (Nat.le_of_ble_eq_true rfl) (Nat.le_of_ble_eq_true rfl) ⟨rfl, rfl⟩ ⟨(Nat.le_of_ble_eq_true rfl), (Nat.le_of_ble_eq_true rfl)⟩ dX12_takesMark_110 (fun m34 => ?_)
              refine x_iconst (v := 1) dX12_takesMark_113 (by decide) ?_
              exact x_zret rfl rfl (zBo_nar (by decide)) ⟨(Nat.le_of_ble_eq_true rfl), (Nat.le_of_ble_eq_true rfl)⟩ dX12_takesMark_114
            · refine x_icmp_ne (tgt := 108) dX12_takesMark_100 (by decide) (fun hc31 => ?_) (fun hc31 => ?_)
              · refine x_bipush (v := 19) dX12_takesMark_103 (by decide) ?_
                refine x_goto (tgt := 110) dX12_takesMark_105 (by decide) ?_
                refine y_mask (bs := [false, false, false]) (ls' := [none, none, none]) rfl ?_
                exact hj33 _
              · refine x_bipush (v := 20) dX12_takesMark_108 (by decide) ?_
                refine y_mask (bs := [false, false, false]) (ls' := [none, none, none]) rfl ?_
                exact hj33 _
          · refine x_icmp_eq (tgt := 86) dX12_takesMark_77 (by decide) (fun hc28 => ?_) (fun hc28 => ?_)
            · refine y_mask (bs := [true, false, true]) (ls' := [some (.ref (zad ω 201)), none, some (.int p2)]) rfl ?_
              exact hj29
            · refine x_iload_n dX12_takesMark_80 rfl ?_
              refine x_bipush (v := 124) dX12_takesMark_81 (by decide) ?_
              refine x_icmp_ne (tgt := 115) dX12_takesMark_83 (by decide) (fun hc35 => ?_) (fun hc35 => ?_)
              · refine y_mask (bs := [true, false, true]) (ls' := [some (.ref (zad ω 201)), none, some (.int p2)]) rfl ?_
                exact hj29
              · exact hj6
        · exact hj6
    · refine y_join (fun j36 => Sx ω true 3 0 0 kk_Mod_takesMark fI 0 0 m 40 [some (.ref (zad ω 201)), some (.int p1), some (.int p2)] [] j36) ?_ (fun j36 hj36 => ?_)
      · refine x_iload_n dX12_takesMark_40 rfl ?_
        refine x_bipush (v := 125) dX12_takesMark_41 (by decide) ?_
        refine x_icmp_ne (tgt := 68) dX12_takesMark_43 (by decide) (fun hc37 => ?_) (fun hc37 => ?_)
        · refine x_aload_n dX12_takesMark_46 rfl ?_
          refine x_dup dX12_takesMark_47 rfl ?_
          refine y_getI fl_RX12_139 hz_201 dX12_takesMark_48 ?_
          refine x_iconst (v := 1) dX12_takesMark_51 (by decide) ?_
          refine x_isub dX12_takesMark_52 ?_
          refine y_putI fp_RX12_139 hz_201 dX12_takesMark_53 ?_
          refine y_letM (fun m38 => ?_)
          refine x_iload_n dX12_takesMark_56 rfl ?_
          refine x_bipush (v := 7) dX12_takesMark_57 (by decide) ?_
          refine x_icmp_ne (tgt := 66) dX12_takesMark_59 (by decide) (fun hc39 => ?_) (fun hc39 => ?_)
          · refine x_aload_n dX12_takesMark_62 rfl ?_
            refine y_callVV (rest := []) (c1 := 0) (s1 := 0) (c_Mod_lands ω m38) mv_RX12_192 hz_201 rfl (Nat.le_of_ble_eq_true rfl) (Nat.le_of_ble_eq_true rfl) (Nat.le_of_ble_eq_true rfl) ⟨rfl, rfl⟩ ⟨(Nat.le_of_ble_eq_true rfl), (Nat.le_of_ble_eq_true rfl)⟩ dX12_takesMark_63 (fun m40 => ?_)
            refine x_iconst (v := 1) dX12_takesMark_66 (by decide) ?_
            exact x_zret rfl rfl (zBo_nar (by decide)) ⟨(Nat.le_of_ble_eq_true rfl), (Nat.le_of_ble_eq_true rfl)⟩ dX12_takesMark_67
          · refine x_iconst (v := 1) dX12_takesMark_66 (by decide) ?_
            exact x_zret rfl rfl (zBo_nar (by decide)) ⟨(Nat.le_of_ble_eq_true rfl), (Nat.le_of_ble_eq_true rfl)⟩ dX12_takesMark_67
        · exact hj4
      · refine x_icmp_eq (tgt := 40) dX12_takesMark_31 (by decide) (fun hc3 => ?_) (fun hc3 => ?_)
        · exact hj36
        · refine x_iload_n dX12_takesMark_34 rfl ?_
          refine x_bipush (v := 7) dX12_takesMark_35 (by decide) ?_
          refine x_icmp_ne (tgt := 68) dX12_takesMark_37 (by decide) (fun hc41 => ?_) (fun hc41 => ?_)
          · exact hj36
          · exact hj4
  · refine x_icmp_ne (tgt := 29) dX12_takesMark_2 (by decide) (fun hc1 => ?_) (fun hc1 => ?_)
    · refine x_iload_n dX12_takesMark_5 rfl ?_
      refine x_bipush (v := 123) dX12_takesMark_6 (by decide) ?_
      refine x_icmp_ne (tgt := 29) dX12_takesMark_8 (by decide) (fun hc42 => ?_) (fun hc42 => ?_)
      · refine x_aload_n dX12_takesMark_11 rfl ?_
        refine x_dup dX12_takesMark_12 rfl ?_
        refine y_getI fl_RX12_139 hz_201 dX12_takesMark_13 ?_
        refine x_iconst (v := 1) dX12_takesMark_16 (by decide) ?_
        refine x_isub dX12_takesMark_17 ?_
        refine y_putI fp_RX12_139 hz_201 dX12_takesMark_18 ?_
        refine y_letM (fun m43 => ?_)
        refine x_aload_n dX12_takesMark_21 rfl ?_
        refine x_bipush (v := 19) dX12_takesMark_22 (by decide) ?_
        refine y_callVV (rest := []) (c1 := 0) (s1 := 0) (c_Mod_jumps ω 19 m43) mv_RX12_189 hz_201 rfl (Nat.le_of_ble_eq_true rfl) (Nat.le_of_ble_eq_true rfl) (Nat.le_of_ble_eq_true rfl) ⟨rfl, rfl⟩ ⟨(Nat.le_of_ble_eq_true rfl), (Nat.le_of_ble_eq_true rfl)⟩ dX12_takesMark_24 (fun m44 => ?_)
        refine x_iconst (v := 1) dX12_takesMark_27 (by decide) ?_
        exact x_zret rfl rfl (zBo_nar (by decide)) ⟨(Nat.le_of_ble_eq_true rfl), (Nat.le_of_ble_eq_true rfl)⟩ dX12_takesMark_28
      · exact hj2
    · exact hj2
abbrev kk_Mod_leaves : Kx := (yX12_leaves.cls, cX12_leaves, 5, none, [], false)
set_option maxHeartbeats 4000000 in
set_option maxRecDepth 100000 in
theorem c_Mod_leaves (ω : Wd) (p1 : Int32) (m : Mm) : Ev ω true 3 0 0 yX12_leaves cX12_leaves 5 none [.ref (zad ω 201), .int p1] m fV (f_Mod_leaves p1 m) := by
  refine Ev.of (b := false) (ls := [some (.ref (zad ω 201)), some (.int p1), none, none, none]) (plainFor_of_name (by decide +kernel)) (fun h => by cases h) rfl (Nat.le_of_ble_eq_true rfl) rfl ?_
  change Sx ω true 3 0 0 kk_Mod_leaves fV 0 0 m 0 _ _ _
  unfold f_Mod_leaves
  refine x_iconst (v := 1) dX12_leaves_0 (by decide) ?_
  refine x_istore_n (ls' := [some (.ref (zad ω 201)), some (.int p1), some (.int 1), none, none]) dX12_leaves_1 (Nat.le_of_ble_eq_true rfl) rfl ?_
  refine y_Lp1 (fun x1 => [some (.ref (zad ω 201)), some (.int p1), some (.int x1), none, none]) (fun r2 hr2 x1 m3 => ?_) zFu _ _
  refine x_iload_n dX12_leaves_2 rfl ?_
  refine x_if_eq (tgt := 154) dX12_leaves_3 (by decide) (fun hc4 => ?_) (fun hc4 => ?_)
  · exact x_vret rfl rfl ⟨(Nat.le_of_ble_eq_true rfl), (Nat.le_of_ble_eq_true rfl)⟩ dX12_leaves_154
  · refine x_aload_n dX12_leaves_6 rfl ?_
    refine y_getI fl_RX12_139 hz_201 dX12_leaves_7 ?_
    refine x_if_le (tgt := 154) dX12_leaves_10 (by decide) (fun hc5 => ?_) (fun hc5 => ?_)
    · exact x_vret rfl rfl ⟨(Nat.le_of_ble_eq_true rfl), (Nat.le_of_ble_eq_true rfl)⟩ dX12_leaves_154
    · refine x_aload_n dX12_leaves_13 rfl ?_
      refine y_getF fl_RX12_13 hz_201 hq_201_4 (by rw [hz_203]; decide) dX12_leaves_14 ?_
      refine x_aload_n dX12_leaves_17 rfl ?_
      refine y_getI fl_RX12_139 hz_201 dX12_leaves_18 ?_
      refine x_iconst (v := 1) dX12_leaves_21 (by decide) ?_
      refine x_isub dX12_leaves_22 ?_
      refine y_iald hz_203 hn_203 dX12_leaves_23 (fun hi => ?_)
      refine y_letI (fun x6 => ?_)
      refine x_istore_n (ls' := [some (.ref (zad ω 201)), some (.int p1), some (.int x1), some (.int x6), none]) dX12_leaves_24 (Nat.le_of_ble_eq_true rfl) rfl ?_
      refine x_iload_n dX12_leaves_25 rfl ?_
      refine x_bipush (v := 48) dX12_leaves_26 (by decide) ?_
      refine x_bipush (v := 57) dX12_leaves_28 (by decide) ?_
      refine y_callSP (rest := []) (c1 := 0) (s1 := 0) (c_Mod_isIn ω p1 48 57 m3) ms_RX12_115 rfl (Nat.le_of_ble_eq_true rfl) (Nat.le_of_ble_eq_true rfl) (Nat.le_of_ble_eq_true rfl) ⟨rfl, rfl⟩ ⟨(Nat.le_of_ble_eq_true rfl), (Nat.le_of_ble_eq_true rfl)⟩ dX12_leaves_30 (fun v7 => ?_)
      refine x_istore (ls' := [some (.ref (zad ω 201)), some (.int p1), some (.int x1), some (.int x6), some (.int v7)]) dX12_leaves_33 (Nat.le_of_ble_eq_true rfl) rfl ?_
      refine x_iconst (v := 0) dX12_leaves_35 (by decide) ?_
      refine x_istore_n (ls' := [some (.ref (zad ω 201)), some (.int p1), some (.int 0), some (.int x6), some (.int v7)]) dX12_leaves_36 (Nat.le_of_ble_eq_true rfl) rfl ?_
      refine x_iload_n dX12_leaves_37 rfl ?_
      refine x_bipush (v := 11) dX12_leaves_38 (by decide) ?_
      refine y_join (fun j9 => Sx ω true 3 0 0 kk_Mod_leaves fV 0 0 m3 95 [some (.ref (zad ω 201)), some (.int p1), some (.int 0), some (.int x6), none] [] j9) ?_ (fun j9 hj9 => ?_)
      · refine x_iload_n dX12_leaves_95 rfl ?_
        refine x_bipush (v := 6) dX12_leaves_96 (by decide) ?_
        refine y_join (fun j11 => Sx ω true 3 0 0 kk_Mod_leaves fV 0 0 m3 126 [some (.ref (zad ω 201)), some (.int p1), some (.int 0), some (.int x6), none] [] j11) ?_ (fun j11 hj11 => ?_)
        · refine x_iload_n dX12_leaves_126 rfl ?_
          refine x_iconst (v := 2) dX12_leaves_127 (by decide) ?_
          refine x_icmp_ne (tgt := 151) dX12_leaves_128 (by decide) (fun hc12 => ?_) (fun hc12 => ?_)
          · refine x_iload_n dX12_leaves_131 rfl ?_
            refine x_bipush (v := 125) dX12_leaves_132 (by decide) ?_
            refine x_icmp_ne (tgt := 151) dX12_leaves_134 (by decide) (fun hc13 => ?_) (fun hc13 => ?_)
            · refine x_aload_n dX12_leaves_137 rfl ?_
              refine y_callVV (rest := []) (c1 := 0) (s1 := 0) (c_Mod_endsDays ω m3) mv_RX12_186 hz_201 rfl (Nat.le_of_ble_eq_true rfl) (Nat.le_of_ble_eq_true rfl) (Nat.le_of_ble_eq_true rfl) ⟨rfl, rfl⟩ ⟨(Nat.le_of_ble_eq_true rfl), (Nat.le_of_ble_eq_true rfl)⟩ dX12_leaves_138 (fun m14 => ?_)
              refine x_aload_n dX12_leaves_141 rfl ?_
              refine x_dup dX12_leaves_142 rfl ?_
              refine y_getI fl_RX12_139 hz_201 dX12_leaves_143 ?_
              refine x_iconst (v := 1) dX12_leaves_146 (by decide) ?_
              refine x_isub dX12_leaves_147 ?_
              refine y_putI fp_RX12_139 hz_201 dX12_leaves_148 ?_
              refine y_letM (fun m15 => ?_)
              refine x_goto (tgt := 2) dX12_leaves_151 (by decide) ?_
              refine y_mask (bs := [true, true, true, false, false]) (ls' := [some (.ref (zad ω 201)), some (.int p1), some (.int 0), none, none]) rfl ?_
              exact hr2 _ _
            · refine x_goto (tgt := 2) dX12_leaves_151 (by decide) ?_
              refine y_mask (bs := [true, true, true, false, false]) (ls' := [some (.ref (zad ω 201)), some (.int p1), some (.int 0), none, none]) rfl ?_
              exact hr2 _ _
          · refine x_goto (tgt := 2) dX12_leaves_151 (by decide) ?_
            refine y_mask (bs := [true, true, true, false, false]) (ls' := [some (.ref (zad ω 201)), some (.int p1), some (.int 0), none, none]) rfl ?_
            exact hr2 _ _
        · refine x_icmp_ne (tgt := 126) dX12_leaves_98 (by decide) (fun hc10 => ?_) (fun hc10 => ?_)
          · refine x_iload_n dX12_leaves_101 rfl ?_
            refine x_bipush (v := 123) dX12_leaves_102 (by decide) ?_
            refine x_icmp_eq (tgt := 126) dX12_leaves_104 (by decide) (fun hc16 => ?_) (fun hc16 => ?_)
            · exact hj11
            · refine x_aload_n dX12_leaves_107 rfl ?_
              refine y_callVV (rest := []) (c1 := 0) (s1 := 0) (c_Mod_lands ω m3) mv_RX12_192 hz_201 rfl (Nat.le_of_ble_eq_true rfl) (Nat.le_of_ble_eq_true rfl) (Nat.le_of_ble_eq_true rfl) ⟨rfl, rfl⟩ ⟨(Nat.le_of_ble_eq_true rfl), (Nat.le_of_ble_eq_true rfl)⟩ dX12_leaves_108 (fun m17 => ?_)
              refine x_aload_n dX12_leaves_111 rfl ?_
              refine x_dup dX12_leaves_112 rfl ?_
              refine y_getI fl_RX12_139 hz_201 dX12_leaves_113 ?_
              refine x_iconst (v := 1) dX12_leaves_116 (by decide) ?_
              refine x_isub dX12_leaves_117 ?_
              refine y_putI fp_RX12_139 hz_201 dX12_leaves_118 ?_
              refine y_letM (fun m18 => ?_)
              refine x_iconst (v := 1) dX12_leaves_121 (by decide) ?_
              refine x_istore_n (ls' := [some (.ref (zad ω 201)), some (.int p1), some (.int 1), some (.int x6), none]) dX12_leaves_122 (Nat.le_of_ble_eq_true rfl) rfl ?_
              refine x_goto (tgt := 151) dX12_leaves_123 (by decide) ?_
              refine x_goto (tgt := 2) dX12_leaves_151 (by decide) ?_
              refine y_mask (bs := [true, true, true, false, false]) (ls' := [some (.ref (zad ω 201)), some (.int p1), some (.int 1), none, none]) rfl ?_
              exact hr2 _ _
          · exact hj11
      · refine x_icmp_ne (tgt := 95) dX12_leaves_40 (by decide) (fun hc8 => ?_) (fun hc8 => ?_)
        · refine x_aload_n dX12_leaves_43 rfl ?_
          refine y_getI fl_RX12_183 hz_201 dX12_leaves_44 ?_
          refine x_if_le (tgt := 95) dX12_leaves_47 (by decide) (fun hc19 => ?_) (fun hc19 => ?_)
          · refine y_mask (bs := [true, true, true, true, false]) (ls' := [some (.ref (zad ω 201)), some (.int p1), some (.int 0), some (.int x6), none]) rfl ?_
            exact hj9
          · refine x_iload dX12_leaves_50 rfl ?_
            refine x_if_ne (tgt := 95) dX12_leaves_52 (by decide) (fun hc20 => ?_) (fun hc20 => ?_)
            · refine x_aload_n dX12_leaves_55 rfl ?_
              refine x_dup dX12_leaves_56 rfl ?_
              refine y_getI fl_RX12_156 hz_201 dX12_leaves_57 ?_
              refine x_aload_n dX12_leaves_60 rfl ?_
              refine y_getF fl_RX12_17 hz_201 hq_201_5 (by rw [hz_204]; decide) dX12_leaves_61 ?_
              refine x_aload_n dX12_leaves_64 rfl ?_
              refine y_getI fl_RX12_139 hz_201 dX12_leaves_65 ?_
              refine x_iconst (v := 1) dX12_leaves_68 (by decide) ?_
              refine x_isub dX12_leaves_69 ?_
              refine y_iald hz_204 hn_204 dX12_leaves_70 (fun hi => ?_)
              refine x_aload_n dX12_leaves_71 rfl ?_
              refine y_getI fl_RX12_180 hz_201 dX12_leaves_72 ?_
              refine x_imul dX12_leaves_75 ?_
              refine x_iadd dX12_leaves_76 ?_
              refine y_putI fp_RX12_156 hz_201 dX12_leaves_77 ?_
              refine y_letM (fun m21 => ?_)
              refine x_aload_n dX12_leaves_80 rfl ?_
              refine x_dup dX12_leaves_81 rfl ?_
              refine y_getI fl_RX12_139 hz_201 dX12_leaves_82 ?_
              refine x_iconst (v := 1) dX12_leaves_85 (by decide) ?_
              refine x_isub dX12_leaves_86 ?_
              refine y_putI fp_RX12_139 hz_201 dX12_leaves_87 ?_
              refine y_letM (fun m22 => ?_)
              refine x_iconst (v := 1) dX12_leaves_90 (by decide) ?_
              refine x_istore_n (ls' := [some (.ref (zad ω 201)), some (.int p1), some (.int 1), some (.int x6), some (.int v7)]) dX12_leaves_91 (Nat.le_of_ble_eq_true rfl) rfl ?_
              refine x_goto (tgt := 151) dX12_leaves_92 (by decide) ?_
              refine x_goto (tgt := 2) dX12_leaves_151 (by decide) ?_
              refine y_mask (bs := [true, true, true, false, false]) (ls' := [some (.ref (zad ω 201)), some (.int p1), some (.int 1), none, none]) rfl ?_
              exact hr2 _ _
            · refine y_mask (bs := [true, true, true, true, false]) (ls' := [some (.ref (zad ω 201)), some (.int p1), some (.int 0), some (.int x6), none]) rfl ?_
              exact hj9
        · refine y_mask (bs := [true, true, true, true, false]) (ls' := [some (.ref (zad ω 201)), some (.int p1), some (.int 0), some (.int x6), none]) rfl ?_
          exact hj9
abbrev kk_Mod_takesNumber : Kx := (yX12_takesNumber.cls, cX12_takesNumber, 3, (some .boolean), [], false)
set_option maxHeartbeats 4000000 in
set_option maxRecDepth 100000 in
theorem c_Mod_takesNumber (ω : Wd) (p1 : Int32) (m : Mm) : Ev ω true 2 0 0 yX12_takesNumber cX12_takesNumber 3 (some .boolean) [.ref (zad ω 201), .int p1] m fI (f_Mod_takesNumber p1 m) := by
  refine Ev.of (b := false) (ls := [some (.ref (zad ω 201)), some (.int p1), none]) (plainFor_of_name (by decide +kernel)) (fun h => by cases h) rfl (Nat.le_of_ble_eq_true rfl) rfl ?_
  change Sx ω true 2 0 0 kk_Mod_takesNumber fI 0 0 m 0 _ _ _
  unfold f_Mod_takesNumber
  refine x_iload_n dX12_takesNumber_0 rfl ?_
  refine x_bipush (v := 48) dX12_takesNumber_1 (by decide) ?_
  refine x_isub dX12_takesNumber_3 ?_
  refine y_letI (fun x1 => ?_)
  refine x_istore_n (ls' := [some (.ref (zad ω 201)), some (.int p1), some (.int x1)]) dX12_takesNumber_4 (Nat.le_of_ble_eq_true rfl) rfl ?_
  refine x_iload_n dX12_takesNumber_5 rfl ?_
  refine x_iconst (v := 0) dX12_takesNumber_6 (by decide) ?_
  refine x_bipush (v := 9) dX12_takesNumber_7 (by decide) ?_
  refine y_callSP (rest := []) (c1 := 0) (s1 := 0) (c_Mod_isIn ω x1 0 9 m) ms_RX12_115 rfl (Nat.le_of_ble_eq_true rfl) (Nat.le_of_ble_eq_true rfl) (Nat.le_of_ble_eq_true rfl) ⟨rfl, rfl⟩ ⟨(Nat.le_of_ble_eq_true rfl), (Nat.le_of_ble_eq_true rfl)⟩ dX12_takesNumber_9 (fun v2 => ?_)
  refine x_if_eq (tgt := 38) dX12_takesNumber_12 (by decide) (fun hc3 => ?_) (fun hc3 => ?_)
  · refine x_iconst (v := 0) dX12_takesNumber_38 (by decide) ?_
    exact x_zret rfl rfl (zBo_nar (by decide)) ⟨(Nat.le_of_ble_eq_true rfl), (Nat.le_of_ble_eq_true rfl)⟩ dX12_takesNumber_39
  · refine x_aload_n dX12_takesNumber_15 rfl ?_
    refine y_getI fl_RX12_183 hz_201 dX12_takesNumber_16 ?_
    refine x_iconst (v := 3) dX12_takesNumber_19 (by decide) ?_
    refine x_icmp_eq (tgt := 38) dX12_takesNumber_20 (by decide) (fun hc4 => ?_) (fun hc4 => ?_)
    · refine x_iconst (v := 0) dX12_takesNumber_38 (by decide) ?_
      exact x_zret rfl rfl (zBo_nar (by decide)) ⟨(Nat.le_of_ble_eq_true rfl), (Nat.le_of_ble_eq_true rfl)⟩ dX12_takesNumber_39
    · refine x_bipush (v := 10) dX12_takesNumber_23 (by decide) ?_
      refine x_aload_n dX12_takesNumber_25 rfl ?_
      refine y_getI fl_RX12_180 hz_201 dX12_takesNumber_26 ?_
      refine x_imul dX12_takesNumber_29 ?_
      refine x_iload_n dX12_takesNumber_30 rfl ?_
      refine x_iadd dX12_takesNumber_31 ?_
      refine x_sipush (v := 366) dX12_takesNumber_32 (by decide) ?_
      refine x_icmp_le (tgt := 40) dX12_takesNumber_35 (by decide) (fun hc5 => ?_) (fun hc5 => ?_)
      · refine x_aload_n dX12_takesNumber_40 rfl ?_
        refine x_bipush (v := 10) dX12_takesNumber_41 (by decide) ?_
        refine x_aload_n dX12_takesNumber_43 rfl ?_
        refine y_getI fl_RX12_180 hz_201 dX12_takesNumber_44 ?_
        refine x_imul dX12_takesNumber_47 ?_
        refine x_iload_n dX12_takesNumber_48 rfl ?_
        refine x_iadd dX12_takesNumber_49 ?_
        refine y_putI fp_RX12_180 hz_201 dX12_takesNumber_50 ?_
        refine y_letM (fun m6 => ?_)
        refine x_aload_n dX12_takesNumber_53 rfl ?_
        refine x_dup dX12_takesNumber_54 rfl ?_
        refine y_getI fl_RX12_183 hz_201 dX12_takesNumber_55 ?_
        refine x_iconst (v := 1) dX12_takesNumber_58 (by decide) ?_
        refine x_iadd dX12_takesNumber_59 ?_
        refine y_putI fp_RX12_183 hz_201 dX12_takesNumber_60 ?_
        refine y_letM (fun m7 => ?_)
        refine x_iconst (v := 1) dX12_takesNumber_63 (by decide) ?_
        exact x_zret rfl rfl (zBo_nar (by decide)) ⟨(Nat.le_of_ble_eq_true rfl), (Nat.le_of_ble_eq_true rfl)⟩ dX12_takesNumber_64
      · refine x_iconst (v := 0) dX12_takesNumber_38 (by decide) ?_
        exact x_zret rfl rfl (zBo_nar (by decide)) ⟨(Nat.le_of_ble_eq_true rfl), (Nat.le_of_ble_eq_true rfl)⟩ dX12_takesNumber_39
abbrev kk_Mod_takes : Kx := (yX12_takes.cls, cX12_takes, 4, (some .boolean), [], false)
set_option maxHeartbeats 4000000 in
set_option maxRecDepth 100000 in
theorem c_Mod_takes (ω : Wd) (p1 : Int32) (m : Mm) : Ev ω true 5 0 0 yX12_takes cX12_takes 4 (some .boolean) [.ref (zad ω 201), .int p1] m fI (f_Mod_takes p1 m) := by
  refine Ev.of (b := false) (ls := [some (.ref (zad ω 201)), some (.int p1), none, none]) (plainFor_of_name (by decide +kernel)) (fun h => by cases h) rfl (Nat.le_of_ble_eq_true rfl) rfl ?_
  change Sx ω true 5 0 0 kk_Mod_takes fI 0 0 m 0 _ _ _
  unfold f_Mod_takes
  refine x_aload_n dX12_takes_0 rfl ?_
  refine x_iload_n dX12_takes_1 rfl ?_
  refine y_callVV (rest := []) (c1 := 0) (s1 := 0) (c_Mod_leaves ω p1 m) mv_RX12_195 hz_201 rfl (Nat.le_of_ble_eq_true rfl) (Nat.le_of_ble_eq_true rfl) (Nat.le_of_ble_eq_true rfl) ⟨rfl, rfl⟩ ⟨(Nat.le_of_ble_eq_true rfl), (Nat.le_of_ble_eq_true rfl)⟩ dX12_takes_2 (fun m1 => ?_)
  refine x_aload_n dX12_takes_5 rfl ?_
  refine y_getI fl_RX12_139 hz_201 dX12_takes_6 ?_
  refine x_if_ne (tgt := 14) dX12_takes_9 (by decide) (fun hc2 => ?_) (fun hc2 => ?_)
  · refine x_iconst (v := 0) dX12_takes_12 (by decide) ?_
    exact x_zret rfl rfl (zBo_nar (by decide)) ⟨(Nat.le_of_ble_eq_true rfl), (Nat.le_of_ble_eq_true rfl)⟩ dX12_takes_13
  · refine x_aload_n dX12_takes_14 rfl ?_
    refine y_getF fl_RX12_13 hz_201 hq_201_4 (by rw [hz_203]; decide) dX12_takes_15 ?_
    refine x_aload_n dX12_takes_18 rfl ?_
    refine y_getI fl_RX12_139 hz_201 dX12_takes_19 ?_
    refine x_iconst (v := 1) dX12_takes_22 (by decide) ?_
    refine x_isub dX12_takes_23 ?_
    refine y_iald hz_203 hn_203 dX12_takes_24 (fun hi => ?_)
    refine y_letI (fun x3 => ?_)
    refine x_istore_n (ls' := [some (.ref (zad ω 201)), some (.int p1), some (.int x3), none]) dX12_takes_25 (Nat.le_of_ble_eq_true rfl) rfl ?_
    refine x_iload_n dX12_takes_26 rfl ?_
    refine x_if_ne (tgt := 36) dX12_takes_27 (by decide) (fun hc4 => ?_) (fun hc4 => ?_)
    · refine x_aload_n dX12_takes_30 rfl ?_
      refine x_iload_n dX12_takes_31 rfl ?_
      refine y_callVI (rest := []) (c1 := 0) (s1 := 0) (c_Mod_takesStart ω p1 m1) mv_RX12_199 hz_201 rfl (Nat.le_of_ble_eq_true rfl) (Nat.le_of_ble_eq_true rfl) (Nat.le_of_ble_eq_true rfl) ⟨rfl, rfl⟩ ⟨(Nat.le_of_ble_eq_true rfl), (Nat.le_of_ble_eq_true rfl)⟩ dX12_takes_32 (fun v34 m33 => ?_)
      refine x_guard (fun hv => ?_)
      exact x_zret rfl rfl (zBo_nar hv) ⟨(Nat.le_of_ble_eq_true rfl), (Nat.le_of_ble_eq_true rfl)⟩ dX12_takes_35
    · refine x_iload_n dX12_takes_36 rfl ?_
      refine x_iconst (v := 1) dX12_takes_37 (by decide) ?_
      refine y_join (fun j6 => Sx ω true 5 0 0 kk_Mod_takes fI 0 0 m1 46 [some (.ref (zad ω 201)), some (.int p1), none, none] [] j6) ?_ (fun j6 hj6 => ?_)
      · refine x_aload_n dX12_takes_46 rfl ?_
        refine x_iload_n dX12_takes_47 rfl ?_
        refine y_callVI (rest := []) (c1 := 0) (s1 := 0) (c_Mod_takesStep ω p1 m1) mv_RX12_203 hz_201 rfl (Nat.le_of_ble_eq_true rfl) (Nat.le_of_ble_eq_true rfl) (Nat.le_of_ble_eq_true rfl) ⟨rfl, rfl⟩ ⟨(Nat.le_of_ble_eq_true rfl), (Nat.le_of_ble_eq_true rfl)⟩ dX12_takes_48 (fun v8 m7 => ?_)
        refine x_guard (fun hv => ?_)
        exact x_zret rfl rfl (zBo_nar hv) ⟨(Nat.le_of_ble_eq_true rfl), (Nat.le_of_ble_eq_true rfl)⟩ dX12_takes_51
      · refine x_icmp_eq (tgt := 46) dX12_takes_38 (by decide) (fun hc5 => ?_) (fun hc5 => ?_)
        · refine y_mask (bs := [true, true, false, false]) (ls' := [some (.ref (zad ω 201)), some (.int p1), none, none]) rfl ?_
          exact hj6
        · refine x_iload_n dX12_takes_41 rfl ?_
          refine x_iconst (v := 2) dX12_takes_42 (by decide) ?_
          refine x_icmp_ne (tgt := 52) dX12_takes_43 (by decide) (fun hc9 => ?_) (fun hc9 => ?_)
          · refine y_mask (bs := [true, true, false, false]) (ls' := [some (.ref (zad ω 201)), some (.int p1), none, none]) rfl ?_
            exact hj6
          · refine x_iload_n dX12_takes_52 rfl ?_
            refine x_iconst (v := 3) dX12_takes_53 (by decide) ?_
            refine x_icmp_ne (tgt := 63) dX12_takes_54 (by decide) (fun hc10 => ?_) (fun hc10 => ?_)
            · refine x_aload_n dX12_takes_57 rfl ?_
              refine x_iload_n dX12_takes_58 rfl ?_
              refine y_callVI (rest := []) (c1 := 0) (s1 := 0) (c_Mod_takesCondition ω p1 m1) mv_RX12_206 hz_201 rfl (Nat.le_of_ble_eq_true rfl) (Nat.le_of_ble_eq_true rfl) (Nat.le_of_ble_eq_true rfl) ⟨rfl, rfl⟩ ⟨(Nat.le_of_ble_eq_true rfl), (Nat.le_of_ble_eq_true rfl)⟩ dX12_takes_59 (fun v32 m31 => ?_)
              refine x_guard (fun hv => ?_)
              exact x_zret rfl rfl (zBo_nar hv) ⟨(Nat.le_of_ble_eq_true rfl), (Nat.le_of_ble_eq_true rfl)⟩ dX12_takes_62
            · refine x_iload_n dX12_takes_63 rfl ?_
              refine x_bipush (v := 20) dX12_takes_64 (by decide) ?_
              refine x_icmp_ne (tgt := 75) dX12_takes_66 (by decide) (fun hc11 => ?_) (fun hc11 => ?_)
              · refine x_aload_n dX12_takes_69 rfl ?_
                refine x_iload_n dX12_takes_70 rfl ?_
                refine y_callVI (rest := []) (c1 := 0) (s1 := 0) (c_Mod_takesAsk ω p1 m1) mv_RX12_209 hz_201 rfl (Nat.le_of_ble_eq_true rfl) (Nat.le_of_ble_eq_true rfl) (Nat.le_of_ble_eq_true rfl) ⟨rfl, rfl⟩ ⟨(Nat.le_of_ble_eq_true rfl), (Nat.le_of_ble_eq_true rfl)⟩ dX12_takes_71 (fun v30 m29 => ?_)
                refine x_guard (fun hv => ?_)
                exact x_zret rfl rfl (zBo_nar hv) ⟨(Nat.le_of_ble_eq_true rfl), (Nat.le_of_ble_eq_true rfl)⟩ dX12_takes_74
              · refine x_iload_n dX12_takes_75 rfl ?_
                refine x_bipush (v := 11) dX12_takes_76 (by decide) ?_
                refine x_icmp_ne (tgt := 87) dX12_takes_78 (by decide) (fun hc12 => ?_) (fun hc12 => ?_)
                · refine x_aload_n dX12_takes_81 rfl ?_
                  refine x_iload_n dX12_takes_82 rfl ?_
                  refine y_callVI (rest := []) (c1 := 0) (s1 := 0) (c_Mod_takesNumber ω p1 m1) mv_RX12_212 hz_201 rfl (Nat.le_of_ble_eq_true rfl) (Nat.le_of_ble_eq_true rfl) (Nat.le_of_ble_eq_true rfl) ⟨rfl, rfl⟩ ⟨(Nat.le_of_ble_eq_true rfl), (Nat.le_of_ble_eq_true rfl)⟩ dX12_takes_83 (fun v28 m27 => ?_)
                  refine x_guard (fun hv => ?_)
                  exact x_zret rfl rfl (zBo_nar hv) ⟨(Nat.le_of_ble_eq_true rfl), (Nat.le_of_ble_eq_true rfl)⟩ dX12_takes_86
                · refine x_iload_n dX12_takes_87 rfl ?_
                  refine x_bipush (v := 6) dX12_takes_88 (by decide) ?_
                  refine x_icmp_ne (tgt := 152) dX12_takes_90 (by decide) (fun hc13 => ?_) (fun hc13 => ?_)
                  · refine x_aload_n dX12_takes_93 rfl ?_
                    refine y_getF fl_RX12_20 hz_201 hq_201_7 (by rw [hz_205]; decide) dX12_takes_94 ?_
                    refine x_aload_n dX12_takes_97 rfl ?_
                    refine y_getI fl_RX12_145 hz_201 dX12_takes_98 ?_
                    refine x_iconst (v := 1) dX12_takes_101 (by decide) ?_
                    refine x_isub dX12_takes_102 ?_
                    refine y_iald hz_205 hn_205 dX12_takes_103 (fun hi => ?_)
                    refine y_letI (fun x21 => ?_)
                    refine x_istore_n (ls' := [some (.ref (zad ω 201)), some (.int p1), some (.int x3), some (.int x21)]) dX12_takes_104 (Nat.le_of_ble_eq_true rfl) rfl ?_
                    refine x_aload_n dX12_takes_105 rfl ?_
                    refine x_dup dX12_takes_106 rfl ?_
                    refine y_getI fl_RX12_145 hz_201 dX12_takes_107 ?_
                    refine x_iconst (v := 1) dX12_takes_110 (by decide) ?_
                    refine x_isub dX12_takes_111 ?_
                    refine y_putI fp_RX12_145 hz_201 dX12_takes_112 ?_
                    refine y_letM (fun m22 => ?_)
                    refine x_aload_n dX12_takes_115 rfl ?_
                    refine x_bipush (v := 18) dX12_takes_116 (by decide) ?_
                    refine y_callVV (rest := []) (c1 := 0) (s1 := 0) (c_Mod_jumps ω 18 m22) mv_RX12_189 hz_201 rfl (Nat.le_of_ble_eq_true rfl) (Nat.le_of_ble_eq_true rfl) (Nat.le_of_ble_eq_true rfl) ⟨rfl, rfl⟩ ⟨(Nat.le_of_ble_eq_true rfl), (Nat.le_of_ble_eq_true rfl)⟩ dX12_takes_118 (fun m23 => ?_)
                    refine x_aload_n dX12_takes_121 rfl ?_
                    refine y_getF fl_RX12_26 hz_201 hq_201_10 (by rw [hz_207]; decide) dX12_takes_122 ?_
                    refine x_iload_n dX12_takes_125 rfl ?_
                    refine x_aload_n dX12_takes_126 rfl ?_
                    refine y_getI fl_RX12_142 hz_201 dX12_takes_127 ?_
                    refine y_iast hz_207 hn_207 dX12_takes_130 (fun hi => ?_)
                    refine y_letM (fun m24 => ?_)
                    refine x_aload_n dX12_takes_131 rfl ?_
                    refine y_getF fl_RX12_13 hz_201 hq_201_4 (by rw [hz_203]; decide) dX12_takes_132 ?_
                    refine x_aload_n dX12_takes_135 rfl ?_
                    refine y_getI fl_RX12_139 hz_201 dX12_takes_136 ?_
                    refine x_iconst (v := 1) dX12_takes_139 (by decide) ?_
                    refine x_isub dX12_takes_140 ?_
                    refine x_bipush (v := 7) dX12_takes_141 (by decide) ?_
                    refine y_iast hz_203 hn_203 dX12_takes_143 (fun hi => ?_)
                    refine y_letM (fun m25 => ?_)
                    refine x_aload_n dX12_takes_144 rfl ?_
                    refine x_iconst (v := 2) dX12_takes_145 (by decide) ?_
                    refine x_iconst (v := 0) dX12_takes_146 (by decide) ?_
                    refine y_callVV (rest := []) (c1 := 0) (s1 := 0) (c_Mod_push ω 2 0 m25) mv_RX12_159 hz_201 rfl (Nat.le_of_ble_eq_true rfl) (Nat.le_of_ble_eq_true rfl) (Nat.le_of_ble_eq_true rfl) ⟨rfl, rfl⟩ ⟨(Nat.le_of_ble_eq_true rfl), (Nat.le_of_ble_eq_true rfl)⟩ dX12_takes_147 (fun m26 => ?_)
                    refine x_iconst (v := 1) dX12_takes_150 (by decide) ?_
                    exact x_zret rfl rfl (zBo_nar (by decide)) ⟨(Nat.le_of_ble_eq_true rfl), (Nat.le_of_ble_eq_true rfl)⟩ dX12_takes_151
                  · refine x_iload_n dX12_takes_152 rfl ?_
                    refine x_bipush (v := 12) dX12_takes_153 (by decide) ?_
                    refine y_join (fun j15 => Sx ω true 5 0 0 kk_Mod_takes fI 0 0 m1 173 [some (.ref (zad ω 201)), some (.int p1), some (.int x3), none] [] j15) ?_ (fun j15 hj15 => ?_)
                    · refine x_aload_n dX12_takes_173 rfl ?_
                      refine x_iload_n dX12_takes_174 rfl ?_
                      refine x_iload_n dX12_takes_175 rfl ?_
                      refine y_callVI (rest := []) (c1 := 0) (s1 := 0) (c_Mod_takesMark ω x3 p1 m1) mv_RX12_219 hz_201 rfl (Nat.le_of_ble_eq_true rfl) (Nat.le_of_ble_eq_true rfl) (Nat.le_of_ble_eq_true rfl) ⟨rfl, rfl⟩ ⟨(Nat.le_of_ble_eq_true rfl), (Nat.le_of_ble_eq_true rfl)⟩ dX12_takes_176 (fun v17 m16 => ?_)
                      refine x_guard (fun hv => ?_)
                      exact x_zret rfl rfl (zBo_nar hv) ⟨(Nat.le_of_ble_eq_true rfl), (Nat.le_of_ble_eq_true rfl)⟩ dX12_takes_179
                    · refine x_icmp_lt (tgt := 173) dX12_takes_155 (by decide) (fun hc14 => ?_) (fun hc14 => ?_)
                      · exact hj15
                      · refine x_iload_n dX12_takes_158 rfl ?_
                        refine x_bipush (v := 19) dX12_takes_159 (by decide) ?_
                        refine x_icmp_gt (tgt := 173) dX12_takes_161 (by decide) (fun hc18 => ?_) (fun hc18 => ?_)
                        · exact hj15
                        · refine x_aload_n dX12_takes_164 rfl ?_
                          refine x_iload_n dX12_takes_165 rfl ?_
                          refine x_iload_n dX12_takes_166 rfl ?_
                          refine y_callVI (rest := []) (c1 := 0) (s1 := 0) (c_Mod_takesDigit ω x3 p1 m1) mv_RX12_215 hz_201 rfl (Nat.le_of_ble_eq_true rfl) (Nat.le_of_ble_eq_true rfl) (Nat.le_of_ble_eq_true rfl) ⟨rfl, rfl⟩ ⟨(Nat.le_of_ble_eq_true rfl), (Nat.le_of_ble_eq_true rfl)⟩ dX12_takes_167 (fun v20 m19 => ?_)
                          refine x_goto (tgt := 179) dX12_takes_170 (by decide) ?_
                          refine x_guard (fun hv => ?_)
                          exact x_zret rfl rfl (zBo_nar hv) ⟨(Nat.le_of_ble_eq_true rfl), (Nat.le_of_ble_eq_true rfl)⟩ dX12_takes_179
