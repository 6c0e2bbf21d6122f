abbrev kk_Mod_pushDate : Kx := (yX12_pushDate.cls, cX12_pushDate, 1, none, [], false)
set_option maxHeartbeats 4000000 in
set_option maxRecDepth 100000 in
theorem c_Mod_pushDate (ω : Wd) (m : Mm) : Ev ω true 3 0 0 yX12_pushDate cX12_pushDate 1 none [.ref (zad ω 201)] m fV (f_Mod_pushDate m) := by
  refine Ev.of (b := false) (ls := [some (.ref (zad ω 201))]) (plainFor_of_name (by decide +kernel)) (fun h => by cases h) rfl (Nat.le_of_ble_eq_true rfl) rfl ?_
  change Sx ω true 3 0 0 kk_Mod_pushDate fV 0 0 m 0 _ _ _
  unfold f_Mod_pushDate
  refine x_aload_n dX12_pushDate_0 rfl ?_
  refine x_bipush (v := 15) dX12_pushDate_1 (by decide) ?_
  refine x_iconst (v := 0) dX12_pushDate_3 (by decide) ?_
  refine y_callVV (rest := []) (c1 := 0) (s1 := 0) (c_Mod_push ω 15 0 m) mv_RX12_159 hz_201 rfl (Nat.le_of_ble_eq_true rfl) (Nat.le_of_ble_eq_true rfl) (Nat.le_of_ble_eq_true rfl) ⟨rfl, rfl⟩ ⟨(Nat.le_of_ble_eq_true rfl), (Nat.le_of_ble_eq_true rfl)⟩ dX12_pushDate_4 (fun m1 => ?_)
  refine x_aload_n dX12_pushDate_7 rfl ?_
  refine x_bipush (v := 14) dX12_pushDate_8 (by decide) ?_
  refine x_iconst (v := 0) dX12_pushDate_10 (by decide) ?_
  refine y_callVV (rest := []) (c1 := 0) (s1 := 0) (c_Mod_push ω 14 0 m1) mv_RX12_159 hz_201 rfl (Nat.le_of_ble_eq_true rfl) (Nat.le_of_ble_eq_true rfl) (Nat.le_of_ble_eq_true rfl) ⟨rfl, rfl⟩ ⟨(Nat.le_of_ble_eq_true rfl), (Nat.le_of_ble_eq_true rfl)⟩ dX12_pushDate_11 (fun m2 => ?_)
  refine x_aload_n dX12_pushDate_14 rfl ?_
  refine y_callVV (rest := []) (c1 := 0) (s1 := 0) (c_Mod_pushMonth ω m2) mv_RX12_162 hz_201 rfl (Nat.le_of_ble_eq_true rfl) (Nat.le_of_ble_eq_true rfl) (Nat.le_of_ble_eq_true rfl) ⟨rfl, rfl⟩ ⟨(Nat.le_of_ble_eq_true rfl), (Nat.le_of_ble_eq_true rfl)⟩ dX12_pushDate_15 (fun m3 => ?_)
  exact x_vret rfl rfl ⟨(Nat.le_of_ble_eq_true rfl), (Nat.le_of_ble_eq_true rfl)⟩ dX12_pushDate_18
abbrev kk_Mod_acts : Kx := (yX12_acts.cls, cX12_acts, 1, none, [], false)
set_option maxHeartbeats 4000000 in
set_option maxRecDepth 100000 in
theorem c_Mod_acts (ω : Wd) (m : Mm) : Ev ω true 2 0 0 yX12_acts cX12_acts 1 none [.ref (zad ω 201)] m fV (f_Mod_acts m) := by
  refine Ev.of (b := false) (ls := [some (.ref (zad ω 201))]) (plainFor_of_name (by decide +kernel)) (fun h => by cases h) rfl (Nat.le_of_ble_eq_true rfl) rfl ?_
  change Sx ω true 2 0 0 kk_Mod_acts fV 0 0 m 0 _ _ _
  unfold f_Mod_acts
  refine x_aload_n dX12_acts_0 rfl ?_
  refine y_getI fl_RX12_139 hz_201 dX12_acts_1 ?_
  refine x_if_le (tgt := 58) dX12_acts_4 (by decide) (fun hc1 => ?_) (fun hc1 => ?_)
  · exact x_vret rfl rfl ⟨(Nat.le_of_ble_eq_true rfl), (Nat.le_of_ble_eq_true rfl)⟩ dX12_acts_58
  · refine x_aload_n dX12_acts_7 rfl ?_
    refine y_getF fl_RX12_13 hz_201 hq_201_4 (by rw [hz_203]; decide) dX12_acts_8 ?_
    refine x_aload_n dX12_acts_11 rfl ?_
    refine y_getI fl_RX12_139 hz_201 dX12_acts_12 ?_
    refine x_iconst (v := 1) dX12_acts_15 (by decide) ?_
    refine x_isub dX12_acts_16 ?_
    refine y_iald hz_203 hn_203 dX12_acts_17 (fun hi => ?_)
    refine x_bipush (v := 10) dX12_acts_18 (by decide) ?_
    refine x_icmp_ne (tgt := 58) dX12_acts_20 (by decide) (fun hc2 => ?_) (fun hc2 => ?_)
    · refine x_aload_n dX12_acts_23 rfl ?_
      refine x_dup dX12_acts_24 rfl ?_
      refine y_getI fl_RX12_139 hz_201 dX12_acts_25 ?_
      refine x_iconst (v := 1) dX12_acts_28 (by decide) ?_
      refine x_isub dX12_acts_29 ?_
      refine y_putI fp_RX12_139 hz_201 dX12_acts_30 ?_
      refine y_letM (fun m3 => ?_)
      refine x_aload_n dX12_acts_33 rfl ?_
      refine x_aload_n dX12_acts_34 rfl ?_
      refine y_getF fl_RX12_17 hz_201 hq_201_5 (by rw [hz_204]; decide) dX12_acts_35 ?_
      refine x_aload_n dX12_acts_38 rfl ?_
      refine y_getI fl_RX12_139 hz_201 dX12_acts_39 ?_
      refine y_iald hz_204 hn_204 dX12_acts_42 (fun hi => ?_)
      refine x_aload_n dX12_acts_43 rfl ?_
      refine y_getI fl_RX12_165 hz_201 dX12_acts_44 ?_
      refine y_callVV (rest := []) (c1 := 0) (s1 := 0) (c_Mod_emits ω (zI m3 204 (zIx (zI m3 201 6))) (zI m3 201 12) m3) mv_RX12_148 hz_201 rfl (Nat.le_of_ble_eq_true rfl) (Nat.le_of_ble_eq_true rfl) (Nat.le_of_ble_eq_true rfl) ⟨rfl, rfl⟩ ⟨(Nat.le_of_ble_eq_true rfl), (Nat.le_of_ble_eq_true rfl)⟩ dX12_acts_47 (fun m4 => ?_)
      refine x_aload_n dX12_acts_50 rfl ?_
      refine x_iconst (v := 0) dX12_acts_51 (by decide) ?_
      refine y_putI fp_RX12_165 hz_201 dX12_acts_52 ?_
      refine y_letM (fun m5 => ?_)
      refine x_goto (tgt := 0) dX12_acts_55 (by decide) ?_
      refine y_Lp0 [some (.ref (zad ω 201))] (fun r6 hr6 m7 => ?_) zFu _
      refine x_aload_n dX12_acts_0 rfl ?_
      refine y_getI fl_RX12_139 hz_201 dX12_acts_1 ?_
      refine x_if_le (tgt := 58) dX12_acts_4 (by decide) (fun hc8 => ?_) (fun hc8 => ?_)
      · exact x_vret rfl rfl ⟨(Nat.le_of_ble_eq_true rfl), (Nat.le_of_ble_eq_true rfl)⟩ dX12_acts_58
      · refine x_aload_n dX12_acts_7 rfl ?_
        refine y_getF fl_RX12_13 hz_201 hq_201_4 (by rw [hz_203]; decide) dX12_acts_8 ?_
        refine x_aload_n dX12_acts_11 rfl ?_
        refine y_getI fl_RX12_139 hz_201 dX12_acts_12 ?_
        refine x_iconst (v := 1) dX12_acts_15 (by decide) ?_
        refine x_isub dX12_acts_16 ?_
        refine y_iald hz_203 hn_203 dX12_acts_17 (fun hi => ?_)
        refine x_bipush (v := 10) dX12_acts_18 (by decide) ?_
        refine x_icmp_ne (tgt := 58) dX12_acts_20 (by decide) (fun hc9 => ?_) (fun hc9 => ?_)
        · refine x_aload_n dX12_acts_23 rfl ?_
          refine x_dup dX12_acts_24 rfl ?_
          refine y_getI fl_RX12_139 hz_201 dX12_acts_25 ?_
          refine x_iconst (v := 1) dX12_acts_28 (by decide) ?_
          refine x_isub dX12_acts_29 ?_
          refine y_putI fp_RX12_139 hz_201 dX12_acts_30 ?_
          refine y_letM (fun m10 => ?_)
          refine x_aload_n dX12_acts_33 rfl ?_
          refine x_aload_n dX12_acts_34 rfl ?_
          refine y_getF fl_RX12_17 hz_201 hq_201_5 (by rw [hz_204]; decide) dX12_acts_35 ?_
          refine x_aload_n dX12_acts_38 rfl ?_
          refine y_getI fl_RX12_139 hz_201 dX12_acts_39 ?_
          refine y_iald hz_204 hn_204 dX12_acts_42 (fun hi => ?_)
          refine x_aload_n dX12_acts_43 rfl ?_
          refine y_getI fl_RX12_165 hz_201 dX12_acts_44 ?_
          refine y_callVV (rest := []) (c1 := 0) (s1 := 0) (c_Mod_emits ω (zI m10 204 (zIx (zI m10 201 6))) (zI m10 201 12) m10) mv_RX12_148 hz_201 rfl (Nat.le_of_ble_eq_true rfl) (Nat.le_of_ble_eq_true rfl) (Nat.le_of_ble_eq_true rfl) ⟨rfl, rfl⟩ ⟨(Nat.le_of_ble_eq_true rfl), (Nat.le_of_ble_eq_true rfl)⟩ dX12_acts_47 (fun m11 => ?_)
          refine x_aload_n dX12_acts_50 rfl ?_
          refine x_iconst (v := 0) dX12_acts_51 (by decide) ?_
          refine y_putI fp_RX12_165 hz_201 dX12_acts_52 ?_
          refine y_letM (fun m12 => ?_)
          refine x_goto (tgt := 0) dX12_acts_55 (by decide) ?_
          exact hr6 _
        · exact x_vret rfl rfl ⟨(Nat.le_of_ble_eq_true rfl), (Nat.le_of_ble_eq_true rfl)⟩ dX12_acts_58
    · exact x_vret rfl rfl ⟨(Nat.le_of_ble_eq_true rfl), (Nat.le_of_ble_eq_true rfl)⟩ dX12_acts_58
abbrev kk_Mod_takesDigit : Kx := (yX12_takesDigit.cls, cX12_takesDigit, 6, (some .boolean), [], false)
set_option maxHeartbeats 4000000 in
set_option maxRecDepth 100000 in
theorem c_Mod_takesDigit (ω : Wd) (p1 : Int32) (p2 : Int32) (m : Mm) : Ev ω true 2 0 0 yX12_takesDigit cX12_takesDigit 6 (some .boolean) [.ref (zad ω 201), .int p1, .int p2] m fI (f_Mod_takesDigit p1 p2 m) := by
  refine Ev.of (b := false) (ls := [some (.ref (zad ω 201)), some (.int p1), some (.int p2), none, none, none]) (plainFor_of_name (by decide +kernel)) (fun h => by cases h) rfl (Nat.le_of_ble_eq_true rfl) rfl ?_
  change Sx ω true 2 0 0 kk_Mod_takesDigit fI 0 0 m 0 _ _ _
  unfold f_Mod_takesDigit
  refine x_iload_n dX12_takesDigit_0 rfl ?_
  refine x_bipush (v := 48) dX12_takesDigit_1 (by decide) ?_
  refine x_isub dX12_takesDigit_3 ?_
  refine y_letI (fun x1 => ?_)
  refine x_istore_n (ls' := [some (.ref (zad ω 201)), some (.int p1), some (.int p2), some (.int x1), none, none]) dX12_takesDigit_4 (Nat.le_of_ble_eq_true rfl) rfl ?_
  refine x_aload_n dX12_takesDigit_5 rfl ?_
  refine y_getI fl_RX12_168 hz_201 dX12_takesDigit_6 ?_
  refine y_join (fun j4 => ∀ (x3 : Int32), Sx ω true 2 0 0 kk_Mod_takesDigit fI 0 0 m 20 [some (.ref (zad ω 201)), some (.int p1), none, some (.int x1), none, none] [.int x3] (j4 x3)) ?_ (fun j4 hj4 => ?_)
  · intro x3
    refine x_iconst (v := 1) dX12_takesDigit_20 (by decide) ?_
    refine y_callSP (rest := []) (c1 := 0) (s1 := 0) (c_Mod_lengthOfMonth ω x3 1 m) ms_RX12_101 rfl (Nat.le_of_ble_eq_true rfl) (Nat.le_of_ble_eq_true rfl) (Nat.le_of_ble_eq_true rfl) ⟨rfl, rfl⟩ ⟨(Nat.le_of_ble_eq_true rfl), (Nat.le_of_ble_eq_true rfl)⟩ dX12_takesDigit_21 (fun v5 => ?_)
    refine x_istore (ls' := [some (.ref (zad ω 201)), some (.int p1), none, some (.int x1), some (.int v5), none]) dX12_takesDigit_24 (Nat.le_of_ble_eq_true rfl) rfl ?_
    refine x_iload_n dX12_takesDigit_26 rfl ?_
    refine x_iconst (v := 0) dX12_takesDigit_27 (by decide) ?_
    refine x_bipush (v := 9) dX12_takesDigit_28 (by decide) ?_
    refine y_callSP (rest := []) (c1 := 0) (s1 := 0) (c_Mod_isIn ω x1 0 9 m) ms_RX12_115 rfl (Nat.le_of_ble_eq_true rfl) (Nat.le_of_ble_eq_true rfl) (Nat.le_of_ble_eq_true rfl) ⟨rfl, rfl⟩ ⟨(Nat.le_of_ble_eq_true rfl), (Nat.le_of_ble_eq_true rfl)⟩ dX12_takesDigit_30 (fun v6 => ?_)
    refine x_istore (ls' := [some (.ref (zad ω 201)), some (.int p1), none, some (.int x1), some (.int v5), some (.int v6)]) dX12_takesDigit_33 (Nat.le_of_ble_eq_true rfl) rfl ?_
    refine x_iload_n dX12_takesDigit_35 rfl ?_
    refine x_bipush (v := 12) dX12_takesDigit_36 (by decide) ?_
    refine y_join (fun j9 => ∀ (x8 : Int32), Sx ω true 2 0 0 kk_Mod_takesDigit fI 0 0 m 259 [some (.ref (zad ω 201)), some (.int p1), none, some (.int x1), none, some (.int x8)] [] (j9 x8)) ?_ (fun j9 hj9 => ?_)
    · intro x8
      refine x_iload dX12_takesDigit_259 rfl ?_
      refine x_if_eq (tgt := 318) dX12_takesDigit_261 (by decide) (fun hc10 => ?_) (fun hc10 => ?_)
      · refine x_iload dX12_takesDigit_318 rfl ?_
        refine x_guard (fun hv => ?_)
        exact x_zret rfl rfl (zBo_nar hv) ⟨(Nat.le_of_ble_eq_true rfl), (Nat.le_of_ble_eq_true rfl)⟩ dX12_takesDigit_320
      · refine x_aload_n dX12_takesDigit_264 rfl ?_
        refine x_iload_n dX12_takesDigit_265 rfl ?_
        refine x_bipush (v := 13) dX12_takesDigit_266 (by decide) ?_
        refine y_join (fun j13 => ∀ (x12 : Int32), Sx ω true 2 0 0 kk_Mod_takesDigit fI 0 0 m 287 [some (.ref (zad ω 201)), none, none, some (.int x1), none, some (.int x8)] [.int x12, .ref (zad ω 201)] (j13 x12)) ?_ (fun j13 hj13 => ?_)
        · intro x12
          refine y_putI fp_RX12_168 hz_201 dX12_takesDigit_287 ?_
          refine y_letM (fun m14 => ?_)
          refine x_aload_n dX12_takesDigit_290 rfl ?_
          refine x_iload_n dX12_takesDigit_291 rfl ?_
          refine y_putI fp_RX12_171 hz_201 dX12_takesDigit_292 ?_
          refine y_letM (fun m15 => ?_)
          refine x_aload_n dX12_takesDigit_295 rfl ?_
          refine x_bipush (v := 10) dX12_takesDigit_296 (by decide) ?_
          refine x_aload_n dX12_takesDigit_298 rfl ?_
          refine y_getI fl_RX12_165 hz_201 dX12_takesDigit_299 ?_
          refine x_imul dX12_takesDigit_302 ?_
          refine x_iload_n dX12_takesDigit_303 rfl ?_
          refine x_iadd dX12_takesDigit_304 ?_
          refine y_putI fp_RX12_165 hz_201 dX12_takesDigit_305 ?_
          refine y_letM (fun m16 => ?_)
          refine x_aload_n dX12_takesDigit_308 rfl ?_
          refine x_dup dX12_takesDigit_309 rfl ?_
          refine y_getI fl_RX12_139 hz_201 dX12_takesDigit_310 ?_
          refine x_iconst (v := 1) dX12_takesDigit_313 (by decide) ?_
          refine x_isub dX12_takesDigit_314 ?_
          refine y_putI fp_RX12_139 hz_201 dX12_takesDigit_315 ?_
          refine y_letM (fun m17 => ?_)
          refine x_iload dX12_takesDigit_318 rfl ?_
          refine x_guard (fun hv => ?_)
          exact x_zret rfl rfl (zBo_nar hv) ⟨(Nat.le_of_ble_eq_true rfl), (Nat.le_of_ble_eq_true rfl)⟩ dX12_takesDigit_320
        · refine x_icmp_ne (tgt := 283) dX12_takesDigit_268 (by decide) (fun hc11 => ?_) (fun hc11 => ?_)
          · refine x_bipush (v := 10) dX12_takesDigit_271 (by decide) ?_
            refine x_aload_n dX12_takesDigit_273 rfl ?_
            refine y_getI fl_RX12_171 hz_201 dX12_takesDigit_274 ?_
            refine x_imul dX12_takesDigit_277 ?_
            refine x_iload_n dX12_takesDigit_278 rfl ?_
            refine x_iadd dX12_takesDigit_279 ?_
            refine x_goto (tgt := 287) dX12_takesDigit_280 (by decide) ?_
            refine y_mask (bs := [true, false, false, true, false, true]) (ls' := [some (.ref (zad ω 201)), none, none, some (.int x1), none, some (.int x8)]) rfl ?_
            exact hj13 _
          · refine x_aload_n dX12_takesDigit_283 rfl ?_
            refine y_getI fl_RX12_168 hz_201 dX12_takesDigit_284 ?_
            refine y_mask (bs := [true, false, false, true, false, true]) (ls' := [some (.ref (zad ω 201)), none, none, some (.int x1), none, some (.int x8)]) rfl ?_
            exact hj13 _
    · refine x_icmp_ne (tgt := 61) dX12_takesDigit_38 (by decide) (fun hc7 => ?_) (fun hc7 => ?_)
      · refine x_iload dX12_takesDigit_41 rfl ?_
        refine y_join (fun j61 => ∀ (x60 : Int32), Sx ω true 2 0 0 kk_Mod_takesDigit fI 0 0 m 56 [some (.ref (zad ω 201)), some (.int p1), none, some (.int x1), none, none] [.int x60] (j61 x60)) ?_ (fun j61 hj61 => ?_)
        · intro x60
          refine x_istore (ls' := [some (.ref (zad ω 201)), some (.int p1), none, some (.int x1), none, some (.int x60)]) dX12_takesDigit_56 (Nat.le_of_ble_eq_true rfl) rfl ?_
          refine x_goto (tgt := 259) dX12_takesDigit_58 (by decide) ?_
          exact hj9 _
        · refine y_join (fun j62 => Sx ω true 2 0 0 kk_Mod_takesDigit fI 0 0 m 55 [some (.ref (zad ω 201)), some (.int p1), none, some (.int x1), none, none] [] j62) ?_ (fun j62 hj62 => ?_)
          · refine x_iconst (v := 0) dX12_takesDigit_55 (by decide) ?_
            exact hj61 _
          · refine x_if_eq (tgt := 55) dX12_takesDigit_43 (by decide) (fun hc59 => ?_) (fun hc59 => ?_)
            · refine y_mask (bs := [true, true, false, true, false, false]) (ls' := [some (.ref (zad ω 201)), some (.int p1), none, some (.int x1), none, none]) rfl ?_
              exact hj62
            · refine x_iload_n dX12_takesDigit_46 rfl ?_
              refine x_iconst (v := 1) dX12_takesDigit_47 (by decide) ?_
              refine x_icmp_gt (tgt := 55) dX12_takesDigit_48 (by decide) (fun hc63 => ?_) (fun hc63 => ?_)
              · refine y_mask (bs := [true, true, false, true, false, false]) (ls' := [some (.ref (zad ω 201)), some (.int p1), none, some (.int x1), none, none]) rfl ?_
                exact hj62
              · refine x_iconst (v := 1) dX12_takesDigit_51 (by decide) ?_
                refine x_goto (tgt := 56) dX12_takesDigit_52 (by decide) ?_
                refine y_mask (bs := [true, true, false, true, false, false]) (ls' := [some (.ref (zad ω 201)), some (.int p1), none, some (.int x1), none, none]) rfl ?_
                exact hj61 _
      · refine x_iload_n dX12_takesDigit_61 rfl ?_
        refine x_bipush (v := 13) dX12_takesDigit_62 (by decide) ?_
        refine x_icmp_ne (tgt := 101) dX12_takesDigit_64 (by decide) (fun hc18 => ?_) (fun hc18 => ?_)
        · refine x_iload dX12_takesDigit_67 rfl ?_
          refine y_join (fun j53 => ∀ (x52 : Int32), Sx ω true 2 0 0 kk_Mod_takesDigit fI 0 0 m 96 [some (.ref (zad ω 201)), some (.int p1), none, some (.int x1), none, none] [.int x52] (j53 x52)) ?_ (fun j53 hj53 => ?_)
          · intro x52
            refine x_istore (ls' := [some (.ref (zad ω 201)), some (.int p1), none, some (.int x1), none, some (.int x52)]) dX12_takesDigit_96 (Nat.le_of_ble_eq_true rfl) rfl ?_
            refine x_goto (tgt := 259) dX12_takesDigit_98 (by decide) ?_
            exact hj9 _
          · refine y_join (fun j54 => Sx ω true 2 0 0 kk_Mod_takesDigit fI 0 0 m 95 [some (.ref (zad ω 201)), some (.int p1), none, some (.int x1), none, none] [] j54) ?_ (fun j54 hj54 => ?_)
            · refine x_iconst (v := 0) dX12_takesDigit_95 (by decide) ?_
              exact hj53 _
            · refine x_if_eq (tgt := 95) dX12_takesDigit_69 (by decide) (fun hc51 => ?_) (fun hc51 => ?_)
              · refine y_mask (bs := [true, true, false, true, false, false]) (ls' := [some (.ref (zad ω 201)), some (.int p1), none, some (.int x1), none, none]) rfl ?_
                exact hj54
              · refine x_aload_n dX12_takesDigit_72 rfl ?_
                refine y_getI fl_RX12_171 hz_201 dX12_takesDigit_73 ?_
                refine y_join (fun j56 => Sx ω true 2 0 0 kk_Mod_takesDigit fI 0 0 m 91 [some (.ref (zad ω 201)), some (.int p1), none, some (.int x1), none, none] [] j56) ?_ (fun j56 hj56 => ?_)
                · refine x_iconst (v := 1) dX12_takesDigit_91 (by decide) ?_
                  refine x_goto (tgt := 96) dX12_takesDigit_92 (by decide) ?_
                  exact hj53 _
                · refine x_if_ne (tgt := 86) dX12_takesDigit_76 (by decide) (fun hc55 => ?_) (fun hc55 => ?_)
                  · refine x_iload_n dX12_takesDigit_79 rfl ?_
                    refine x_if_le (tgt := 95) dX12_takesDigit_80 (by decide) (fun hc58 => ?_) (fun hc58 => ?_)
                    · refine y_mask (bs := [true, true, false, true, false, false]) (ls' := [some (.ref (zad ω 201)), some (.int p1), none, some (.int x1), none, none]) rfl ?_
                      exact hj54
                    · refine x_goto (tgt := 91) dX12_takesDigit_83 (by decide) ?_
                      refine y_mask (bs := [true, true, false, true, false, false]) (ls' := [some (.ref (zad ω 201)), some (.int p1), none, some (.int x1), none, none]) rfl ?_
                      exact hj56
                  · refine x_iload_n dX12_takesDigit_86 rfl ?_
                    refine x_iconst (v := 2) dX12_takesDigit_87 (by decide) ?_
                    refine x_icmp_gt (tgt := 95) dX12_takesDigit_88 (by decide) (fun hc57 => ?_) (fun hc57 => ?_)
                    · refine y_mask (bs := [true, true, false, true, false, false]) (ls' := [some (.ref (zad ω 201)), some (.int p1), none, some (.int x1), none, none]) rfl ?_
                      exact hj54
                    · refine y_mask (bs := [true, true, false, true, false, false]) (ls' := [some (.ref (zad ω 201)), some (.int p1), none, some (.int x1), none, none]) rfl ?_
                      exact hj56
        · refine x_iload_n dX12_takesDigit_101 rfl ?_
          refine x_bipush (v := 14) dX12_takesDigit_102 (by decide) ?_
          refine x_icmp_ne (tgt := 131) dX12_takesDigit_104 (by decide) (fun hc19 => ?_) (fun hc19 => ?_)
          · refine x_iload dX12_takesDigit_107 rfl ?_
            refine y_join (fun j48 => ∀ (x47 : Int32), Sx ω true 2 0 0 kk_Mod_takesDigit fI 0 0 m 126 [some (.ref (zad ω 201)), some (.int p1), none, some (.int x1), none, none] [.int x47] (j48 x47)) ?_ (fun j48 hj48 => ?_)
            · intro x47
              refine x_istore (ls' := [some (.ref (zad ω 201)), some (.int p1), none, some (.int x1), none, some (.int x47)]) dX12_takesDigit_126 (Nat.le_of_ble_eq_true rfl) rfl ?_
              refine x_goto (tgt := 259) dX12_takesDigit_128 (by decide) ?_
              exact hj9 _
            · refine y_join (fun j49 => Sx ω true 2 0 0 kk_Mod_takesDigit fI 0 0 m 125 [some (.ref (zad ω 201)), some (.int p1), none, some (.int x1), none, none] [] j49) ?_ (fun j49 hj49 => ?_)
              · refine x_iconst (v := 0) dX12_takesDigit_125 (by decide) ?_
                exact hj48 _
              · refine x_if_eq (tgt := 125) dX12_takesDigit_109 (by decide) (fun hc46 => ?_) (fun hc46 => ?_)
                · refine y_mask (bs := [true, true, false, true, false, false]) (ls' := [some (.ref (zad ω 201)), some (.int p1), none, some (.int x1), none, none]) rfl ?_
                  exact hj49
                · refine x_iload_n dX12_takesDigit_112 rfl ?_
                  refine x_iload dX12_takesDigit_113 rfl ?_
                  refine x_bipush (v := 10) dX12_takesDigit_115 (by decide) ?_
                  refine x_idiv dX12_takesDigit_117 (by decide) ?_
                  refine x_icmp_gt (tgt := 125) dX12_takesDigit_118 (by decide) (fun hc50 => ?_) (fun hc50 => ?_)
                  · refine y_mask (bs := [true, true, false, true, false, false]) (ls' := [some (.ref (zad ω 201)), some (.int p1), none, some (.int x1), none, none]) rfl ?_
                    exact hj49
                  · refine x_iconst (v := 1) dX12_takesDigit_121 (by decide) ?_
                    refine x_goto (tgt := 126) dX12_takesDigit_122 (by decide) ?_
                    refine y_mask (bs := [true, true, false, true, false, false]) (ls' := [some (.ref (zad ω 201)), some (.int p1), none, some (.int x1), none, none]) rfl ?_
                    exact hj48 _
          · refine x_iload_n dX12_takesDigit_131 rfl ?_
            refine x_bipush (v := 15) dX12_takesDigit_132 (by decide) ?_
            refine x_icmp_ne (tgt := 179) dX12_takesDigit_134 (by decide) (fun hc20 => ?_) (fun hc20 => ?_)
            · refine x_iload dX12_takesDigit_137 rfl ?_
              refine y_join (fun j42 => ∀ (x41 : Int32), Sx ω true 2 0 0 kk_Mod_takesDigit fI 0 0 m 174 [some (.ref (zad ω 201)), some (.int p1), none, some (.int x1), none, none] [.int x41] (j42 x41)) ?_ (fun j42 hj42 => ?_)
              · intro x41
                refine x_istore (ls' := [some (.ref (zad ω 201)), some (.int p1), none, some (.int x1), none, some (.int x41)]) dX12_takesDigit_174 (Nat.le_of_ble_eq_true rfl) rfl ?_
                refine x_goto (tgt := 259) dX12_takesDigit_176 (by decide) ?_
                exact hj9 _
              · refine y_join (fun j43 => Sx ω true 2 0 0 kk_Mod_takesDigit fI 0 0 m 173 [some (.ref (zad ω 201)), some (.int p1), none, some (.int x1), none, none] [] j43) ?_ (fun j43 hj43 => ?_)
                · refine x_iconst (v := 0) dX12_takesDigit_173 (by decide) ?_
                  exact hj42 _
                · refine x_if_eq (tgt := 173) dX12_takesDigit_139 (by decide) (fun hc40 => ?_) (fun hc40 => ?_)
                  · refine y_mask (bs := [true, true, false, true, false, false]) (ls' := [some (.ref (zad ω 201)), some (.int p1), none, some (.int x1), none, none]) rfl ?_
                    exact hj43
                  · refine x_bipush (v := 10) dX12_takesDigit_142 (by decide) ?_
                    refine x_aload_n dX12_takesDigit_144 rfl ?_
                    refine y_getI fl_RX12_171 hz_201 dX12_takesDigit_145 ?_
                    refine x_imul dX12_takesDigit_148 ?_
                    refine x_iload_n dX12_takesDigit_149 rfl ?_
                    refine x_iadd dX12_takesDigit_150 ?_
                    refine x_iconst (v := 1) dX12_takesDigit_151 (by decide) ?_
                    refine x_icmp_lt (tgt := 173) dX12_takesDigit_152 (by decide) (fun hc44 => ?_) (fun hc44 => ?_)
                    · refine y_mask (bs := [true, true, false, true, false, false]) (ls' := [some (.ref (zad ω 201)), some (.int p1), none, some (.int x1), none, none]) rfl ?_
                      exact hj43
                    · refine x_bipush (v := 10) dX12_takesDigit_155 (by decide) ?_
                      refine x_aload_n dX12_takesDigit_157 rfl ?_
                      refine y_getI fl_RX12_171 hz_201 dX12_takesDigit_158 ?_
                      refine x_imul dX12_takesDigit_161 ?_
                      refine x_iload_n dX12_takesDigit_162 rfl ?_
                      refine x_iadd dX12_takesDigit_163 ?_
                      refine x_iload dX12_takesDigit_164 rfl ?_
                      refine x_icmp_gt (tgt := 173) dX12_takesDigit_166 (by decide) (fun hc45 => ?_) (fun hc45 => ?_)
                      · refine y_mask (bs := [true, true, false, true, false, false]) (ls' := [some (.ref (zad ω 201)), some (.int p1), none, some (.int x1), none, none]) rfl ?_
                        exact hj43
                      · refine x_iconst (v := 1) dX12_takesDigit_169 (by decide) ?_
                        refine x_goto (tgt := 174) dX12_takesDigit_170 (by decide) ?_
                        refine y_mask (bs := [true, true, false, true, false, false]) (ls' := [some (.ref (zad ω 201)), some (.int p1), none, some (.int x1), none, none]) rfl ?_
                        exact hj42 _
            · refine x_iload_n dX12_takesDigit_179 rfl ?_
              refine x_bipush (v := 16) dX12_takesDigit_180 (by decide) ?_
              refine x_icmp_ne (tgt := 209) dX12_takesDigit_182 (by decide) (fun hc21 => ?_) (fun hc21 => ?_)
              · refine x_iload dX12_takesDigit_185 rfl ?_
                refine y_join (fun j36 => ∀ (x35 : Int32), Sx ω true 2 0 0 kk_Mod_takesDigit fI 0 0 m 204 [some (.ref (zad ω 201)), some (.int p1), none, some (.int x1), none, none] [.int x35] (j36 x35)) ?_ (fun j36 hj36 => ?_)
                · intro x35
                  refine x_istore (ls' := [some (.ref (zad ω 201)), some (.int p1), none, some (.int x1), none, some (.int x35)]) dX12_takesDigit_204 (Nat.le_of_ble_eq_true rfl) rfl ?_
                  refine x_goto (tgt := 259) dX12_takesDigit_206 (by decide) ?_
                  exact hj9 _
                · refine y_join (fun j37 => Sx ω true 2 0 0 kk_Mod_takesDigit fI 0 0 m 203 [some (.ref (zad ω 201)), some (.int p1), none, some (.int x1), none, none] [] j37) ?_ (fun j37 hj37 => ?_)
                  · refine x_iconst (v := 0) dX12_takesDigit_203 (by decide) ?_
                    exact hj36 _
                  · refine x_if_eq (tgt := 203) dX12_takesDigit_187 (by decide) (fun hc34 => ?_) (fun hc34 => ?_)
                    · refine y_mask (bs := [true, true, false, true, false, false]) (ls' := [some (.ref (zad ω 201)), some (.int p1), none, some (.int x1), none, none]) rfl ?_
                      exact hj37
                    · refine x_iload_n dX12_takesDigit_190 rfl ?_
                      refine x_iconst (v := 1) dX12_takesDigit_191 (by decide) ?_
                      refine x_iconst (v := 5) dX12_takesDigit_192 (by decide) ?_
                      refine y_callSP (rest := []) (c1 := 0) (s1 := 0) (c_Mod_isIn ω x1 1 5 m) ms_RX12_115 rfl (Nat.le_of_ble_eq_true rfl) (Nat.le_of_ble_eq_true rfl) (Nat.le_of_ble_eq_true rfl) ⟨rfl, rfl⟩ ⟨(Nat.le_of_ble_eq_true rfl), (Nat.le_of_ble_eq_true rfl)⟩ dX12_takesDigit_193 (fun v38 => ?_)
                      refine x_if_eq (tgt := 203) dX12_takesDigit_196 (by decide) (fun hc39 => ?_) (fun hc39 => ?_)
                      · refine y_mask (bs := [true, true, false, true, false, false]) (ls' := [some (.ref (zad ω 201)), some (.int p1), none, some (.int x1), none, none]) rfl ?_
                        exact hj37
                      · refine x_iconst (v := 1) dX12_takesDigit_199 (by decide) ?_
                        refine x_goto (tgt := 204) dX12_takesDigit_200 (by decide) ?_
                        refine y_mask (bs := [true, true, false, true, false, false]) (ls' := [some (.ref (zad ω 201)), some (.int p1), none, some (.int x1), none, none]) rfl ?_
                        exact hj36 _
              · refine x_iload_n dX12_takesDigit_209 rfl ?_
                refine x_bipush (v := 17) dX12_takesDigit_210 (by decide) ?_
                refine x_icmp_ne (tgt := 236) dX12_takesDigit_212 (by decide) (fun hc22 => ?_) (fun hc22 => ?_)
                · refine x_iload dX12_takesDigit_215 rfl ?_
                  refine y_join (fun j31 => ∀ (x30 : Int32), Sx ω true 2 0 0 kk_Mod_takesDigit fI 0 0 m 231 [some (.ref (zad ω 201)), some (.int p1), none, some (.int x1), none, none] [.int x30] (j31 x30)) ?_ (fun j31 hj31 => ?_)
                  · intro x30
                    refine x_istore (ls' := [some (.ref (zad ω 201)), some (.int p1), none, some (.int x1), none, some (.int x30)]) dX12_takesDigit_231 (Nat.le_of_ble_eq_true rfl) rfl ?_
                    refine x_goto (tgt := 259) dX12_takesDigit_233 (by decide) ?_
                    exact hj9 _
                  · refine y_join (fun j32 => Sx ω true 2 0 0 kk_Mod_takesDigit fI 0 0 m 230 [some (.ref (zad ω 201)), some (.int p1), none, some (.int x1), none, none] [] j32) ?_ (fun j32 hj32 => ?_)
                    · refine x_iconst (v := 0) dX12_takesDigit_230 (by decide) ?_
                      exact hj31 _
                    · refine x_if_eq (tgt := 230) dX12_takesDigit_217 (by decide) (fun hc29 => ?_) (fun hc29 => ?_)
                      · refine y_mask (bs := [true, true, false, true, false, false]) (ls' := [some (.ref (zad ω 201)), some (.int p1), none, some (.int x1), none, none]) rfl ?_
                        exact hj32
                      · refine x_iload_n dX12_takesDigit_220 rfl ?_
                        refine x_bipush (v := 6) dX12_takesDigit_221 (by decide) ?_
                        refine x_icmp_gt (tgt := 230) dX12_takesDigit_223 (by decide) (fun hc33 => ?_) (fun hc33 => ?_)
                        · refine y_mask (bs := [true, true, false, true, false, false]) (ls' := [some (.ref (zad ω 201)), some (.int p1), none, some (.int x1), none, none]) rfl ?_
                          exact hj32
                        · refine x_iconst (v := 1) dX12_takesDigit_226 (by decide) ?_
                          refine x_goto (tgt := 231) dX12_takesDigit_227 (by decide) ?_
                          refine y_mask (bs := [true, true, false, true, false, false]) (ls' := [some (.ref (zad ω 201)), some (.int p1), none, some (.int x1), none, none]) rfl ?_
                          exact hj31 _
                · refine x_iload_n dX12_takesDigit_236 rfl ?_
                  refine x_bipush (v := 18) dX12_takesDigit_237 (by decide) ?_
                  refine x_icmp_ne (tgt := 259) dX12_takesDigit_239 (by decide) (fun hc23 => ?_) (fun hc23 => ?_)
                  · refine x_iload dX12_takesDigit_242 rfl ?_
                    refine y_join (fun j26 => ∀ (x25 : Int32), Sx ω true 2 0 0 kk_Mod_takesDigit fI 0 0 m 257 [some (.ref (zad ω 201)), some (.int p1), none, some (.int x1), none, none] [.int x25] (j26 x25)) ?_ (fun j26 hj26 => ?_)
                    · intro x25
                      refine x_istore (ls' := [some (.ref (zad ω 201)), some (.int p1), none, some (.int x1), none, some (.int x25)]) dX12_takesDigit_257 (Nat.le_of_ble_eq_true rfl) rfl ?_
                      exact hj9 _
                    · refine y_join (fun j27 => Sx ω true 2 0 0 kk_Mod_takesDigit fI 0 0 m 256 [some (.ref (zad ω 201)), some (.int p1), none, some (.int x1), none, none] [] j27) ?_ (fun j27 hj27 => ?_)
                      · refine x_iconst (v := 0) dX12_takesDigit_256 (by decide) ?_
                        exact hj26 _
                      · refine x_if_eq (tgt := 256) dX12_takesDigit_244 (by decide) (fun hc24 => ?_) (fun hc24 => ?_)
                        · refine y_mask (bs := [true, true, false, true, false, false]) (ls' := [some (.ref (zad ω 201)), some (.int p1), none, some (.int x1), none, none]) rfl ?_
                          exact hj27
                        · refine x_iload_n dX12_takesDigit_247 rfl ?_
                          refine x_iconst (v := 1) dX12_takesDigit_248 (by decide) ?_
                          refine x_icmp_gt (tgt := 256) dX12_takesDigit_249 (by decide) (fun hc28 => ?_) (fun hc28 => ?_)
                          · refine y_mask (bs := [true, true, false, true, false, false]) (ls' := [some (.ref (zad ω 201)), some (.int p1), none, some (.int x1), none, none]) rfl ?_
                            exact hj27
                          · refine x_iconst (v := 1) dX12_takesDigit_252 (by decide) ?_
                            refine x_goto (tgt := 257) dX12_takesDigit_253 (by decide) ?_
                            refine y_mask (bs := [true, true, false, true, false, false]) (ls' := [some (.ref (zad ω 201)), some (.int p1), none, some (.int x1), none, none]) rfl ?_
                            exact hj26 _
                  · refine y_mask (bs := [true, true, false, true, false, true]) (ls' := [some (.ref (zad ω 201)), some (.int p1), none, some (.int x1), none, some (.int v6)]) rfl ?_
                    exact hj9 _
  · refine x_if_ne (tgt := 16) dX12_takesDigit_9 (by decide) (fun hc2 => ?_) (fun hc2 => ?_)
    · refine x_iconst (v := 1) dX12_takesDigit_12 (by decide) ?_
      refine x_goto (tgt := 20) dX12_takesDigit_13 (by decide) ?_
      refine y_mask (bs := [true, true, false, true, false, false]) (ls' := [some (.ref (zad ω 201)), some (.int p1), none, some (.int x1), none, none]) rfl ?_
      exact hj4 _
    · refine x_aload_n dX12_takesDigit_16 rfl ?_
      refine y_getI fl_RX12_168 hz_201 dX12_takesDigit_17 ?_
      refine y_mask (bs := [true, true, false, true, false, false]) (ls' := [some (.ref (zad ω 201)), some (.int p1), none, some (.int x1), none, none]) rfl ?_
      exact hj4 _
abbrev kk_Mod_takesStart : Kx := (yX12_takesStart.cls, cX12_takesStart, 2, (some .boolean), [], false)
set_option maxHeartbeats 4000000 in
set_option maxRecDepth 100000 in
theorem c_Mod_takesStart (ω : Wd) (p1 : Int32) (m : Mm) : Ev ω true 4 0 0 yX12_takesStart cX12_takesStart 2 (some .boolean) [.ref (zad ω 201), .int p1] m fI (f_Mod_takesStart p1 m) := by
  refine Ev.of (b := false) (ls := [some (.ref (zad ω 201)), some (.int p1)]) (plainFor_of_name (by decide +kernel)) (fun h => by cases h) rfl (Nat.le_of_ble_eq_true rfl) rfl ?_
  change Sx ω true 4 0 0 kk_Mod_takesStart fI 0 0 m 0 _ _ _
  unfold f_Mod_takesStart
  refine x_aload_n dX12_takesStart_0 rfl ?_
  refine x_dup dX12_takesStart_1 rfl ?_
  refine y_getI fl_RX12_139 hz_201 dX12_takesStart_2 ?_
  refine x_iconst (v := 1) dX12_takesStart_5 (by decide) ?_
  refine x_isub dX12_takesStart_6 ?_
  refine y_putI fp_RX12_139 hz_201 dX12_takesStart_7 ?_
  refine y_letM (fun m1 => ?_)
  refine x_aload_n dX12_takesStart_10 rfl ?_
  refine x_iconst (v := 1) dX12_takesStart_11 (by decide) ?_
  refine x_iconst (v := 0) dX12_takesStart_12 (by decide) ?_
  refine y_callVV (rest := []) (c1 := 0) (s1 := 0) (c_Mod_push ω 1 0 m1) mv_RX12_159 hz_201 rfl (Nat.le_of_ble_eq_true rfl) (Nat.le_of_ble_eq_true rfl) (Nat.le_of_ble_eq_true rfl) ⟨rfl, rfl⟩ ⟨(Nat.le_of_ble_eq_true rfl), (Nat.le_of_ble_eq_true rfl)⟩ dX12_takesStart_13 (fun m2 => ?_)
  refine x_iload_n dX12_takesStart_16 rfl ?_
  refine x_bipush (v := 68) dX12_takesStart_17 (by decide) ?_
  refine x_icmp_ne (tgt := 36) dX12_takesStart_19 (by decide) (fun hc3 => ?_) (fun hc3 => ?_)
  · refine x_aload_n dX12_takesStart_22 rfl ?_
    refine x_bipush (v := 10) dX12_takesStart_23 (by decide) ?_
    refine x_iconst (v := 1) dX12_takesStart_25 (by decide) ?_
    refine y_callVV (rest := []) (c1 := 0) (s1 := 0) (c_Mod_push ω 10 1 m2) mv_RX12_159 hz_201 rfl (Nat.le_of_ble_eq_true rfl) (Nat.le_of_ble_eq_true rfl) (Nat.le_of_ble_eq_true rfl) ⟨rfl, rfl⟩ ⟨(Nat.le_of_ble_eq_true rfl), (Nat.le_of_ble_eq_true rfl)⟩ dX12_takesStart_26 (fun m16 => ?_)
    refine x_aload_n dX12_takesStart_29 rfl ?_
    refine y_callVV (rest := []) (c1 := 0) (s1 := 0) (c_Mod_pushDate ω m16) mv_RX12_174 hz_201 rfl (Nat.le_of_ble_eq_true rfl) (Nat.le_of_ble_eq_true rfl) (Nat.le_of_ble_eq_true rfl) ⟨rfl, rfl⟩ ⟨(Nat.le_of_ble_eq_true rfl), (Nat.le_of_ble_eq_true rfl)⟩ dX12_takesStart_30 (fun m17 => ?_)
    refine x_goto (tgt := 119) dX12_takesStart_33 (by decide) ?_
    refine x_iconst (v := 1) dX12_takesStart_119 (by decide) ?_
    exact x_zret rfl rfl (zBo_nar (by decide)) ⟨(Nat.le_of_ble_eq_true rfl), (Nat.le_of_ble_eq_true rfl)⟩ dX12_takesStart_120
  · refine x_iload_n dX12_takesStart_36 rfl ?_
    refine x_bipush (v := 78) dX12_takesStart_37 (by decide) ?_
    refine x_icmp_ne (tgt := 70) dX12_takesStart_39 (by decide) (fun hc4 => ?_) (fun hc4 => ?_)
    · refine x_aload_n dX12_takesStart_42 rfl ?_
      refine x_bipush (v := 10) dX12_takesStart_43 (by decide) ?_
      refine x_iconst (v := 2) dX12_takesStart_45 (by decide) ?_
      refine y_callVV (rest := []) (c1 := 0) (s1 := 0) (c_Mod_push ω 10 2 m2) mv_RX12_159 hz_201 rfl (Nat.le_of_ble_eq_true rfl) (Nat.le_of_ble_eq_true rfl) (Nat.le_of_ble_eq_true rfl) ⟨rfl, rfl⟩ ⟨(Nat.le_of_ble_eq_true rfl), (Nat.le_of_ble_eq_true rfl)⟩ dX12_takesStart_46 (fun m12 => ?_)
      refine x_aload_n dX12_takesStart_49 rfl ?_
      refine y_callVV (rest := []) (c1 := 0) (s1 := 0) (c_Mod_pushMonth ω m12) mv_RX12_162 hz_201 rfl (Nat.le_of_ble_eq_true rfl) (Nat.le_of_ble_eq_true rfl) (Nat.le_of_ble_eq_true rfl) ⟨rfl, rfl⟩ ⟨(Nat.le_of_ble_eq_true rfl), (Nat.le_of_ble_eq_true rfl)⟩ dX12_takesStart_50 (fun m13 => ?_)
      refine x_aload_n dX12_takesStart_53 rfl ?_
      refine x_bipush (v := 17) dX12_takesStart_54 (by decide) ?_
      refine x_iconst (v := 0) dX12_takesStart_56 (by decide) ?_
      refine y_callVV (rest := []) (c1 := 0) (s1 := 0) (c_Mod_push ω 17 0 m13) mv_RX12_159 hz_201 rfl (Nat.le_of_ble_eq_true rfl) (Nat.le_of_ble_eq_true rfl) (Nat.le_of_ble_eq_true rfl) ⟨rfl, rfl⟩ ⟨(Nat.le_of_ble_eq_true rfl), (Nat.le_of_ble_eq_true rfl)⟩ dX12_takesStart_57 (fun m14 => ?_)
      refine x_aload_n dX12_takesStart_60 rfl ?_
      refine x_bipush (v := 16) dX12_takesStart_61 (by decide) ?_
      refine x_iconst (v := 0) dX12_takesStart_63 (by decide) ?_
      refine y_callVV (rest := []) (c1 := 0) (s1 := 0) (c_Mod_push ω 16 0 m14) mv_RX12_159 hz_201 rfl (Nat.le_of_ble_eq_true rfl) (Nat.le_of_ble_eq_true rfl) (Nat.le_of_ble_eq_true rfl) ⟨rfl, rfl⟩ ⟨(Nat.le_of_ble_eq_true rfl), (Nat.le_of_ble_eq_true rfl)⟩ dX12_takesStart_64 (fun m15 => ?_)
      refine x_goto (tgt := 119) dX12_takesStart_67 (by decide) ?_
      refine x_iconst (v := 1) dX12_takesStart_119 (by decide) ?_
      exact x_zret rfl rfl (zBo_nar (by decide)) ⟨(Nat.le_of_ble_eq_true rfl), (Nat.le_of_ble_eq_true rfl)⟩ dX12_takesStart_120
    · refine x_iload_n dX12_takesStart_70 rfl ?_
      refine x_bipush (v := 76) dX12_takesStart_71 (by decide) ?_
      refine x_icmp_ne (tgt := 97) dX12_takesStart_73 (by decide) (fun hc5 => ?_) (fun hc5 => ?_)
      · refine x_aload_n dX12_takesStart_76 rfl ?_
        refine x_bipush (v := 10) dX12_takesStart_77 (by decide) ?_
        refine x_iconst (v := 3) dX12_takesStart_79 (by decide) ?_
        refine y_callVV (rest := []) (c1 := 0) (s1 := 0) (c_Mod_push ω 10 3 m2) mv_RX12_159 hz_201 rfl (Nat.le_of_ble_eq_true rfl) (Nat.le_of_ble_eq_true rfl) (Nat.le_of_ble_eq_true rfl) ⟨rfl, rfl⟩ ⟨(Nat.le_of_ble_eq_true rfl), (Nat.le_of_ble_eq_true rfl)⟩ dX12_takesStart_80 (fun m9 => ?_)
        refine x_aload_n dX12_takesStart_83 rfl ?_
        refine y_callVV (rest := []) (c1 := 0) (s1 := 0) (c_Mod_pushMonth ω m9) mv_RX12_162 hz_201 rfl (Nat.le_of_ble_eq_true rfl) (Nat.le_of_ble_eq_true rfl) (Nat.le_of_ble_eq_true rfl) ⟨rfl, rfl⟩ ⟨(Nat.le_of_ble_eq_true rfl), (Nat.le_of_ble_eq_true rfl)⟩ dX12_takesStart_84 (fun m10 => ?_)
        refine x_aload_n dX12_takesStart_87 rfl ?_
        refine x_bipush (v := 17) dX12_takesStart_88 (by decide) ?_
        refine x_iconst (v := 0) dX12_takesStart_90 (by decide) ?_
        refine y_callVV (rest := []) (c1 := 0) (s1 := 0) (c_Mod_push ω 17 0 m10) mv_RX12_159 hz_201 rfl (Nat.le_of_ble_eq_true rfl) (Nat.le_of_ble_eq_true rfl) (Nat.le_of_ble_eq_true rfl) ⟨rfl, rfl⟩ ⟨(Nat.le_of_ble_eq_true rfl), (Nat.le_of_ble_eq_true rfl)⟩ dX12_takesStart_91 (fun m11 => ?_)
        refine x_goto (tgt := 119) dX12_takesStart_94 (by decide) ?_
        refine x_iconst (v := 1) dX12_takesStart_119 (by decide) ?_
        exact x_zret rfl rfl (zBo_nar (by decide)) ⟨(Nat.le_of_ble_eq_true rfl), (Nat.le_of_ble_eq_true rfl)⟩ dX12_takesStart_120
      · refine x_iload_n dX12_takesStart_97 rfl ?_
        refine x_bipush (v := 70) dX12_takesStart_98 (by decide) ?_
        refine x_icmp_ne (tgt := 117) dX12_takesStart_100 (by decide) (fun hc6 => ?_) (fun hc6 => ?_)
        · refine x_aload_n dX12_takesStart_103 rfl ?_
          refine x_bipush (v := 10) dX12_takesStart_104 (by decide) ?_
          refine x_iconst (v := 4) dX12_takesStart_106 (by decide) ?_
          refine y_callVV (rest := []) (c1 := 0) (s1 := 0) (c_Mod_push ω 10 4 m2) mv_RX12_159 hz_201 rfl (Nat.le_of_ble_eq_true rfl) (Nat.le_of_ble_eq_true rfl) (Nat.le_of_ble_eq_true rfl) ⟨rfl, rfl⟩ ⟨(Nat.le_of_ble_eq_true rfl), (Nat.le_of_ble_eq_true rfl)⟩ dX12_takesStart_107 (fun m7 => ?_)
          refine x_aload_n dX12_takesStart_110 rfl ?_
          refine y_callVV (rest := []) (c1 := 0) (s1 := 0) (c_Mod_pushFeast ω m7) mv_RX12_177 hz_201 rfl (Nat.le_of_ble_eq_true rfl) (Nat.le_of_ble_eq_true rfl) (Nat.le_of_ble_eq_true rfl) ⟨rfl, rfl⟩ ⟨(Nat.le_of_ble_eq_true rfl), (Nat.le_of_ble_eq_true rfl)⟩ dX12_takesStart_111 (fun m8 => ?_)
          refine x_goto (tgt := 119) dX12_takesStart_114 (by decide) ?_
          refine x_iconst (v := 1) dX12_takesStart_119 (by decide) ?_
          exact x_zret rfl rfl (zBo_nar (by decide)) ⟨(Nat.le_of_ble_eq_true rfl), (Nat.le_of_ble_eq_true rfl)⟩ dX12_takesStart_120
        · refine x_iconst (v := 0) dX12_takesStart_117 (by decide) ?_
          exact x_zret rfl rfl (zBo_nar (by decide)) ⟨(Nat.le_of_ble_eq_true rfl), (Nat.le_of_ble_eq_true rfl)⟩ dX12_takesStart_118
abbrev kk_Mod_takesStep : Kx := (yX12_takesStep.cls, cX12_takesStep, 3, (some .boolean), [], false)
set_option maxHeartbeats 4000000 in
set_option maxRecDepth 100000 in
theorem c_Mod_takesStep (ω : Wd) (p1 : Int32) (m : Mm) : Ev ω true 3 0 0 yX12_takesStep cX12_takesStep 3 (some .boolean) [.ref (zad ω 201), .int p1] m fI (f_Mod_takesStep p1 m) := by
  refine Ev.of (b := false) (ls := [some (.ref (zad ω 201)), some (.int p1), none]) (plainFor_of_name (by decide +kernel)) (fun h => by cases h) rfl (Nat.le_of_ble_eq_true rfl) rfl ?_
  change Sx ω true 3 0 0 kk_Mod_takesStep fI 0 0 m 0 _ _ _
  unfold f_Mod_takesStep
  refine x_iload_n dX12_takesStep_0 rfl ?_
  refine x_bipush (v := 43) dX12_takesStep_1 (by decide) ?_
  refine y_join (fun j2 => Sx ω true 3 0 0 kk_Mod_takesStep fI 0 0 m 12 [some (.ref (zad ω 201)), some (.int p1), none] [] j2) ?_ (fun j2 hj2 => ?_)
  · refine x_aload_n dX12_takesStep_12 rfl ?_
    refine x_iconst (v := 1) dX12_takesStep_13 (by decide) ?_
    refine y_putZ fp_RX12_152 hz_201 (by decide) dX12_takesStep_14 ?_
    refine y_letM (fun m3 => ?_)
    refine x_aload_n dX12_takesStep_17 rfl ?_
    refine x_iconst (v := 0) dX12_takesStep_18 (by decide) ?_
    refine y_putI fp_RX12_180 hz_201 dX12_takesStep_19 ?_
    refine y_letM (fun m4 => ?_)
    refine x_aload_n dX12_takesStep_22 rfl ?_
    refine x_iconst (v := 0) dX12_takesStep_23 (by decide) ?_
    refine y_putI fp_RX12_183 hz_201 dX12_takesStep_24 ?_
    refine y_letM (fun m5 => ?_)
    refine x_aload_n dX12_takesStep_27 rfl ?_
    refine x_bipush (v := 11) dX12_takesStep_28 (by decide) ?_
    refine x_iload_n dX12_takesStep_30 rfl ?_
    refine x_bipush (v := 43) dX12_takesStep_31 (by decide) ?_
    refine y_join (fun j8 => ∀ (x7 : Int32), Sx ω true 3 0 0 kk_Mod_takesStep fI 0 0 m5 41 [none, none, none] [.int x7, .int 11, .ref (zad ω 201)] (j8 x7)) ?_ (fun j8 hj8 => ?_)
    · intro x7
      refine y_callVV (rest := []) (c1 := 0) (s1 := 0) (c_Mod_push ω 11 x7 m5) mv_RX12_159 hz_201 rfl (Nat.le_of_ble_eq_true rfl) (Nat.le_of_ble_eq_true rfl) (Nat.le_of_ble_eq_true rfl) ⟨rfl, rfl⟩ ⟨(Nat.le_of_ble_eq_true rfl), (Nat.le_of_ble_eq_true rfl)⟩ dX12_takesStep_41 (fun m9 => ?_)
      refine x_iconst (v := 1) dX12_takesStep_44 (by decide) ?_
      exact x_zret rfl rfl (zBo_nar (by decide)) ⟨(Nat.le_of_ble_eq_true rfl), (Nat.le_of_ble_eq_true rfl)⟩ dX12_takesStep_45
    · refine x_icmp_ne (tgt := 40) dX12_takesStep_33 (by decide) (fun hc6 => ?_) (fun hc6 => ?_)
      · refine x_iconst (v := 1) dX12_takesStep_36 (by decide) ?_
        refine x_goto (tgt := 41) dX12_takesStep_37 (by decide) ?_
        refine y_mask (bs := [false, false, false]) (ls' := [none, none, none]) rfl ?_
        exact hj8 _
      · refine x_iconst (v := (-1)) dX12_takesStep_40 (by decide) ?_
        refine y_mask (bs := [false, false, false]) (ls' := [none, none, none]) rfl ?_
        exact hj8 _
  · refine x_icmp_eq (tgt := 12) dX12_takesStep_3 (by decide) (fun hc1 => ?_) (fun hc1 => ?_)
    · exact hj2
    · refine x_iload_n dX12_takesStep_6 rfl ?_
      refine x_bipush (v := 45) dX12_takesStep_7 (by decide) ?_
      refine x_icmp_ne (tgt := 46) dX12_takesStep_9 (by decide) (fun hc10 => ?_) (fun hc10 => ?_)
      · exact hj2
      · refine x_aload_n dX12_takesStep_46 rfl ?_
        refine y_callVV (rest := []) (c1 := 0) (s1 := 0) (c_Mod_endsDays ω m) mv_RX12_186 hz_201 rfl (Nat.le_of_ble_eq_true rfl) (Nat.le_of_ble_eq_true rfl) (Nat.le_of_ble_eq_true rfl) ⟨rfl, rfl⟩ ⟨(Nat.le_of_ble_eq_true rfl), (Nat.le_of_ble_eq_true rfl)⟩ dX12_takesStep_47 (fun m11 => ?_)
        refine x_iload_n dX12_takesStep_50 rfl ?_
        refine x_bipush (v := 62) dX12_takesStep_51 (by decide) ?_
        refine y_join (fun j14 => ∀ (x13 : Int32), Sx ω true 3 0 0 kk_Mod_takesStep fI 0 0 m11 128 [some (.ref (zad ω 201)), some (.int p1), none] [.int x13] (j14 x13)) ?_ (fun j14 hj14 => ?_)
        · intro x13
          refine x_istore_n (ls' := [some (.ref (zad ω 201)), some (.int p1), some (.int x13)]) dX12_takesStep_128 (Nat.le_of_ble_eq_true rfl) rfl ?_
          refine x_iload_n dX12_takesStep_129 rfl ?_
          refine x_bipush (v := 10) dX12_takesStep_130 (by decide) ?_
          refine y_join (fun j17 => ∀ (m16 : Mm), Sx ω true 3 0 0 kk_Mod_takesStep fI 0 0 m16 202 [none, some (.int p1), some (.int x13)] [] (j17 m16)) ?_ (fun j17 hj17 => ?_)
          · intro m16
            refine x_iload_n dX12_takesStep_202 rfl ?_
            refine y_join (fun j19 => Sx ω true 3 0 0 kk_Mod_takesStep fI 0 0 m16 212 [none, none, none] [] j19) ?_ (fun j19 hj19 => ?_)
            · refine x_iconst (v := 1) dX12_takesStep_212 (by decide) ?_
              refine x_goto (tgt := 217) dX12_takesStep_213 (by decide) ?_
              exact x_zret rfl rfl (zBo_nar (by decide)) ⟨(Nat.le_of_ble_eq_true rfl), (Nat.le_of_ble_eq_true rfl)⟩ dX12_takesStep_217
            · refine x_if_gt (tgt := 212) dX12_takesStep_203 (by decide) (fun hc18 => ?_) (fun hc18 => ?_)
              · refine y_mask (bs := [false, false, false]) (ls' := [none, none, none]) rfl ?_
                exact hj19
              · refine x_iload_n dX12_takesStep_206 rfl ?_
                refine x_bipush (v := 63) dX12_takesStep_207 (by decide) ?_
                refine x_icmp_ne (tgt := 216) dX12_takesStep_209 (by decide) (fun hc20 => ?_) (fun hc20 => ?_)
                · refine y_mask (bs := [false, false, false]) (ls' := [none, none, none]) rfl ?_
                  exact hj19
                · refine x_iconst (v := 0) dX12_takesStep_216 (by decide) ?_
                  exact x_zret rfl rfl (zBo_nar (by decide)) ⟨(Nat.le_of_ble_eq_true rfl), (Nat.le_of_ble_eq_true rfl)⟩ dX12_takesStep_217
          · refine x_icmp_lt (tgt := 144) dX12_takesStep_132 (by decide) (fun hc15 => ?_) (fun hc15 => ?_)
            · refine x_iload_n dX12_takesStep_144 rfl ?_
              refine x_if_le (tgt := 165) dX12_takesStep_145 (by decide) (fun hc21 => ?_) (fun hc21 => ?_)
              · refine x_iload_n dX12_takesStep_165 rfl ?_
                refine x_bipush (v := 63) dX12_takesStep_166 (by decide) ?_
                refine x_icmp_ne (tgt := 202) dX12_takesStep_168 (by decide) (fun hc22 => ?_) (fun hc22 => ?_)
                · refine x_aload_n dX12_takesStep_171 rfl ?_
                  refine x_bipush (v := 6) dX12_takesStep_172 (by decide) ?_
                  refine x_iconst (v := 0) dX12_takesStep_174 (by decide) ?_
                  refine y_callVV (rest := []) (c1 := 0) (s1 := 0) (c_Mod_push ω 6 0 m11) mv_RX12_159 hz_201 rfl (Nat.le_of_ble_eq_true rfl) (Nat.le_of_ble_eq_true rfl) (Nat.le_of_ble_eq_true rfl) ⟨rfl, rfl⟩ ⟨(Nat.le_of_ble_eq_true rfl), (Nat.le_of_ble_eq_true rfl)⟩ dX12_takesStep_175 (fun m23 => ?_)
                  refine x_aload_n dX12_takesStep_178 rfl ?_
                  refine x_iconst (v := 5) dX12_takesStep_179 (by decide) ?_
                  refine x_iconst (v := 0) dX12_takesStep_180 (by decide) ?_
                  refine y_callVV (rest := []) (c1 := 0) (s1 := 0) (c_Mod_push ω 5 0 m23) mv_RX12_159 hz_201 rfl (Nat.le_of_ble_eq_true rfl) (Nat.le_of_ble_eq_true rfl) (Nat.le_of_ble_eq_true rfl) ⟨rfl, rfl⟩ ⟨(Nat.le_of_ble_eq_true rfl), (Nat.le_of_ble_eq_true rfl)⟩ dX12_takesStep_181 (fun m24 => ?_)
                  refine x_aload_n dX12_takesStep_184 rfl ?_
                  refine x_iconst (v := 2) dX12_takesStep_185 (by decide) ?_
                  refine x_iconst (v := 0) dX12_takesStep_186 (by decide) ?_
                  refine y_callVV (rest := []) (c1 := 0) (s1 := 0) (c_Mod_push ω 2 0 m24) mv_RX12_159 hz_201 rfl (Nat.le_of_ble_eq_true rfl) (Nat.le_of_ble_eq_true rfl) (Nat.le_of_ble_eq_true rfl) ⟨rfl, rfl⟩ ⟨(Nat.le_of_ble_eq_true rfl), (Nat.le_of_ble_eq_true rfl)⟩ dX12_takesStep_187 (fun m25 => ?_)
                  refine x_aload_n dX12_takesStep_190 rfl ?_
                  refine x_iconst (v := 4) dX12_takesStep_191 (by decide) ?_
                  refine x_iconst (v := 0) dX12_takesStep_192 (by decide) ?_
                  refine y_callVV (rest := []) (c1 := 0) (s1 := 0) (c_Mod_push ω 4 0 m25) mv_RX12_159 hz_201 rfl (Nat.le_of_ble_eq_true rfl) (Nat.le_of_ble_eq_true rfl) (Nat.le_of_ble_eq_true rfl) ⟨rfl, rfl⟩ ⟨(Nat.le_of_ble_eq_true rfl), (Nat.le_of_ble_eq_true rfl)⟩ dX12_takesStep_193 (fun m26 => ?_)
                  refine x_aload_n dX12_takesStep_196 rfl ?_
                  refine x_iconst (v := 3) dX12_takesStep_197 (by decide) ?_
                  refine x_iconst (v := 0) dX12_takesStep_198 (by decide) ?_
                  refine y_callVV (rest := []) (c1 := 0) (s1 := 0) (c_Mod_push ω 3 0 m26) mv_RX12_159 hz_201 rfl (Nat.le_of_ble_eq_true rfl) (Nat.le_of_ble_eq_true rfl) (Nat.le_of_ble_eq_true rfl) ⟨rfl, rfl⟩ ⟨(Nat.le_of_ble_eq_true rfl), (Nat.le_of_ble_eq_true rfl)⟩ dX12_takesStep_199 (fun m27 => ?_)
                  refine y_mask (bs := [false, true, true]) (ls' := [none, some (.int p1), some (.int x13)]) rfl ?_
                  exact hj17 _
                · refine y_mask (bs := [false, true, true]) (ls' := [none, some (.int p1), some (.int x13)]) rfl ?_
                  exact hj17 _
              · refine x_aload_n dX12_takesStep_148 rfl ?_
                refine x_bipush (v := 10) dX12_takesStep_149 (by decide) ?_
                refine x_iload_n dX12_takesStep_151 rfl ?_
                refine y_callVV (rest := []) (c1 := 0) (s1 := 0) (c_Mod_push ω 10 x13 m11) mv_RX12_159 hz_201 rfl (Nat.le_of_ble_eq_true rfl) (Nat.le_of_ble_eq_true rfl) (Nat.le_of_ble_eq_true rfl) ⟨rfl, rfl⟩ ⟨(Nat.le_of_ble_eq_true rfl), (Nat.le_of_ble_eq_true rfl)⟩ dX12_takesStep_152 (fun m28 => ?_)
                refine x_aload_n dX12_takesStep_155 rfl ?_
                refine x_bipush (v := 17) dX12_takesStep_156 (by decide) ?_
                refine x_iconst (v := 0) dX12_takesStep_158 (by decide) ?_
                refine y_callVV (rest := []) (c1 := 0) (s1 := 0) (c_Mod_push ω 17 0 m28) mv_RX12_159 hz_201 rfl (Nat.le_of_ble_eq_true rfl) (Nat.le_of_ble_eq_true rfl) (Nat.le_of_ble_eq_true rfl) ⟨rfl, rfl⟩ ⟨(Nat.le_of_ble_eq_true rfl), (Nat.le_of_ble_eq_true rfl)⟩ dX12_takesStep_159 (fun m29 => ?_)
                refine x_goto (tgt := 202) dX12_takesStep_162 (by decide) ?_
                refine y_mask (bs := [false, true, true]) (ls' := [none, some (.int p1), some (.int x13)]) rfl ?_
                exact hj17 _
            · refine x_aload_n dX12_takesStep_135 rfl ?_
              refine x_iload_n dX12_takesStep_136 rfl ?_
              refine x_iconst (v := 0) dX12_takesStep_137 (by decide) ?_
              refine y_callVV (rest := []) (c1 := 0) (s1 := 0) (c_Mod_emits ω x13 0 m11) mv_RX12_148 hz_201 rfl (Nat.le_of_ble_eq_true rfl) (Nat.le_of_ble_eq_true rfl) (Nat.le_of_ble_eq_true rfl) ⟨rfl, rfl⟩ ⟨(Nat.le_of_ble_eq_true rfl), (Nat.le_of_ble_eq_true rfl)⟩ dX12_takesStep_138 (fun m30 => ?_)
              refine x_goto (tgt := 202) dX12_takesStep_141 (by decide) ?_
              refine y_mask (bs := [false, true, true]) (ls' := [none, some (.int p1), some (.int x13)]) rfl ?_
              exact hj17 _
        · refine x_icmp_ne (tgt := 61) dX12_takesStep_53 (by decide) (fun hc12 => ?_) (fun hc12 => ?_)
          · refine x_bipush (v := 6) dX12_takesStep_56 (by decide) ?_
            refine x_goto (tgt := 128) dX12_takesStep_58 (by decide) ?_
            exact hj14 _
          · refine x_iload_n dX12_takesStep_61 rfl ?_
            refine x_bipush (v := 60) dX12_takesStep_62 (by decide) ?_
            refine x_icmp_ne (tgt := 72) dX12_takesStep_64 (by decide) (fun hc31 => ?_) (fun hc31 => ?_)
            · refine x_bipush (v := 7) dX12_takesStep_67 (by decide) ?_
              refine x_goto (tgt := 128) dX12_takesStep_69 (by decide) ?_
              exact hj14 _
            · refine x_iload_n dX12_takesStep_72 rfl ?_
              refine x_bipush (v := 93) dX12_takesStep_73 (by decide) ?_
              refine x_icmp_ne (tgt := 83) dX12_takesStep_75 (by decide) (fun hc32 => ?_) (fun hc32 => ?_)
              · refine x_bipush (v := 8) dX12_takesStep_78 (by decide) ?_
                refine x_goto (tgt := 128) dX12_takesStep_80 (by decide) ?_
                exact hj14 _
              · refine x_iload_n dX12_takesStep_83 rfl ?_
                refine x_bipush (v := 91) dX12_takesStep_84 (by decide) ?_
                refine x_icmp_ne (tgt := 94) dX12_takesStep_86 (by decide) (fun hc33 => ?_) (fun hc33 => ?_)
                · refine x_bipush (v := 9) dX12_takesStep_89 (by decide) ?_
                  refine x_goto (tgt := 128) dX12_takesStep_91 (by decide) ?_
                  exact hj14 _
                · refine x_iload_n dX12_takesStep_94 rfl ?_
                  refine x_bipush (v := 79) dX12_takesStep_95 (by decide) ?_
                  refine x_icmp_ne (tgt := 105) dX12_takesStep_97 (by decide) (fun hc34 => ?_) (fun hc34 => ?_)
                  · refine x_bipush (v := 10) dX12_takesStep_100 (by decide) ?_
                    refine x_goto (tgt := 128) dX12_takesStep_102 (by decide) ?_
                    exact hj14 _
                  · refine x_iload_n dX12_takesStep_105 rfl ?_
                    refine x_bipush (v := 81) dX12_takesStep_106 (by decide) ?_
                    refine x_icmp_ne (tgt := 116) dX12_takesStep_108 (by decide) (fun hc35 => ?_) (fun hc35 => ?_)
                    · refine x_bipush (v := 11) dX12_takesStep_111 (by decide) ?_
                      refine x_goto (tgt := 128) dX12_takesStep_113 (by decide) ?_
                      exact hj14 _
                    · refine x_iload_n dX12_takesStep_116 rfl ?_
                      refine x_bipush (v := 88) dX12_takesStep_117 (by decide) ?_
                      refine x_icmp_ne (tgt := 127) dX12_takesStep_119 (by decide) (fun hc36 => ?_) (fun hc36 => ?_)
                      · refine x_bipush (v := 12) dX12_takesStep_122 (by decide) ?_
                        refine x_goto (tgt := 128) dX12_takesStep_124 (by decide) ?_
                        exact hj14 _
                      · refine x_iconst (v := 0) dX12_takesStep_127 (by decide) ?_
                        exact hj14 _
abbrev kk_Mod_takesCondition : Kx := (yX12_takesCondition.cls, cX12_takesCondition, 2, (some .boolean), [], false)
set_option maxHeartbeats 4000000 in
set_option maxRecDepth 100000 in
theorem c_Mod_takesCondition (ω : Wd) (p1 : Int32) (m : Mm) : Ev ω true 4 0 0 yX12_takesCondition cX12_takesCondition 2 (some .boolean) [.ref (zad ω 201), .int p1] m fI (f_Mod_takesCondition p1 m) := by
  refine Ev.of (b := false) (ls := [some (.ref (zad ω 201)), some (.int p1)]) (plainFor_of_name (by decide +kernel)) (fun h => by cases h) rfl (Nat.le_of_ble_eq_true rfl) rfl ?_
  change Sx ω true 4 0 0 kk_Mod_takesCondition fI 0 0 m 0 _ _ _
  unfold f_Mod_takesCondition
  refine x_aload_n dX12_takesCondition_0 rfl ?_
  refine x_dup dX12_takesCondition_1 rfl ?_
  refine y_getI fl_RX12_139 hz_201 dX12_takesCondition_2 ?_
  refine x_iconst (v := 1) dX12_takesCondition_5 (by decide) ?_
  refine x_isub dX12_takesCondition_6 ?_
  refine y_putI fp_RX12_139 hz_201 dX12_takesCondition_7 ?_
  refine y_letM (fun m1 => ?_)
  refine x_iload_n dX12_takesCondition_10 rfl ?_
  refine x_bipush (v := 87) dX12_takesCondition_11 (by decide) ?_
  refine x_icmp_ne (tgt := 34) dX12_takesCondition_13 (by decide) (fun hc2 => ?_) (fun hc2 => ?_)
  · refine x_aload_n dX12_takesCondition_16 rfl ?_
    refine x_bipush (v := 10) dX12_takesCondition_17 (by decide) ?_
    refine x_bipush (v := 13) dX12_takesCondition_19 (by decide) ?_
    refine y_callVV (rest := []) (c1 := 0) (s1 := 0) (c_Mod_push ω 10 13 m1) mv_RX12_159 hz_201 rfl (Nat.le_of_ble_eq_true rfl) (Nat.le_of_ble_eq_true rfl) (Nat.le_of_ble_eq_true rfl) ⟨rfl, rfl⟩ ⟨(Nat.le_of_ble_eq_true rfl), (Nat.le_of_ble_eq_true rfl)⟩ dX12_takesCondition_21 (fun m19 => ?_)
    refine x_aload_n dX12_takesCondition_24 rfl ?_
    refine x_bipush (v := 17) dX12_takesCondition_25 (by decide) ?_
    refine x_iconst (v := 0) dX12_takesCondition_27 (by decide) ?_
    refine y_callVV (rest := []) (c1 := 0) (s1 := 0) (c_Mod_push ω 17 0 m19) mv_RX12_159 hz_201 rfl (Nat.le_of_ble_eq_true rfl) (Nat.le_of_ble_eq_true rfl) (Nat.le_of_ble_eq_true rfl) ⟨rfl, rfl⟩ ⟨(Nat.le_of_ble_eq_true rfl), (Nat.le_of_ble_eq_true rfl)⟩ dX12_takesCondition_28 (fun m20 => ?_)
    refine x_goto (tgt := 152) dX12_takesCondition_31 (by decide) ?_
    refine x_iconst (v := 1) dX12_takesCondition_152 (by decide) ?_
    exact x_zret rfl rfl (zBo_nar (by decide)) ⟨(Nat.le_of_ble_eq_true rfl), (Nat.le_of_ble_eq_true rfl)⟩ dX12_takesCondition_153
  · refine x_iload_n dX12_takesCondition_34 rfl ?_
    refine x_bipush (v := 89) dX12_takesCondition_35 (by decide) ?_
    refine x_icmp_ne (tgt := 50) dX12_takesCondition_37 (by decide) (fun hc3 => ?_) (fun hc3 => ?_)
    · refine x_aload_n dX12_takesCondition_40 rfl ?_
      refine x_bipush (v := 14) dX12_takesCondition_41 (by decide) ?_
      refine x_iconst (v := 0) dX12_takesCondition_43 (by decide) ?_
      refine y_callVV (rest := []) (c1 := 0) (s1 := 0) (c_Mod_emits ω 14 0 m1) mv_RX12_148 hz_201 rfl (Nat.le_of_ble_eq_true rfl) (Nat.le_of_ble_eq_true rfl) (Nat.le_of_ble_eq_true rfl) ⟨rfl, rfl⟩ ⟨(Nat.le_of_ble_eq_true rfl), (Nat.le_of_ble_eq_true rfl)⟩ dX12_takesCondition_44 (fun m18 => ?_)
      refine x_goto (tgt := 152) dX12_takesCondition_47 (by decide) ?_
      refine x_iconst (v := 1) dX12_takesCondition_152 (by decide) ?_
      exact x_zret rfl rfl (zBo_nar (by decide)) ⟨(Nat.le_of_ble_eq_true rfl), (Nat.le_of_ble_eq_true rfl)⟩ dX12_takesCondition_153
    · refine x_iload_n dX12_takesCondition_50 rfl ?_
      refine x_bipush (v := 65) dX12_takesCondition_51 (by decide) ?_
      refine x_icmp_ne (tgt := 71) dX12_takesCondition_53 (by decide) (fun hc4 => ?_) (fun hc4 => ?_)
      · refine x_aload_n dX12_takesCondition_56 rfl ?_
        refine x_bipush (v := 10) dX12_takesCondition_57 (by decide) ?_
        refine x_bipush (v := 15) dX12_takesCondition_59 (by decide) ?_
        refine y_callVV (rest := []) (c1 := 0) (s1 := 0) (c_Mod_push ω 10 15 m1) mv_RX12_159 hz_201 rfl (Nat.le_of_ble_eq_true rfl) (Nat.le_of_ble_eq_true rfl) (Nat.le_of_ble_eq_true rfl) ⟨rfl, rfl⟩ ⟨(Nat.le_of_ble_eq_true rfl), (Nat.le_of_ble_eq_true rfl)⟩ dX12_takesCondition_61 (fun m16 => ?_)
        refine x_aload_n dX12_takesCondition_64 rfl ?_
        refine y_callVV (rest := []) (c1 := 0) (s1 := 0) (c_Mod_pushFeast ω m16) mv_RX12_177 hz_201 rfl (Nat.le_of_ble_eq_true rfl) (Nat.le_of_ble_eq_true rfl) (Nat.le_of_ble_eq_true rfl) ⟨rfl, rfl⟩ ⟨(Nat.le_of_ble_eq_true rfl), (Nat.le_of_ble_eq_true rfl)⟩ dX12_takesCondition_65 (fun m17 => ?_)
        refine x_goto (tgt := 152) dX12_takesCondition_68 (by decide) ?_
        refine x_iconst (v := 1) dX12_takesCondition_152 (by decide) ?_
        exact x_zret rfl rfl (zBo_nar (by decide)) ⟨(Nat.le_of_ble_eq_true rfl), (Nat.le_of_ble_eq_true rfl)⟩ dX12_takesCondition_153
      · refine x_iload_n dX12_takesCondition_71 rfl ?_
        refine x_bipush (v := 69) dX12_takesCondition_72 (by decide) ?_
        refine x_icmp_ne (tgt := 92) dX12_takesCondition_74 (by decide) (fun hc5 => ?_) (fun hc5 => ?_)
        · refine x_aload_n dX12_takesCondition_77 rfl ?_
          refine x_bipush (v := 10) dX12_takesCondition_78 (by decide) ?_
          refine x_bipush (v := 16) dX12_takesCondition_80 (by decide) ?_
          refine y_callVV (rest := []) (c1 := 0) (s1 := 0) (c_Mod_push ω 10 16 m1) mv_RX12_159 hz_201 rfl (Nat.le_of_ble_eq_true rfl) (Nat.le_of_ble_eq_true rfl) (Nat.le_of_ble_eq_true rfl) ⟨rfl, rfl⟩ ⟨(Nat.le_of_ble_eq_true rfl), (Nat.le_of_ble_eq_true rfl)⟩ dX12_takesCondition_82 (fun m14 => ?_)
          refine x_aload_n dX12_takesCondition_85 rfl ?_
          refine y_callVV (rest := []) (c1 := 0) (s1 := 0) (c_Mod_pushDate ω m14) mv_RX12_174 hz_201 rfl (Nat.le_of_ble_eq_true rfl) (Nat.le_of_ble_eq_true rfl) (Nat.le_of_ble_eq_true rfl) ⟨rfl, rfl⟩ ⟨(Nat.le_of_ble_eq_true rfl), (Nat.le_of_ble_eq_true rfl)⟩ dX12_takesCondition_86 (fun m15 => ?_)
          refine x_goto (tgt := 152) dX12_takesCondition_89 (by decide) ?_
          refine x_iconst (v := 1) dX12_takesCondition_152 (by decide) ?_
          exact x_zret rfl rfl (zBo_nar (by decide)) ⟨(Nat.le_of_ble_eq_true rfl), (Nat.le_of_ble_eq_true rfl)⟩ dX12_takesCondition_153
        · refine x_iload_n dX12_takesCondition_92 rfl ?_
          refine x_bipush (v := 33) dX12_takesCondition_93 (by decide) ?_
          refine x_icmp_ne (tgt := 115) dX12_takesCondition_95 (by decide) (fun hc6 => ?_) (fun hc6 => ?_)
          · refine x_aload_n dX12_takesCondition_98 rfl ?_
            refine x_bipush (v := 10) dX12_takesCondition_99 (by decide) ?_
            refine x_bipush (v := 17) dX12_takesCondition_101 (by decide) ?_
            refine y_callVV (rest := []) (c1 := 0) (s1 := 0) (c_Mod_push ω 10 17 m1) mv_RX12_159 hz_201 rfl (Nat.le_of_ble_eq_true rfl) (Nat.le_of_ble_eq_true rfl) (Nat.le_of_ble_eq_true rfl) ⟨rfl, rfl⟩ ⟨(Nat.le_of_ble_eq_true rfl), (Nat.le_of_ble_eq_true rfl)⟩ dX12_takesCondition_103 (fun m12 => ?_)
            refine x_aload_n dX12_takesCondition_106 rfl ?_
            refine x_iconst (v := 3) dX12_takesCondition_107 (by decide) ?_
            refine x_iconst (v := 0) dX12_takesCondition_108 (by decide) ?_
            refine y_callVV (rest := []) (c1 := 0) (s1 := 0) (c_Mod_push ω 3 0 m12) mv_RX12_159 hz_201 rfl (Nat.le_of_ble_eq_true rfl) (Nat.le_of_ble_eq_true rfl) (Nat.le_of_ble_eq_true rfl) ⟨rfl, rfl⟩ ⟨(Nat.le_of_ble_eq_true rfl), (Nat.le_of_ble_eq_true rfl)⟩ dX12_takesCondition_109 (fun m13 => ?_)
            refine x_goto (tgt := 152) dX12_takesCondition_112 (by decide) ?_
            refine x_iconst (v := 1) dX12_takesCondition_152 (by decide) ?_
            exact x_zret rfl rfl (zBo_nar (by decide)) ⟨(Nat.le_of_ble_eq_true rfl), (Nat.le_of_ble_eq_true rfl)⟩ dX12_takesCondition_153
          · refine x_iload_n dX12_takesCondition_115 rfl ?_
            refine x_bipush (v := 40) dX12_takesCondition_116 (by decide) ?_
            refine x_icmp_ne (tgt := 150) dX12_takesCondition_118 (by decide) (fun hc7 => ?_) (fun hc7 => ?_)
            · refine x_aload_n dX12_takesCondition_121 rfl ?_
              refine x_bipush (v := 9) dX12_takesCondition_122 (by decide) ?_
              refine x_iconst (v := 0) dX12_takesCondition_124 (by decide) ?_
              refine y_callVV (rest := []) (c1 := 0) (s1 := 0) (c_Mod_push ω 9 0 m1) mv_RX12_159 hz_201 rfl (Nat.le_of_ble_eq_true rfl) (Nat.le_of_ble_eq_true rfl) (Nat.le_of_ble_eq_true rfl) ⟨rfl, rfl⟩ ⟨(Nat.le_of_ble_eq_true rfl), (Nat.le_of_ble_eq_true rfl)⟩ dX12_takesCondition_125 (fun m8 => ?_)
              refine x_aload_n dX12_takesCondition_128 rfl ?_
              refine x_iconst (v := 3) dX12_takesCondition_129 (by decide) ?_
              refine x_iconst (v := 0) dX12_takesCondition_130 (by decide) ?_
              refine y_callVV (rest := []) (c1 := 0) (s1 := 0) (c_Mod_push ω 3 0 m8) mv_RX12_159 hz_201 rfl (Nat.le_of_ble_eq_true rfl) (Nat.le_of_ble_eq_true rfl) (Nat.le_of_ble_eq_true rfl) ⟨rfl, rfl⟩ ⟨(Nat.le_of_ble_eq_true rfl), (Nat.le_of_ble_eq_true rfl)⟩ dX12_takesCondition_131 (fun m9 => ?_)
              refine x_aload_n dX12_takesCondition_134 rfl ?_
              refine x_bipush (v := 8) dX12_takesCondition_135 (by decide) ?_
              refine x_iconst (v := 0) dX12_takesCondition_137 (by decide) ?_
              refine y_callVV (rest := []) (c1 := 0) (s1 := 0) (c_Mod_push ω 8 0 m9) mv_RX12_159 hz_201 rfl (Nat.le_of_ble_eq_true rfl) (Nat.le_of_ble_eq_true rfl) (Nat.le_of_ble_eq_true rfl) ⟨rfl, rfl⟩ ⟨(Nat.le_of_ble_eq_true rfl), (Nat.le_of_ble_eq_true rfl)⟩ dX12_takesCondition_138 (fun m10 => ?_)
              refine x_aload_n dX12_takesCondition_141 rfl ?_
              refine x_iconst (v := 3) dX12_takesCondition_142 (by decide) ?_
              refine x_iconst (v := 0) dX12_takesCondition_143 (by decide) ?_
              refine y_callVV (rest := []) (c1 := 0) (s1 := 0) (c_Mod_push ω 3 0 m10) mv_RX12_159 hz_201 rfl (Nat.le_of_ble_eq_true rfl) (Nat.le_of_ble_eq_true rfl) (Nat.le_of_ble_eq_true rfl) ⟨rfl, rfl⟩ ⟨(Nat.le_of_ble_eq_true rfl), (Nat.le_of_ble_eq_true rfl)⟩ dX12_takesCondition_144 (fun m11 => ?_)
              refine x_goto (tgt := 152) dX12_takesCondition_147 (by decide) ?_
              refine x_iconst (v := 1) dX12_takesCondition_152 (by decide) ?_
              exact x_zret rfl rfl (zBo_nar (by decide)) ⟨(Nat.le_of_ble_eq_true rfl), (Nat.le_of_ble_eq_true rfl)⟩ dX12_takesCondition_153
            · refine x_iconst (v := 0) dX12_takesCondition_150 (by decide) ?_
              exact x_zret rfl rfl (zBo_nar (by decide)) ⟨(Nat.le_of_ble_eq_true rfl), (Nat.le_of_ble_eq_true rfl)⟩ dX12_takesCondition_151
