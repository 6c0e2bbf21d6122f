abbrev kk_Mod_isReady : Kx := (yX12_isReady.cls, cX12_isReady, 5, (some .boolean), [], false)
set_option maxHeartbeats 4000000 in
set_option maxRecDepth 100000 in
theorem c_Mod_isReady (ω : Wd) (p1 : Int32) (m : Mm) : Ev ω true 2 0 0 yX12_isReady cX12_isReady 5 (some .boolean) [.ref (zad ω 201), .int p1] m (fP m) (f_Mod_isReady p1 m) := by
  refine Ev.of (b := false) (ls := [some (.ref (zad ω 201)), some (.int p1), none, none, none]) (plainFor_of_name (by decide +kernel)) (fun h => by cases h) rfl (Nat.le_of_ble_eq_true rfl) rfl ?_
  change Sx ω true 2 0 0 kk_Mod_isReady (fP m) 0 0 m 0 _ _ _
  unfold f_Mod_isReady
  refine x_aload_n dX12_isReady_0 rfl ?_
  refine x_iload_n dX12_isReady_1 rfl ?_
  refine y_callVP (rest := []) (c1 := 0) (s1 := 0) (c_Mod_named ω p1 m) mv_RX12_241 hz_201 rfl (Nat.le_of_ble_eq_true rfl) (Nat.le_of_ble_eq_true rfl) (Nat.le_of_ble_eq_true rfl) ⟨rfl, rfl⟩ ⟨(Nat.le_of_ble_eq_true rfl), (Nat.le_of_ble_eq_true rfl)⟩ dX12_isReady_2 (fun v1 => ?_)
  refine x_istore_n (ls' := [some (.ref (zad ω 201)), some (.int p1), some (.int v1), none, none]) dX12_isReady_5 (Nat.le_of_ble_eq_true rfl) rfl ?_
  refine x_aload_n dX12_isReady_6 rfl ?_
  refine y_getF fl_RX12_57 hz_201 hq_201_30 (by rw [hz_217]; decide) dX12_isReady_7 ?_
  refine x_iload_n dX12_isReady_10 rfl ?_
  refine y_zald hz_217 hn_217 dX12_isReady_11 (fun hi => ?_)
  refine y_join (fun j4 => ∀ (x3 : Int32), Sx ω true 2 0 0 kk_Mod_isReady (fP m) 0 0 m 20 [some (.ref (zad ω 201)), none, some (.int v1), none, none] [.int x3] (j4 x3)) ?_ (fun j4 hj4 => ?_)
  · intro x3
    refine x_istore_n (ls' := [some (.ref (zad ω 201)), none, some (.int v1), some (.int x3), none]) dX12_isReady_20 (Nat.le_of_ble_eq_true rfl) rfl ?_
    refine x_iconst (v := 0) dX12_isReady_21 (by decide) ?_
    refine x_istore (ls' := [some (.ref (zad ω 201)), none, some (.int v1), some (.int x3), some (.int 0)]) dX12_isReady_22 (Nat.le_of_ble_eq_true rfl) rfl ?_
    refine y_Lq2 (fun x5 x6 => [some (.ref (zad ω 201)), none, some (.int v1), some (.int x5), some (.int x6)]) (fun r7 hr7 x5 x6 => ?_) zFu _ _
    refine x_iload dX12_isReady_24 rfl ?_
    refine x_aload_n dX12_isReady_26 rfl ?_
    refine y_getI fl_RX12_231 hz_201 dX12_isReady_27 ?_
    refine x_icmp_ge (tgt := 68) dX12_isReady_30 (by decide) (fun hc8 => ?_) (fun hc8 => ?_)
    · refine x_iload_n dX12_isReady_68 rfl ?_
      refine x_guard (fun hv => ?_)
      exact x_zret rfl rfl (zBo_nar hv) ⟨(Nat.le_of_ble_eq_true rfl), (Nat.le_of_ble_eq_true rfl)⟩ dX12_isReady_69
    · refine x_iload_n dX12_isReady_33 rfl ?_
      refine y_join (fun j11 => ∀ (x10 : Int32), Sx ω true 2 0 0 kk_Mod_isReady (fP m) 0 0 m 61 [some (.ref (zad ω 201)), none, some (.int v1), none, some (.int x6)] [.int x10] (j11 x10)) ?_ (fun j11 hj11 => ?_)
      · intro x10
        refine x_istore_n (ls' := [some (.ref (zad ω 201)), none, some (.int v1), some (.int x10), some (.int x6)]) dX12_isReady_61 (Nat.le_of_ble_eq_true rfl) rfl ?_
        refine y_iinc (w := 1) dX12_isReady_62 rfl (by decide) (Nat.le_of_ble_eq_true rfl) (fun x12 => ?_)
        refine x_goto (tgt := 24) dX12_isReady_65 (by decide) ?_
        exact hr7 _ _
      · refine y_join (fun j13 => Sx ω true 2 0 0 kk_Mod_isReady (fP m) 0 0 m 60 [some (.ref (zad ω 201)), none, some (.int v1), none, some (.int x6)] [] j13) ?_ (fun j13 hj13 => ?_)
        · refine x_iconst (v := 0) dX12_isReady_60 (by decide) ?_
          exact hj11 _
        · refine x_if_eq (tgt := 60) dX12_isReady_34 (by decide) (fun hc9 => ?_) (fun hc9 => ?_)
          · refine y_mask (bs := [true, false, true, false, true]) (ls' := [some (.ref (zad ω 201)), none, some (.int v1), none, some (.int x6)]) rfl ?_
            exact hj13
          · refine x_iload_n dX12_isReady_37 rfl ?_
            refine x_iload dX12_isReady_38 rfl ?_
            refine x_ishr dX12_isReady_40 ?_
            refine x_iconst (v := 1) dX12_isReady_41 (by decide) ?_
            refine x_iand dX12_isReady_42 ?_
            refine y_join (fun j15 => Sx ω true 2 0 0 kk_Mod_isReady (fP m) 0 0 m 56 [some (.ref (zad ω 201)), none, some (.int v1), none, some (.int x6)] [] j15) ?_ (fun j15 hj15 => ?_)
            · refine x_iconst (v := 1) dX12_isReady_56 (by decide) ?_
              refine x_goto (tgt := 61) dX12_isReady_57 (by decide) ?_
              exact hj11 _
            · refine x_if_eq (tgt := 56) dX12_isReady_43 (by decide) (fun hc14 => ?_) (fun hc14 => ?_)
              · refine y_mask (bs := [true, false, true, false, true]) (ls' := [some (.ref (zad ω 201)), none, some (.int v1), none, some (.int x6)]) rfl ?_
                exact hj15
              · refine x_aload_n dX12_isReady_46 rfl ?_
                refine y_getF fl_RX12_57 hz_201 hq_201_30 (by rw [hz_217]; decide) dX12_isReady_47 ?_
                refine x_iload dX12_isReady_50 rfl ?_
                refine y_zald hz_217 hn_217 dX12_isReady_52 (fun hi => ?_)
                refine x_if_eq (tgt := 60) dX12_isReady_53 (by decide) (fun hc16 => ?_) (fun hc16 => ?_)
                · refine y_mask (bs := [true, false, true, false, true]) (ls' := [some (.ref (zad ω 201)), none, some (.int v1), none, some (.int x6)]) rfl ?_
                  exact hj13
                · refine y_mask (bs := [true, false, true, false, true]) (ls' := [some (.ref (zad ω 201)), none, some (.int v1), none, some (.int x6)]) rfl ?_
                  exact hj15
  · refine x_if_ne (tgt := 19) dX12_isReady_12 (by decide) (fun hc2 => ?_) (fun hc2 => ?_)
    · refine x_iconst (v := 1) dX12_isReady_15 (by decide) ?_
      refine x_goto (tgt := 20) dX12_isReady_16 (by decide) ?_
      refine y_mask (bs := [true, false, true, false, false]) (ls' := [some (.ref (zad ω 201)), none, some (.int v1), none, none]) rfl ?_
      exact hj4 _
    · refine x_iconst (v := 0) dX12_isReady_19 (by decide) ?_
      refine y_mask (bs := [true, false, true, false, false]) (ls' := [some (.ref (zad ω 201)), none, some (.int v1), none, none]) rfl ?_
      exact hj4 _
abbrev kk_Mod_finds : Kx := (yX12_finds.cls, cX12_finds, 5, none, [], false)
set_option maxHeartbeats 4000000 in
set_option maxRecDepth 100000 in
theorem c_Mod_finds (ω : Wd) (p1 : Int32) (p2 : Int32) (m : Mm) : Ev ω true 7 0 0 yX12_finds cX12_finds 5 none [.ref (zad ω 201), .int p1, .int p2] m fV (f_Mod_finds p1 p2 m) := by
  refine Ev.of (b := false) (ls := [some (.ref (zad ω 201)), some (.int p1), some (.int p2), none, none]) (plainFor_of_name (by decide +kernel)) (fun h => by cases h) rfl (Nat.le_of_ble_eq_true rfl) rfl ?_
  change Sx ω true 7 0 0 kk_Mod_finds fV 0 0 m 0 _ _ _
  unfold f_Mod_finds
  refine x_iconst (v := 0) dX12_finds_0 (by decide) ?_
  refine x_istore_n (ls' := [some (.ref (zad ω 201)), some (.int p1), some (.int p2), some (.int 0), none]) dX12_finds_1 (Nat.le_of_ble_eq_true rfl) rfl ?_
  refine y_Lp1 (fun x1 => [some (.ref (zad ω 201)), some (.int p1), some (.int p2), some (.int x1), none]) (fun r2 hr2 x1 m3 => ?_) zFu _ _
  refine x_iload_n dX12_finds_2 rfl ?_
  refine x_aload_n dX12_finds_3 rfl ?_
  refine y_getI fl_RX12_231 hz_201 dX12_finds_4 ?_
  refine x_icmp_ge (tgt := 23) dX12_finds_7 (by decide) (fun hc4 => ?_) (fun hc4 => ?_)
  · refine x_iconst (v := 0) dX12_finds_23 (by decide) ?_
    refine x_istore_n (ls' := [some (.ref (zad ω 201)), some (.int p1), some (.int p2), some (.int 0), none]) dX12_finds_24 (Nat.le_of_ble_eq_true rfl) rfl ?_
    refine y_Lp1 (fun x5 => [some (.ref (zad ω 201)), some (.int p1), some (.int p2), some (.int x5), none]) (fun r6 hr6 x5 m7 => ?_) zFu _ _
    refine x_iload_n dX12_finds_25 rfl ?_
    refine x_aload_n dX12_finds_26 rfl ?_
    refine y_getI fl_RX12_231 hz_201 dX12_finds_27 ?_
    refine x_icmp_ge (tgt := 82) dX12_finds_30 (by decide) (fun hc8 => ?_) (fun hc8 => ?_)
    · exact x_vret rfl rfl ⟨(Nat.le_of_ble_eq_true rfl), (Nat.le_of_ble_eq_true rfl)⟩ dX12_finds_82
    · refine x_iconst (v := 0) dX12_finds_33 (by decide) ?_
      refine x_istore (ls' := [some (.ref (zad ω 201)), some (.int p1), some (.int p2), some (.int x5), some (.int 0)]) dX12_finds_34 (Nat.le_of_ble_eq_true rfl) rfl ?_
      refine y_Lp1 (fun x9 => [some (.ref (zad ω 201)), some (.int p1), some (.int p2), some (.int x5), some (.int x9)]) (fun r10 hr10 x9 m11 => ?_) zFu _ _
      refine x_iload dX12_finds_36 rfl ?_
      refine x_aload_n dX12_finds_38 rfl ?_
      refine y_getI fl_RX12_231 hz_201 dX12_finds_39 ?_
      refine x_icmp_ge (tgt := 76) dX12_finds_42 (by decide) (fun hc12 => ?_) (fun hc12 => ?_)
      · refine y_iinc (w := 1) dX12_finds_76 rfl (by decide) (Nat.le_of_ble_eq_true rfl) (fun x13 => ?_)
        refine x_goto (tgt := 25) dX12_finds_79 (by decide) ?_
        refine y_mask (bs := [true, true, true, true, false]) (ls' := [some (.ref (zad ω 201)), some (.int p1), some (.int p2), some (.int x13), none]) rfl ?_
        exact hr6 _ _
      · refine x_aload_n dX12_finds_45 rfl ?_
        refine x_iload dX12_finds_46 rfl ?_
        refine y_callVP (rest := []) (c1 := 0) (s1 := 0) (c_Mod_isReady ω x9 m11) mv_RX12_290 hz_201 rfl (Nat.le_of_ble_eq_true rfl) (Nat.le_of_ble_eq_true rfl) (Nat.le_of_ble_eq_true rfl) ⟨rfl, rfl⟩ ⟨(Nat.le_of_ble_eq_true rfl), (Nat.le_of_ble_eq_true rfl)⟩ dX12_finds_48 (fun v14 => ?_)
        refine y_join (fun j17 => ∀ (m16 : Mm), Sx ω true 7 0 0 kk_Mod_finds fV 0 0 m16 70 [some (.ref (zad ω 201)), some (.int p1), some (.int p2), some (.int x5), some (.int x9)] [] (j17 m16)) ?_ (fun j17 hj17 => ?_)
        · intro m16
          refine y_iinc (w := 1) dX12_finds_70 rfl (by decide) (Nat.le_of_ble_eq_true rfl) (fun x18 => ?_)
          refine x_goto (tgt := 36) dX12_finds_73 (by decide) ?_
          exact hr10 _ _
        · refine x_if_eq (tgt := 70) dX12_finds_51 (by decide) (fun hc15 => ?_) (fun hc15 => ?_)
          · exact hj17 _
          · refine x_aload_n dX12_finds_54 rfl ?_
            refine x_iload dX12_finds_55 rfl ?_
            refine x_iload_n dX12_finds_57 rfl ?_
            refine x_iload_n dX12_finds_58 rfl ?_
            refine y_callVV (rest := []) (c1 := 0) (s1 := 0) (c_Mod_goesThrough ω x9 p1 p2 m11) mv_RX12_293 hz_201 rfl (Nat.le_of_ble_eq_true rfl) (Nat.le_of_ble_eq_true rfl) (Nat.le_of_ble_eq_true rfl) ⟨rfl, rfl⟩ ⟨(Nat.le_of_ble_eq_true rfl), (Nat.le_of_ble_eq_true rfl)⟩ dX12_finds_59 (fun m19 => ?_)
            refine x_aload_n dX12_finds_62 rfl ?_
            refine y_getF fl_RX12_57 hz_201 hq_201_30 (by rw [hz_217]; decide) dX12_finds_63 ?_
            refine x_iload dX12_finds_66 rfl ?_
            refine x_iconst (v := 1) dX12_finds_68 (by decide) ?_
            refine y_zast hz_217 hn_217 (by decide) dX12_finds_69 (fun hi => ?_)
            refine y_letM (fun m20 => ?_)
            exact hj17 _
  · refine x_aload_n dX12_finds_10 rfl ?_
    refine y_getF fl_RX12_57 hz_201 hq_201_30 (by rw [hz_217]; decide) dX12_finds_11 ?_
    refine x_iload_n dX12_finds_14 rfl ?_
    refine x_iconst (v := 0) dX12_finds_15 (by decide) ?_
    refine y_zast hz_217 hn_217 (by decide) dX12_finds_16 (fun hi => ?_)
    refine y_letM (fun m21 => ?_)
    refine y_iinc (w := 1) dX12_finds_17 rfl (by decide) (Nat.le_of_ble_eq_true rfl) (fun x22 => ?_)
    refine x_goto (tgt := 2) dX12_finds_20 (by decide) ?_
    exact hr2 _ _
abbrev kk_Mod_isTaken : Kx := (yX12_isTaken.cls, cX12_isTaken, 4, (some .boolean), [], false)
set_option maxHeartbeats 4000000 in
set_option maxRecDepth 100000 in
theorem c_Mod_isTaken (ω : Wd) (p1 : Int32) (m : Mm) : Ev ω true 1 0 0 yX12_isTaken cX12_isTaken 4 (some .boolean) [.ref (zad ω 201), .int p1] m (fP m) (f_Mod_isTaken p1 m) := by
  refine Ev.of (b := false) (ls := [some (.ref (zad ω 201)), some (.int p1), none, none]) (plainFor_of_name (by decide +kernel)) (fun h => by cases h) rfl (Nat.le_of_ble_eq_true rfl) rfl ?_
  change Sx ω true 1 0 0 kk_Mod_isTaken (fP m) 0 0 m 0 _ _ _
  unfold f_Mod_isTaken
  refine x_iconst (v := 0) dX12_isTaken_0 (by decide) ?_
  refine x_istore_n (ls' := [some (.ref (zad ω 201)), some (.int p1), some (.int 0), none]) dX12_isTaken_1 (Nat.le_of_ble_eq_true rfl) rfl ?_
  refine x_iconst (v := 0) dX12_isTaken_2 (by decide) ?_
  refine x_istore_n (ls' := [some (.ref (zad ω 201)), some (.int p1), some (.int 0), some (.int 0)]) dX12_isTaken_3 (Nat.le_of_ble_eq_true rfl) rfl ?_
  refine y_Lq2 (fun x1 x2 => [some (.ref (zad ω 201)), some (.int p1), some (.int x1), some (.int x2)]) (fun r3 hr3 x1 x2 => ?_) zFu _ _
  refine x_iload_n dX12_isTaken_4 rfl ?_
  refine x_aload_n dX12_isTaken_5 rfl ?_
  refine y_getI fl_RX12_231 hz_201 dX12_isTaken_6 ?_
  refine x_icmp_ge (tgt := 38) dX12_isTaken_9 (by decide) (fun hc4 => ?_) (fun hc4 => ?_)
  · refine x_iload_n dX12_isTaken_38 rfl ?_
    refine x_guard (fun hv => ?_)
    exact x_zret rfl rfl (zBo_nar hv) ⟨(Nat.le_of_ble_eq_true rfl), (Nat.le_of_ble_eq_true rfl)⟩ dX12_isTaken_39
  · refine x_iload_n dX12_isTaken_12 rfl ?_
    refine y_join (fun j7 => ∀ (x6 : Int32), Sx ω true 1 0 0 kk_Mod_isTaken (fP m) 0 0 m 31 [some (.ref (zad ω 201)), some (.int p1), none, some (.int x2)] [.int x6] (j7 x6)) ?_ (fun j7 hj7 => ?_)
    · intro x6
      refine x_istore_n (ls' := [some (.ref (zad ω 201)), some (.int p1), some (.int x6), some (.int x2)]) dX12_isTaken_31 (Nat.le_of_ble_eq_true rfl) rfl ?_
      refine y_iinc (w := 1) dX12_isTaken_32 rfl (by decide) (Nat.le_of_ble_eq_true rfl) (fun x8 => ?_)
      refine x_goto (tgt := 4) dX12_isTaken_35 (by decide) ?_
      exact hr3 _ _
    · refine y_join (fun j9 => Sx ω true 1 0 0 kk_Mod_isTaken (fP m) 0 0 m 26 [some (.ref (zad ω 201)), some (.int p1), none, some (.int x2)] [] j9) ?_ (fun j9 hj9 => ?_)
      · refine x_iconst (v := 1) dX12_isTaken_26 (by decide) ?_
        refine x_goto (tgt := 31) dX12_isTaken_27 (by decide) ?_
        exact hj7 _
      · refine x_if_ne (tgt := 26) dX12_isTaken_13 (by decide) (fun hc5 => ?_) (fun hc5 => ?_)
        · refine x_aload_n dX12_isTaken_16 rfl ?_
          refine y_getF fl_RX12_63 hz_201 hq_201_32 (by rw [hz_219]; decide) dX12_isTaken_17 ?_
          refine x_iload_n dX12_isTaken_20 rfl ?_
          refine y_iald hz_219 hn_219 dX12_isTaken_21 (fun hi => ?_)
          refine x_iload_n dX12_isTaken_22 rfl ?_
          refine x_icmp_ne (tgt := 30) dX12_isTaken_23 (by decide) (fun hc10 => ?_) (fun hc10 => ?_)
          · refine y_mask (bs := [true, true, false, true]) (ls' := [some (.ref (zad ω 201)), some (.int p1), none, some (.int x2)]) rfl ?_
            exact hj9
          · refine x_iconst (v := 0) dX12_isTaken_30 (by decide) ?_
            refine y_mask (bs := [true, true, false, true]) (ls' := [some (.ref (zad ω 201)), some (.int p1), none, some (.int x2)]) rfl ?_
            exact hj7 _
        · refine y_mask (bs := [true, true, false, true]) (ls' := [some (.ref (zad ω 201)), some (.int p1), none, some (.int x2)]) rfl ?_
          exact hj9
abbrev kk_Mod_placeFor : Kx := (yX12_placeFor.cls, cX12_placeFor, 6, (some .int), [], false)
set_option maxHeartbeats 4000000 in
set_option maxRecDepth 100000 in
theorem c_Mod_placeFor (ω : Wd) (p1 : Int32) (p2 : Int32) (m : Mm) : Ev ω true 4 0 0 yX12_placeFor cX12_placeFor 6 (some .int) [.ref (zad ω 201), .int p1, .int p2] m (fP m) (f_Mod_placeFor p1 p2 m) := by
  refine Ev.of (b := false) (ls := [some (.ref (zad ω 201)), some (.int p1), some (.int p2), none, none, none]) (plainFor_of_name (by decide +kernel)) (fun h => by cases h) rfl (Nat.le_of_ble_eq_true rfl) rfl ?_
  change Sx ω true 4 0 0 kk_Mod_placeFor (fP m) 0 0 m 0 _ _ _
  unfold f_Mod_placeFor
  refine x_aload_n dX12_placeFor_0 rfl ?_
  refine y_getF fl_RX12_54 hz_201 hq_201_29 (by rw [hz_216]; decide) dX12_placeFor_1 ?_
  refine x_bipush (v := 20) dX12_placeFor_4 (by decide) ?_
  refine x_aload_n dX12_placeFor_6 rfl ?_
  refine y_getI fl_RX12_133 hz_201 dX12_placeFor_7 ?_
  refine x_imul dX12_placeFor_10 ?_
  refine x_iload_n dX12_placeFor_11 rfl ?_
  refine x_iadd dX12_placeFor_12 ?_
  refine y_iald hz_216 hn_216 dX12_placeFor_13 (fun hi => ?_)
  refine y_letI (fun x1 => ?_)
  refine x_istore_n (ls' := [some (.ref (zad ω 201)), some (.int p1), some (.int p2), some (.int x1), none, none]) dX12_placeFor_14 (Nat.le_of_ble_eq_true rfl) rfl ?_
  refine x_iload_n dX12_placeFor_15 rfl ?_
  refine x_iconst (v := (-1)) dX12_placeFor_16 (by decide) ?_
  refine x_icmp_ne (tgt := 22) dX12_placeFor_17 (by decide) (fun hc2 => ?_) (fun hc2 => ?_)
  · refine x_iconst (v := (-1)) dX12_placeFor_20 (by decide) ?_
    exact x_iret rfl rfl ⟨(Nat.le_of_ble_eq_true rfl), (Nat.le_of_ble_eq_true rfl)⟩ dX12_placeFor_21
  · refine x_aload_n dX12_placeFor_22 rfl ?_
    refine y_getF fl_RX12_32 hz_201 hq_201_21 (by rw [hz_209]; decide) dX12_placeFor_23 ?_
    refine x_iload_n dX12_placeFor_26 rfl ?_
    refine y_zald hz_209 hn_209 dX12_placeFor_27 (fun hi => ?_)
    refine y_join (fun j5 => ∀ (x4 : Int32), Sx ω true 4 0 0 kk_Mod_placeFor (fP m) 0 0 m 37 [some (.ref (zad ω 201)), none, some (.int p2), some (.int x1), none, none] [.int x4] (j5 x4)) ?_ (fun j5 hj5 => ?_)
    · intro x4
      refine x_istore (ls' := [some (.ref (zad ω 201)), none, some (.int p2), some (.int x1), some (.int x4), none]) dX12_placeFor_37 (Nat.le_of_ble_eq_true rfl) rfl ?_
      refine x_iconst (v := 0) dX12_placeFor_39 (by decide) ?_
      refine x_istore (ls' := [some (.ref (zad ω 201)), none, some (.int p2), some (.int x1), some (.int x4), some (.int 0)]) dX12_placeFor_40 (Nat.le_of_ble_eq_true rfl) rfl ?_
      refine y_Lq1 (fun x6 => [some (.ref (zad ω 201)), none, some (.int p2), some (.int x1), some (.int x4), some (.int x6)]) (fun r7 hr7 x6 => ?_) zFu _
      refine x_iload dX12_placeFor_42 rfl ?_
      refine x_iload dX12_placeFor_44 rfl ?_
      refine x_icmp_gt (tgt := 83) dX12_placeFor_46 (by decide) (fun hc8 => ?_) (fun hc8 => ?_)
      · refine x_iconst (v := (-1)) dX12_placeFor_83 (by decide) ?_
        exact x_iret rfl rfl ⟨(Nat.le_of_ble_eq_true rfl), (Nat.le_of_ble_eq_true rfl)⟩ dX12_placeFor_84
      · refine x_iload_n dX12_placeFor_49 rfl ?_
        refine x_iload_n dX12_placeFor_50 rfl ?_
        refine x_iload dX12_placeFor_51 rfl ?_
        refine x_iadd dX12_placeFor_53 ?_
        refine y_callSP (rest := []) (c1 := 0) (s1 := 0) (c_Mod_within ω p2 (x1 + x6) m) ms_RX12_265 rfl (Nat.le_of_ble_eq_true rfl) (Nat.le_of_ble_eq_true rfl) (Nat.le_of_ble_eq_true rfl) ⟨rfl, rfl⟩ ⟨(Nat.le_of_ble_eq_true rfl), (Nat.le_of_ble_eq_true rfl)⟩ dX12_placeFor_54 (fun v9 => ?_)
        refine x_iconst (v := (-1)) dX12_placeFor_57 (by decide) ?_
        refine y_join (fun j11 => Sx ω true 4 0 0 kk_Mod_placeFor (fP m) 0 0 m 77 [some (.ref (zad ω 201)), none, some (.int p2), some (.int x1), some (.int x4), some (.int x6)] [] j11) ?_ (fun j11 hj11 => ?_)
        · refine y_iinc (w := 1) dX12_placeFor_77 rfl (by decide) (Nat.le_of_ble_eq_true rfl) (fun x12 => ?_)
          refine x_goto (tgt := 42) dX12_placeFor_80 (by decide) ?_
          exact hr7 _
        · refine x_icmp_eq (tgt := 77) dX12_placeFor_58 (by decide) (fun hc10 => ?_) (fun hc10 => ?_)
          · exact hj11
          · refine x_aload_n dX12_placeFor_61 rfl ?_
            refine x_iload_n dX12_placeFor_62 rfl ?_
            refine x_iload dX12_placeFor_63 rfl ?_
            refine x_iadd dX12_placeFor_65 ?_
            refine y_callVP (rest := []) (c1 := 0) (s1 := 0) (c_Mod_isTaken ω (x1 + x6) m) mv_RX12_297 hz_201 rfl (Nat.le_of_ble_eq_true rfl) (Nat.le_of_ble_eq_true rfl) (Nat.le_of_ble_eq_true rfl) ⟨rfl, rfl⟩ ⟨(Nat.le_of_ble_eq_true rfl), (Nat.le_of_ble_eq_true rfl)⟩ dX12_placeFor_66 (fun v13 => ?_)
            refine x_if_ne (tgt := 77) dX12_placeFor_69 (by decide) (fun hc14 => ?_) (fun hc14 => ?_)
            · refine x_iload_n dX12_placeFor_72 rfl ?_
              refine x_iload dX12_placeFor_73 rfl ?_
              refine x_iadd dX12_placeFor_75 ?_
              exact x_iret rfl rfl ⟨(Nat.le_of_ble_eq_true rfl), (Nat.le_of_ble_eq_true rfl)⟩ dX12_placeFor_76
            · exact hj11
    · refine x_if_eq (tgt := 36) dX12_placeFor_28 (by decide) (fun hc3 => ?_) (fun hc3 => ?_)
      · refine x_iconst (v := 0) dX12_placeFor_36 (by decide) ?_
        refine y_mask (bs := [true, false, true, true, false, false]) (ls' := [some (.ref (zad ω 201)), none, some (.int p2), some (.int x1), none, none]) rfl ?_
        exact hj5 _
      · refine x_bipush (v := 20) dX12_placeFor_31 (by decide) ?_
        refine x_goto (tgt := 37) dX12_placeFor_33 (by decide) ?_
        refine y_mask (bs := [true, false, true, true, false, false]) (ls' := [some (.ref (zad ω 201)), none, some (.int p2), some (.int x1), none, none]) rfl ?_
        exact hj5 _
abbrev kk_Mod_places : Kx := (yX12_places.cls, cX12_places, 4, none, [], false)
set_option maxHeartbeats 4000000 in
set_option maxRecDepth 100000 in
theorem c_Mod_places (ω : Wd) (p1 : Int32) (m : Mm) : Ev ω true 8 0 0 yX12_places cX12_places 4 none [.ref (zad ω 201), .int p1] m fV (f_Mod_places p1 m) := by
  refine Ev.of (b := false) (ls := [some (.ref (zad ω 201)), some (.int p1), none, none]) (plainFor_of_name (by decide +kernel)) (fun h => by cases h) rfl (Nat.le_of_ble_eq_true rfl) rfl ?_
  change Sx ω true 8 0 0 kk_Mod_places fV 0 0 m 0 _ _ _
  unfold f_Mod_places
  refine x_aload_n dX12_places_0 rfl ?_
  refine x_iload_n dX12_places_1 rfl ?_
  refine x_aload_n dX12_places_2 rfl ?_
  refine y_getI fl_RX12_133 hz_201 dX12_places_3 ?_
  refine y_callVV (rest := []) (c1 := 0) (s1 := 0) (c_Mod_finds ω p1 (zI m 201 1) m) mv_RX12_300 hz_201 rfl (Nat.le_of_ble_eq_true rfl) (Nat.le_of_ble_eq_true rfl) (Nat.le_of_ble_eq_true rfl) ⟨rfl, rfl⟩ ⟨(Nat.le_of_ble_eq_true rfl), (Nat.le_of_ble_eq_true rfl)⟩ dX12_places_6 (fun m1 => ?_)
  refine x_iconst (v := 0) dX12_places_9 (by decide) ?_
  refine x_istore_n (ls' := [some (.ref (zad ω 201)), some (.int p1), some (.int 0), none]) dX12_places_10 (Nat.le_of_ble_eq_true rfl) rfl ?_
  refine y_Lp1 (fun x2 => [some (.ref (zad ω 201)), some (.int p1), some (.int x2), none]) (fun r3 hr3 x2 m4 => ?_) zFu _ _
  refine x_iload_n dX12_places_11 rfl ?_
  refine x_aload_n dX12_places_12 rfl ?_
  refine y_getI fl_RX12_231 hz_201 dX12_places_13 ?_
  refine x_icmp_ge (tgt := 32) dX12_places_16 (by decide) (fun hc5 => ?_) (fun hc5 => ?_)
  · refine x_bipush (v := 9) dX12_places_32 (by decide) ?_
    refine x_istore_n (ls' := [some (.ref (zad ω 201)), some (.int p1), some (.int 9), none]) dX12_places_34 (Nat.le_of_ble_eq_true rfl) rfl ?_
    refine y_Lp1 (fun x6 => [some (.ref (zad ω 201)), some (.int p1), some (.int x6), none]) (fun r7 hr7 x6 m8 => ?_) zFu _ _
    refine x_iload_n dX12_places_35 rfl ?_
    refine x_if_lt (tgt := 92) dX12_places_36 (by decide) (fun hc9 => ?_) (fun hc9 => ?_)
    · exact x_vret rfl rfl ⟨(Nat.le_of_ble_eq_true rfl), (Nat.le_of_ble_eq_true rfl)⟩ dX12_places_92
    · refine x_iconst (v := 0) dX12_places_39 (by decide) ?_
      refine x_istore_n (ls' := [some (.ref (zad ω 201)), some (.int p1), some (.int x6), some (.int 0)]) dX12_places_40 (Nat.le_of_ble_eq_true rfl) rfl ?_
      refine y_Lp1 (fun x10 => [some (.ref (zad ω 201)), some (.int p1), some (.int x6), some (.int x10)]) (fun r11 hr11 x10 m12 => ?_) zFu _ _
      refine x_iload_n dX12_places_41 rfl ?_
      refine x_aload_n dX12_places_42 rfl ?_
      refine y_getI fl_RX12_231 hz_201 dX12_places_43 ?_
      refine x_icmp_ge (tgt := 86) dX12_places_46 (by decide) (fun hc13 => ?_) (fun hc13 => ?_)
      · refine y_iinc (w := (-1)) dX12_places_86 rfl (by decide) (Nat.le_of_ble_eq_true rfl) (fun x14 => ?_)
        refine x_goto (tgt := 35) dX12_places_89 (by decide) ?_
        refine y_mask (bs := [true, true, true, false]) (ls' := [some (.ref (zad ω 201)), some (.int p1), some (.int x14), none]) rfl ?_
        exact hr7 _ _
      · refine x_aload_n dX12_places_49 rfl ?_
        refine y_getF fl_RX12_63 hz_201 hq_201_32 (by rw [hz_219]; decide) dX12_places_50 ?_
        refine x_iload_n dX12_places_53 rfl ?_
        refine x_aload_n dX12_places_54 rfl ?_
        refine y_getF fl_RX12_29 hz_201 hq_201_20 (by rw [hz_208]; decide) dX12_places_55 ?_
        refine x_iload_n dX12_places_58 rfl ?_
        refine y_iald hz_208 hn_208 dX12_places_59 (fun hi => ?_)
        refine x_iload_n dX12_places_60 rfl ?_
        refine y_join (fun j17 => ∀ (x16 : Int32), Sx ω true 8 0 0 kk_Mod_places fV 0 0 m12 79 [some (.ref (zad ω 201)), some (.int p1), some (.int x6), some (.int x10)] [.int x16, .int x10, .ref (zad ω 219)] (j17 x16)) ?_ (fun j17 hj17 => ?_)
        · intro x16
          refine y_iast hz_219 hn_219 dX12_places_79 (fun hi => ?_)
          refine y_letM (fun m18 => ?_)
          refine y_iinc (w := 1) dX12_places_80 rfl (by decide) (Nat.le_of_ble_eq_true rfl) (fun x19 => ?_)
          refine x_goto (tgt := 41) dX12_places_83 (by decide) ?_
          exact hr11 _ _
        · refine x_icmp_ne (tgt := 73) dX12_places_61 (by decide) (fun hc15 => ?_) (fun hc15 => ?_)
          · refine x_aload_n dX12_places_64 rfl ?_
            refine x_iload_n dX12_places_65 rfl ?_
            refine x_iload_n dX12_places_66 rfl ?_
            refine y_callVP (rest := [.int x10, .ref (zad ω 219)]) (c1 := 0) (s1 := 0) (c_Mod_placeFor ω x10 p1 m12) mv_RX12_303 hz_201 rfl (Nat.le_of_ble_eq_true rfl) (Nat.le_of_ble_eq_true rfl) (Nat.le_of_ble_eq_true rfl) ⟨rfl, rfl⟩ ⟨(Nat.le_of_ble_eq_true rfl), (Nat.le_of_ble_eq_true rfl)⟩ dX12_places_67 (fun v20 => ?_)
            refine x_goto (tgt := 79) dX12_places_70 (by decide) ?_
            exact hj17 _
          · refine x_aload_n dX12_places_73 rfl ?_
            refine y_getF fl_RX12_63 hz_201 hq_201_32 (by rw [hz_219]; decide) dX12_places_74 ?_
            refine x_iload_n dX12_places_77 rfl ?_
            refine y_iald hz_219 hn_219 dX12_places_78 (fun hi => ?_)
            exact hj17 _
  · refine x_aload_n dX12_places_19 rfl ?_
    refine y_getF fl_RX12_63 hz_201 hq_201_32 (by rw [hz_219]; decide) dX12_places_20 ?_
    refine x_iload_n dX12_places_23 rfl ?_
    refine x_iconst (v := (-1)) dX12_places_24 (by decide) ?_
    refine y_iast hz_219 hn_219 dX12_places_25 (fun hi => ?_)
    refine y_letM (fun m21 => ?_)
    refine y_iinc (w := 1) dX12_places_26 rfl (by decide) (Nat.le_of_ble_eq_true rfl) (fun x22 => ?_)
    refine x_goto (tgt := 11) dX12_places_29 (by decide) ?_
    exact hr3 _ _
abbrev kk_Mod_asks : Kx := (yX12_asks.cls, cX12_asks, 3, (some .boolean), [], false)
set_option maxHeartbeats 4000000 in
set_option maxRecDepth 100000 in
theorem c_Mod_asks (ω : Wd) (p1 : Int32) (p2 : Int32) (m : Mm) : Ev ω true 3 0 0 yX12_asks cX12_asks 3 (some .boolean) [.ref (zad ω 201), .int p1, .int p2] m fI (f_Mod_asks p1 p2 m) := by
  refine Ev.of (b := false) (ls := [some (.ref (zad ω 201)), some (.int p1), some (.int p2)]) (plainFor_of_name (by decide +kernel)) (fun h => by cases h) rfl (Nat.le_of_ble_eq_true rfl) rfl ?_
  change Sx ω true 3 0 0 kk_Mod_asks fI 0 0 m 0 _ _ _
  unfold f_Mod_asks
  refine x_aload_n dX12_asks_0 rfl ?_
  refine x_aload_n dX12_asks_1 rfl ?_
  refine x_iload_n dX12_asks_2 rfl ?_
  refine y_callVP (rest := [.ref (zad ω 201)]) (c1 := 0) (s1 := 0) (c_Mod_isFeast ω p1 m) mv_RX12_244 hz_201 rfl (Nat.le_of_ble_eq_true rfl) (Nat.le_of_ble_eq_true rfl) (Nat.le_of_ble_eq_true rfl) ⟨rfl, rfl⟩ ⟨(Nat.le_of_ble_eq_true rfl), (Nat.le_of_ble_eq_true rfl)⟩ dX12_asks_3 (fun v1 => ?_)
  refine y_join (fun j4 => ∀ (x3 : Int32), Sx ω true 3 0 0 kk_Mod_asks fI 0 0 m 25 [some (.ref (zad ω 201)), none, none] [.int x3, .ref (zad ω 201)] (j4 x3)) ?_ (fun j4 hj4 => ?_)
  · intro x3
    refine y_putI fp_RX12_93 hz_201 dX12_asks_25 ?_
    refine y_letM (fun m5 => ?_)
    refine x_aload_n dX12_asks_28 rfl ?_
    refine y_getI fl_RX12_93 hz_201 dX12_asks_29 ?_
    refine x_if_ne (tgt := 39) dX12_asks_32 (by decide) (fun hc6 => ?_) (fun hc6 => ?_)
    · refine x_iconst (v := 1) dX12_asks_35 (by decide) ?_
      refine x_goto (tgt := 40) dX12_asks_36 (by decide) ?_
      exact x_zret rfl rfl (zBo_nar (by decide)) ⟨(Nat.le_of_ble_eq_true rfl), (Nat.le_of_ble_eq_true rfl)⟩ dX12_asks_40
    · refine x_iconst (v := 0) dX12_asks_39 (by decide) ?_
      exact x_zret rfl rfl (zBo_nar (by decide)) ⟨(Nat.le_of_ble_eq_true rfl), (Nat.le_of_ble_eq_true rfl)⟩ dX12_asks_40
  · refine x_if_ne (tgt := 13) dX12_asks_6 (by decide) (fun hc2 => ?_) (fun hc2 => ?_)
    · refine x_iconst (v := 1) dX12_asks_9 (by decide) ?_
      refine x_goto (tgt := 25) dX12_asks_10 (by decide) ?_
      refine y_mask (bs := [true, false, false]) (ls' := [some (.ref (zad ω 201)), none, none]) rfl ?_
      exact hj4 _
    · refine x_iload_n dX12_asks_13 rfl ?_
      refine y_callSP (rest := [.ref (zad ω 201)]) (c1 := 0) (s1 := 0) (c_Mod_isYear ω p2 m) ms_RX12_250 rfl (Nat.le_of_ble_eq_true rfl) (Nat.le_of_ble_eq_true rfl) (Nat.le_of_ble_eq_true rfl) ⟨rfl, rfl⟩ ⟨(Nat.le_of_ble_eq_true rfl), (Nat.le_of_ble_eq_true rfl)⟩ dX12_asks_14 (fun v7 => ?_)
      refine x_if_eq (tgt := 24) dX12_asks_17 (by decide) (fun hc8 => ?_) (fun hc8 => ?_)
      · refine x_iconst (v := 2) dX12_asks_24 (by decide) ?_
        refine y_mask (bs := [true, false, false]) (ls' := [some (.ref (zad ω 201)), none, none]) rfl ?_
        exact hj4 _
      · refine x_iconst (v := 0) dX12_asks_20 (by decide) ?_
        refine x_goto (tgt := 25) dX12_asks_21 (by decide) ?_
        refine y_mask (bs := [true, false, false]) (ls' := [some (.ref (zad ω 201)), none, none]) rfl ?_
        exact hj4 _
abbrev kk_Mod_bent : Kx := (yX12_bent.cls, cX12_bent, 3, (some .int), [], false)
set_option maxHeartbeats 4000000 in
set_option maxRecDepth 100000 in
theorem c_Mod_bent (ω : Wd) (p1 : Int32) (p2 : Int32) (m : Mm) : Ev ω true 8 0 0 yX12_bent cX12_bent 3 (some .int) [.ref (zad ω 201), .int p1, .int p2] m fI (f_Mod_bent p1 p2 m) := by
  refine Ev.of (b := false) (ls := [some (.ref (zad ω 201)), some (.int p1), some (.int p2)]) (plainFor_of_name (by decide +kernel)) (fun h => by cases h) rfl (Nat.le_of_ble_eq_true rfl) rfl ?_
  change Sx ω true 8 0 0 kk_Mod_bent fI 0 0 m 0 _ _ _
  unfold f_Mod_bent
  refine x_aload_n dX12_bent_0 rfl ?_
  refine x_iload_n dX12_bent_1 rfl ?_
  refine x_iload_n dX12_bent_2 rfl ?_
  refine y_callVI (rest := []) (c1 := 0) (s1 := 0) (c_Mod_asks ω p1 p2 m) mv_RX12_306 hz_201 rfl (Nat.le_of_ble_eq_true rfl) (Nat.le_of_ble_eq_true rfl) (Nat.le_of_ble_eq_true rfl) ⟨rfl, rfl⟩ ⟨(Nat.le_of_ble_eq_true rfl), (Nat.le_of_ble_eq_true rfl)⟩ dX12_bent_3 (fun v2 m1 => ?_)
  refine x_if_ne (tgt := 11) dX12_bent_6 (by decide) (fun hc3 => ?_) (fun hc3 => ?_)
  · refine x_iconst (v := 0) dX12_bent_9 (by decide) ?_
    exact x_iret rfl rfl ⟨(Nat.le_of_ble_eq_true rfl), (Nat.le_of_ble_eq_true rfl)⟩ dX12_bent_10
  · refine x_aload_n dX12_bent_11 rfl ?_
    refine x_iload_n dX12_bent_12 rfl ?_
    refine x_aload_n dX12_bent_13 rfl ?_
    refine y_getI fl_RX12_133 hz_201 dX12_bent_14 ?_
    refine y_callVV (rest := []) (c1 := 0) (s1 := 0) (c_Mod_finds ω p2 (zI m1 201 1) m1) mv_RX12_300 hz_201 rfl (Nat.le_of_ble_eq_true rfl) (Nat.le_of_ble_eq_true rfl) (Nat.le_of_ble_eq_true rfl) ⟨rfl, rfl⟩ ⟨(Nat.le_of_ble_eq_true rfl), (Nat.le_of_ble_eq_true rfl)⟩ dX12_bent_17 (fun m4 => ?_)
    refine x_aload_n dX12_bent_20 rfl ?_
    refine y_getF fl_RX12_54 hz_201 hq_201_29 (by rw [hz_216]; decide) dX12_bent_21 ?_
    refine x_bipush (v := 20) dX12_bent_24 (by decide) ?_
    refine x_aload_n dX12_bent_26 rfl ?_
    refine y_getI fl_RX12_133 hz_201 dX12_bent_27 ?_
    refine x_imul dX12_bent_30 ?_
    refine x_iload_n dX12_bent_31 rfl ?_
    refine x_iadd dX12_bent_32 ?_
    refine y_iald hz_216 hn_216 dX12_bent_33 (fun hi => ?_)
    exact x_iret rfl rfl ⟨(Nat.le_of_ble_eq_true rfl), (Nat.le_of_ble_eq_true rfl)⟩ dX12_bent_34
abbrev kk_Mod_day : Kx := (yX12_day.cls, cX12_day, 3, (some .int), [], false)
set_option maxHeartbeats 4000000 in
set_option maxRecDepth 100000 in
theorem c_Mod_day (ω : Wd) (p1 : Int32) (p2 : Int32) (m : Mm) : Ev ω true 9 0 0 yX12_day cX12_day 3 (some .int) [.ref (zad ω 201), .int p1, .int p2] m fI (f_Mod_day p1 p2 m) := by
  refine Ev.of (b := false) (ls := [some (.ref (zad ω 201)), some (.int p1), some (.int p2)]) (plainFor_of_name (by decide +kernel)) (fun h => by cases h) rfl (Nat.le_of_ble_eq_true rfl) rfl ?_
  change Sx ω true 9 0 0 kk_Mod_day fI 0 0 m 0 _ _ _
  unfold f_Mod_day
  refine x_aload_n dX12_day_0 rfl ?_
  refine x_iload_n dX12_day_1 rfl ?_
  refine x_iload_n dX12_day_2 rfl ?_
  refine y_callVI (rest := []) (c1 := 0) (s1 := 0) (c_Mod_asks ω p1 p2 m) mv_RX12_306 hz_201 rfl (Nat.le_of_ble_eq_true rfl) (Nat.le_of_ble_eq_true rfl) (Nat.le_of_ble_eq_true rfl) ⟨rfl, rfl⟩ ⟨(Nat.le_of_ble_eq_true rfl), (Nat.le_of_ble_eq_true rfl)⟩ dX12_day_3 (fun v2 m1 => ?_)
  refine x_if_ne (tgt := 11) dX12_day_6 (by decide) (fun hc3 => ?_) (fun hc3 => ?_)
  · refine x_iconst (v := 0) dX12_day_9 (by decide) ?_
    exact x_iret rfl rfl ⟨(Nat.le_of_ble_eq_true rfl), (Nat.le_of_ble_eq_true rfl)⟩ dX12_day_10
  · refine x_aload_n dX12_day_11 rfl ?_
    refine x_iload_n dX12_day_12 rfl ?_
    refine y_callVV (rest := []) (c1 := 0) (s1 := 0) (c_Mod_places ω p2 m1) mv_RX12_310 hz_201 rfl (Nat.le_of_ble_eq_true rfl) (Nat.le_of_ble_eq_true rfl) (Nat.le_of_ble_eq_true rfl) ⟨rfl, rfl⟩ ⟨(Nat.le_of_ble_eq_true rfl), (Nat.le_of_ble_eq_true rfl)⟩ dX12_day_13 (fun m4 => ?_)
    refine x_aload_n dX12_day_16 rfl ?_
    refine y_getF fl_RX12_63 hz_201 hq_201_32 (by rw [hz_219]; decide) dX12_day_17 ?_
    refine x_iload_n dX12_day_20 rfl ?_
    refine y_iald hz_219 hn_219 dX12_day_21 (fun hi => ?_)
    exact x_iret rfl rfl ⟨(Nat.le_of_ble_eq_true rfl), (Nat.le_of_ble_eq_true rfl)⟩ dX12_day_22
abbrev kk_Mod_dayByDays : Kx := (yX12_dayByDays.cls, cX12_dayByDays, 3, (some .int), [], false)
set_option maxHeartbeats 4000000 in
set_option maxRecDepth 100000 in
theorem c_Mod_dayByDays (ω : Wd) (p1 : Int32) (p2 : Int32) (m : Mm) : Ev ω true 9 0 0 yX12_dayByDays cX12_dayByDays 3 (some .int) [.ref (zad ω 201), .int p1, .int p2] m fI (f_Mod_dayByDays p1 p2 m) := by
  refine Ev.of (b := false) (ls := [some (.ref (zad ω 201)), some (.int p1), some (.int p2)]) (plainFor_of_name (by decide +kernel)) (fun h => by cases h) rfl (Nat.le_of_ble_eq_true rfl) rfl ?_
  change Sx ω true 9 0 0 kk_Mod_dayByDays fI 0 0 m 0 _ _ _
  unfold f_Mod_dayByDays
  refine x_aload_n dX12_dayByDays_0 rfl ?_
  refine x_iload_n dX12_dayByDays_1 rfl ?_
  refine x_iload_n dX12_dayByDays_2 rfl ?_
  refine y_callVI (rest := []) (c1 := 0) (s1 := 0) (c_Mod_asks ω p1 p2 m) mv_RX12_306 hz_201 rfl (Nat.le_of_ble_eq_true rfl) (Nat.le_of_ble_eq_true rfl) (Nat.le_of_ble_eq_true rfl) ⟨rfl, rfl⟩ ⟨(Nat.le_of_ble_eq_true rfl), (Nat.le_of_ble_eq_true rfl)⟩ dX12_dayByDays_3 (fun v2 m1 => ?_)
  refine x_if_ne (tgt := 11) dX12_dayByDays_6 (by decide) (fun hc3 => ?_) (fun hc3 => ?_)
  · refine x_iconst (v := 0) dX12_dayByDays_9 (by decide) ?_
    exact x_iret rfl rfl ⟨(Nat.le_of_ble_eq_true rfl), (Nat.le_of_ble_eq_true rfl)⟩ dX12_dayByDays_10
  · refine x_aload_n dX12_dayByDays_11 rfl ?_
    refine x_iload_n dX12_dayByDays_12 rfl ?_
    refine y_callVV (rest := []) (c1 := 0) (s1 := 0) (c_Mod_places ω p2 m1) mv_RX12_310 hz_201 rfl (Nat.le_of_ble_eq_true rfl) (Nat.le_of_ble_eq_true rfl) (Nat.le_of_ble_eq_true rfl) ⟨rfl, rfl⟩ ⟨(Nat.le_of_ble_eq_true rfl), (Nat.le_of_ble_eq_true rfl)⟩ dX12_dayByDays_13 (fun m4 => ?_)
    refine x_aload_n dX12_dayByDays_16 rfl ?_
    refine y_getF fl_RX12_63 hz_201 hq_201_32 (by rw [hz_219]; decide) dX12_dayByDays_17 ?_
    refine x_iload_n dX12_dayByDays_20 rfl ?_
    refine y_iald hz_219 hn_219 dX12_dayByDays_21 (fun hi => ?_)
    exact x_iret rfl rfl ⟨(Nat.le_of_ble_eq_true rfl), (Nat.le_of_ble_eq_true rfl)⟩ dX12_dayByDays_22
abbrev kk_Mod_clashesNow : Kx := (yX12_clashesNow.cls, cX12_clashesNow, 5, (some .int), [], false)
set_option maxHeartbeats 4000000 in
set_option maxRecDepth 100000 in
theorem c_Mod_clashesNow (ω : Wd) (m : Mm) : Ev ω true 1 0 0 yX12_clashesNow cX12_clashesNow 5 (some .int) [.ref (zad ω 201)] m (fP m) (f_Mod_clashesNow m) := by
  refine Ev.of (b := false) (ls := [some (.ref (zad ω 201)), none, none, none, none]) (plainFor_of_name (by decide +kernel)) (fun h => by cases h) rfl (Nat.le_of_ble_eq_true rfl) rfl ?_
  change Sx ω true 1 0 0 kk_Mod_clashesNow (fP m) 0 0 m 0 _ _ _
  unfold f_Mod_clashesNow
  refine x_iconst (v := 0) dX12_clashesNow_0 (by decide) ?_
  refine x_istore_n (ls' := [some (.ref (zad ω 201)), some (.int 0), none, none, none]) dX12_clashesNow_1 (Nat.le_of_ble_eq_true rfl) rfl ?_
  refine x_iconst (v := 0) dX12_clashesNow_2 (by decide) ?_
  refine x_istore_n (ls' := [some (.ref (zad ω 201)), some (.int 0), some (.int 0), none, none]) dX12_clashesNow_3 (Nat.le_of_ble_eq_true rfl) rfl ?_
  refine y_Lq2 (fun x1 x2 => [some (.ref (zad ω 201)), some (.int x1), some (.int x2), none, none]) (fun r3 hr3 x1 x2 => ?_) zFu _ _
  refine x_iload_n dX12_clashesNow_4 rfl ?_
  refine x_aload_n dX12_clashesNow_5 rfl ?_
  refine y_getI fl_RX12_231 hz_201 dX12_clashesNow_6 ?_
  refine x_icmp_ge (tgt := 85) dX12_clashesNow_9 (by decide) (fun hc4 => ?_) (fun hc4 => ?_)
  · refine x_iload_n dX12_clashesNow_85 rfl ?_
    exact x_iret rfl rfl ⟨(Nat.le_of_ble_eq_true rfl), (Nat.le_of_ble_eq_true rfl)⟩ dX12_clashesNow_86
  · refine x_iload_n dX12_clashesNow_12 rfl ?_
    refine x_iconst (v := 1) dX12_clashesNow_13 (by decide) ?_
    refine x_iadd dX12_clashesNow_14 ?_
    refine y_letI (fun x5 => ?_)
    refine x_istore_n (ls' := [some (.ref (zad ω 201)), some (.int x1), some (.int x2), some (.int x5), none]) dX12_clashesNow_15 (Nat.le_of_ble_eq_true rfl) rfl ?_
    refine y_Lq2 (fun x6 x7 => [some (.ref (zad ω 201)), some (.int x6), some (.int x2), some (.int x7), none]) (fun r8 hr8 x6 x7 => ?_) zFu _ _
    refine x_iload_n dX12_clashesNow_16 rfl ?_
    refine x_aload_n dX12_clashesNow_17 rfl ?_
    refine y_getI fl_RX12_231 hz_201 dX12_clashesNow_18 ?_
    refine x_icmp_ge (tgt := 79) dX12_clashesNow_21 (by decide) (fun hc9 => ?_) (fun hc9 => ?_)
    · refine y_iinc (w := 1) dX12_clashesNow_79 rfl (by decide) (Nat.le_of_ble_eq_true rfl) (fun x10 => ?_)
      refine x_goto (tgt := 4) dX12_clashesNow_82 (by decide) ?_
      refine y_mask (bs := [true, true, true, false, false]) (ls' := [some (.ref (zad ω 201)), some (.int x6), some (.int x10), none, none]) rfl ?_
      exact hr3 _ _
    · refine x_aload_n dX12_clashesNow_24 rfl ?_
      refine y_getF fl_RX12_54 hz_201 hq_201_29 (by rw [hz_216]; decide) dX12_clashesNow_25 ?_
      refine x_bipush (v := 20) dX12_clashesNow_28 (by decide) ?_
      refine x_aload_n dX12_clashesNow_30 rfl ?_
      refine y_getI fl_RX12_133 hz_201 dX12_clashesNow_31 ?_
      refine x_imul dX12_clashesNow_34 ?_
      refine x_iload_n dX12_clashesNow_35 rfl ?_
      refine x_iadd dX12_clashesNow_36 ?_
      refine y_iald hz_216 hn_216 dX12_clashesNow_37 (fun hi => ?_)
      refine y_letI (fun x11 => ?_)
      refine x_istore (ls' := [some (.ref (zad ω 201)), some (.int x6), some (.int x2), some (.int x7), some (.int x11)]) dX12_clashesNow_38 (Nat.le_of_ble_eq_true rfl) rfl ?_
      refine x_iload_n dX12_clashesNow_40 rfl ?_
      refine x_iload dX12_clashesNow_41 rfl ?_
      refine x_iconst (v := (-1)) dX12_clashesNow_43 (by decide) ?_
      refine y_join (fun j14 => ∀ (x13 : Int32), Sx ω true 1 0 0 kk_Mod_clashesNow (fP m) 0 0 m 71 [some (.ref (zad ω 201)), none, some (.int x2), some (.int x7), none] [.int x13, .int x6] (j14 x13)) ?_ (fun j14 hj14 => ?_)
      · intro x13
        refine x_iadd dX12_clashesNow_71 ?_
        refine y_letI (fun x15 => ?_)
        refine x_istore_n (ls' := [some (.ref (zad ω 201)), some (.int x15), some (.int x2), some (.int x7), none]) dX12_clashesNow_72 (Nat.le_of_ble_eq_true rfl) rfl ?_
        refine y_iinc (w := 1) dX12_clashesNow_73 rfl (by decide) (Nat.le_of_ble_eq_true rfl) (fun x16 => ?_)
        refine x_goto (tgt := 16) dX12_clashesNow_76 (by decide) ?_
        exact hr8 _ _
      · refine y_join (fun j17 => Sx ω true 1 0 0 kk_Mod_clashesNow (fP m) 0 0 m 70 [some (.ref (zad ω 201)), none, some (.int x2), some (.int x7), none] [.int x6] j17) ?_ (fun j17 hj17 => ?_)
        · refine x_iconst (v := 0) dX12_clashesNow_70 (by decide) ?_
          exact hj14 _
        · refine x_icmp_eq (tgt := 70) dX12_clashesNow_44 (by decide) (fun hc12 => ?_) (fun hc12 => ?_)
          · refine y_mask (bs := [true, false, true, true, false]) (ls' := [some (.ref (zad ω 201)), none, some (.int x2), some (.int x7), none]) rfl ?_
            exact hj17
          · refine x_iload dX12_clashesNow_47 rfl ?_
            refine x_aload_n dX12_clashesNow_49 rfl ?_
            refine y_getF fl_RX12_54 hz_201 hq_201_29 (by rw [hz_216]; decide) dX12_clashesNow_50 ?_
            refine x_bipush (v := 20) dX12_clashesNow_53 (by decide) ?_
            refine x_aload_n dX12_clashesNow_55 rfl ?_
            refine y_getI fl_RX12_133 hz_201 dX12_clashesNow_56 ?_
            refine x_imul dX12_clashesNow_59 ?_
            refine x_iload_n dX12_clashesNow_60 rfl ?_
            refine x_iadd dX12_clashesNow_61 ?_
            refine y_iald hz_216 hn_216 dX12_clashesNow_62 (fun hi => ?_)
            refine x_icmp_ne (tgt := 70) dX12_clashesNow_63 (by decide) (fun hc18 => ?_) (fun hc18 => ?_)
            · refine x_iconst (v := 1) dX12_clashesNow_66 (by decide) ?_
              refine x_goto (tgt := 71) dX12_clashesNow_67 (by decide) ?_
              refine y_mask (bs := [true, false, true, true, false]) (ls' := [some (.ref (zad ω 201)), none, some (.int x2), some (.int x7), none]) rfl ?_
              exact hj14 _
            · refine y_mask (bs := [true, false, true, true, false]) (ls' := [some (.ref (zad ω 201)), none, some (.int x2), some (.int x7), none]) rfl ?_
              exact hj17
abbrev kk_Mod_clashes : Kx := (yX12_clashes.cls, cX12_clashes, 2, (some .int), [], false)
set_option maxHeartbeats 4000000 in
set_option maxRecDepth 100000 in
theorem c_Mod_clashes (ω : Wd) (p1 : Int32) (m : Mm) : Ev ω true 8 0 0 yX12_clashes cX12_clashes 2 (some .int) [.ref (zad ω 201), .int p1] m fI (f_Mod_clashes p1 m) := by
  refine Ev.of (b := false) (ls := [some (.ref (zad ω 201)), some (.int p1)]) (plainFor_of_name (by decide +kernel)) (fun h => by cases h) rfl (Nat.le_of_ble_eq_true rfl) rfl ?_
  change Sx ω true 8 0 0 kk_Mod_clashes fI 0 0 m 0 _ _ _
  unfold f_Mod_clashes
  refine x_aload_n dX12_clashes_0 rfl ?_
  refine x_iload_n dX12_clashes_1 rfl ?_
  refine y_callSP (rest := [.ref (zad ω 201)]) (c1 := 0) (s1 := 0) (c_Mod_isYear ω p1 m) ms_RX12_250 rfl (Nat.le_of_ble_eq_true rfl) (Nat.le_of_ble_eq_true rfl) (Nat.le_of_ble_eq_true rfl) ⟨rfl, rfl⟩ ⟨(Nat.le_of_ble_eq_true rfl), (Nat.le_of_ble_eq_true rfl)⟩ dX12_clashes_2 (fun v1 => ?_)
  refine y_join (fun j4 => ∀ (x3 : Int32), Sx ω true 8 0 0 kk_Mod_clashes fI 0 0 m 13 [some (.ref (zad ω 201)), some (.int p1)] [.int x3, .ref (zad ω 201)] (j4 x3)) ?_ (fun j4 hj4 => ?_)
  · intro x3
    refine y_putI fp_RX12_93 hz_201 dX12_clashes_13 ?_
    refine y_letM (fun m5 => ?_)
    refine x_aload_n dX12_clashes_16 rfl ?_
    refine y_getI fl_RX12_93 hz_201 dX12_clashes_17 ?_
    refine x_if_le (tgt := 25) dX12_clashes_20 (by decide) (fun hc6 => ?_) (fun hc6 => ?_)
    · refine x_aload_n dX12_clashes_25 rfl ?_
      refine x_iload_n dX12_clashes_26 rfl ?_
      refine x_aload_n dX12_clashes_27 rfl ?_
      refine y_getI fl_RX12_133 hz_201 dX12_clashes_28 ?_
      refine y_callVV (rest := []) (c1 := 0) (s1 := 0) (c_Mod_finds ω p1 (zI m5 201 1) m5) mv_RX12_300 hz_201 rfl (Nat.le_of_ble_eq_true rfl) (Nat.le_of_ble_eq_true rfl) (Nat.le_of_ble_eq_true rfl) ⟨rfl, rfl⟩ ⟨(Nat.le_of_ble_eq_true rfl), (Nat.le_of_ble_eq_true rfl)⟩ dX12_clashes_31 (fun m7 => ?_)
      refine x_aload_n dX12_clashes_34 rfl ?_
      refine y_callVP (rest := []) (c1 := 0) (s1 := 0) (c_Mod_clashesNow ω m7) mv_RX12_313 hz_201 rfl (Nat.le_of_ble_eq_true rfl) (Nat.le_of_ble_eq_true rfl) (Nat.le_of_ble_eq_true rfl) ⟨rfl, rfl⟩ ⟨(Nat.le_of_ble_eq_true rfl), (Nat.le_of_ble_eq_true rfl)⟩ dX12_clashes_35 (fun v8 => ?_)
      exact x_iret rfl rfl ⟨(Nat.le_of_ble_eq_true rfl), (Nat.le_of_ble_eq_true rfl)⟩ dX12_clashes_38
    · refine x_iconst (v := 0) dX12_clashes_23 (by decide) ?_
      exact x_iret rfl rfl ⟨(Nat.le_of_ble_eq_true rfl), (Nat.le_of_ble_eq_true rfl)⟩ dX12_clashes_24
  · refine x_if_eq (tgt := 12) dX12_clashes_5 (by decide) (fun hc2 => ?_) (fun hc2 => ?_)
    · refine x_iconst (v := 1) dX12_clashes_12 (by decide) ?_
      exact hj4 _
    · refine x_iconst (v := 0) dX12_clashes_8 (by decide) ?_
      refine x_goto (tgt := 13) dX12_clashes_9 (by decide) ?_
      exact hj4 _
abbrev kk_Mod_isNight : Kx := (yX12_isNight.cls, cX12_isNight, 4, (some .boolean), [], false)
set_option maxHeartbeats 4000000 in
set_option maxRecDepth 100000 in
theorem c_Mod_isNight (ω : Wd) (p1 : Int32) (m : Mm) : Ev ω true 1 0 0 yX12_isNight cX12_isNight 4 (some .boolean) [.ref (zad ω 201), .int p1] m (fP m) (f_Mod_isNight p1 m) := by
  refine Ev.of (b := false) (ls := [some (.ref (zad ω 201)), some (.int p1), none, none]) (plainFor_of_name (by decide +kernel)) (fun h => by cases h) rfl (Nat.le_of_ble_eq_true rfl) rfl ?_
  change Sx ω true 1 0 0 kk_Mod_isNight (fP m) 0 0 m 0 _ _ _
  unfold f_Mod_isNight
  refine x_aload_n dX12_isNight_0 rfl ?_
  refine y_getF fl_RX12_54 hz_201 hq_201_29 (by rw [hz_216]; decide) dX12_isNight_1 ?_
  refine x_iload_n dX12_isNight_4 rfl ?_
  refine y_iald hz_216 hn_216 dX12_isNight_5 (fun hi => ?_)
  refine y_letI (fun x1 => ?_)
  refine x_istore_n (ls' := [some (.ref (zad ω 201)), some (.int p1), some (.int x1), none]) dX12_isNight_6 (Nat.le_of_ble_eq_true rfl) rfl ?_
  refine x_aload_n dX12_isNight_7 rfl ?_
  refine y_getF fl_RX12_54 hz_201 hq_201_29 (by rw [hz_216]; decide) dX12_isNight_8 ?_
  refine x_bipush (v := 20) dX12_isNight_11 (by decide) ?_
  refine x_iload_n dX12_isNight_13 rfl ?_
  refine x_iadd dX12_isNight_14 ?_
  refine y_iald hz_216 hn_216 dX12_isNight_15 (fun hi => ?_)
  refine y_letI (fun x2 => ?_)
  refine x_istore_n (ls' := [some (.ref (zad ω 201)), some (.int p1), some (.int x1), some (.int x2)]) dX12_isNight_16 (Nat.le_of_ble_eq_true rfl) rfl ?_
  refine x_iload_n dX12_isNight_17 rfl ?_
  refine x_iconst (v := (-1)) dX12_isNight_18 (by decide) ?_
  refine y_join (fun j4 => Sx ω true 1 0 0 kk_Mod_isNight (fP m) 0 0 m 45 [none, none, none, none] [] j4) ?_ (fun j4 hj4 => ?_)
  · refine x_iconst (v := 0) dX12_isNight_45 (by decide) ?_
    exact x_zret rfl rfl (zBo_nar (by decide)) ⟨(Nat.le_of_ble_eq_true rfl), (Nat.le_of_ble_eq_true rfl)⟩ dX12_isNight_46
  · refine x_icmp_eq (tgt := 45) dX12_isNight_19 (by decide) (fun hc3 => ?_) (fun hc3 => ?_)
    · refine y_mask (bs := [false, false, false, false]) (ls' := [none, none, none, none]) rfl ?_
      exact hj4
    · refine x_iload_n dX12_isNight_22 rfl ?_
      refine x_iconst (v := (-1)) dX12_isNight_23 (by decide) ?_
      refine x_icmp_eq (tgt := 45) dX12_isNight_24 (by decide) (fun hc5 => ?_) (fun hc5 => ?_)
      · refine y_mask (bs := [false, false, false, false]) (ls' := [none, none, none, none]) rfl ?_
        exact hj4
      · refine x_iload_n dX12_isNight_27 rfl ?_
        refine x_iload_n dX12_isNight_28 rfl ?_
        refine x_isub dX12_isNight_29 ?_
        refine x_iconst (v := 1) dX12_isNight_30 (by decide) ?_
        refine y_join (fun j7 => Sx ω true 1 0 0 kk_Mod_isNight (fP m) 0 0 m 41 [none, none, none, none] [] j7) ?_ (fun j7 hj7 => ?_)
        · refine x_iconst (v := 1) dX12_isNight_41 (by decide) ?_
          refine x_goto (tgt := 46) dX12_isNight_42 (by decide) ?_
          exact x_zret rfl rfl (zBo_nar (by decide)) ⟨(Nat.le_of_ble_eq_true rfl), (Nat.le_of_ble_eq_true rfl)⟩ dX12_isNight_46
        · refine x_icmp_eq (tgt := 41) dX12_isNight_31 (by decide) (fun hc6 => ?_) (fun hc6 => ?_)
          · refine y_mask (bs := [false, false, false, false]) (ls' := [none, none, none, none]) rfl ?_
            exact hj7
          · refine x_iload_n dX12_isNight_34 rfl ?_
            refine x_iload_n dX12_isNight_35 rfl ?_
            refine x_isub dX12_isNight_36 ?_
            refine x_iconst (v := 1) dX12_isNight_37 (by decide) ?_
            refine x_icmp_ne (tgt := 45) dX12_isNight_38 (by decide) (fun hc8 => ?_) (fun hc8 => ?_)
            · refine y_mask (bs := [false, false, false, false]) (ls' := [none, none, none, none]) rfl ?_
              exact hj7
            · refine y_mask (bs := [false, false, false, false]) (ls' := [none, none, none, none]) rfl ?_
              exact hj4
abbrev kk_Mod_isMidnight : Kx := (yX12_isMidnight.cls, cX12_isMidnight, 3, (some .boolean), [], false)
set_option maxHeartbeats 4000000 in
set_option maxRecDepth 100000 in
theorem c_Mod_isMidnight (ω : Wd) (p1 : Int32) (p2 : Int32) (m : Mm) : Ev ω true 8 0 0 yX12_isMidnight cX12_isMidnight 3 (some .boolean) [.ref (zad ω 201), .int p1, .int p2] m fI (f_Mod_isMidnight p1 p2 m) := by
  refine Ev.of (b := false) (ls := [some (.ref (zad ω 201)), some (.int p1), some (.int p2)]) (plainFor_of_name (by decide +kernel)) (fun h => by cases h) rfl (Nat.le_of_ble_eq_true rfl) rfl ?_
  change Sx ω true 8 0 0 kk_Mod_isMidnight fI 0 0 m 0 _ _ _
  unfold f_Mod_isMidnight
  refine x_aload_n dX12_isMidnight_0 rfl ?_
  refine x_iload_n dX12_isMidnight_1 rfl ?_
  refine x_iload_n dX12_isMidnight_2 rfl ?_
  refine y_callVI (rest := []) (c1 := 0) (s1 := 0) (c_Mod_asks ω p1 p2 m) mv_RX12_306 hz_201 rfl (Nat.le_of_ble_eq_true rfl) (Nat.le_of_ble_eq_true rfl) (Nat.le_of_ble_eq_true rfl) ⟨rfl, rfl⟩ ⟨(Nat.le_of_ble_eq_true rfl), (Nat.le_of_ble_eq_true rfl)⟩ dX12_isMidnight_3 (fun v2 m1 => ?_)
  refine x_if_ne (tgt := 11) dX12_isMidnight_6 (by decide) (fun hc3 => ?_) (fun hc3 => ?_)
  · refine x_iconst (v := 0) dX12_isMidnight_9 (by decide) ?_
    exact x_zret rfl rfl (zBo_nar (by decide)) ⟨(Nat.le_of_ble_eq_true rfl), (Nat.le_of_ble_eq_true rfl)⟩ dX12_isMidnight_10
  · refine x_aload_n dX12_isMidnight_11 rfl ?_
    refine x_iload_n dX12_isMidnight_12 rfl ?_
    refine x_iconst (v := 0) dX12_isMidnight_13 (by decide) ?_
    refine y_callVV (rest := []) (c1 := 0) (s1 := 0) (c_Mod_finds ω p2 0 m1) mv_RX12_300 hz_201 rfl (Nat.le_of_ble_eq_true rfl) (Nat.le_of_ble_eq_true rfl) (Nat.le_of_ble_eq_true rfl) ⟨rfl, rfl⟩ ⟨(Nat.le_of_ble_eq_true rfl), (Nat.le_of_ble_eq_true rfl)⟩ dX12_isMidnight_14 (fun m4 => ?_)
    refine x_aload_n dX12_isMidnight_17 rfl ?_
    refine x_iload_n dX12_isMidnight_18 rfl ?_
    refine x_iconst (v := 1) dX12_isMidnight_19 (by decide) ?_
    refine y_callVV (rest := []) (c1 := 0) (s1 := 0) (c_Mod_finds ω p2 1 m4) mv_RX12_300 hz_201 rfl (Nat.le_of_ble_eq_true rfl) (Nat.le_of_ble_eq_true rfl) (Nat.le_of_ble_eq_true rfl) ⟨rfl, rfl⟩ ⟨(Nat.le_of_ble_eq_true rfl), (Nat.le_of_ble_eq_true rfl)⟩ dX12_isMidnight_20 (fun m5 => ?_)
    refine x_aload_n dX12_isMidnight_23 rfl ?_
    refine x_iload_n dX12_isMidnight_24 rfl ?_
    refine y_callVP (rest := []) (c1 := 0) (s1 := 0) (c_Mod_isNight ω p1 m5) mv_RX12_317 hz_201 rfl (Nat.le_of_ble_eq_true rfl) (Nat.le_of_ble_eq_true rfl) (Nat.le_of_ble_eq_true rfl) ⟨rfl, rfl⟩ ⟨(Nat.le_of_ble_eq_true rfl), (Nat.le_of_ble_eq_true rfl)⟩ dX12_isMidnight_25 (fun v6 => ?_)
    refine x_guard (fun hv => ?_)
    exact x_zret rfl rfl (zBo_nar hv) ⟨(Nat.le_of_ble_eq_true rfl), (Nat.le_of_ble_eq_true rfl)⟩ dX12_isMidnight_28
abbrev kk_Mod_steps : Kx := (yX12_steps.cls, cX12_steps, 2, (some .int), [], false)
set_option maxHeartbeats 4000000 in
set_option maxRecDepth 100000 in
theorem c_Mod_steps (ω : Wd) (p1 : Int32) (m : Mm) : Ev ω true 3 0 0 yX12_steps cX12_steps 2 (some .int) [.ref (zad ω 201), .int p1] m fI (f_Mod_steps p1 m) := by
  refine Ev.of (b := false) (ls := [some (.ref (zad ω 201)), some (.int p1)]) (plainFor_of_name (by decide +kernel)) (fun h => by cases h) rfl (Nat.le_of_ble_eq_true rfl) rfl ?_
  change Sx ω true 3 0 0 kk_Mod_steps fI 0 0 m 0 _ _ _
  unfold f_Mod_steps
  refine x_aload_n dX12_steps_0 rfl ?_
  refine x_aload_n dX12_steps_1 rfl ?_
  refine x_iload_n dX12_steps_2 rfl ?_
  refine y_callVP (rest := [.ref (zad ω 201)]) (c1 := 0) (s1 := 0) (c_Mod_isFeast ω p1 m) mv_RX12_244 hz_201 rfl (Nat.le_of_ble_eq_true rfl) (Nat.le_of_ble_eq_true rfl) (Nat.le_of_ble_eq_true rfl) ⟨rfl, rfl⟩ ⟨(Nat.le_of_ble_eq_true rfl), (Nat.le_of_ble_eq_true rfl)⟩ dX12_steps_3 (fun v1 => ?_)
  refine y_join (fun j4 => ∀ (x3 : Int32), Sx ω true 3 0 0 kk_Mod_steps fI 0 0 m 14 [some (.ref (zad ω 201)), some (.int p1)] [.int x3, .ref (zad ω 201)] (j4 x3)) ?_ (fun j4 hj4 => ?_)
  · intro x3
    refine y_putI fp_RX12_93 hz_201 dX12_steps_14 ?_
    refine y_letM (fun m5 => ?_)
    refine x_aload_n dX12_steps_17 rfl ?_
    refine y_getI fl_RX12_93 hz_201 dX12_steps_18 ?_
    refine x_if_le (tgt := 28) dX12_steps_21 (by decide) (fun hc6 => ?_) (fun hc6 => ?_)
    · refine x_aload_n dX12_steps_28 rfl ?_
      refine y_getF fl_RX12_36 hz_201 hq_201_22 (by rw [hz_210]; decide) dX12_steps_29 ?_
      refine x_iload_n dX12_steps_32 rfl ?_
      refine y_iald hz_210 hn_210 dX12_steps_33 (fun hi => ?_)
      exact x_iret rfl rfl ⟨(Nat.le_of_ble_eq_true rfl), (Nat.le_of_ble_eq_true rfl)⟩ dX12_steps_34
    · refine x_iconst (v := 0) dX12_steps_24 (by decide) ?_
      refine x_goto (tgt := 34) dX12_steps_25 (by decide) ?_
      exact x_iret rfl rfl ⟨(Nat.le_of_ble_eq_true rfl), (Nat.le_of_ble_eq_true rfl)⟩ dX12_steps_34
  · refine x_if_eq (tgt := 13) dX12_steps_6 (by decide) (fun hc2 => ?_) (fun hc2 => ?_)
    · refine x_iconst (v := 1) dX12_steps_13 (by decide) ?_
      exact hj4 _
    · refine x_iconst (v := 0) dX12_steps_9 (by decide) ?_
      refine x_goto (tgt := 14) dX12_steps_10 (by decide) ?_
      exact hj4 _
abbrev kk_Mod_step : Kx := (yX12_step.cls, cX12_step, 3, (some .int), [], false)
set_option maxHeartbeats 4000000 in
set_option maxRecDepth 100000 in
theorem c_Mod_step (ω : Wd) (p1 : Int32) (p2 : Int32) (m : Mm) : Ev ω true 3 0 0 yX12_step cX12_step 3 (some .int) [.ref (zad ω 201), .int p1, .int p2] m fI (f_Mod_step p1 p2 m) := by
  refine Ev.of (b := false) (ls := [some (.ref (zad ω 201)), some (.int p1), some (.int p2)]) (plainFor_of_name (by decide +kernel)) (fun h => by cases h) rfl (Nat.le_of_ble_eq_true rfl) rfl ?_
  change Sx ω true 3 0 0 kk_Mod_step fI 0 0 m 0 _ _ _
  unfold f_Mod_step
  refine x_aload_n dX12_step_0 rfl ?_
  refine x_aload_n dX12_step_1 rfl ?_
  refine x_iload_n dX12_step_2 rfl ?_
  refine y_callVP (rest := [.ref (zad ω 201)]) (c1 := 0) (s1 := 0) (c_Mod_isFeast ω p1 m) mv_RX12_244 hz_201 rfl (Nat.le_of_ble_eq_true rfl) (Nat.le_of_ble_eq_true rfl) (Nat.le_of_ble_eq_true rfl) ⟨rfl, rfl⟩ ⟨(Nat.le_of_ble_eq_true rfl), (Nat.le_of_ble_eq_true rfl)⟩ dX12_step_3 (fun v1 => ?_)
  refine y_join (fun j4 => ∀ (x3 : Int32), Sx ω true 3 0 0 kk_Mod_step fI 0 0 m 42 [some (.ref (zad ω 201)), some (.int p1), some (.int p2)] [.int x3, .ref (zad ω 201)] (j4 x3)) ?_ (fun j4 hj4 => ?_)
  · intro x3
    refine y_putI fp_RX12_93 hz_201 dX12_step_42 ?_
    refine y_letM (fun m5 => ?_)
    refine x_aload_n dX12_step_45 rfl ?_
    refine y_getI fl_RX12_93 hz_201 dX12_step_46 ?_
    refine x_if_le (tgt := 56) dX12_step_49 (by decide) (fun hc6 => ?_) (fun hc6 => ?_)
    · refine x_sipush (v := 10000) dX12_step_56 (by decide) ?_
      refine x_aload_n dX12_step_59 rfl ?_
      refine y_getF fl_RX12_39 hz_201 hq_201_23 (by rw [hz_211]; decide) dX12_step_60 ?_
      refine x_bipush (v := 80) dX12_step_63 (by decide) ?_
      refine x_iload_n dX12_step_65 rfl ?_
      refine x_imul dX12_step_66 ?_
      refine x_iload_n dX12_step_67 rfl ?_
      refine x_iadd dX12_step_68 ?_
      refine y_iald hz_211 hn_211 dX12_step_69 (fun hi => ?_)
      refine x_imul dX12_step_70 ?_
      refine x_aload_n dX12_step_71 rfl ?_
      refine y_getF fl_RX12_42 hz_201 hq_201_24 (by rw [hz_212]; decide) dX12_step_72 ?_
      refine x_bipush (v := 80) dX12_step_75 (by decide) ?_
      refine x_iload_n dX12_step_77 rfl ?_
      refine x_imul dX12_step_78 ?_
      refine x_iload_n dX12_step_79 rfl ?_
      refine x_iadd dX12_step_80 ?_
      refine y_iald hz_212 hn_212 dX12_step_81 (fun hi => ?_)
      refine x_iadd dX12_step_82 ?_
      exact x_iret rfl rfl ⟨(Nat.le_of_ble_eq_true rfl), (Nat.le_of_ble_eq_true rfl)⟩ dX12_step_83
    · refine x_iconst (v := 0) dX12_step_52 (by decide) ?_
      refine x_goto (tgt := 83) dX12_step_53 (by decide) ?_
      exact x_iret rfl rfl ⟨(Nat.le_of_ble_eq_true rfl), (Nat.le_of_ble_eq_true rfl)⟩ dX12_step_83
  · refine y_join (fun j7 => Sx ω true 3 0 0 kk_Mod_step fI 0 0 m 41 [some (.ref (zad ω 201)), some (.int p1), some (.int p2)] [.ref (zad ω 201)] j7) ?_ (fun j7 hj7 => ?_)
    · refine x_iconst (v := 1) dX12_step_41 (by decide) ?_
      exact hj4 _
    · refine x_if_eq (tgt := 41) dX12_step_6 (by decide) (fun hc2 => ?_) (fun hc2 => ?_)
      · exact hj7
      · refine x_iload_n dX12_step_9 rfl ?_
        refine x_iconst (v := 0) dX12_step_10 (by decide) ?_
        refine x_aload_n dX12_step_11 rfl ?_
        refine y_getF fl_RX12_36 hz_201 hq_201_22 (by rw [hz_210]; decide) dX12_step_12 ?_
        refine x_aload_n dX12_step_15 rfl ?_
        refine x_iload_n dX12_step_16 rfl ?_
        refine y_callVP (rest := [.ref (zad ω 210), .int 0, .int p2, .ref (zad ω 201)]) (c1 := 0) (s1 := 0) (c_Mod_isFeast ω p1 m) mv_RX12_244 hz_201 rfl (Nat.le_of_ble_eq_true rfl) (Nat.le_of_ble_eq_true rfl) (Nat.le_of_ble_eq_true rfl) ⟨rfl, rfl⟩ ⟨(Nat.le_of_ble_eq_true rfl), (Nat.le_of_ble_eq_true rfl)⟩ dX12_step_17 (fun v8 => ?_)
        refine y_join (fun j11 => ∀ (x10 : Int32), Sx ω true 3 0 0 kk_Mod_step fI 0 0 m 28 [some (.ref (zad ω 201)), some (.int p1), some (.int p2)] [.int x10, .ref (zad ω 210), .int 0, .int p2, .ref (zad ω 201)] (j11 x10)) ?_ (fun j11 hj11 => ?_)
        · intro x10
          refine y_iald hz_210 hn_210 dX12_step_28 (fun hi => ?_)
          refine x_iconst (v := 1) dX12_step_29 (by decide) ?_
          refine x_isub dX12_step_30 ?_
          refine y_callSP (rest := [.ref (zad ω 201)]) (c1 := 0) (s1 := 0) (c_Mod_isIn ω p2 0 ((zI m 210 (zIx x10)) - 1) m) ms_RX12_115 rfl (Nat.le_of_ble_eq_true rfl) (Nat.le_of_ble_eq_true rfl) (Nat.le_of_ble_eq_true rfl) ⟨rfl, rfl⟩ ⟨(Nat.le_of_ble_eq_true rfl), (Nat.le_of_ble_eq_true rfl)⟩ dX12_step_31 (fun v12 => ?_)
          refine x_if_eq (tgt := 41) dX12_step_34 (by decide) (fun hc13 => ?_) (fun hc13 => ?_)
          · exact hj7
          · refine x_iconst (v := 0) dX12_step_37 (by decide) ?_
            refine x_goto (tgt := 42) dX12_step_38 (by decide) ?_
            exact hj4 _
        · refine x_if_eq (tgt := 27) dX12_step_20 (by decide) (fun hc9 => ?_) (fun hc9 => ?_)
          · refine x_iconst (v := 0) dX12_step_27 (by decide) ?_
            exact hj11 _
          · refine x_iload_n dX12_step_23 rfl ?_
            refine x_goto (tgt := 28) dX12_step_24 (by decide) ?_
            exact hj11 _
