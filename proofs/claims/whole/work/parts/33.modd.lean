abbrev kk_Mod_reads : Kx := (yX12_reads.cls, cX12_reads, 3, (some .int), [], false)
set_option maxHeartbeats 4000000 in
set_option maxRecDepth 100000 in
theorem c_Mod_reads (ω : Wd) (p1 : Int32) (m : Mm) : Ev ω true 6 0 0 yX12_reads cX12_reads 3 (some .int) [.ref (zad ω 201), .int p1] m fI (f_Mod_reads p1 m) := by
  refine Ev.of (b := false) (ls := [some (.ref (zad ω 201)), some (.int p1), none]) (plainFor_of_name (by decide +kernel)) (fun h => by cases h) rfl (Nat.le_of_ble_eq_true rfl) rfl ?_
  change Sx ω true 6 0 0 kk_Mod_reads fI 0 0 m 0 _ _ _
  unfold f_Mod_reads
  refine x_aload_n dX12_reads_0 rfl ?_
  refine x_iconst (v := 0) dX12_reads_1 (by decide) ?_
  refine y_putI fp_RX12_139 hz_201 dX12_reads_2 ?_
  refine y_letM (fun m1 => ?_)
  refine x_aload_n dX12_reads_5 rfl ?_
  refine x_iconst (v := 0) dX12_reads_6 (by decide) ?_
  refine y_putI fp_RX12_145 hz_201 dX12_reads_7 ?_
  refine y_letM (fun m2 => ?_)
  refine x_aload_n dX12_reads_10 rfl ?_
  refine x_iconst (v := 0) dX12_reads_11 (by decide) ?_
  refine y_putI fp_RX12_142 hz_201 dX12_reads_12 ?_
  refine y_letM (fun m3 => ?_)
  refine x_aload_n dX12_reads_15 rfl ?_
  refine x_iconst (v := 0) dX12_reads_16 (by decide) ?_
  refine y_putI fp_RX12_165 hz_201 dX12_reads_17 ?_
  refine y_letM (fun m4 => ?_)
  refine x_aload_n dX12_reads_20 rfl ?_
  refine x_iconst (v := 0) dX12_reads_21 (by decide) ?_
  refine y_putI fp_RX12_168 hz_201 dX12_reads_22 ?_
  refine y_letM (fun m5 => ?_)
  refine x_aload_n dX12_reads_25 rfl ?_
  refine x_iconst (v := 0) dX12_reads_26 (by decide) ?_
  refine y_putZ fp_RX12_152 hz_201 (by decide) dX12_reads_27 ?_
  refine y_letM (fun m6 => ?_)
  refine x_aload_n dX12_reads_30 rfl ?_
  refine x_iconst (v := 0) dX12_reads_31 (by decide) ?_
  refine y_putI fp_RX12_156 hz_201 dX12_reads_32 ?_
  refine y_letM (fun m7 => ?_)
  refine x_aload_n dX12_reads_35 rfl ?_
  refine x_iload_n dX12_reads_36 rfl ?_
  refine x_iconst (v := 0) dX12_reads_37 (by decide) ?_
  refine y_callVV (rest := []) (c1 := 0) (s1 := 0) (c_Mod_push ω p1 0 m7) mv_RX12_159 hz_201 rfl (Nat.le_of_ble_eq_true rfl) (Nat.le_of_ble_eq_true rfl) (Nat.le_of_ble_eq_true rfl) ⟨rfl, rfl⟩ ⟨(Nat.le_of_ble_eq_true rfl), (Nat.le_of_ble_eq_true rfl)⟩ dX12_reads_38 (fun m8 => ?_)
  refine x_iconst (v := 0) dX12_reads_41 (by decide) ?_
  refine x_istore_n (ls' := [some (.ref (zad ω 201)), some (.int p1), some (.int 0)]) dX12_reads_42 (Nat.le_of_ble_eq_true rfl) rfl ?_
  refine y_mask (bs := [true, false, true]) (ls' := [some (.ref (zad ω 201)), none, some (.int 0)]) rfl ?_
  refine y_Lp1 (fun x9 => [some (.ref (zad ω 201)), none, some (.int x9)]) (fun r10 hr10 x9 m11 => ?_) zFu _ _
  refine x_iload_n dX12_reads_43 rfl ?_
  refine x_aload_n dX12_reads_44 rfl ?_
  refine y_getI fl_RX12_136 hz_201 dX12_reads_45 ?_
  refine x_icmp_ge (tgt := 76) dX12_reads_48 (by decide) (fun hc12 => ?_) (fun hc12 => ?_)
  · refine x_aload_n dX12_reads_76 rfl ?_
    refine x_iconst (v := 0) dX12_reads_77 (by decide) ?_
    refine y_callVV (rest := []) (c1 := 0) (s1 := 0) (c_Mod_leaves ω 0 m11) mv_RX12_195 hz_201 rfl (Nat.le_of_ble_eq_true rfl) (Nat.le_of_ble_eq_true rfl) (Nat.le_of_ble_eq_true rfl) ⟨rfl, rfl⟩ ⟨(Nat.le_of_ble_eq_true rfl), (Nat.le_of_ble_eq_true rfl)⟩ dX12_reads_78 (fun m13 => ?_)
    refine x_aload_n dX12_reads_81 rfl ?_
    refine y_getI fl_RX12_139 hz_201 dX12_reads_82 ?_
    refine x_iconst (v := 1) dX12_reads_85 (by decide) ?_
    refine y_join (fun j15 => Sx ω true 6 0 0 kk_Mod_reads fI 0 0 m13 105 [some (.ref (zad ω 201)), none, none] [] j15) ?_ (fun j15 hj15 => ?_)
    · refine x_aload_n dX12_reads_105 rfl ?_
      refine y_getI fl_RX12_139 hz_201 dX12_reads_106 ?_
      refine x_if_ne (tgt := 116) dX12_reads_109 (by decide) (fun hc16 => ?_) (fun hc16 => ?_)
      · refine x_iconst (v := (-1)) dX12_reads_112 (by decide) ?_
        refine x_goto (tgt := 120) dX12_reads_113 (by decide) ?_
        exact x_iret rfl rfl ⟨(Nat.le_of_ble_eq_true rfl), (Nat.le_of_ble_eq_true rfl)⟩ dX12_reads_120
      · refine x_aload_n dX12_reads_116 rfl ?_
        refine y_getI fl_RX12_136 hz_201 dX12_reads_117 ?_
        exact x_iret rfl rfl ⟨(Nat.le_of_ble_eq_true rfl), (Nat.le_of_ble_eq_true rfl)⟩ dX12_reads_120
    · refine x_icmp_ne (tgt := 105) dX12_reads_86 (by decide) (fun hc14 => ?_) (fun hc14 => ?_)
      · refine x_aload_n dX12_reads_89 rfl ?_
        refine y_getF fl_RX12_13 hz_201 hq_201_4 (by rw [hz_203]; decide) dX12_reads_90 ?_
        refine x_iconst (v := 0) dX12_reads_93 (by decide) ?_
        refine y_iald hz_203 hn_203 dX12_reads_94 (fun hi => ?_)
        refine x_iconst (v := 1) dX12_reads_95 (by decide) ?_
        refine x_icmp_ne (tgt := 105) dX12_reads_96 (by decide) (fun hc17 => ?_) (fun hc17 => ?_)
        · refine x_aload_n dX12_reads_99 rfl ?_
          refine y_callVV (rest := []) (c1 := 0) (s1 := 0) (c_Mod_endsDays ω m13) mv_RX12_186 hz_201 rfl (Nat.le_of_ble_eq_true rfl) (Nat.le_of_ble_eq_true rfl) (Nat.le_of_ble_eq_true rfl) ⟨rfl, rfl⟩ ⟨(Nat.le_of_ble_eq_true rfl), (Nat.le_of_ble_eq_true rfl)⟩ dX12_reads_100 (fun m18 => ?_)
          refine x_iconst (v := (-1)) dX12_reads_103 (by decide) ?_
          exact x_iret rfl rfl ⟨(Nat.le_of_ble_eq_true rfl), (Nat.le_of_ble_eq_true rfl)⟩ dX12_reads_104
        · refine y_mask (bs := [true, false, false]) (ls' := [some (.ref (zad ω 201)), none, none]) rfl ?_
          exact hj15
      · refine y_mask (bs := [true, false, false]) (ls' := [some (.ref (zad ω 201)), none, none]) rfl ?_
        exact hj15
  · refine x_aload_n dX12_reads_51 rfl ?_
    refine x_aload_n dX12_reads_52 rfl ?_
    refine y_getF fl_RX12_7 hz_201 hq_201_2 (by rw [hz_202]; decide) dX12_reads_53 ?_
    refine x_iload_n dX12_reads_56 rfl ?_
    refine y_cald hz_202 hn_202 dX12_reads_57 (fun hi => ?_)
    refine y_callVI (rest := []) (c1 := 0) (s1 := 0) (c_Mod_takes ω (zI m11 202 (zIx x9)) m11) mv_RX12_222 hz_201 rfl (Nat.le_of_ble_eq_true rfl) (Nat.le_of_ble_eq_true rfl) (Nat.le_of_ble_eq_true rfl) ⟨rfl, rfl⟩ ⟨(Nat.le_of_ble_eq_true rfl), (Nat.le_of_ble_eq_true rfl)⟩ dX12_reads_58 (fun v20 m19 => ?_)
    refine x_if_ne (tgt := 66) dX12_reads_61 (by decide) (fun hc21 => ?_) (fun hc21 => ?_)
    · refine x_iload_n dX12_reads_64 rfl ?_
      exact x_iret rfl rfl ⟨(Nat.le_of_ble_eq_true rfl), (Nat.le_of_ble_eq_true rfl)⟩ dX12_reads_65
    · refine x_aload_n dX12_reads_66 rfl ?_
      refine y_callVV (rest := []) (c1 := 0) (s1 := 0) (c_Mod_acts ω m19) mv_RX12_225 hz_201 rfl (Nat.le_of_ble_eq_true rfl) (Nat.le_of_ble_eq_true rfl) (Nat.le_of_ble_eq_true rfl) ⟨rfl, rfl⟩ ⟨(Nat.le_of_ble_eq_true rfl), (Nat.le_of_ble_eq_true rfl)⟩ dX12_reads_67 (fun m22 => ?_)
      refine y_iinc (w := 1) dX12_reads_70 rfl (by decide) (Nat.le_of_ble_eq_true rfl) (fun x23 => ?_)
      refine x_goto (tgt := 43) dX12_reads_73 (by decide) ?_
      exact hr10 _ _
abbrev kk_Mod_fault : Kx := (yX12_fault.cls, cX12_fault, 1, (some .int), [], false)
set_option maxHeartbeats 4000000 in
set_option maxRecDepth 100000 in
theorem c_Mod_fault (ω : Wd) (m : Mm) : Ev ω true 7 0 0 yX12_fault cX12_fault 1 (some .int) [.ref (zad ω 201)] m fI (f_Mod_fault m) := by
  refine Ev.of (b := false) (ls := [some (.ref (zad ω 201))]) (plainFor_of_name (by decide +kernel)) (fun h => by cases h) rfl (Nat.le_of_ble_eq_true rfl) rfl ?_
  change Sx ω true 7 0 0 kk_Mod_fault fI 0 0 m 0 _ _ _
  unfold f_Mod_fault
  refine x_aload_n dX12_fault_0 rfl ?_
  refine x_iconst (v := 0) dX12_fault_1 (by decide) ?_
  refine y_putI fp_RX12_93 hz_201 dX12_fault_2 ?_
  refine y_letM (fun m1 => ?_)
  refine x_aload_n dX12_fault_5 rfl ?_
  refine x_iconst (v := 0) dX12_fault_6 (by decide) ?_
  refine y_callVI (rest := []) (c1 := 0) (s1 := 0) (c_Mod_reads ω 0 m1) mv_RX12_228 hz_201 rfl (Nat.le_of_ble_eq_true rfl) (Nat.le_of_ble_eq_true rfl) (Nat.le_of_ble_eq_true rfl) ⟨rfl, rfl⟩ ⟨(Nat.le_of_ble_eq_true rfl), (Nat.le_of_ble_eq_true rfl)⟩ dX12_fault_7 (fun v3 m2 => ?_)
  exact x_iret rfl rfl ⟨(Nat.le_of_ble_eq_true rfl), (Nat.le_of_ble_eq_true rfl)⟩ dX12_fault_10
abbrev kk_Mod_questionFault : Kx := (yX12_questionFault.cls, cX12_questionFault, 1, (some .int), [], false)
set_option maxHeartbeats 4000000 in
set_option maxRecDepth 100000 in
theorem c_Mod_questionFault (ω : Wd) (m : Mm) : Ev ω true 7 0 0 yX12_questionFault cX12_questionFault 1 (some .int) [.ref (zad ω 201)] m fI (f_Mod_questionFault m) := by
  refine Ev.of (b := false) (ls := [some (.ref (zad ω 201))]) (plainFor_of_name (by decide +kernel)) (fun h => by cases h) rfl (Nat.le_of_ble_eq_true rfl) rfl ?_
  change Sx ω true 7 0 0 kk_Mod_questionFault fI 0 0 m 0 _ _ _
  unfold f_Mod_questionFault
  refine x_aload_n dX12_questionFault_0 rfl ?_
  refine x_iconst (v := 0) dX12_questionFault_1 (by decide) ?_
  refine y_putI fp_RX12_93 hz_201 dX12_questionFault_2 ?_
  refine y_letM (fun m1 => ?_)
  refine x_aload_n dX12_questionFault_5 rfl ?_
  refine x_bipush (v := 20) dX12_questionFault_6 (by decide) ?_
  refine y_callVI (rest := []) (c1 := 0) (s1 := 0) (c_Mod_reads ω 20 m1) mv_RX12_228 hz_201 rfl (Nat.le_of_ble_eq_true rfl) (Nat.le_of_ble_eq_true rfl) (Nat.le_of_ble_eq_true rfl) ⟨rfl, rfl⟩ ⟨(Nat.le_of_ble_eq_true rfl), (Nat.le_of_ble_eq_true rfl)⟩ dX12_questionFault_8 (fun v3 m2 => ?_)
  exact x_iret rfl rfl ⟨(Nat.le_of_ble_eq_true rfl), (Nat.le_of_ble_eq_true rfl)⟩ dX12_questionFault_11
abbrev kk_Mod_areThere : Kx := (yX12_areThere.cls, cX12_areThere, 3, (some .boolean), [], false)
set_option maxHeartbeats 4000000 in
set_option maxRecDepth 100000 in
theorem c_Mod_areThere (ω : Wd) (m : Mm) : Ev ω true 1 0 0 yX12_areThere cX12_areThere 3 (some .boolean) [.ref (zad ω 201)] m (fP m) (f_Mod_areThere m) := by
  refine Ev.of (b := false) (ls := [some (.ref (zad ω 201)), none, none]) (plainFor_of_name (by decide +kernel)) (fun h => by cases h) rfl (Nat.le_of_ble_eq_true rfl) rfl ?_
  change Sx ω true 1 0 0 kk_Mod_areThere (fP m) 0 0 m 0 _ _ _
  unfold f_Mod_areThere
  refine x_iconst (v := 1) dX12_areThere_0 (by decide) ?_
  refine x_istore_n (ls' := [some (.ref (zad ω 201)), some (.int 1), none]) dX12_areThere_1 (Nat.le_of_ble_eq_true rfl) rfl ?_
  refine x_iconst (v := 0) dX12_areThere_2 (by decide) ?_
  refine x_istore_n (ls' := [some (.ref (zad ω 201)), some (.int 1), some (.int 0)]) dX12_areThere_3 (Nat.le_of_ble_eq_true rfl) rfl ?_
  refine y_Lq2 (fun x1 x2 => [some (.ref (zad ω 201)), some (.int x1), some (.int x2)]) (fun r3 hr3 x1 x2 => ?_) zFu _ _
  refine x_iload_n dX12_areThere_4 rfl ?_
  refine x_aload_n dX12_areThere_5 rfl ?_
  refine y_getI fl_RX12_142 hz_201 dX12_areThere_6 ?_
  refine x_icmp_ge (tgt := 62) dX12_areThere_9 (by decide) (fun hc4 => ?_) (fun hc4 => ?_)
  · refine x_iload_n dX12_areThere_62 rfl ?_
    refine x_guard (fun hv => ?_)
    exact x_zret rfl rfl (zBo_nar hv) ⟨(Nat.le_of_ble_eq_true rfl), (Nat.le_of_ble_eq_true rfl)⟩ dX12_areThere_63
  · refine x_iload_n dX12_areThere_12 rfl ?_
    refine y_join (fun j7 => ∀ (x6 : Int32), Sx ω true 1 0 0 kk_Mod_areThere (fP m) 0 0 m 55 [some (.ref (zad ω 201)), none, some (.int x2)] [.int x6] (j7 x6)) ?_ (fun j7 hj7 => ?_)
    · intro x6
      refine x_istore_n (ls' := [some (.ref (zad ω 201)), some (.int x6), some (.int x2)]) dX12_areThere_55 (Nat.le_of_ble_eq_true rfl) rfl ?_
      refine y_iinc (w := 1) dX12_areThere_56 rfl (by decide) (Nat.le_of_ble_eq_true rfl) (fun x8 => ?_)
      refine x_goto (tgt := 4) dX12_areThere_59 (by decide) ?_
      exact hr3 _ _
    · refine y_join (fun j9 => Sx ω true 1 0 0 kk_Mod_areThere (fP m) 0 0 m 54 [some (.ref (zad ω 201)), none, some (.int x2)] [] j9) ?_ (fun j9 hj9 => ?_)
      · refine x_iconst (v := 0) dX12_areThere_54 (by decide) ?_
        exact hj7 _
      · refine x_if_eq (tgt := 54) dX12_areThere_13 (by decide) (fun hc5 => ?_) (fun hc5 => ?_)
        · refine y_mask (bs := [true, false, true]) (ls' := [some (.ref (zad ω 201)), none, some (.int x2)]) rfl ?_
          exact hj9
        · refine x_aload_n dX12_areThere_16 rfl ?_
          refine y_getF fl_RX12_23 hz_201 hq_201_9 (by rw [hz_206]; decide) dX12_areThere_17 ?_
          refine x_iload_n dX12_areThere_20 rfl ?_
          refine y_iald hz_206 hn_206 dX12_areThere_21 (fun hi => ?_)
          refine x_iconst (v := 4) dX12_areThere_22 (by decide) ?_
          refine y_join (fun j11 => Sx ω true 1 0 0 kk_Mod_areThere (fP m) 0 0 m 50 [some (.ref (zad ω 201)), none, some (.int x2)] [] j11) ?_ (fun j11 hj11 => ?_)
          · refine x_iconst (v := 1) dX12_areThere_50 (by decide) ?_
            refine x_goto (tgt := 55) dX12_areThere_51 (by decide) ?_
            exact hj7 _
          · refine y_join (fun j12 => Sx ω true 1 0 0 kk_Mod_areThere (fP m) 0 0 m 37 [some (.ref (zad ω 201)), none, some (.int x2)] [] j12) ?_ (fun j12 hj12 => ?_)
            · refine x_aload_n dX12_areThere_37 rfl ?_
              refine y_getF fl_RX12_26 hz_201 hq_201_10 (by rw [hz_207]; decide) dX12_areThere_38 ?_
              refine x_iload_n dX12_areThere_41 rfl ?_
              refine y_iald hz_207 hn_207 dX12_areThere_42 (fun hi => ?_)
              refine x_aload_n dX12_areThere_43 rfl ?_
              refine y_getI fl_RX12_231 hz_201 dX12_areThere_44 ?_
              refine x_icmp_ge (tgt := 54) dX12_areThere_47 (by decide) (fun hc13 => ?_) (fun hc13 => ?_)
              · exact hj9
              · exact hj11
            · refine x_icmp_eq (tgt := 37) dX12_areThere_23 (by decide) (fun hc10 => ?_) (fun hc10 => ?_)
              · refine y_mask (bs := [true, false, true]) (ls' := [some (.ref (zad ω 201)), none, some (.int x2)]) rfl ?_
                exact hj12
              · refine x_aload_n dX12_areThere_26 rfl ?_
                refine y_getF fl_RX12_23 hz_201 hq_201_9 (by rw [hz_206]; decide) dX12_areThere_27 ?_
                refine x_iload_n dX12_areThere_30 rfl ?_
                refine y_iald hz_206 hn_206 dX12_areThere_31 (fun hi => ?_)
                refine x_bipush (v := 15) dX12_areThere_32 (by decide) ?_
                refine x_icmp_ne (tgt := 50) dX12_areThere_34 (by decide) (fun hc14 => ?_) (fun hc14 => ?_)
                · refine y_mask (bs := [true, false, true]) (ls' := [some (.ref (zad ω 201)), none, some (.int x2)]) rfl ?_
                  exact hj12
                · refine y_mask (bs := [true, false, true]) (ls' := [some (.ref (zad ω 201)), none, some (.int x2)]) rfl ?_
                  exact hj11
abbrev kk_Mod_keeps : Kx := (yX12_keeps.cls, cX12_keeps, 3, none, [], false)
set_option maxHeartbeats 4000000 in
set_option maxRecDepth 100000 in
theorem c_Mod_keeps (ω : Wd) (p1 : Int32) (m : Mm) : Ev ω true 1 0 0 yX12_keeps cX12_keeps 3 none [.ref (zad ω 201), .int p1] m fV (f_Mod_keeps p1 m) := by
  refine Ev.of (b := false) (ls := [some (.ref (zad ω 201)), some (.int p1), none]) (plainFor_of_name (by decide +kernel)) (fun h => by cases h) rfl (Nat.le_of_ble_eq_true rfl) rfl ?_
  change Sx ω true 1 0 0 kk_Mod_keeps fV 0 0 m 0 _ _ _
  unfold f_Mod_keeps
  refine x_aload_n dX12_keeps_0 rfl ?_
  refine y_getF fl_RX12_36 hz_201 hq_201_22 (by rw [hz_210]; decide) dX12_keeps_1 ?_
  refine x_iload_n dX12_keeps_4 rfl ?_
  refine x_aload_n dX12_keeps_5 rfl ?_
  refine y_getI fl_RX12_142 hz_201 dX12_keeps_6 ?_
  refine y_iast hz_210 hn_210 dX12_keeps_9 (fun hi => ?_)
  refine y_letM (fun m1 => ?_)
  refine x_iconst (v := 0) dX12_keeps_10 (by decide) ?_
  refine x_istore_n (ls' := [some (.ref (zad ω 201)), some (.int p1), some (.int 0)]) dX12_keeps_11 (Nat.le_of_ble_eq_true rfl) rfl ?_
  refine y_Lp1 (fun x2 => [some (.ref (zad ω 201)), some (.int p1), some (.int x2)]) (fun r3 hr3 x2 m4 => ?_) zFu _ _
  refine x_iload_n dX12_keeps_12 rfl ?_
  refine x_aload_n dX12_keeps_13 rfl ?_
  refine y_getI fl_RX12_142 hz_201 dX12_keeps_14 ?_
  refine x_icmp_ge (tgt := 60) dX12_keeps_17 (by decide) (fun hc5 => ?_) (fun hc5 => ?_)
  · refine x_aload_n dX12_keeps_60 rfl ?_
    refine x_iconst (v := 0) dX12_keeps_61 (by decide) ?_
    refine y_putI fp_RX12_136 hz_201 dX12_keeps_62 ?_
    refine y_letM (fun m6 => ?_)
    exact x_vret rfl rfl ⟨(Nat.le_of_ble_eq_true rfl), (Nat.le_of_ble_eq_true rfl)⟩ dX12_keeps_65
  · refine x_aload_n dX12_keeps_20 rfl ?_
    refine y_getF fl_RX12_39 hz_201 hq_201_23 (by rw [hz_211]; decide) dX12_keeps_21 ?_
    refine x_bipush (v := 80) dX12_keeps_24 (by decide) ?_
    refine x_iload_n dX12_keeps_26 rfl ?_
    refine x_imul dX12_keeps_27 ?_
    refine x_iload_n dX12_keeps_28 rfl ?_
    refine x_iadd dX12_keeps_29 ?_
    refine x_aload_n dX12_keeps_30 rfl ?_
    refine y_getF fl_RX12_23 hz_201 hq_201_9 (by rw [hz_206]; decide) dX12_keeps_31 ?_
    refine x_iload_n dX12_keeps_34 rfl ?_
    refine y_iald hz_206 hn_206 dX12_keeps_35 (fun hi => ?_)
    refine y_iast hz_211 hn_211 dX12_keeps_36 (fun hi => ?_)
    refine y_letM (fun m7 => ?_)
    refine x_aload_n dX12_keeps_37 rfl ?_
    refine y_getF fl_RX12_42 hz_201 hq_201_24 (by rw [hz_212]; decide) dX12_keeps_38 ?_
    refine x_bipush (v := 80) dX12_keeps_41 (by decide) ?_
    refine x_iload_n dX12_keeps_43 rfl ?_
    refine x_imul dX12_keeps_44 ?_
    refine x_iload_n dX12_keeps_45 rfl ?_
    refine x_iadd dX12_keeps_46 ?_
    refine x_aload_n dX12_keeps_47 rfl ?_
    refine y_getF fl_RX12_26 hz_201 hq_201_10 (by rw [hz_207]; decide) dX12_keeps_48 ?_
    refine x_iload_n dX12_keeps_51 rfl ?_
    refine y_iald hz_207 hn_207 dX12_keeps_52 (fun hi => ?_)
    refine y_iast hz_212 hn_212 dX12_keeps_53 (fun hi => ?_)
    refine y_letM (fun m8 => ?_)
    refine y_iinc (w := 1) dX12_keeps_54 rfl (by decide) (Nat.le_of_ble_eq_true rfl) (fun x9 => ?_)
    refine x_goto (tgt := 12) dX12_keeps_57 (by decide) ?_
    exact hr3 _ _
abbrev kk_Mod_feast : Kx := (yX12_feast.cls, cX12_feast, 3, (some .int), [], false)
set_option maxHeartbeats 4000000 in
set_option maxRecDepth 100000 in
theorem c_Mod_feast (ω : Wd) (p1 : Int32) (p2 : Int32) (m : Mm) : Ev ω true 7 0 0 yX12_feast cX12_feast 3 (some .int) [.ref (zad ω 201), .int p1, .int p2] m fI (f_Mod_feast p1 p2 m) := by
  refine Ev.of (b := false) (ls := [some (.ref (zad ω 201)), some (.int p1), some (.int p2)]) (plainFor_of_name (by decide +kernel)) (fun h => by cases h) rfl (Nat.le_of_ble_eq_true rfl) rfl ?_
  change Sx ω true 7 0 0 kk_Mod_feast fI 0 0 m 0 _ _ _
  unfold f_Mod_feast
  refine x_aload_n dX12_feast_0 rfl ?_
  refine x_iload_n dX12_feast_1 rfl ?_
  refine x_iconst (v := 0) dX12_feast_2 (by decide) ?_
  refine x_bipush (v := 9) dX12_feast_3 (by decide) ?_
  refine y_callSP (rest := [.ref (zad ω 201)]) (c1 := 0) (s1 := 0) (c_Mod_isIn ω p1 0 9 m) ms_RX12_115 rfl (Nat.le_of_ble_eq_true rfl) (Nat.le_of_ble_eq_true rfl) (Nat.le_of_ble_eq_true rfl) ⟨rfl, rfl⟩ ⟨(Nat.le_of_ble_eq_true rfl), (Nat.le_of_ble_eq_true rfl)⟩ dX12_feast_5 (fun v1 => ?_)
  refine y_join (fun j5 => ∀ (x3 : Int32) (m4 : Mm), Sx ω true 7 0 0 kk_Mod_feast fI 0 0 m4 45 [some (.ref (zad ω 201)), some (.int p1), some (.int p2)] [.int x3, .ref (zad ω 201)] (j5 x3 m4)) ?_ (fun j5 hj5 => ?_)
  · intro x3 m4
    refine y_putI fp_RX12_93 hz_201 dX12_feast_45 ?_
    refine y_letM (fun m6 => ?_)
    refine x_aload_n dX12_feast_48 rfl ?_
    refine y_getI fl_RX12_93 hz_201 dX12_feast_49 ?_
    refine x_if_le (tgt := 57) dX12_feast_52 (by decide) (fun hc7 => ?_) (fun hc7 => ?_)
    · refine x_aload_n dX12_feast_57 rfl ?_
      refine x_aload_n dX12_feast_58 rfl ?_
      refine y_getI fl_RX12_231 hz_201 dX12_feast_59 ?_
      refine y_callVV (rest := []) (c1 := 0) (s1 := 0) (c_Mod_keeps ω (zI m6 201 19) m6) mv_RX12_238 hz_201 rfl (Nat.le_of_ble_eq_true rfl) (Nat.le_of_ble_eq_true rfl) (Nat.le_of_ble_eq_true rfl) ⟨rfl, rfl⟩ ⟨(Nat.le_of_ble_eq_true rfl), (Nat.le_of_ble_eq_true rfl)⟩ dX12_feast_62 (fun m8 => ?_)
      refine x_aload_n dX12_feast_65 rfl ?_
      refine y_getF fl_RX12_29 hz_201 hq_201_20 (by rw [hz_208]; decide) dX12_feast_66 ?_
      refine x_aload_n dX12_feast_69 rfl ?_
      refine y_getI fl_RX12_231 hz_201 dX12_feast_70 ?_
      refine x_iload_n dX12_feast_73 rfl ?_
      refine y_iast hz_208 hn_208 dX12_feast_74 (fun hi => ?_)
      refine y_letM (fun m9 => ?_)
      refine x_aload_n dX12_feast_75 rfl ?_
      refine y_getF fl_RX12_32 hz_201 hq_201_21 (by rw [hz_209]; decide) dX12_feast_76 ?_
      refine x_aload_n dX12_feast_79 rfl ?_
      refine y_getI fl_RX12_231 hz_201 dX12_feast_80 ?_
      refine x_iload_n dX12_feast_83 rfl ?_
      refine x_guard (fun hv => ?_)
      refine y_zast hz_209 hn_209 hv dX12_feast_84 (fun hi => ?_)
      refine y_letM (fun m10 => ?_)
      refine x_aload_n dX12_feast_85 rfl ?_
      refine x_dup dX12_feast_86 rfl ?_
      refine y_getI fl_RX12_231 hz_201 dX12_feast_87 ?_
      refine x_iconst (v := 1) dX12_feast_90 (by decide) ?_
      refine x_iadd dX12_feast_91 ?_
      refine y_putI fp_RX12_231 hz_201 dX12_feast_92 ?_
      refine y_letM (fun m11 => ?_)
      refine x_aload_n dX12_feast_95 rfl ?_
      refine y_getI fl_RX12_231 hz_201 dX12_feast_96 ?_
      refine x_iconst (v := 1) dX12_feast_99 (by decide) ?_
      refine x_isub dX12_feast_100 ?_
      exact x_iret rfl rfl ⟨(Nat.le_of_ble_eq_true rfl), (Nat.le_of_ble_eq_true rfl)⟩ dX12_feast_101
    · refine x_iconst (v := 0) dX12_feast_55 (by decide) ?_
      exact x_iret rfl rfl ⟨(Nat.le_of_ble_eq_true rfl), (Nat.le_of_ble_eq_true rfl)⟩ dX12_feast_56
  · refine y_join (fun j13 => ∀ (m12 : Mm), Sx ω true 7 0 0 kk_Mod_feast fI 0 0 m12 20 [some (.ref (zad ω 201)), some (.int p1), some (.int p2)] [.ref (zad ω 201)] (j13 m12)) ?_ (fun j13 hj13 => ?_)
    · intro m12
      refine x_iconst (v := 1) dX12_feast_20 (by decide) ?_
      refine x_goto (tgt := 45) dX12_feast_21 (by decide) ?_
      exact hj5 _ _
    · refine x_if_eq (tgt := 20) dX12_feast_8 (by decide) (fun hc2 => ?_) (fun hc2 => ?_)
      · exact hj13 _
      · refine x_aload_n dX12_feast_11 rfl ?_
        refine x_iconst (v := 0) dX12_feast_12 (by decide) ?_
        refine y_callVI (rest := [.ref (zad ω 201)]) (c1 := 0) (s1 := 0) (c_Mod_reads ω 0 m) mv_RX12_228 hz_201 rfl (Nat.le_of_ble_eq_true rfl) (Nat.le_of_ble_eq_true rfl) (Nat.le_of_ble_eq_true rfl) ⟨rfl, rfl⟩ ⟨(Nat.le_of_ble_eq_true rfl), (Nat.le_of_ble_eq_true rfl)⟩ dX12_feast_13 (fun v15 m14 => ?_)
        refine x_iconst (v := (-1)) dX12_feast_16 (by decide) ?_
        refine x_icmp_eq (tgt := 24) dX12_feast_17 (by decide) (fun hc16 => ?_) (fun hc16 => ?_)
        · refine x_aload_n dX12_feast_24 rfl ?_
          refine y_getI fl_RX12_231 hz_201 dX12_feast_25 ?_
          refine x_bipush (v := 20) dX12_feast_28 (by decide) ?_
          refine y_join (fun j18 => Sx ω true 7 0 0 kk_Mod_feast fI 0 0 m14 40 [some (.ref (zad ω 201)), some (.int p1), some (.int p2)] [.ref (zad ω 201)] j18) ?_ (fun j18 hj18 => ?_)
          · refine x_iconst (v := 2) dX12_feast_40 (by decide) ?_
            refine x_goto (tgt := 45) dX12_feast_41 (by decide) ?_
            exact hj5 _ _
          · refine x_icmp_eq (tgt := 40) dX12_feast_30 (by decide) (fun hc17 => ?_) (fun hc17 => ?_)
            · exact hj18
            · refine x_aload_n dX12_feast_33 rfl ?_
              refine y_callVP (rest := [.ref (zad ω 201)]) (c1 := 0) (s1 := 0) (c_Mod_areThere ω m14) mv_RX12_234 hz_201 rfl (Nat.le_of_ble_eq_true rfl) (Nat.le_of_ble_eq_true rfl) (Nat.le_of_ble_eq_true rfl) ⟨rfl, rfl⟩ ⟨(Nat.le_of_ble_eq_true rfl), (Nat.le_of_ble_eq_true rfl)⟩ dX12_feast_34 (fun v19 => ?_)
              refine x_if_ne (tgt := 44) dX12_feast_37 (by decide) (fun hc20 => ?_) (fun hc20 => ?_)
              · exact hj18
              · refine x_iconst (v := 0) dX12_feast_44 (by decide) ?_
                exact hj5 _ _
        · exact hj13 _
abbrev kk_Mod_isFeast : Kx := (yX12_isFeast.cls, cX12_isFeast, 2, (some .boolean), [], false)
set_option maxHeartbeats 4000000 in
set_option maxRecDepth 100000 in
theorem c_Mod_isFeast (ω : Wd) (p1 : Int32) (m : Mm) : Ev ω true 2 0 0 yX12_isFeast cX12_isFeast 2 (some .boolean) [.ref (zad ω 201), .int p1] m (fP m) (f_Mod_isFeast p1 m) := by
  refine Ev.of (b := false) (ls := [some (.ref (zad ω 201)), some (.int p1)]) (plainFor_of_name (by decide +kernel)) (fun h => by cases h) rfl (Nat.le_of_ble_eq_true rfl) rfl ?_
  change Sx ω true 2 0 0 kk_Mod_isFeast (fP m) 0 0 m 0 _ _ _
  unfold f_Mod_isFeast
  refine x_iload_n dX12_isFeast_0 rfl ?_
  refine x_iconst (v := 0) dX12_isFeast_1 (by decide) ?_
  refine x_aload_n dX12_isFeast_2 rfl ?_
  refine y_getI fl_RX12_231 hz_201 dX12_isFeast_3 ?_
  refine x_iconst (v := 1) dX12_isFeast_6 (by decide) ?_
  refine x_isub dX12_isFeast_7 ?_
  refine y_callSP (rest := []) (c1 := 0) (s1 := 0) (c_Mod_isIn ω p1 0 ((zI m 201 19) - 1) m) ms_RX12_115 rfl (Nat.le_of_ble_eq_true rfl) (Nat.le_of_ble_eq_true rfl) (Nat.le_of_ble_eq_true rfl) ⟨rfl, rfl⟩ ⟨(Nat.le_of_ble_eq_true rfl), (Nat.le_of_ble_eq_true rfl)⟩ dX12_isFeast_8 (fun v1 => ?_)
  refine x_guard (fun hv => ?_)
  exact x_zret rfl rfl (zBo_nar hv) ⟨(Nat.le_of_ble_eq_true rfl), (Nat.le_of_ble_eq_true rfl)⟩ dX12_isFeast_11
abbrev kk_Mod_named : Kx := (yX12_named.cls, cX12_named, 5, (some .int), [], false)
set_option maxHeartbeats 4000000 in
set_option maxRecDepth 100000 in
theorem c_Mod_named (ω : Wd) (p1 : Int32) (m : Mm) : Ev ω true 1 0 0 yX12_named cX12_named 5 (some .int) [.ref (zad ω 201), .int p1] m (fP m) (f_Mod_named p1 m) := by
  refine Ev.of (b := false) (ls := [some (.ref (zad ω 201)), some (.int p1), none, none, none]) (plainFor_of_name (by decide +kernel)) (fun h => by cases h) rfl (Nat.le_of_ble_eq_true rfl) rfl ?_
  change Sx ω true 1 0 0 kk_Mod_named (fP m) 0 0 m 0 _ _ _
  unfold f_Mod_named
  refine x_iconst (v := 0) dX12_named_0 (by decide) ?_
  refine x_istore_n (ls' := [some (.ref (zad ω 201)), some (.int p1), some (.int 0), none, none]) dX12_named_1 (Nat.le_of_ble_eq_true rfl) rfl ?_
  refine x_iconst (v := 0) dX12_named_2 (by decide) ?_
  refine x_istore_n (ls' := [some (.ref (zad ω 201)), some (.int p1), some (.int 0), some (.int 0), none]) dX12_named_3 (Nat.le_of_ble_eq_true rfl) rfl ?_
  refine y_Lq2 (fun x1 x2 => [some (.ref (zad ω 201)), some (.int p1), some (.int x1), some (.int x2), none]) (fun r3 hr3 x1 x2 => ?_) zFu _ _
  refine x_iload_n dX12_named_4 rfl ?_
  refine x_aload_n dX12_named_5 rfl ?_
  refine y_getF fl_RX12_36 hz_201 hq_201_22 (by rw [hz_210]; decide) dX12_named_6 ?_
  refine x_iload_n dX12_named_9 rfl ?_
  refine y_iald hz_210 hn_210 dX12_named_10 (fun hi => ?_)
  refine x_icmp_ge (tgt := 66) dX12_named_11 (by decide) (fun hc4 => ?_) (fun hc4 => ?_)
  · refine x_iload_n dX12_named_66 rfl ?_
    exact x_iret rfl rfl ⟨(Nat.le_of_ble_eq_true rfl), (Nat.le_of_ble_eq_true rfl)⟩ dX12_named_67
  · refine x_aload_n dX12_named_14 rfl ?_
    refine y_getF fl_RX12_39 hz_201 hq_201_23 (by rw [hz_211]; decide) dX12_named_15 ?_
    refine x_bipush (v := 80) dX12_named_18 (by decide) ?_
    refine x_iload_n dX12_named_20 rfl ?_
    refine x_imul dX12_named_21 ?_
    refine x_iload_n dX12_named_22 rfl ?_
    refine x_iadd dX12_named_23 ?_
    refine y_iald hz_211 hn_211 dX12_named_24 (fun hi => ?_)
    refine y_letI (fun x5 => ?_)
    refine x_istore (ls' := [some (.ref (zad ω 201)), some (.int p1), some (.int x1), some (.int x2), some (.int x5)]) dX12_named_25 (Nat.le_of_ble_eq_true rfl) rfl ?_
    refine x_iload_n dX12_named_27 rfl ?_
    refine x_iload dX12_named_28 rfl ?_
    refine x_iconst (v := 4) dX12_named_30 (by decide) ?_
    refine y_join (fun j8 => ∀ (x7 : Int32), Sx ω true 1 0 0 kk_Mod_named (fP m) 0 0 m 58 [some (.ref (zad ω 201)), some (.int p1), none, some (.int x2), none] [.int x7, .int x1] (j8 x7)) ?_ (fun j8 hj8 => ?_)
    · intro x7
      refine x_ior dX12_named_58 ?_
      refine y_letI (fun x9 => ?_)
      refine x_istore_n (ls' := [some (.ref (zad ω 201)), some (.int p1), some (.int x9), some (.int x2), none]) dX12_named_59 (Nat.le_of_ble_eq_true rfl) rfl ?_
      refine y_iinc (w := 1) dX12_named_60 rfl (by decide) (Nat.le_of_ble_eq_true rfl) (fun x10 => ?_)
      refine x_goto (tgt := 4) dX12_named_63 (by decide) ?_
      exact hr3 _ _
    · refine y_join (fun j11 => Sx ω true 1 0 0 kk_Mod_named (fP m) 0 0 m 41 [some (.ref (zad ω 201)), some (.int p1), none, some (.int x2), none] [.int x1] j11) ?_ (fun j11 hj11 => ?_)
      · refine x_iconst (v := 1) dX12_named_41 (by decide) ?_
        refine x_aload_n dX12_named_42 rfl ?_
        refine y_getF fl_RX12_42 hz_201 hq_201_24 (by rw [hz_212]; decide) dX12_named_43 ?_
        refine x_bipush (v := 80) dX12_named_46 (by decide) ?_
        refine x_iload_n dX12_named_48 rfl ?_
        refine x_imul dX12_named_49 ?_
        refine x_iload_n dX12_named_50 rfl ?_
        refine x_iadd dX12_named_51 ?_
        refine y_iald hz_212 hn_212 dX12_named_52 (fun hi => ?_)
        refine x_ishl dX12_named_53 ?_
        refine x_goto (tgt := 58) dX12_named_54 (by decide) ?_
        exact hj8 _
      · refine x_icmp_eq (tgt := 41) dX12_named_31 (by decide) (fun hc6 => ?_) (fun hc6 => ?_)
        · refine y_mask (bs := [true, true, false, true, false]) (ls' := [some (.ref (zad ω 201)), some (.int p1), none, some (.int x2), none]) rfl ?_
          exact hj11
        · refine x_iload dX12_named_34 rfl ?_
          refine x_bipush (v := 15) dX12_named_36 (by decide) ?_
          refine x_icmp_ne (tgt := 57) dX12_named_38 (by decide) (fun hc12 => ?_) (fun hc12 => ?_)
          · refine y_mask (bs := [true, true, false, true, false]) (ls' := [some (.ref (zad ω 201)), some (.int p1), none, some (.int x2), none]) rfl ?_
            exact hj11
          · refine x_iconst (v := 0) dX12_named_57 (by decide) ?_
            refine y_mask (bs := [true, true, false, true, false]) (ls' := [some (.ref (zad ω 201)), some (.int p1), none, some (.int x2), none]) rfl ?_
            exact hj8 _
abbrev kk_Mod_needsItself : Kx := (yX12_needsItself.cls, cX12_needsItself, 5, (some .boolean), [], false)
set_option maxHeartbeats 4000000 in
set_option maxRecDepth 100000 in
theorem c_Mod_needsItself (ω : Wd) (p1 : Int32) (m : Mm) : Ev ω true 2 0 0 yX12_needsItself cX12_needsItself 5 (some .boolean) [.ref (zad ω 201), .int p1] m (fP m) (f_Mod_needsItself p1 m) := by
  refine Ev.of (b := false) (ls := [some (.ref (zad ω 201)), some (.int p1), none, none, none]) (plainFor_of_name (by decide +kernel)) (fun h => by cases h) rfl (Nat.le_of_ble_eq_true rfl) rfl ?_
  change Sx ω true 2 0 0 kk_Mod_needsItself (fP m) 0 0 m 0 _ _ _
  unfold f_Mod_needsItself
  refine x_iconst (v := 0) dX12_needsItself_0 (by decide) ?_
  refine x_istore_n (ls' := [some (.ref (zad ω 201)), some (.int p1), some (.int 0), none, none]) dX12_needsItself_1 (Nat.le_of_ble_eq_true rfl) rfl ?_
  refine x_iconst (v := 0) dX12_needsItself_2 (by decide) ?_
  refine x_istore_n (ls' := [some (.ref (zad ω 201)), some (.int p1), some (.int 0), some (.int 0), none]) dX12_needsItself_3 (Nat.le_of_ble_eq_true rfl) rfl ?_
  refine y_Lq2 (fun x1 x2 => [some (.ref (zad ω 201)), some (.int p1), some (.int x1), some (.int x2), none]) (fun r3 hr3 x1 x2 => ?_) zFu _ _
  refine x_iload_n dX12_needsItself_4 rfl ?_
  refine x_aload_n dX12_needsItself_5 rfl ?_
  refine y_getI fl_RX12_142 hz_201 dX12_needsItself_6 ?_
  refine x_icmp_ge (tgt := 54) dX12_needsItself_9 (by decide) (fun hc4 => ?_) (fun hc4 => ?_)
  · refine x_iconst (v := 0) dX12_needsItself_54 (by decide) ?_
    refine x_istore_n (ls' := [some (.ref (zad ω 201)), some (.int p1), some (.int x1), some (.int 0), none]) dX12_needsItself_55 (Nat.le_of_ble_eq_true rfl) rfl ?_
    refine y_Lq2 (fun x5 x6 => [some (.ref (zad ω 201)), some (.int p1), some (.int x5), some (.int x6), none]) (fun r7 hr7 x5 x6 => ?_) zFu _ _
    refine x_iload_n dX12_needsItself_56 rfl ?_
    refine x_aload_n dX12_needsItself_57 rfl ?_
    refine y_getI fl_RX12_231 hz_201 dX12_needsItself_58 ?_
    refine x_icmp_ge (tgt := 117) dX12_needsItself_61 (by decide) (fun hc8 => ?_) (fun hc8 => ?_)
    · refine x_iload_n dX12_needsItself_117 rfl ?_
      refine x_iload_n dX12_needsItself_118 rfl ?_
      refine x_ishr dX12_needsItself_119 ?_
      refine x_iconst (v := 1) dX12_needsItself_120 (by decide) ?_
      refine x_iand dX12_needsItself_121 ?_
      refine x_iconst (v := 1) dX12_needsItself_122 (by decide) ?_
      refine x_icmp_ne (tgt := 130) dX12_needsItself_123 (by decide) (fun hc9 => ?_) (fun hc9 => ?_)
      · refine x_iconst (v := 1) dX12_needsItself_126 (by decide) ?_
        refine x_goto (tgt := 131) dX12_needsItself_127 (by decide) ?_
        exact x_zret rfl rfl (zBo_nar (by decide)) ⟨(Nat.le_of_ble_eq_true rfl), (Nat.le_of_ble_eq_true rfl)⟩ dX12_needsItself_131
      · refine x_iconst (v := 0) dX12_needsItself_130 (by decide) ?_
        exact x_zret rfl rfl (zBo_nar (by decide)) ⟨(Nat.le_of_ble_eq_true rfl), (Nat.le_of_ble_eq_true rfl)⟩ dX12_needsItself_131
    · refine x_iconst (v := 0) dX12_needsItself_64 (by decide) ?_
      refine x_istore (ls' := [some (.ref (zad ω 201)), some (.int p1), some (.int x5), some (.int x6), some (.int 0)]) dX12_needsItself_65 (Nat.le_of_ble_eq_true rfl) rfl ?_
      refine y_Lq2 (fun x10 x11 => [some (.ref (zad ω 201)), some (.int p1), some (.int x10), some (.int x6), some (.int x11)]) (fun r12 hr12 x10 x11 => ?_) zFu _ _
      refine x_iload dX12_needsItself_67 rfl ?_
      refine x_aload_n dX12_needsItself_69 rfl ?_
      refine y_getI fl_RX12_231 hz_201 dX12_needsItself_70 ?_
      refine x_icmp_ge (tgt := 111) dX12_needsItself_73 (by decide) (fun hc13 => ?_) (fun hc13 => ?_)
      · refine y_iinc (w := 1) dX12_needsItself_111 rfl (by decide) (Nat.le_of_ble_eq_true rfl) (fun x14 => ?_)
        refine x_goto (tgt := 56) dX12_needsItself_114 (by decide) ?_
        refine y_mask (bs := [true, true, true, true, false]) (ls' := [some (.ref (zad ω 201)), some (.int p1), some (.int x10), some (.int x14), none]) rfl ?_
        exact hr7 _ _
      · refine x_iload_n dX12_needsItself_76 rfl ?_
        refine x_iload_n dX12_needsItself_77 rfl ?_
        refine x_iload dX12_needsItself_78 rfl ?_
        refine x_ishr dX12_needsItself_80 ?_
        refine x_iconst (v := 1) dX12_needsItself_81 (by decide) ?_
        refine x_iand dX12_needsItself_82 ?_
        refine x_iconst (v := 1) dX12_needsItself_83 (by decide) ?_
        refine y_join (fun j17 => ∀ (x16 : Int32), Sx ω true 2 0 0 kk_Mod_needsItself (fP m) 0 0 m 103 [some (.ref (zad ω 201)), some (.int p1), none, some (.int x6), some (.int x11)] [.int x16, .int x10] (j17 x16)) ?_ (fun j17 hj17 => ?_)
        · intro x16
          refine x_ior dX12_needsItself_103 ?_
          refine y_letI (fun x18 => ?_)
          refine x_istore_n (ls' := [some (.ref (zad ω 201)), some (.int p1), some (.int x18), some (.int x6), some (.int x11)]) dX12_needsItself_104 (Nat.le_of_ble_eq_true rfl) rfl ?_
          refine y_iinc (w := 1) dX12_needsItself_105 rfl (by decide) (Nat.le_of_ble_eq_true rfl) (fun x19 => ?_)
          refine x_goto (tgt := 67) dX12_needsItself_108 (by decide) ?_
          exact hr12 _ _
        · refine y_join (fun j20 => Sx ω true 2 0 0 kk_Mod_needsItself (fP m) 0 0 m 102 [some (.ref (zad ω 201)), some (.int p1), none, some (.int x6), some (.int x11)] [.int x10] j20) ?_ (fun j20 hj20 => ?_)
          · refine x_iconst (v := 0) dX12_needsItself_102 (by decide) ?_
            exact hj17 _
          · refine x_icmp_ne (tgt := 102) dX12_needsItself_84 (by decide) (fun hc15 => ?_) (fun hc15 => ?_)
            · refine x_iload dX12_needsItself_87 rfl ?_
              refine x_iload_n dX12_needsItself_89 rfl ?_
              refine x_icmp_eq (tgt := 102) dX12_needsItself_90 (by decide) (fun hc21 => ?_) (fun hc21 => ?_)
              · refine y_mask (bs := [true, true, false, true, true]) (ls' := [some (.ref (zad ω 201)), some (.int p1), none, some (.int x6), some (.int x11)]) rfl ?_
                exact hj20
              · refine x_aload_n dX12_needsItself_93 rfl ?_
                refine x_iload dX12_needsItself_94 rfl ?_
                refine y_callVP (rest := [.int x10]) (c1 := 0) (s1 := 0) (c_Mod_named ω x11 m) mv_RX12_241 hz_201 rfl (Nat.le_of_ble_eq_true rfl) (Nat.le_of_ble_eq_true rfl) (Nat.le_of_ble_eq_true rfl) ⟨rfl, rfl⟩ ⟨(Nat.le_of_ble_eq_true rfl), (Nat.le_of_ble_eq_true rfl)⟩ dX12_needsItself_96 (fun v22 => ?_)
                refine x_goto (tgt := 103) dX12_needsItself_99 (by decide) ?_
                refine y_mask (bs := [true, true, false, true, true]) (ls' := [some (.ref (zad ω 201)), some (.int p1), none, some (.int x6), some (.int x11)]) rfl ?_
                exact hj17 _
            · refine y_mask (bs := [true, true, false, true, true]) (ls' := [some (.ref (zad ω 201)), some (.int p1), none, some (.int x6), some (.int x11)]) rfl ?_
              exact hj20
  · refine x_iload_n dX12_needsItself_12 rfl ?_
    refine x_aload_n dX12_needsItself_13 rfl ?_
    refine y_getF fl_RX12_23 hz_201 hq_201_9 (by rw [hz_206]; decide) dX12_needsItself_14 ?_
    refine x_iload_n dX12_needsItself_17 rfl ?_
    refine y_iald hz_206 hn_206 dX12_needsItself_18 (fun hi => ?_)
    refine x_iconst (v := 4) dX12_needsItself_19 (by decide) ?_
    refine y_join (fun j25 => ∀ (x24 : Int32), Sx ω true 2 0 0 kk_Mod_needsItself (fP m) 0 0 m 46 [some (.ref (zad ω 201)), some (.int p1), none, some (.int x2), none] [.int x24, .int x1] (j25 x24)) ?_ (fun j25 hj25 => ?_)
    · intro x24
      refine x_ior dX12_needsItself_46 ?_
      refine y_letI (fun x26 => ?_)
      refine x_istore_n (ls' := [some (.ref (zad ω 201)), some (.int p1), some (.int x26), some (.int x2), none]) dX12_needsItself_47 (Nat.le_of_ble_eq_true rfl) rfl ?_
      refine y_iinc (w := 1) dX12_needsItself_48 rfl (by decide) (Nat.le_of_ble_eq_true rfl) (fun x27 => ?_)
      refine x_goto (tgt := 4) dX12_needsItself_51 (by decide) ?_
      exact hr3 _ _
    · refine y_join (fun j28 => Sx ω true 2 0 0 kk_Mod_needsItself (fP m) 0 0 m 34 [some (.ref (zad ω 201)), some (.int p1), none, some (.int x2), none] [.int x1] j28) ?_ (fun j28 hj28 => ?_)
      · refine x_iconst (v := 1) dX12_needsItself_34 (by decide) ?_
        refine x_aload_n dX12_needsItself_35 rfl ?_
        refine y_getF fl_RX12_26 hz_201 hq_201_10 (by rw [hz_207]; decide) dX12_needsItself_36 ?_
        refine x_iload_n dX12_needsItself_39 rfl ?_
        refine y_iald hz_207 hn_207 dX12_needsItself_40 (fun hi => ?_)
        refine x_ishl dX12_needsItself_41 ?_
        refine x_goto (tgt := 46) dX12_needsItself_42 (by decide) ?_
        exact hj25 _
      · refine x_icmp_eq (tgt := 34) dX12_needsItself_20 (by decide) (fun hc23 => ?_) (fun hc23 => ?_)
        · refine y_mask (bs := [true, true, false, true, false]) (ls' := [some (.ref (zad ω 201)), some (.int p1), none, some (.int x2), none]) rfl ?_
          exact hj28
        · refine x_aload_n dX12_needsItself_23 rfl ?_
          refine y_getF fl_RX12_23 hz_201 hq_201_9 (by rw [hz_206]; decide) dX12_needsItself_24 ?_
          refine x_iload_n dX12_needsItself_27 rfl ?_
          refine y_iald hz_206 hn_206 dX12_needsItself_28 (fun hi => ?_)
          refine x_bipush (v := 15) dX12_needsItself_29 (by decide) ?_
          refine x_icmp_ne (tgt := 45) dX12_needsItself_31 (by decide) (fun hc29 => ?_) (fun hc29 => ?_)
          · refine y_mask (bs := [true, true, false, true, false]) (ls' := [some (.ref (zad ω 201)), some (.int p1), none, some (.int x2), none]) rfl ?_
            exact hj28
          · refine x_iconst (v := 0) dX12_needsItself_45 (by decide) ?_
            refine y_mask (bs := [true, true, false, true, false]) (ls' := [some (.ref (zad ω 201)), some (.int p1), none, some (.int x2), none]) rfl ?_
            exact hj25 _
abbrev kk_Mod_mend : Kx := (yX12_mend.cls, cX12_mend, 2, (some .int), [], false)
set_option maxHeartbeats 4000000 in
set_option maxRecDepth 100000 in
theorem c_Mod_mend (ω : Wd) (p1 : Int32) (m : Mm) : Ev ω true 7 0 0 yX12_mend cX12_mend 2 (some .int) [.ref (zad ω 201), .int p1] m fI (f_Mod_mend p1 m) := by
  refine Ev.of (b := false) (ls := [some (.ref (zad ω 201)), some (.int p1)]) (plainFor_of_name (by decide +kernel)) (fun h => by cases h) rfl (Nat.le_of_ble_eq_true rfl) rfl ?_
  change Sx ω true 7 0 0 kk_Mod_mend fI 0 0 m 0 _ _ _
  unfold f_Mod_mend
  refine x_aload_n dX12_mend_0 rfl ?_
  refine x_aload_n dX12_mend_1 rfl ?_
  refine x_iload_n dX12_mend_2 rfl ?_
  refine y_callVP (rest := [.ref (zad ω 201)]) (c1 := 0) (s1 := 0) (c_Mod_isFeast ω p1 m) mv_RX12_244 hz_201 rfl (Nat.le_of_ble_eq_true rfl) (Nat.le_of_ble_eq_true rfl) (Nat.le_of_ble_eq_true rfl) ⟨rfl, rfl⟩ ⟨(Nat.le_of_ble_eq_true rfl), (Nat.le_of_ble_eq_true rfl)⟩ dX12_mend_3 (fun v1 => ?_)
  refine y_join (fun j5 => ∀ (x3 : Int32) (m4 : Mm), Sx ω true 7 0 0 kk_Mod_mend fI 0 0 m4 27 [some (.ref (zad ω 201)), some (.int p1)] [.int x3, .ref (zad ω 201)] (j5 x3 m4)) ?_ (fun j5 hj5 => ?_)
  · intro x3 m4
    refine y_putI fp_RX12_93 hz_201 dX12_mend_27 ?_
    refine y_letM (fun m6 => ?_)
    refine x_aload_n dX12_mend_30 rfl ?_
    refine y_getI fl_RX12_93 hz_201 dX12_mend_31 ?_
    refine x_if_le (tgt := 39) dX12_mend_34 (by decide) (fun hc7 => ?_) (fun hc7 => ?_)
    · refine x_aload_n dX12_mend_39 rfl ?_
      refine x_aload_n dX12_mend_40 rfl ?_
      refine y_callVP (rest := [.ref (zad ω 201)]) (c1 := 0) (s1 := 0) (c_Mod_areThere ω m6) mv_RX12_234 hz_201 rfl (Nat.le_of_ble_eq_true rfl) (Nat.le_of_ble_eq_true rfl) (Nat.le_of_ble_eq_true rfl) ⟨rfl, rfl⟩ ⟨(Nat.le_of_ble_eq_true rfl), (Nat.le_of_ble_eq_true rfl)⟩ dX12_mend_41 (fun v8 => ?_)
      refine y_join (fun j11 => ∀ (x10 : Int32), Sx ω true 7 0 0 kk_Mod_mend fI 0 0 m6 60 [some (.ref (zad ω 201)), some (.int p1)] [.int x10, .ref (zad ω 201)] (j11 x10)) ?_ (fun j11 hj11 => ?_)
      · intro x10
        refine y_putI fp_RX12_93 hz_201 dX12_mend_60 ?_
        refine y_letM (fun m12 => ?_)
        refine x_aload_n dX12_mend_63 rfl ?_
        refine y_getI fl_RX12_93 hz_201 dX12_mend_64 ?_
        refine x_if_le (tgt := 72) dX12_mend_67 (by decide) (fun hc13 => ?_) (fun hc13 => ?_)
        · refine x_aload_n dX12_mend_72 rfl ?_
          refine x_iload_n dX12_mend_73 rfl ?_
          refine y_callVV (rest := []) (c1 := 0) (s1 := 0) (c_Mod_keeps ω p1 m12) mv_RX12_238 hz_201 rfl (Nat.le_of_ble_eq_true rfl) (Nat.le_of_ble_eq_true rfl) (Nat.le_of_ble_eq_true rfl) ⟨rfl, rfl⟩ ⟨(Nat.le_of_ble_eq_true rfl), (Nat.le_of_ble_eq_true rfl)⟩ dX12_mend_74 (fun m14 => ?_)
          refine x_aload_n dX12_mend_77 rfl ?_
          refine y_getF fl_RX12_36 hz_201 hq_201_22 (by rw [hz_210]; decide) dX12_mend_78 ?_
          refine x_iload_n dX12_mend_81 rfl ?_
          refine y_iald hz_210 hn_210 dX12_mend_82 (fun hi => ?_)
          exact x_iret rfl rfl ⟨(Nat.le_of_ble_eq_true rfl), (Nat.le_of_ble_eq_true rfl)⟩ dX12_mend_83
        · refine x_iconst (v := 0) dX12_mend_70 (by decide) ?_
          exact x_iret rfl rfl ⟨(Nat.le_of_ble_eq_true rfl), (Nat.le_of_ble_eq_true rfl)⟩ dX12_mend_71
      · refine y_join (fun j15 => Sx ω true 7 0 0 kk_Mod_mend fI 0 0 m6 55 [some (.ref (zad ω 201)), some (.int p1)] [.ref (zad ω 201)] j15) ?_ (fun j15 hj15 => ?_)
        · refine x_iconst (v := 3) dX12_mend_55 (by decide) ?_
          refine x_goto (tgt := 60) dX12_mend_56 (by decide) ?_
          exact hj11 _
        · refine x_if_eq (tgt := 55) dX12_mend_44 (by decide) (fun hc9 => ?_) (fun hc9 => ?_)
          · exact hj15
          · refine x_aload_n dX12_mend_47 rfl ?_
            refine x_iload_n dX12_mend_48 rfl ?_
            refine y_callVP (rest := [.ref (zad ω 201)]) (c1 := 0) (s1 := 0) (c_Mod_needsItself ω p1 m6) mv_RX12_247 hz_201 rfl (Nat.le_of_ble_eq_true rfl) (Nat.le_of_ble_eq_true rfl) (Nat.le_of_ble_eq_true rfl) ⟨rfl, rfl⟩ ⟨(Nat.le_of_ble_eq_true rfl), (Nat.le_of_ble_eq_true rfl)⟩ dX12_mend_49 (fun v16 => ?_)
            refine x_if_eq (tgt := 59) dX12_mend_52 (by decide) (fun hc17 => ?_) (fun hc17 => ?_)
            · refine x_iconst (v := 0) dX12_mend_59 (by decide) ?_
              exact hj11 _
            · exact hj15
    · refine x_iconst (v := 0) dX12_mend_37 (by decide) ?_
      exact x_iret rfl rfl ⟨(Nat.le_of_ble_eq_true rfl), (Nat.le_of_ble_eq_true rfl)⟩ dX12_mend_38
  · refine x_if_ne (tgt := 13) dX12_mend_6 (by decide) (fun hc2 => ?_) (fun hc2 => ?_)
    · refine x_iconst (v := 1) dX12_mend_9 (by decide) ?_
      refine x_goto (tgt := 27) dX12_mend_10 (by decide) ?_
      exact hj5 _ _
    · refine x_aload_n dX12_mend_13 rfl ?_
      refine x_iconst (v := 0) dX12_mend_14 (by decide) ?_
      refine y_callVI (rest := [.ref (zad ω 201)]) (c1 := 0) (s1 := 0) (c_Mod_reads ω 0 m) mv_RX12_228 hz_201 rfl (Nat.le_of_ble_eq_true rfl) (Nat.le_of_ble_eq_true rfl) (Nat.le_of_ble_eq_true rfl) ⟨rfl, rfl⟩ ⟨(Nat.le_of_ble_eq_true rfl), (Nat.le_of_ble_eq_true rfl)⟩ dX12_mend_15 (fun v19 m18 => ?_)
      refine x_iconst (v := (-1)) dX12_mend_18 (by decide) ?_
      refine x_icmp_eq (tgt := 26) dX12_mend_19 (by decide) (fun hc20 => ?_) (fun hc20 => ?_)
      · refine x_iconst (v := 0) dX12_mend_26 (by decide) ?_
        exact hj5 _ _
      · refine x_iconst (v := 2) dX12_mend_22 (by decide) ?_
        refine x_goto (tgt := 27) dX12_mend_23 (by decide) ?_
        exact hj5 _ _
abbrev kk_Mod_rank : Kx := (yX12_rank.cls, cX12_rank, 5, (some .int), [], false)
set_option maxHeartbeats 4000000 in
set_option maxRecDepth 100000 in
theorem c_Mod_rank (ω : Wd) (p1 : Int32) (p2 : Int32) (p3 : Int32) (m : Mm) : Ev ω true 3 0 0 yX12_rank cX12_rank 5 (some .int) [.ref (zad ω 201), .int p1, .int p2, .int p3] m fI (f_Mod_rank p1 p2 p3 m) := by
  refine Ev.of (b := false) (ls := [some (.ref (zad ω 201)), some (.int p1), some (.int p2), some (.int p3), none]) (plainFor_of_name (by decide +kernel)) (fun h => by cases h) rfl (Nat.le_of_ble_eq_true rfl) rfl ?_
  change Sx ω true 3 0 0 kk_Mod_rank fI 0 0 m 0 _ _ _
  unfold f_Mod_rank
  refine x_aload_n dX12_rank_0 rfl ?_
  refine x_aload_n dX12_rank_1 rfl ?_
  refine x_iload_n dX12_rank_2 rfl ?_
  refine y_callVP (rest := [.ref (zad ω 201)]) (c1 := 0) (s1 := 0) (c_Mod_isFeast ω p1 m) mv_RX12_244 hz_201 rfl (Nat.le_of_ble_eq_true rfl) (Nat.le_of_ble_eq_true rfl) (Nat.le_of_ble_eq_true rfl) ⟨rfl, rfl⟩ ⟨(Nat.le_of_ble_eq_true rfl), (Nat.le_of_ble_eq_true rfl)⟩ dX12_rank_3 (fun v1 => ?_)
  refine y_join (fun j4 => ∀ (x3 : Int32), Sx ω true 3 0 0 kk_Mod_rank fI 0 0 m 28 [some (.ref (zad ω 201)), some (.int p1), some (.int p2), some (.int p3), none] [.int x3, .ref (zad ω 201)] (j4 x3)) ?_ (fun j4 hj4 => ?_)
  · intro x3
    refine y_putI fp_RX12_93 hz_201 dX12_rank_28 ?_
    refine y_letM (fun m5 => ?_)
    refine x_aload_n dX12_rank_31 rfl ?_
    refine y_getI fl_RX12_93 hz_201 dX12_rank_32 ?_
    refine x_if_le (tgt := 40) dX12_rank_35 (by decide) (fun hc6 => ?_) (fun hc6 => ?_)
    · refine x_aload_n dX12_rank_40 rfl ?_
      refine y_getF fl_RX12_29 hz_201 hq_201_20 (by rw [hz_208]; decide) dX12_rank_41 ?_
      refine x_iload_n dX12_rank_44 rfl ?_
      refine y_iald hz_208 hn_208 dX12_rank_45 (fun hi => ?_)
      refine y_letI (fun x7 => ?_)
      refine x_istore (ls' := [some (.ref (zad ω 201)), some (.int p1), some (.int p2), some (.int p3), some (.int x7)]) dX12_rank_46 (Nat.le_of_ble_eq_true rfl) rfl ?_
      refine x_aload_n dX12_rank_48 rfl ?_
      refine y_getF fl_RX12_29 hz_201 hq_201_20 (by rw [hz_208]; decide) dX12_rank_49 ?_
      refine x_iload_n dX12_rank_52 rfl ?_
      refine x_iload_n dX12_rank_53 rfl ?_
      refine y_iast hz_208 hn_208 dX12_rank_54 (fun hi => ?_)
      refine y_letM (fun m8 => ?_)
      refine x_aload_n dX12_rank_55 rfl ?_
      refine y_getF fl_RX12_32 hz_201 hq_201_21 (by rw [hz_209]; decide) dX12_rank_56 ?_
      refine x_iload_n dX12_rank_59 rfl ?_
      refine x_iload_n dX12_rank_60 rfl ?_
      refine x_guard (fun hv => ?_)
      refine y_zast hz_209 hn_209 hv dX12_rank_61 (fun hi => ?_)
      refine y_letM (fun m9 => ?_)
      refine x_iload dX12_rank_62 rfl ?_
      exact x_iret rfl rfl ⟨(Nat.le_of_ble_eq_true rfl), (Nat.le_of_ble_eq_true rfl)⟩ dX12_rank_64
    · refine x_iconst (v := 0) dX12_rank_38 (by decide) ?_
      exact x_iret rfl rfl ⟨(Nat.le_of_ble_eq_true rfl), (Nat.le_of_ble_eq_true rfl)⟩ dX12_rank_39
  · refine x_if_ne (tgt := 13) dX12_rank_6 (by decide) (fun hc2 => ?_) (fun hc2 => ?_)
    · refine x_iconst (v := 1) dX12_rank_9 (by decide) ?_
      refine x_goto (tgt := 28) dX12_rank_10 (by decide) ?_
      exact hj4 _
    · refine x_iload_n dX12_rank_13 rfl ?_
      refine x_iconst (v := 0) dX12_rank_14 (by decide) ?_
      refine x_bipush (v := 9) dX12_rank_15 (by decide) ?_
      refine y_callSP (rest := [.ref (zad ω 201)]) (c1 := 0) (s1 := 0) (c_Mod_isIn ω p2 0 9 m) ms_RX12_115 rfl (Nat.le_of_ble_eq_true rfl) (Nat.le_of_ble_eq_true rfl) (Nat.le_of_ble_eq_true rfl) ⟨rfl, rfl⟩ ⟨(Nat.le_of_ble_eq_true rfl), (Nat.le_of_ble_eq_true rfl)⟩ dX12_rank_17 (fun v10 => ?_)
      refine x_if_eq (tgt := 27) dX12_rank_20 (by decide) (fun hc11 => ?_) (fun hc11 => ?_)
      · refine x_iconst (v := 2) dX12_rank_27 (by decide) ?_
        exact hj4 _
      · refine x_iconst (v := 0) dX12_rank_23 (by decide) ?_
        refine x_goto (tgt := 28) dX12_rank_24 (by decide) ?_
        exact hj4 _
abbrev kk_Mod_isYear : Kx := (yX12_isYear.cls, cX12_isYear, 1, (some .boolean), [], false)
set_option maxHeartbeats 4000000 in
set_option maxRecDepth 100000 in
theorem c_Mod_isYear (ω : Wd) (p1 : Int32) (m : Mm) : Ev ω true 2 0 0 yX12_isYear cX12_isYear 1 (some .boolean) [.int p1] m (fP m) (f_Mod_isYear p1 m) := by
  refine Ev.of (b := false) (ls := [some (.int p1)]) (plainFor_of_name (by decide +kernel)) (fun h => by cases h) rfl (Nat.le_of_ble_eq_true rfl) rfl ?_
  change Sx ω true 2 0 0 kk_Mod_isYear (fP m) 0 0 m 0 _ _ _
  unfold f_Mod_isYear
  refine x_iload_n dX12_isYear_0 rfl ?_
  refine x_iconst (v := 0) dX12_isYear_1 (by decide) ?_
  refine x_sipush (v := 399) dX12_isYear_2 (by decide) ?_
  refine y_callSP (rest := []) (c1 := 0) (s1 := 0) (c_Mod_isIn ω p1 0 399 m) ms_RX12_115 rfl (Nat.le_of_ble_eq_true rfl) (Nat.le_of_ble_eq_true rfl) (Nat.le_of_ble_eq_true rfl) ⟨rfl, rfl⟩ ⟨(Nat.le_of_ble_eq_true rfl), (Nat.le_of_ble_eq_true rfl)⟩ dX12_isYear_5 (fun v1 => ?_)
  refine x_guard (fun hv => ?_)
  exact x_zret rfl rfl (zBo_nar hv) ⟨(Nat.le_of_ble_eq_true rfl), (Nat.le_of_ble_eq_true rfl)⟩ dX12_isYear_8
abbrev kk_Mod_dispense : Kx := (yX12_dispense.cls, cX12_dispense, 7, (some .int), [], false)
set_option maxHeartbeats 4000000 in
set_option maxRecDepth 100000 in
theorem c_Mod_dispense (ω : Wd) (p1 : Int32) (p2 : Int32) (p3 : Int32) (m : Mm) : Ev ω true 3 0 0 yX12_dispense cX12_dispense 7 (some .int) [.ref (zad ω 201), .int p1, .int p2, .int p3] m fI (f_Mod_dispense p1 p2 p3 m) := by
  refine Ev.of (b := false) (ls := [some (.ref (zad ω 201)), some (.int p1), some (.int p2), some (.int p3), none, none, none]) (plainFor_of_name (by decide +kernel)) (fun h => by cases h) rfl (Nat.le_of_ble_eq_true rfl) rfl ?_
  change Sx ω true 3 0 0 kk_Mod_dispense fI 0 0 m 0 _ _ _
  unfold f_Mod_dispense
  refine x_aload_n dX12_dispense_0 rfl ?_
  refine x_aload_n dX12_dispense_1 rfl ?_
  refine x_iload_n dX12_dispense_2 rfl ?_
  refine y_callVP (rest := [.ref (zad ω 201)]) (c1 := 0) (s1 := 0) (c_Mod_isFeast ω p1 m) mv_RX12_244 hz_201 rfl (Nat.le_of_ble_eq_true rfl) (Nat.le_of_ble_eq_true rfl) (Nat.le_of_ble_eq_true rfl) ⟨rfl, rfl⟩ ⟨(Nat.le_of_ble_eq_true rfl), (Nat.le_of_ble_eq_true rfl)⟩ dX12_dispense_3 (fun v1 => ?_)
  refine y_join (fun j4 => ∀ (x3 : Int32), Sx ω true 3 0 0 kk_Mod_dispense fI 0 0 m 42 [some (.ref (zad ω 201)), some (.int p1), some (.int p2), some (.int p3), none, none, none] [.int x3, .ref (zad ω 201)] (j4 x3)) ?_ (fun j4 hj4 => ?_)
  · intro x3
    refine y_putI fp_RX12_93 hz_201 dX12_dispense_42 ?_
    refine y_letM (fun m5 => ?_)
    refine x_aload_n dX12_dispense_45 rfl ?_
    refine y_getI fl_RX12_93 hz_201 dX12_dispense_46 ?_
    refine x_if_le (tgt := 54) dX12_dispense_49 (by decide) (fun hc6 => ?_) (fun hc6 => ?_)
    · refine x_aload_n dX12_dispense_54 rfl ?_
      refine y_getI fl_RX12_253 hz_201 dX12_dispense_55 ?_
      refine x_bipush (v := 30) dX12_dispense_58 (by decide) ?_
      refine y_join (fun j9 => ∀ (x8 : Int32), Sx ω true 3 0 0 kk_Mod_dispense fI 0 0 m5 68 [some (.ref (zad ω 201)), some (.int p1), some (.int p2), some (.int p3), none, none, none] [.int x8] (j9 x8)) ?_ (fun j9 hj9 => ?_)
      · intro x8
        refine x_istore (ls' := [some (.ref (zad ω 201)), some (.int p1), some (.int p2), some (.int p3), some (.int x8), none, none]) dX12_dispense_68 (Nat.le_of_ble_eq_true rfl) rfl ?_
        refine x_iconst (v := 0) dX12_dispense_70 (by decide) ?_
        refine x_istore (ls' := [some (.ref (zad ω 201)), some (.int p1), some (.int p2), some (.int p3), some (.int x8), some (.int 0), none]) dX12_dispense_71 (Nat.le_of_ble_eq_true rfl) rfl ?_
        refine y_Lq2 (fun x10 x11 => [some (.ref (zad ω 201)), some (.int p1), some (.int p2), some (.int p3), some (.int x10), some (.int x11), none]) (fun r12 hr12 x10 x11 => ?_) zFu _ _
        refine x_iload dX12_dispense_73 rfl ?_
        refine x_aload_n dX12_dispense_75 rfl ?_
        refine y_getI fl_RX12_253 hz_201 dX12_dispense_76 ?_
        refine x_icmp_ge (tgt := 136) dX12_dispense_79 (by decide) (fun hc13 => ?_) (fun hc13 => ?_)
        · refine x_aload_n dX12_dispense_136 rfl ?_
          refine x_iload dX12_dispense_137 rfl ?_
          refine y_join (fun j16 => ∀ (x15 : Int32), Sx ω true 3 0 0 kk_Mod_dispense fI 0 0 m5 147 [some (.ref (zad ω 201)), some (.int p1), some (.int p2), some (.int p3), none, none, none] [.int x15, .ref (zad ω 201)] (j16 x15)) ?_ (fun j16 hj16 => ?_)
          · intro x15
            refine y_putI fp_RX12_93 hz_201 dX12_dispense_147 ?_
            refine y_letM (fun m17 => ?_)
            refine x_aload_n dX12_dispense_150 rfl ?_
            refine y_getI fl_RX12_93 hz_201 dX12_dispense_151 ?_
            refine x_if_le (tgt := 159) dX12_dispense_154 (by decide) (fun hc18 => ?_) (fun hc18 => ?_)
            · refine x_aload_n dX12_dispense_159 rfl ?_
              refine y_getF fl_RX12_45 hz_201 hq_201_26 (by rw [hz_213]; decide) dX12_dispense_160 ?_
              refine x_aload_n dX12_dispense_163 rfl ?_
              refine y_getI fl_RX12_253 hz_201 dX12_dispense_164 ?_
              refine x_iload_n dX12_dispense_167 rfl ?_
              refine y_iast hz_213 hn_213 dX12_dispense_168 (fun hi => ?_)
              refine y_letM (fun m19 => ?_)
              refine x_aload_n dX12_dispense_169 rfl ?_
              refine y_getF fl_RX12_48 hz_201 hq_201_27 (by rw [hz_214]; decide) dX12_dispense_170 ?_
              refine x_aload_n dX12_dispense_173 rfl ?_
              refine y_getI fl_RX12_253 hz_201 dX12_dispense_174 ?_
              refine x_iload_n dX12_dispense_177 rfl ?_
              refine y_iast hz_214 hn_214 dX12_dispense_178 (fun hi => ?_)
              refine y_letM (fun m20 => ?_)
              refine x_aload_n dX12_dispense_179 rfl ?_
              refine y_getF fl_RX12_51 hz_201 hq_201_28 (by rw [hz_215]; decide) dX12_dispense_180 ?_
              refine x_aload_n dX12_dispense_183 rfl ?_
              refine y_getI fl_RX12_253 hz_201 dX12_dispense_184 ?_
              refine x_iload_n dX12_dispense_187 rfl ?_
              refine y_iast hz_215 hn_215 dX12_dispense_188 (fun hi => ?_)
              refine y_letM (fun m21 => ?_)
              refine x_aload_n dX12_dispense_189 rfl ?_
              refine x_dup dX12_dispense_190 rfl ?_
              refine y_getI fl_RX12_253 hz_201 dX12_dispense_191 ?_
              refine x_iconst (v := 1) dX12_dispense_194 (by decide) ?_
              refine x_iadd dX12_dispense_195 ?_
              refine y_putI fp_RX12_253 hz_201 dX12_dispense_196 ?_
              refine y_letM (fun m22 => ?_)
              refine x_aload_n dX12_dispense_199 rfl ?_
              refine y_getI fl_RX12_253 hz_201 dX12_dispense_200 ?_
              exact x_iret rfl rfl ⟨(Nat.le_of_ble_eq_true rfl), (Nat.le_of_ble_eq_true rfl)⟩ dX12_dispense_203
            · refine x_iconst (v := 0) dX12_dispense_157 (by decide) ?_
              exact x_iret rfl rfl ⟨(Nat.le_of_ble_eq_true rfl), (Nat.le_of_ble_eq_true rfl)⟩ dX12_dispense_158
          · refine x_if_eq (tgt := 146) dX12_dispense_139 (by decide) (fun hc14 => ?_) (fun hc14 => ?_)
            · refine x_iconst (v := 3) dX12_dispense_146 (by decide) ?_
              refine y_mask (bs := [true, true, true, true, false, false, false]) (ls' := [some (.ref (zad ω 201)), some (.int p1), some (.int p2), some (.int p3), none, none, none]) rfl ?_
              exact hj16 _
            · refine x_iconst (v := 0) dX12_dispense_142 (by decide) ?_
              refine x_goto (tgt := 147) dX12_dispense_143 (by decide) ?_
              refine y_mask (bs := [true, true, true, true, false, false, false]) (ls' := [some (.ref (zad ω 201)), some (.int p1), some (.int p2), some (.int p3), none, none, none]) rfl ?_
              exact hj16 _
        · refine x_aload_n dX12_dispense_82 rfl ?_
          refine y_getF fl_RX12_48 hz_201 hq_201_27 (by rw [hz_214]; decide) dX12_dispense_83 ?_
          refine x_iload dX12_dispense_86 rfl ?_
          refine y_iald hz_214 hn_214 dX12_dispense_88 (fun hi => ?_)
          refine x_iload_n dX12_dispense_89 rfl ?_
          refine x_isub dX12_dispense_90 ?_
          refine y_letI (fun x23 => ?_)
          refine x_istore (ls' := [some (.ref (zad ω 201)), some (.int p1), some (.int p2), some (.int p3), some (.int x10), some (.int x11), some (.int x23)]) dX12_dispense_91 (Nat.le_of_ble_eq_true rfl) rfl ?_
          refine x_iload dX12_dispense_93 rfl ?_
          refine y_join (fun j26 => ∀ (x25 : Int32), Sx ω true 3 0 0 kk_Mod_dispense fI 0 0 m5 128 [some (.ref (zad ω 201)), some (.int p1), some (.int p2), some (.int p3), none, some (.int x11), none] [.int x25] (j26 x25)) ?_ (fun j26 hj26 => ?_)
          · intro x25
            refine x_istore (ls' := [some (.ref (zad ω 201)), some (.int p1), some (.int p2), some (.int p3), some (.int x25), some (.int x11), none]) dX12_dispense_128 (Nat.le_of_ble_eq_true rfl) rfl ?_
            refine y_iinc (w := 1) dX12_dispense_130 rfl (by decide) (Nat.le_of_ble_eq_true rfl) (fun x27 => ?_)
            refine x_goto (tgt := 73) dX12_dispense_133 (by decide) ?_
            exact hr12 _ _
          · refine y_join (fun j28 => Sx ω true 3 0 0 kk_Mod_dispense fI 0 0 m5 127 [some (.ref (zad ω 201)), some (.int p1), some (.int p2), some (.int p3), none, some (.int x11), none] [] j28) ?_ (fun j28 hj28 => ?_)
            · refine x_iconst (v := 0) dX12_dispense_127 (by decide) ?_
              exact hj26 _
            · refine x_if_eq (tgt := 127) dX12_dispense_95 (by decide) (fun hc24 => ?_) (fun hc24 => ?_)
              · refine y_mask (bs := [true, true, true, true, false, true, false]) (ls' := [some (.ref (zad ω 201)), some (.int p1), some (.int p2), some (.int p3), none, some (.int x11), none]) rfl ?_
                exact hj28
              · refine x_aload_n dX12_dispense_98 rfl ?_
                refine y_getF fl_RX12_45 hz_201 hq_201_26 (by rw [hz_213]; decide) dX12_dispense_99 ?_
                refine x_iload dX12_dispense_102 rfl ?_
                refine y_iald hz_213 hn_213 dX12_dispense_104 (fun hi => ?_)
                refine x_iload_n dX12_dispense_105 rfl ?_
                refine y_join (fun j30 => Sx ω true 3 0 0 kk_Mod_dispense fI 0 0 m5 123 [some (.ref (zad ω 201)), some (.int p1), some (.int p2), some (.int p3), none, some (.int x11), none] [] j30) ?_ (fun j30 hj30 => ?_)
                · refine x_iconst (v := 1) dX12_dispense_123 (by decide) ?_
                  refine x_goto (tgt := 128) dX12_dispense_124 (by decide) ?_
                  exact hj26 _
                · refine x_icmp_ne (tgt := 123) dX12_dispense_106 (by decide) (fun hc29 => ?_) (fun hc29 => ?_)
                  · refine x_iload dX12_dispense_109 rfl ?_
                    refine x_bipush (v := 10) dX12_dispense_111 (by decide) ?_
                    refine x_icmp_ge (tgt := 123) dX12_dispense_113 (by decide) (fun hc31 => ?_) (fun hc31 => ?_)
                    · refine y_mask (bs := [true, true, true, true, false, true, false]) (ls' := [some (.ref (zad ω 201)), some (.int p1), some (.int p2), some (.int p3), none, some (.int x11), none]) rfl ?_
                      exact hj30
                    · refine x_iload dX12_dispense_116 rfl ?_
                      refine x_bipush (v := (-10)) dX12_dispense_118 (by decide) ?_
                      refine x_icmp_gt (tgt := 127) dX12_dispense_120 (by decide) (fun hc32 => ?_) (fun hc32 => ?_)
                      · refine y_mask (bs := [true, true, true, true, false, true, false]) (ls' := [some (.ref (zad ω 201)), some (.int p1), some (.int p2), some (.int p3), none, some (.int x11), none]) rfl ?_
                        exact hj28
                      · refine y_mask (bs := [true, true, true, true, false, true, false]) (ls' := [some (.ref (zad ω 201)), some (.int p1), some (.int p2), some (.int p3), none, some (.int x11), none]) rfl ?_
                        exact hj30
                  · refine y_mask (bs := [true, true, true, true, false, true, false]) (ls' := [some (.ref (zad ω 201)), some (.int p1), some (.int p2), some (.int p3), none, some (.int x11), none]) rfl ?_
                    exact hj30
      · refine x_icmp_ge (tgt := 67) dX12_dispense_60 (by decide) (fun hc7 => ?_) (fun hc7 => ?_)
        · refine x_iconst (v := 0) dX12_dispense_67 (by decide) ?_
          exact hj9 _
        · refine x_iconst (v := 1) dX12_dispense_63 (by decide) ?_
          refine x_goto (tgt := 68) dX12_dispense_64 (by decide) ?_
          exact hj9 _
    · refine x_iconst (v := 0) dX12_dispense_52 (by decide) ?_
      exact x_iret rfl rfl ⟨(Nat.le_of_ble_eq_true rfl), (Nat.le_of_ble_eq_true rfl)⟩ dX12_dispense_53
  · refine x_if_ne (tgt := 13) dX12_dispense_6 (by decide) (fun hc2 => ?_) (fun hc2 => ?_)
    · refine x_iconst (v := 1) dX12_dispense_9 (by decide) ?_
      refine x_goto (tgt := 42) dX12_dispense_10 (by decide) ?_
      exact hj4 _
    · refine x_iload_n dX12_dispense_13 rfl ?_
      refine y_callSP (rest := [.ref (zad ω 201)]) (c1 := 0) (s1 := 0) (c_Mod_isYear ω p2 m) ms_RX12_250 rfl (Nat.le_of_ble_eq_true rfl) (Nat.le_of_ble_eq_true rfl) (Nat.le_of_ble_eq_true rfl) ⟨rfl, rfl⟩ ⟨(Nat.le_of_ble_eq_true rfl), (Nat.le_of_ble_eq_true rfl)⟩ dX12_dispense_14 (fun v33 => ?_)
      refine y_join (fun j35 => Sx ω true 3 0 0 kk_Mod_dispense fI 0 0 m 41 [some (.ref (zad ω 201)), some (.int p1), some (.int p2), some (.int p3), none, none, none] [.ref (zad ω 201)] j35) ?_ (fun j35 hj35 => ?_)
      · refine x_iconst (v := 2) dX12_dispense_41 (by decide) ?_
        exact hj4 _
      · refine x_if_eq (tgt := 41) dX12_dispense_17 (by decide) (fun hc34 => ?_) (fun hc34 => ?_)
        · exact hj35
        · refine x_iload_n dX12_dispense_20 rfl ?_
          refine x_bipush (v := (-30)) dX12_dispense_21 (by decide) ?_
          refine x_bipush (v := 30) dX12_dispense_23 (by decide) ?_
          refine y_callSP (rest := [.ref (zad ω 201)]) (c1 := 0) (s1 := 0) (c_Mod_isIn ω p3 (-30) 30 m) ms_RX12_115 rfl (Nat.le_of_ble_eq_true rfl) (Nat.le_of_ble_eq_true rfl) (Nat.le_of_ble_eq_true rfl) ⟨rfl, rfl⟩ ⟨(Nat.le_of_ble_eq_true rfl), (Nat.le_of_ble_eq_true rfl)⟩ dX12_dispense_25 (fun v36 => ?_)
          refine y_join (fun j38 => Sx ω true 3 0 0 kk_Mod_dispense fI 0 0 m 37 [some (.ref (zad ω 201)), some (.int p1), some (.int p2), some (.int p3), none, none, none] [.ref (zad ω 201)] j38) ?_ (fun j38 hj38 => ?_)
          · refine x_iconst (v := 0) dX12_dispense_37 (by decide) ?_
            refine x_goto (tgt := 42) dX12_dispense_38 (by decide) ?_
            exact hj4 _
          · refine x_if_ne (tgt := 37) dX12_dispense_28 (by decide) (fun hc37 => ?_) (fun hc37 => ?_)
            · refine x_iload_n dX12_dispense_31 rfl ?_
              refine x_bipush (v := 99) dX12_dispense_32 (by decide) ?_
              refine x_icmp_ne (tgt := 41) dX12_dispense_34 (by decide) (fun hc39 => ?_) (fun hc39 => ?_)
              · exact hj38
              · exact hj35
            · exact hj38
