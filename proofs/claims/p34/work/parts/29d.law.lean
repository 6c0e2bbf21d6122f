abbrev kk_Law_law : Kx := (yL_law.cls, cL_law, 24, (some .boolean), [], false)
set_option maxHeartbeats 40000000 in
set_option maxRecDepth 100000 in
theorem c_Law_law (ω : Wd) (hl0 : (oT ω).length = 0) (m : Mm) : Sx ω ω true 112 19601 198013 kk_Law_law fI 191 4993 m 42 [some (.ref (oX ω 1)), some (.ref (zad ω 16)), some (.ref (zad ω 201)), some (.ref (zad ω 202)), some (.ref (zad ω 203)), some (.ref (zad ω 204)), some (.ref (zad ω 205)), some (.ref (zad ω 206)), none, none, none, none, none, none, none, none, none, none, none, none, none, none, none, none] [] (f_Law_law ω m) := by
  unfold f_Law_law
  refine x_aload dL_law_42 rfl ?_
  refine x_iconst (v := 4) dL_law_44 (by decide) ?_
  refine x_iconst (v := (-1)) dL_law_45 (by decide) ?_
  refine y_iast hz_204 hn_204 dL_law_46 (fun hi => ?_)
  refine y_letM (fun m1 => ?_)
  refine x_iconst (v := 0) dL_law_47 (by decide) ?_
  refine x_istore (ls' := [some (.ref (oX ω 1)), some (.ref (zad ω 16)), some (.ref (zad ω 201)), some (.ref (zad ω 202)), some (.ref (zad ω 203)), some (.ref (zad ω 204)), some (.ref (zad ω 205)), some (.ref (zad ω 206)), some (.int 0), none, none, none, none, none, none, none, none, none, none, none, none, none, none, none]) dL_law_48 (Nat.le_of_ble_eq_true rfl) rfl ?_
  refine y_Lcp1 (K := 647) (Ks := 6434) (N := 30) (fun x2 => [some (.ref (oX ω 1)), some (.ref (zad ω 16)), some (.ref (zad ω 201)), some (.ref (zad ω 202)), some (.ref (zad ω 203)), some (.ref (zad ω 204)), some (.ref (zad ω 205)), some (.ref (zad ω 206)), some (.int x2), none, none, none, none, none, none, none, none, none, none, none, none, none, none, none]) ⟨(Nat.le_of_ble_eq_true rfl), (Nat.le_of_ble_eq_true rfl)⟩ (fun r3 c5 s5 k5a k5b k5c k5d hr3 x2 m4 => ?_) _ _
  refine x_iload dL_law_50 rfl ?_
  refine x_bipush (v := 28) dL_law_52 (by decide) ?_
  refine x_icmp_ge (tgt := 1960) dL_law_54 (by decide) (fun hc6 => ?_) (fun hc6 => ?_)
  · refine x_iconst (v := 1) dL_law_1960 (by decide) ?_
    exact x_zretF zXt.refl rfl rfl (zBo_nar (by decide)) ⟨by omega, by omega⟩ dL_law_1961
  · refine x_aload_n dL_law_57 rfl ?_
    refine x_iconst (v := 3) dL_law_58 (by decide) ?_
    refine x_iload dL_law_59 rfl ?_
    refine x_imul dL_law_61 ?_
    refine y_callSP (rest := []) (c1 := c5) (s1 := s5) (c_Law_cell ω (3 * x2) m4) ms_RL_139 rfl (Nat.le_of_ble_eq_true rfl) (Nat.le_of_ble_eq_true rfl) (Nat.le_of_ble_eq_true rfl) ⟨rfl, rfl⟩ ⟨by omega, by omega⟩ dL_law_62 (fun v7 => ?_)
    refine x_istore (ls' := [some (.ref (oX ω 1)), some (.ref (zad ω 16)), some (.ref (zad ω 201)), some (.ref (zad ω 202)), some (.ref (zad ω 203)), some (.ref (zad ω 204)), some (.ref (zad ω 205)), some (.ref (zad ω 206)), some (.int x2), some (.int v7), none, none, none, none, none, none, none, none, none, none, none, none, none, none]) dL_law_65 (Nat.le_of_ble_eq_true rfl) rfl ?_
    refine x_aload_n dL_law_67 rfl ?_
    refine x_iconst (v := 3) dL_law_68 (by decide) ?_
    refine x_iload dL_law_69 rfl ?_
    refine x_imul dL_law_71 ?_
    refine x_iconst (v := 1) dL_law_72 (by decide) ?_
    refine x_iadd dL_law_73 ?_
    refine y_callSP (rest := []) (c1 := c5) (s1 := s5) (c_Law_cell ω ((3 * x2) + 1) m4) ms_RL_139 rfl (Nat.le_of_ble_eq_true rfl) (Nat.le_of_ble_eq_true rfl) (Nat.le_of_ble_eq_true rfl) ⟨rfl, rfl⟩ ⟨by omega, by omega⟩ dL_law_74 (fun v8 => ?_)
    refine x_istore (ls' := [some (.ref (oX ω 1)), some (.ref (zad ω 16)), some (.ref (zad ω 201)), some (.ref (zad ω 202)), some (.ref (zad ω 203)), some (.ref (zad ω 204)), some (.ref (zad ω 205)), some (.ref (zad ω 206)), some (.int x2), some (.int v7), some (.int v8), none, none, none, none, none, none, none, none, none, none, none, none, none]) dL_law_77 (Nat.le_of_ble_eq_true rfl) rfl ?_
    refine x_aload_n dL_law_79 rfl ?_
    refine x_iconst (v := 3) dL_law_80 (by decide) ?_
    refine x_iload dL_law_81 rfl ?_
    refine x_imul dL_law_83 ?_
    refine x_iconst (v := 2) dL_law_84 (by decide) ?_
    refine x_iadd dL_law_85 ?_
    refine y_callSP (rest := []) (c1 := c5) (s1 := s5) (c_Law_cell ω ((3 * x2) + 2) m4) ms_RL_139 rfl (Nat.le_of_ble_eq_true rfl) (Nat.le_of_ble_eq_true rfl) (Nat.le_of_ble_eq_true rfl) ⟨rfl, rfl⟩ ⟨by omega, by omega⟩ dL_law_86 (fun v9 => ?_)
    refine x_istore (ls' := [some (.ref (oX ω 1)), some (.ref (zad ω 16)), some (.ref (zad ω 201)), some (.ref (zad ω 202)), some (.ref (zad ω 203)), some (.ref (zad ω 204)), some (.ref (zad ω 205)), some (.ref (zad ω 206)), some (.int x2), some (.int v7), some (.int v8), some (.int v9), none, none, none, none, none, none, none, none, none, none, none, none]) dL_law_89 (Nat.le_of_ble_eq_true rfl) rfl ?_
    refine x_iload dL_law_91 rfl ?_
    refine x_iconst (v := 2) dL_law_93 (by decide) ?_
    refine y_join (fun j12 => ∀ (x11 : Int32), Sx ω ω true 112 19601 198013 kk_Law_law fI c5 s5 m4 108 [some (.ref (oX ω 1)), some (.ref (zad ω 16)), some (.ref (zad ω 201)), some (.ref (zad ω 202)), some (.ref (zad ω 203)), some (.ref (zad ω 204)), some (.ref (zad ω 205)), some (.ref (zad ω 206)), some (.int x2), some (.int v7), some (.int v8), some (.int v9), none, none, none, none, none, none, none, none, none, none, none, none] [.int x11] (j12 x11)) ?_ (fun j12 hj12 => ?_)
    · intro x11
      refine x_istore (ls' := [some (.ref (oX ω 1)), some (.ref (zad ω 16)), some (.ref (zad ω 201)), some (.ref (zad ω 202)), some (.ref (zad ω 203)), some (.ref (zad ω 204)), some (.ref (zad ω 205)), some (.ref (zad ω 206)), some (.int x2), some (.int v7), some (.int v8), some (.int v9), some (.int x11), none, none, none, none, none, none, none, none, none, none, none]) dL_law_108 (Nat.le_of_ble_eq_true rfl) rfl ?_
      refine x_aload dL_law_110 rfl ?_
      refine x_iconst (v := 0) dL_law_112 (by decide) ?_
      refine y_iald hz_204 hn_204 dL_law_113 (fun hi => ?_)
      refine y_join (fun j15 => ∀ (x14 : Int32), Sx ω ω true 112 19601 198013 kk_Law_law fI c5 s5 m4 132 [some (.ref (oX ω 1)), some (.ref (zad ω 16)), some (.ref (zad ω 201)), some (.ref (zad ω 202)), some (.ref (zad ω 203)), some (.ref (zad ω 204)), some (.ref (zad ω 205)), some (.ref (zad ω 206)), some (.int x2), some (.int v7), some (.int v8), some (.int v9), some (.int x11), none, none, none, none, none, none, none, none, none, none, none] [.int x14] (j15 x14)) ?_ (fun j15 hj15 => ?_)
      · intro x14
        refine x_istore (ls' := [some (.ref (oX ω 1)), some (.ref (zad ω 16)), some (.ref (zad ω 201)), some (.ref (zad ω 202)), some (.ref (zad ω 203)), some (.ref (zad ω 204)), some (.ref (zad ω 205)), some (.ref (zad ω 206)), some (.int x2), some (.int v7), some (.int v8), some (.int v9), some (.int x11), some (.int x14), none, none, none, none, none, none, none, none, none, none]) dL_law_132 (Nat.le_of_ble_eq_true rfl) rfl ?_
        refine x_iload dL_law_134 rfl ?_
        refine x_iconst (v := 3) dL_law_136 (by decide) ?_
        refine x_ishr dL_law_137 ?_
        refine x_sipush (v := 400) dL_law_138 (by decide) ?_
        refine y_callSP (rest := []) (c1 := c5) (s1 := s5) (c_Law_low ω (v9 >>> (3 &&& 31)) 400 m4) ms_RL_76 rfl (Nat.le_of_ble_eq_true rfl) (Nat.le_of_ble_eq_true rfl) (Nat.le_of_ble_eq_true rfl) ⟨rfl, rfl⟩ ⟨by omega, by omega⟩ dL_law_141 (fun v16 => ?_)
        refine x_istore (ls' := [some (.ref (oX ω 1)), some (.ref (zad ω 16)), some (.ref (zad ω 201)), some (.ref (zad ω 202)), some (.ref (zad ω 203)), some (.ref (zad ω 204)), some (.ref (zad ω 205)), some (.ref (zad ω 206)), some (.int x2), some (.int v7), some (.int v8), some (.int v9), some (.int x11), some (.int x14), some (.int v16), none, none, none, none, none, none, none, none, none]) dL_law_144 (Nat.le_of_ble_eq_true rfl) rfl ?_
        refine x_iload dL_law_146 rfl ?_
        refine x_iconst (v := 5) dL_law_148 (by decide) ?_
        refine y_join (fun j19 => ∀ (m18 : Mm), Sx ω ω true 112 19601 198013 kk_Law_law fI (c5 + 647) (s5 + 6434) m18 1954 [some (.ref (oX ω 1)), some (.ref (zad ω 16)), some (.ref (zad ω 201)), some (.ref (zad ω 202)), some (.ref (zad ω 203)), some (.ref (zad ω 204)), some (.ref (zad ω 205)), some (.ref (zad ω 206)), some (.int x2), none, none, none, none, none, none, none, none, none, none, none, none, none, none, none] [] (j19 m18)) ?_ (fun j19 hj19 => ?_)
        · intro m18
          refine y_iinc (w := 1) dL_law_1954 rfl (by decide) (Nat.le_of_ble_eq_true rfl) (fun x20 => ?_)
          refine x_goto (tgt := 50) dL_law_1957 (by decide) ?_
          exact hr3 _ _
        · refine y_join (fun j23 => ∀ (x21 : Int32) (m22 : Mm), Sx ω ω true 112 19601 198013 kk_Law_law fI (c5 + 635) (s5 + 6338) m22 1935 [some (.ref (oX ω 1)), some (.ref (zad ω 16)), some (.ref (zad ω 201)), some (.ref (zad ω 202)), some (.ref (zad ω 203)), some (.ref (zad ω 204)), some (.ref (zad ω 205)), some (.ref (zad ω 206)), some (.int x2), none, none, none, none, none, some (.int x21), none, none, none, none, none, none, none, none, none] [] (j23 x21 m22)) ?_ (fun j23 hj23 => ?_)
          · intro x21 m22
            refine x_aload_n dL_law_1935 rfl ?_
            refine x_aload_n dL_law_1936 rfl ?_
            refine x_aload_n dL_law_1937 rfl ?_
            refine x_aload dL_law_1938 rfl ?_
            refine x_aload dL_law_1940 rfl ?_
            refine x_aload dL_law_1942 rfl ?_
            refine x_iload dL_law_1944 rfl ?_
            refine y_callSI2 (rest := []) (c1 := (c5 + 641)) (s1 := (s5 + 6398)) (c_Law_year ω x21 hl0 m22) ms_RL_199 rfl (Nat.le_of_ble_eq_true rfl) (Nat.le_of_ble_eq_true rfl) (Nat.le_of_ble_eq_true rfl) ⟨rfl, rfl⟩ ⟨by omega, by omega⟩ dL_law_1946 (fun v25 m24 => ?_)
            refine x_if_ne (tgt := 1954) dL_law_1949 (by decide) (fun hc26 => ?_) (fun hc26 => ?_)
            · refine x_iconst (v := 0) dL_law_1952 (by decide) ?_
              exact x_zretF zXt.refl rfl rfl (zBo_nar (by decide)) ⟨by omega, by omega⟩ dL_law_1953
            · refine y_mask (bs := [true, true, true, true, true, true, true, true, true, false, false, false, false, false, false, false, false, false, false, false, false, false, false, false]) (ls' := [some (.ref (oX ω 1)), some (.ref (zad ω 16)), some (.ref (zad ω 201)), some (.ref (zad ω 202)), some (.ref (zad ω 203)), some (.ref (zad ω 204)), some (.ref (zad ω 205)), some (.ref (zad ω 206)), some (.int x2), none, none, none, none, none, none, none, none, none, none, none, none, none, none, none]) rfl ?_
              refine x_wid (c1 := (c5 + 647)) (s1 := (s5 + 6434)) (by omega) (by omega) ?_
              exact hj19 _
          · refine x_icmp_ge (tgt := 690) dL_law_149 (by decide) (fun hc17 => ?_) (fun hc17 => ?_)
            · refine x_iload dL_law_690 rfl ?_
              refine x_iconst (v := 5) dL_law_692 (by decide) ?_
              refine x_icmp_ne (tgt := 752) dL_law_693 (by decide) (fun hc27 => ?_) (fun hc27 => ?_)
              · refine x_aload_n dL_law_696 rfl ?_
                refine x_iload dL_law_697 rfl ?_
                refine y_iald hz_202 hn_202 dL_law_699 (fun hi => ?_)
                refine x_iconst (v := 2) dL_law_700 (by decide) ?_
                refine x_idiv dL_law_701 (by decide) ?_
                refine y_letI (fun x213 => ?_)
                refine x_istore (ls' := [some (.ref (oX ω 1)), some (.ref (zad ω 16)), some (.ref (zad ω 201)), some (.ref (zad ω 202)), some (.ref (zad ω 203)), some (.ref (zad ω 204)), some (.ref (zad ω 205)), some (.ref (zad ω 206)), some (.int x2), some (.int v7), some (.int v8), some (.int v9), some (.int x11), some (.int x14), some (.int v16), some (.int x213), none, none, none, none, none, none, none, none]) dL_law_702 (Nat.le_of_ble_eq_true rfl) rfl ?_
                refine x_aload_n dL_law_704 rfl ?_
                refine x_iload dL_law_705 rfl ?_
                refine x_iload dL_law_707 rfl ?_
                refine x_bipush (v := 20) dL_law_709 (by decide) ?_
                refine y_callSP (rest := [.int x14, .ref (zad ω 202)]) (c1 := c5) (s1 := s5) (c_Law_low ω v8 20 m4) ms_RL_76 rfl (Nat.le_of_ble_eq_true rfl) (Nat.le_of_ble_eq_true rfl) (Nat.le_of_ble_eq_true rfl) ⟨rfl, rfl⟩ ⟨by omega, by omega⟩ dL_law_711 (fun v214 => ?_)
                refine y_iast hz_202 hn_202 dL_law_714 (fun hi => ?_)
                refine y_letM (fun m215 => ?_)
                refine x_aload_n dL_law_715 rfl ?_
                refine x_iload dL_law_716 rfl ?_
                refine x_aload_n dL_law_718 rfl ?_
                refine x_iload dL_law_719 rfl ?_
                refine y_iald hz_202 hn_202 dL_law_721 (fun hi => ?_)
                refine x_iconst (v := 2) dL_law_722 (by decide) ?_
                refine x_idiv dL_law_723 (by decide) ?_
                refine x_aload_n dL_law_724 rfl ?_
                refine x_iload dL_law_725 rfl ?_
                refine y_iald hz_202 hn_202 dL_law_727 (fun hi => ?_)
                refine x_iconst (v := 2) dL_law_728 (by decide) ?_
                refine x_irem dL_law_729 (by decide) ?_
                refine x_iconst (v := 1) dL_law_730 (by decide) ?_
                refine y_join (fun j218 => ∀ (x217 : Int32), Sx ω ω true 112 19601 198013 kk_Law_law fI c5 s5 m215 739 [some (.ref (oX ω 1)), some (.ref (zad ω 16)), some (.ref (zad ω 201)), some (.ref (zad ω 202)), some (.ref (zad ω 203)), some (.ref (zad ω 204)), some (.ref (zad ω 205)), some (.ref (zad ω 206)), some (.int x2), none, none, none, none, none, some (.int v16), some (.int x213), none, none, none, none, none, none, none, none] [.int x217, .int ((zI m215 202 (zIx x14)) / 2), .int x14, .ref (zad ω 16)] (j218 x217)) ?_ (fun j218 hj218 => ?_)
                · intro x217
                  refine y_callVI (rest := []) (c1 := c5) (s1 := s5) (cn_Loo_rank ω x14 ((zI m215 202 (zIx x14)) / 2) x217 m215) mv_RL_165 hz_16 rfl (Nat.le_of_ble_eq_true rfl) (Nat.le_of_ble_eq_true rfl) (Nat.le_of_ble_eq_true rfl) ⟨rfl, rfl⟩ ⟨by omega, by omega⟩ dL_law_739 (fun v220 m219 => ?_)
                  refine x_iload dL_law_742 rfl ?_
                  refine x_icmp_eq (tgt := 749) dL_law_744 (by decide) (fun hc221 => ?_) (fun hc221 => ?_)
                  · refine x_goto (tgt := 1935) dL_law_749 (by decide) ?_
                    refine y_mask (bs := [true, true, true, true, true, true, true, true, true, false, false, false, false, false, true, false, false, false, false, false, false, false, false, false]) (ls' := [some (.ref (oX ω 1)), some (.ref (zad ω 16)), some (.ref (zad ω 201)), some (.ref (zad ω 202)), some (.ref (zad ω 203)), some (.ref (zad ω 204)), some (.ref (zad ω 205)), some (.ref (zad ω 206)), some (.int x2), none, none, none, none, none, some (.int v16), none, none, none, none, none, none, none, none, none]) rfl ?_
                    refine x_wid (c1 := (c5 + 635)) (s1 := (s5 + 6338)) (by omega) (by omega) ?_
                    exact hj23 _ _
                  · refine x_iconst (v := 0) dL_law_747 (by decide) ?_
                    exact x_zretF zXt.refl rfl rfl (zBo_nar (by decide)) ⟨by omega, by omega⟩ dL_law_748
                · refine x_icmp_ne (tgt := 738) dL_law_731 (by decide) (fun hc216 => ?_) (fun hc216 => ?_)
                  · refine x_iconst (v := 1) dL_law_734 (by decide) ?_
                    refine x_goto (tgt := 739) dL_law_735 (by decide) ?_
                    refine y_mask (bs := [true, true, true, true, true, true, true, true, true, false, false, false, false, false, true, true, false, false, false, false, false, false, false, false]) (ls' := [some (.ref (oX ω 1)), some (.ref (zad ω 16)), some (.ref (zad ω 201)), some (.ref (zad ω 202)), some (.ref (zad ω 203)), some (.ref (zad ω 204)), some (.ref (zad ω 205)), some (.ref (zad ω 206)), some (.int x2), none, none, none, none, none, some (.int v16), some (.int x213), none, none, none, none, none, none, none, none]) rfl ?_
                    exact hj218 _
                  · refine x_iconst (v := 0) dL_law_738 (by decide) ?_
                    refine y_mask (bs := [true, true, true, true, true, true, true, true, true, false, false, false, false, false, true, true, false, false, false, false, false, false, false, false]) (ls' := [some (.ref (oX ω 1)), some (.ref (zad ω 16)), some (.ref (zad ω 201)), some (.ref (zad ω 202)), some (.ref (zad ω 203)), some (.ref (zad ω 204)), some (.ref (zad ω 205)), some (.ref (zad ω 206)), some (.int x2), none, none, none, none, none, some (.int v16), some (.int x213), none, none, none, none, none, none, none, none]) rfl ?_
                    exact hj218 _
              · refine x_iload dL_law_752 rfl ?_
                refine x_bipush (v := 8) dL_law_754 (by decide) ?_
                refine x_icmp_ge (tgt := 984) dL_law_756 (by decide) (fun hc28 => ?_) (fun hc28 => ?_)
                · refine x_iload dL_law_984 rfl ?_
                  refine x_bipush (v := 8) dL_law_986 (by decide) ?_
                  refine x_icmp_ne (tgt := 1111) dL_law_988 (by decide) (fun hc29 => ?_) (fun hc29 => ?_)
                  · refine x_aload dL_law_991 rfl ?_
                    refine x_iconst (v := 1) dL_law_993 (by decide) ?_
                    refine y_iald hz_204 hn_204 dL_law_994 (fun hi => ?_)
                    refine x_if_ne (tgt := 1014) dL_law_995 (by decide) (fun hc166 => ?_) (fun hc166 => ?_)
                    · refine x_aload_n dL_law_998 rfl ?_
                      refine x_iconst (v := 1) dL_law_999 (by decide) ?_
                      refine x_iload dL_law_1000 rfl ?_
                      refine x_iload dL_law_1002 rfl ?_
                      refine x_iconst (v := 0) dL_law_1004 (by decide) ?_
                      refine y_callSH (rest := []) (c1 := (c5 + 3)) (s1 := (s5 + 18)) (c_Law_refused ω 1 x14 v16 0 m4) mh_RL_169 rfl (Nat.le_of_ble_eq_true rfl) (Nat.le_of_ble_eq_true rfl) (Nat.le_of_ble_eq_true rfl) ⟨rfl, rfl⟩ ⟨by omega, by omega⟩ dL_law_1005 (fun v180 m179 => ?_)
                      refine x_iconst (v := 3) dL_law_1008 (by decide) ?_
                      refine x_icmp_eq (tgt := 1954) dL_law_1009 (by decide) (fun hc181 => ?_) (fun hc181 => ?_)
                      · refine y_mask (bs := [true, true, true, true, true, true, true, true, true, false, false, false, false, false, false, false, false, false, false, false, false, false, false, false]) (ls' := [some (.ref (oX ω 1)), some (.ref (zad ω 16)), some (.ref (zad ω 201)), some (.ref (zad ω 202)), some (.ref (zad ω 203)), some (.ref (zad ω 204)), some (.ref (zad ω 205)), some (.ref (zad ω 206)), some (.int x2), none, none, none, none, none, none, none, none, none, none, none, none, none, none, none]) rfl ?_
                        refine x_wid (c1 := (c5 + 647)) (s1 := (s5 + 6434)) (by omega) (by omega) ?_
                        exact hj19 _
                      · refine x_iconst (v := 0) dL_law_1012 (by decide) ?_
                        exact x_zretF zXt.refl rfl rfl (zBo_nar (by decide)) ⟨by omega, by omega⟩ dL_law_1013
                    · refine x_iload dL_law_1014 rfl ?_
                      refine x_aload dL_law_1016 rfl ?_
                      refine x_iconst (v := 1) dL_law_1018 (by decide) ?_
                      refine y_iald hz_204 hn_204 dL_law_1019 (fun hi => ?_)
                      refine y_callSP (rest := []) (c1 := c5) (s1 := s5) (c_Law_low ω v8 (zI m4 204 (zIx 1)) m4) ms_RL_76 rfl (Nat.le_of_ble_eq_true rfl) (Nat.le_of_ble_eq_true rfl) (Nat.le_of_ble_eq_true rfl) ⟨rfl, rfl⟩ ⟨by omega, by omega⟩ dL_law_1020 (fun v167 => ?_)
                      refine x_istore (ls' := [some (.ref (oX ω 1)), some (.ref (zad ω 16)), some (.ref (zad ω 201)), some (.ref (zad ω 202)), some (.ref (zad ω 203)), some (.ref (zad ω 204)), some (.ref (zad ω 205)), some (.ref (zad ω 206)), some (.int x2), some (.int v7), some (.int v8), some (.int v9), some (.int x11), some (.int x14), some (.int v16), some (.int v167), none, none, none, none, none, none, none, none]) dL_law_1023 (Nat.le_of_ble_eq_true rfl) rfl ?_
                      refine x_aload dL_law_1025 rfl ?_
                      refine x_iconst (v := 3) dL_law_1027 (by decide) ?_
                      refine x_iload dL_law_1028 rfl ?_
                      refine x_imul dL_law_1030 ?_
                      refine x_iconst (v := 2) dL_law_1031 (by decide) ?_
                      refine x_iadd dL_law_1032 ?_
                      refine y_iald hz_203 hn_203 dL_law_1033 (fun hi => ?_)
                      refine y_letI (fun x168 => ?_)
                      refine x_istore (ls' := [some (.ref (oX ω 1)), some (.ref (zad ω 16)), some (.ref (zad ω 201)), some (.ref (zad ω 202)), some (.ref (zad ω 203)), some (.ref (zad ω 204)), some (.ref (zad ω 205)), some (.ref (zad ω 206)), some (.int x2), some (.int v7), some (.int v8), some (.int v9), some (.int x11), some (.int x14), some (.int v16), some (.int v167), some (.int x168), none, none, none, none, none, none, none]) dL_law_1034 (Nat.le_of_ble_eq_true rfl) rfl ?_
                      refine x_aload_n dL_law_1036 rfl ?_
                      refine x_aload dL_law_1037 rfl ?_
                      refine x_iconst (v := 3) dL_law_1039 (by decide) ?_
                      refine x_iload dL_law_1040 rfl ?_
                      refine x_imul dL_law_1042 ?_
                      refine y_iald hz_203 hn_203 dL_law_1043 (fun hi => ?_)
                      refine x_aload dL_law_1044 rfl ?_
                      refine x_iconst (v := 3) dL_law_1046 (by decide) ?_
                      refine x_iload dL_law_1047 rfl ?_
                      refine x_imul dL_law_1049 ?_
                      refine x_iconst (v := 1) dL_law_1050 (by decide) ?_
                      refine x_iadd dL_law_1051 ?_
                      refine y_iald hz_203 hn_203 dL_law_1052 (fun hi => ?_)
                      refine y_callVI (rest := []) (c1 := c5) (s1 := s5) (cn_Loo_takeBack ω (zI m4 203 (zIx (3 * v167))) (zI m4 203 (zIx ((3 * v167) + 1))) m4) mv_RL_83 hz_16 rfl (Nat.le_of_ble_eq_true rfl) (Nat.le_of_ble_eq_true rfl) (Nat.le_of_ble_eq_true rfl) ⟨rfl, rfl⟩ ⟨by omega, by omega⟩ dL_law_1053 (fun v170 m169 => ?_)
                      refine x_iload dL_law_1056 rfl ?_
                      refine x_icmp_eq (tgt := 1063) dL_law_1058 (by decide) (fun hc171 => ?_) (fun hc171 => ?_)
                      · refine x_aload dL_law_1063 rfl ?_
                        refine x_iconst (v := 1) dL_law_1065 (by decide) ?_
                        refine x_dup2 dL_law_1066 rfl rfl ?_
                        refine y_iald hz_204 hn_204 dL_law_1067 (fun hi => ?_)
                        refine x_iconst (v := 1) dL_law_1068 (by decide) ?_
                        refine x_isub dL_law_1069 ?_
                        refine y_iast hz_204 hn_204 dL_law_1070 (fun hi => ?_)
                        refine y_letM (fun m172 => ?_)
                        refine x_iconst (v := 0) dL_law_1071 (by decide) ?_
                        refine x_istore (ls' := [some (.ref (oX ω 1)), some (.ref (zad ω 16)), some (.ref (zad ω 201)), some (.ref (zad ω 202)), some (.ref (zad ω 203)), some (.ref (zad ω 204)), some (.ref (zad ω 205)), some (.ref (zad ω 206)), some (.int x2), some (.int v7), some (.int v8), some (.int v9), some (.int x11), some (.int x14), some (.int v16), some (.int v167), some (.int x168), some (.int 0), none, none, none, none, none, none]) dL_law_1072 (Nat.le_of_ble_eq_true rfl) rfl ?_
                        refine y_mask (bs := [true, true, true, true, true, true, true, true, true, false, false, false, false, false, true, true, false, true, false, false, false, false, false, false]) (ls' := [some (.ref (oX ω 1)), some (.ref (zad ω 16)), some (.ref (zad ω 201)), some (.ref (zad ω 202)), some (.ref (zad ω 203)), some (.ref (zad ω 204)), some (.ref (zad ω 205)), some (.ref (zad ω 206)), some (.int x2), none, none, none, none, none, some (.int v16), some (.int v167), none, some (.int 0), none, none, none, none, none, none]) rfl ?_
                        refine y_Lp1 (fun x173 => [some (.ref (oX ω 1)), some (.ref (zad ω 16)), some (.ref (zad ω 201)), some (.ref (zad ω 202)), some (.ref (zad ω 203)), some (.ref (zad ω 204)), some (.ref (zad ω 205)), some (.ref (zad ω 206)), some (.int x2), none, none, none, none, none, some (.int v16), some (.int v167), none, some (.int x173), none, none, none, none, none, none]) (fun r174 hr174 x173 m175 => ?_) zFu _ _
                        refine x_iload dL_law_1074 rfl ?_
                        refine x_iconst (v := 3) dL_law_1076 (by decide) ?_
                        refine x_icmp_ge (tgt := 1108) dL_law_1077 (by decide) (fun hc176 => ?_) (fun hc176 => ?_)
                        · refine x_goto (tgt := 1935) dL_law_1108 (by decide) ?_
                          refine y_mask (bs := [true, true, true, true, true, true, true, true, true, false, false, false, false, false, true, false, false, false, false, false, false, false, false, false]) (ls' := [some (.ref (oX ω 1)), some (.ref (zad ω 16)), some (.ref (zad ω 201)), some (.ref (zad ω 202)), some (.ref (zad ω 203)), some (.ref (zad ω 204)), some (.ref (zad ω 205)), some (.ref (zad ω 206)), some (.int x2), none, none, none, none, none, some (.int v16), none, none, none, none, none, none, none, none, none]) rfl ?_
                          refine x_wid (c1 := (c5 + 635)) (s1 := (s5 + 6338)) (by omega) (by omega) ?_
                          exact hj23 _ _
                        · refine x_aload dL_law_1080 rfl ?_
                          refine x_iconst (v := 3) dL_law_1082 (by decide) ?_
                          refine x_iload dL_law_1083 rfl ?_
                          refine x_imul dL_law_1085 ?_
                          refine x_iload dL_law_1086 rfl ?_
                          refine x_iadd dL_law_1088 ?_
                          refine x_aload dL_law_1089 rfl ?_
                          refine x_iconst (v := 3) dL_law_1091 (by decide) ?_
                          refine x_aload dL_law_1092 rfl ?_
                          refine x_iconst (v := 1) dL_law_1094 (by decide) ?_
                          refine y_iald hz_204 hn_204 dL_law_1095 (fun hi => ?_)
                          refine x_imul dL_law_1096 ?_
                          refine x_iload dL_law_1097 rfl ?_
                          refine x_iadd dL_law_1099 ?_
                          refine y_iald hz_203 hn_203 dL_law_1100 (fun hi => ?_)
                          refine y_iast hz_203 hn_203 dL_law_1101 (fun hi => ?_)
                          refine y_letM (fun m177 => ?_)
                          refine y_iinc (w := 1) dL_law_1102 rfl (by decide) (Nat.le_of_ble_eq_true rfl) (fun x178 => ?_)
                          refine x_goto (tgt := 1074) dL_law_1105 (by decide) ?_
                          exact hr174 _ _
                      · refine x_iconst (v := 0) dL_law_1061 (by decide) ?_
                        exact x_zretF zXt.refl rfl rfl (zBo_nar (by decide)) ⟨by omega, by omega⟩ dL_law_1062
                  · refine x_iload dL_law_1111 rfl ?_
                    refine x_bipush (v := 9) dL_law_1113 (by decide) ?_
                    refine x_icmp_ne (tgt := 1152) dL_law_1115 (by decide) (fun hc30 => ?_) (fun hc30 => ?_)
                    · refine x_aload dL_law_1118 rfl ?_
                      refine x_iconst (v := 2) dL_law_1120 (by decide) ?_
                      refine y_iald hz_204 hn_204 dL_law_1121 (fun hi => ?_)
                      refine y_letI (fun x160 => ?_)
                      refine x_istore (ls' := [some (.ref (oX ω 1)), some (.ref (zad ω 16)), some (.ref (zad ω 201)), some (.ref (zad ω 202)), some (.ref (zad ω 203)), some (.ref (zad ω 204)), some (.ref (zad ω 205)), some (.ref (zad ω 206)), some (.int x2), some (.int v7), some (.int v8), some (.int v9), some (.int x11), some (.int x14), some (.int v16), some (.int x160), none, none, none, none, none, none, none, none]) dL_law_1122 (Nat.le_of_ble_eq_true rfl) rfl ?_
                      refine x_aload dL_law_1124 rfl ?_
                      refine x_iconst (v := 2) dL_law_1126 (by decide) ?_
                      refine x_iload dL_law_1127 rfl ?_
                      refine x_iconst (v := 2) dL_law_1129 (by decide) ?_
                      refine y_callSP (rest := [.int 2, .ref (zad ω 204)]) (c1 := c5) (s1 := s5) (c_Law_low ω v8 2 m4) ms_RL_76 rfl (Nat.le_of_ble_eq_true rfl) (Nat.le_of_ble_eq_true rfl) (Nat.le_of_ble_eq_true rfl) ⟨rfl, rfl⟩ ⟨by omega, by omega⟩ dL_law_1130 (fun v161 => ?_)
                      refine y_iast hz_204 hn_204 dL_law_1133 (fun hi => ?_)
                      refine y_letM (fun m162 => ?_)
                      refine x_aload_n dL_law_1134 rfl ?_
                      refine x_aload dL_law_1135 rfl ?_
                      refine x_iconst (v := 2) dL_law_1137 (by decide) ?_
                      refine y_iald hz_204 hn_204 dL_law_1138 (fun hi => ?_)
                      refine y_callVI (rest := []) (c1 := c5) (s1 := s5) (cn_Loo_table ω (zI m162 204 (zIx 2)) m162) mv_RL_173 hz_16 rfl (Nat.le_of_ble_eq_true rfl) (Nat.le_of_ble_eq_true rfl) (Nat.le_of_ble_eq_true rfl) ⟨rfl, rfl⟩ ⟨by omega, by omega⟩ dL_law_1139 (fun v164 m163 => ?_)
                      refine x_iload dL_law_1142 rfl ?_
                      refine x_icmp_eq (tgt := 1149) dL_law_1144 (by decide) (fun hc165 => ?_) (fun hc165 => ?_)
                      · refine x_goto (tgt := 1935) dL_law_1149 (by decide) ?_
                        refine y_mask (bs := [true, true, true, true, true, true, true, true, true, false, false, false, false, false, true, false, false, false, false, false, false, false, false, false]) (ls' := [some (.ref (oX ω 1)), some (.ref (zad ω 16)), some (.ref (zad ω 201)), some (.ref (zad ω 202)), some (.ref (zad ω 203)), some (.ref (zad ω 204)), some (.ref (zad ω 205)), some (.ref (zad ω 206)), some (.int x2), none, none, none, none, none, some (.int v16), none, none, none, none, none, none, none, none, none]) rfl ?_
                        refine x_wid (c1 := (c5 + 635)) (s1 := (s5 + 6338)) (by omega) (by omega) ?_
                        exact hj23 _ _
                      · refine x_iconst (v := 0) dL_law_1147 (by decide) ?_
                        exact x_zretF zXt.refl rfl rfl (zBo_nar (by decide)) ⟨by omega, by omega⟩ dL_law_1148
                    · refine x_iload dL_law_1152 rfl ?_
                      refine x_bipush (v := 10) dL_law_1154 (by decide) ?_
                      refine x_icmp_ne (tgt := 1291) dL_law_1156 (by decide) (fun hc31 => ?_) (fun hc31 => ?_)
                      · refine x_iload dL_law_1159 rfl ?_
                        refine x_bipush (v := 6) dL_law_1161 (by decide) ?_
                        refine y_callSP (rest := []) (c1 := c5) (s1 := s5) (c_Law_low ω v8 6 m4) ms_RL_76 rfl (Nat.le_of_ble_eq_true rfl) (Nat.le_of_ble_eq_true rfl) (Nat.le_of_ble_eq_true rfl) ⟨rfl, rfl⟩ ⟨by omega, by omega⟩ dL_law_1163 (fun v145 => ?_)
                        refine x_istore (ls' := [some (.ref (oX ω 1)), some (.ref (zad ω 16)), some (.ref (zad ω 201)), some (.ref (zad ω 202)), some (.ref (zad ω 203)), some (.ref (zad ω 204)), some (.ref (zad ω 205)), some (.ref (zad ω 206)), some (.int x2), some (.int v7), some (.int v8), some (.int v9), some (.int x11), some (.int x14), some (.int v16), some (.int v145), none, none, none, none, none, none, none, none]) dL_law_1166 (Nat.le_of_ble_eq_true rfl) rfl ?_
                        refine x_aload dL_law_1168 rfl ?_
                        refine x_iload dL_law_1170 rfl ?_
                        refine y_iald hz_206 hn_206 dL_law_1172 (fun hi => ?_)
                        refine y_letI (fun x146 => ?_)
                        refine x_istore (ls' := [some (.ref (oX ω 1)), some (.ref (zad ω 16)), some (.ref (zad ω 201)), some (.ref (zad ω 202)), some (.ref (zad ω 203)), some (.ref (zad ω 204)), some (.ref (zad ω 205)), some (.ref (zad ω 206)), some (.int x2), some (.int v7), some (.int v8), some (.int v9), some (.int x11), some (.int x14), some (.int v16), some (.int v145), some (.int x146), none, none, none, none, none, none, none]) dL_law_1173 (Nat.le_of_ble_eq_true rfl) rfl ?_
                        refine x_aload dL_law_1175 rfl ?_
                        refine x_iload dL_law_1177 rfl ?_
                        refine x_iload dL_law_1179 rfl ?_
                        refine x_iconst (v := 3) dL_law_1181 (by decide) ?_
                        refine x_ishr dL_law_1182 ?_
                        refine x_bipush (v := 7) dL_law_1183 (by decide) ?_
                        refine y_callSP (rest := [.int v145, .ref (zad ω 206)]) (c1 := c5) (s1 := s5) (c_Law_low ω (v8 >>> (3 &&& 31)) 7 m4) ms_RL_76 rfl (Nat.le_of_ble_eq_true rfl) (Nat.le_of_ble_eq_true rfl) (Nat.le_of_ble_eq_true rfl) ⟨rfl, rfl⟩ ⟨by omega, by omega⟩ dL_law_1185 (fun v147 => ?_)
                        refine y_iast hz_206 hn_206 dL_law_1188 (fun hi => ?_)
                        refine y_letM (fun m148 => ?_)
                        refine x_aload_n dL_law_1189 rfl ?_
                        refine x_iload dL_law_1190 rfl ?_
                        refine x_aload dL_law_1192 rfl ?_
                        refine x_iload dL_law_1194 rfl ?_
                        refine y_iald hz_206 hn_206 dL_law_1196 (fun hi => ?_)
                        refine y_callVI (rest := []) (c1 := c5) (s1 := s5) (cn_Loo_bells ω v145 (zI m148 206 (zIx v145)) m148) mv_RL_176 hz_16 rfl (Nat.le_of_ble_eq_true rfl) (Nat.le_of_ble_eq_true rfl) (Nat.le_of_ble_eq_true rfl) ⟨rfl, rfl⟩ ⟨by omega, by omega⟩ dL_law_1197 (fun v150 m149 => ?_)
                        refine x_iload dL_law_1200 rfl ?_
                        refine x_icmp_eq (tgt := 1207) dL_law_1202 (by decide) (fun hc151 => ?_) (fun hc151 => ?_)
                        · refine x_aload dL_law_1207 rfl ?_
                          refine x_iconst (v := 3) dL_law_1209 (by decide) ?_
                          refine y_iald hz_204 hn_204 dL_law_1210 (fun hi => ?_)
                          refine x_bipush (v := 10) dL_law_1211 (by decide) ?_
                          refine x_icmp_ge (tgt := 1288) dL_law_1213 (by decide) (fun hc152 => ?_) (fun hc152 => ?_)
                          · refine x_goto (tgt := 1935) dL_law_1288 (by decide) ?_
                            refine y_mask (bs := [true, true, true, true, true, true, true, true, true, false, false, false, false, false, true, false, false, false, false, false, false, false, false, false]) (ls' := [some (.ref (oX ω 1)), some (.ref (zad ω 16)), some (.ref (zad ω 201)), some (.ref (zad ω 202)), some (.ref (zad ω 203)), some (.ref (zad ω 204)), some (.ref (zad ω 205)), some (.ref (zad ω 206)), some (.int x2), none, none, none, none, none, some (.int v16), none, none, none, none, none, none, none, none, none]) rfl ?_
                            refine x_wid (c1 := (c5 + 635)) (s1 := (s5 + 6338)) (by omega) (by omega) ?_
                            exact hj23 _ _
                          · refine x_aload dL_law_1216 rfl ?_
                            refine x_bipush (v := 6) dL_law_1218 (by decide) ?_
                            refine x_iconst (v := 2) dL_law_1220 (by decide) ?_
                            refine x_aload dL_law_1221 rfl ?_
                            refine x_iconst (v := 3) dL_law_1223 (by decide) ?_
                            refine y_iald hz_204 hn_204 dL_law_1224 (fun hi => ?_)
                            refine x_imul dL_law_1225 ?_
                            refine x_iadd dL_law_1226 ?_
                            refine x_iload dL_law_1227 rfl ?_
                            refine y_iast hz_206 hn_206 dL_law_1229 (fun hi => ?_)
                            refine y_letM (fun m153 => ?_)
                            refine x_aload dL_law_1230 rfl ?_
                            refine x_bipush (v := 7) dL_law_1232 (by decide) ?_
                            refine x_iconst (v := 2) dL_law_1234 (by decide) ?_
                            refine x_aload dL_law_1235 rfl ?_
                            refine x_iconst (v := 3) dL_law_1237 (by decide) ?_
                            refine y_iald hz_204 hn_204 dL_law_1238 (fun hi => ?_)
                            refine x_imul dL_law_1239 ?_
                            refine x_iadd dL_law_1240 ?_
                            refine x_iload dL_law_1241 rfl ?_
                            refine x_bipush (v := 6) dL_law_1243 (by decide) ?_
                            refine x_ishr dL_law_1245 ?_
                            refine x_bipush (v := 7) dL_law_1246 (by decide) ?_
                            refine y_callSP (rest := [.int (7 + (2 * (zI m153 204 (zIx 3)))), .ref (zad ω 206)]) (c1 := c5) (s1 := s5) (c_Law_low ω (v8 >>> (6 &&& 31)) 7 m153) ms_RL_76 rfl (Nat.le_of_ble_eq_true rfl) (Nat.le_of_ble_eq_true rfl) (Nat.le_of_ble_eq_true rfl) ⟨rfl, rfl⟩ ⟨by omega, by omega⟩ dL_law_1248 (fun v154 => ?_)
                            refine y_iast hz_206 hn_206 dL_law_1251 (fun hi => ?_)
                            refine y_letM (fun m155 => ?_)
                            refine x_aload dL_law_1252 rfl ?_
                            refine x_iconst (v := 3) dL_law_1254 (by decide) ?_
                            refine x_dup2 dL_law_1255 rfl rfl ?_
                            refine y_iald hz_204 hn_204 dL_law_1256 (fun hi => ?_)
                            refine x_iconst (v := 1) dL_law_1257 (by decide) ?_
                            refine x_iadd dL_law_1258 ?_
                            refine y_iast hz_204 hn_204 dL_law_1259 (fun hi => ?_)
                            refine y_letM (fun m156 => ?_)
                            refine x_aload_n dL_law_1260 rfl ?_
                            refine x_iload dL_law_1261 rfl ?_
                            refine x_aload dL_law_1263 rfl ?_
                            refine x_iconst (v := 5) dL_law_1265 (by decide) ?_
                            refine x_iconst (v := 2) dL_law_1266 (by decide) ?_
                            refine x_aload dL_law_1267 rfl ?_
                            refine x_iconst (v := 3) dL_law_1269 (by decide) ?_
                            refine y_iald hz_204 hn_204 dL_law_1270 (fun hi => ?_)
                            refine x_imul dL_law_1271 ?_
                            refine x_iadd dL_law_1272 ?_
                            refine y_iald hz_206 hn_206 dL_law_1273 (fun hi => ?_)
                            refine y_callVI (rest := []) (c1 := c5) (s1 := s5) (cn_Loo_ringer ω v145 (zI m156 206 (zIx (5 + (2 * (zI m156 204 (zIx 3)))))) m156) mv_RL_179 hz_16 rfl (Nat.le_of_ble_eq_true rfl) (Nat.le_of_ble_eq_true rfl) (Nat.le_of_ble_eq_true rfl) ⟨rfl, rfl⟩ ⟨by omega, by omega⟩ dL_law_1274 (fun v158 m157 => ?_)
                            refine x_aload dL_law_1277 rfl ?_
                            refine x_iconst (v := 3) dL_law_1279 (by decide) ?_
                            refine y_iald hz_204 hn_204 dL_law_1280 (fun hi => ?_)
                            refine x_iconst (v := 1) dL_law_1281 (by decide) ?_
                            refine x_isub dL_law_1282 ?_
                            refine x_icmp_eq (tgt := 1288) dL_law_1283 (by decide) (fun hc159 => ?_) (fun hc159 => ?_)
                            · refine x_goto (tgt := 1935) dL_law_1288 (by decide) ?_
                              refine y_mask (bs := [true, true, true, true, true, true, true, true, true, false, false, false, false, false, true, false, false, false, false, false, false, false, false, false]) (ls' := [some (.ref (oX ω 1)), some (.ref (zad ω 16)), some (.ref (zad ω 201)), some (.ref (zad ω 202)), some (.ref (zad ω 203)), some (.ref (zad ω 204)), some (.ref (zad ω 205)), some (.ref (zad ω 206)), some (.int x2), none, none, none, none, none, some (.int v16), none, none, none, none, none, none, none, none, none]) rfl ?_
                              refine x_wid (c1 := (c5 + 635)) (s1 := (s5 + 6338)) (by omega) (by omega) ?_
                              exact hj23 _ _
                            · refine x_iconst (v := 0) dL_law_1286 (by decide) ?_
                              exact x_zretF zXt.refl rfl rfl (zBo_nar (by decide)) ⟨by omega, by omega⟩ dL_law_1287
                        · refine x_iconst (v := 0) dL_law_1205 (by decide) ?_
                          exact x_zretF zXt.refl rfl rfl (zBo_nar (by decide)) ⟨by omega, by omega⟩ dL_law_1206
                      · refine x_iload dL_law_1291 rfl ?_
                        refine x_bipush (v := 13) dL_law_1293 (by decide) ?_
                        refine x_icmp_ge (tgt := 1632) dL_law_1295 (by decide) (fun hc32 => ?_) (fun hc32 => ?_)
                        · refine x_aload dL_law_1632 rfl ?_
                          refine x_iconst (v := 4) dL_law_1634 (by decide) ?_
                          refine y_iald hz_204 hn_204 dL_law_1635 (fun hi => ?_)
                          refine x_if_ge (tgt := 1653) dL_law_1636 (by decide) (fun hc33 => ?_) (fun hc33 => ?_)
                          · refine x_iconst (v := 1) dL_law_1653 (by decide) ?_
                            refine x_iload dL_law_1654 rfl ?_
                            refine x_sipush (v := 200) dL_law_1656 (by decide) ?_
                            refine y_callSP (rest := [.int 1]) (c1 := c5) (s1 := s5) (c_Law_low ω v8 200 m4) ms_RL_76 rfl (Nat.le_of_ble_eq_true rfl) (Nat.le_of_ble_eq_true rfl) (Nat.le_of_ble_eq_true rfl) ⟨rfl, rfl⟩ ⟨by omega, by omega⟩ dL_law_1659 (fun v34 => ?_)
                            refine x_iadd dL_law_1662 ?_
                            refine y_letI (fun x35 => ?_)
                            refine x_istore (ls' := [some (.ref (oX ω 1)), some (.ref (zad ω 16)), some (.ref (zad ω 201)), some (.ref (zad ω 202)), some (.ref (zad ω 203)), some (.ref (zad ω 204)), some (.ref (zad ω 205)), some (.ref (zad ω 206)), some (.int x2), some (.int v7), some (.int v8), some (.int v9), some (.int x11), some (.int x14), some (.int v16), some (.int x35), none, none, none, none, none, none, none, none]) dL_law_1663 (Nat.le_of_ble_eq_true rfl) rfl ?_
                            refine x_iload dL_law_1665 rfl ?_
                            refine x_istore (ls' := [some (.ref (oX ω 1)), some (.ref (zad ω 16)), some (.ref (zad ω 201)), some (.ref (zad ω 202)), some (.ref (zad ω 203)), some (.ref (zad ω 204)), some (.ref (zad ω 205)), some (.ref (zad ω 206)), some (.int x2), some (.int v7), some (.int v8), some (.int v9), some (.int x11), some (.int x14), some (.int v16), some (.int x35), some (.int x35), none, none, none, none, none, none, none]) dL_law_1667 (Nat.le_of_ble_eq_true rfl) rfl ?_
                            refine x_bipush (v := (-2)) dL_law_1669 (by decide) ?_
                            refine x_istore (ls' := [some (.ref (oX ω 1)), some (.ref (zad ω 16)), some (.ref (zad ω 201)), some (.ref (zad ω 202)), some (.ref (zad ω 203)), some (.ref (zad ω 204)), some (.ref (zad ω 205)), some (.ref (zad ω 206)), some (.int x2), some (.int v7), some (.int v8), some (.int v9), some (.int x11), some (.int x14), some (.int v16), some (.int x35), some (.int x35), some (.int (-2)), none, none, none, none, none, none]) dL_law_1671 (Nat.le_of_ble_eq_true rfl) rfl ?_
                            refine y_mask (bs := [true, true, true, true, true, true, true, true, true, false, false, false, false, false, true, true, true, true, false, false, false, false, false, false]) (ls' := [some (.ref (oX ω 1)), some (.ref (zad ω 16)), some (.ref (zad ω 201)), some (.ref (zad ω 202)), some (.ref (zad ω 203)), some (.ref (zad ω 204)), some (.ref (zad ω 205)), some (.ref (zad ω 206)), some (.int x2), none, none, none, none, none, some (.int v16), some (.int x35), some (.int x35), some (.int (-2)), none, none, none, none, none, none]) rfl ?_
                            refine y_Lcp1 (K := 3) (Ks := 30) (N := 210) (fun x36 => [some (.ref (oX ω 1)), some (.ref (zad ω 16)), some (.ref (zad ω 201)), some (.ref (zad ω 202)), some (.ref (zad ω 203)), some (.ref (zad ω 204)), some (.ref (zad ω 205)), some (.ref (zad ω 206)), some (.int x2), none, none, none, none, none, some (.int v16), some (.int x36), some (.int x35), some (.int (-2)), none, none, none, none, none, none]) ⟨by omega, by omega⟩ (fun r37 c39 s39 k39a k39b k39c k39d hr37 x36 m38 => ?_) _ _
                            refine x_iload dL_law_1673 rfl ?_
                            refine x_bipush (v := (-2)) dL_law_1675 (by decide) ?_
                            refine y_join (fun j43 => ∀ (x41 : Int32) (m42 : Mm), Sx ω ω true 112 19601 198013 kk_Law_law fI (c39 + 3) (s39 + 30) m42 1909 [some (.ref (oX ω 1)), some (.ref (zad ω 16)), some (.ref (zad ω 201)), some (.ref (zad ω 202)), some (.ref (zad ω 203)), some (.ref (zad ω 204)), some (.ref (zad ω 205)), some (.ref (zad ω 206)), some (.int x2), none, none, none, none, none, some (.int v16), none, some (.int x35), some (.int x41), none, none, none, none, none, none] [] (j43 x41 m42)) ?_ (fun j43 hj43 => ?_)
                            · intro x41 m42
                              refine x_aload_n dL_law_1909 rfl ?_
                              refine x_iload dL_law_1910 rfl ?_
                              refine y_callVI (rest := []) (c1 := (c39 + 3)) (s1 := (s39 + 30)) (cn_Loo_goOn ω x35 m42) mv_RL_86 hz_16 rfl (Nat.le_of_ble_eq_true rfl) (Nat.le_of_ble_eq_true rfl) (Nat.le_of_ble_eq_true rfl) ⟨rfl, rfl⟩ ⟨by omega, by omega⟩ dL_law_1912 (fun v45 m44 => ?_)
                              refine x_iload dL_law_1915 rfl ?_
                              refine x_icmp_ne (tgt := 1933) dL_law_1917 (by decide) (fun hc46 => ?_) (fun hc46 => ?_)
                              · refine x_aload_n dL_law_1920 rfl ?_
                                refine y_callVJ (rest := []) (c1 := (c39 + 3)) (s1 := (s39 + 30)) (c_Loo_spent ω m44) mv_RL_195 hz_16 rfl (Nat.le_of_ble_eq_true rfl) (Nat.le_of_ble_eq_true rfl) (Nat.le_of_ble_eq_true rfl) ⟨rfl, rfl⟩ ⟨by omega, by omega⟩ dL_law_1921 (fun v47 => ?_)
                                refine x_aload dL_law_1924 rfl ?_
                                refine x_iconst (v := 5) dL_law_1926 (by decide) ?_
                                refine y_iald hz_204 hn_204 dL_law_1927 (fun hi => ?_)
                                refine x_i2l dL_law_1928 ?_
                                refine x_lcmp dL_law_1929 ?_
                                refine x_if_eq (tgt := 1935) dL_law_1930 (by decide) (fun hc48 => ?_) (fun hc48 => ?_)
                                · refine y_mask (bs := [true, true, true, true, true, true, true, true, true, false, false, false, false, false, true, false, false, false, false, false, false, false, false, false]) (ls' := [some (.ref (oX ω 1)), some (.ref (zad ω 16)), some (.ref (zad ω 201)), some (.ref (zad ω 202)), some (.ref (zad ω 203)), some (.ref (zad ω 204)), some (.ref (zad ω 205)), some (.ref (zad ω 206)), some (.int x2), none, none, none, none, none, some (.int v16), none, none, none, none, none, none, none, none, none]) rfl ?_
                                  refine x_wid (c1 := (c5 + 635)) (s1 := (s5 + 6338)) (by omega) (by omega) ?_
                                  exact hj23 _ _
                                · refine x_iconst (v := 0) dL_law_1933 (by decide) ?_
                                  exact x_zretF zXt.refl rfl rfl (zBo_nar (by decide)) ⟨by omega, by omega⟩ dL_law_1934
                              · refine x_iconst (v := 0) dL_law_1933 (by decide) ?_
                                exact x_zretF zXt.refl rfl rfl (zBo_nar (by decide)) ⟨by omega, by omega⟩ dL_law_1934
                            · refine x_icmp_ne (t2 := j43 (-2) m38) (tgt := 1909) dL_law_1677 (by decide) (fun hc40 => ?_) (fun hc40 => ?_)
                              · refine x_aload dL_law_1680 rfl ?_
                                refine x_iconst (v := 4) dL_law_1682 (by decide) ?_
                                refine y_iald hz_204 hn_204 dL_law_1683 (fun hi => ?_)
                                refine x_sipush (v := 400) dL_law_1684 (by decide) ?_
                                refine x_icmp_ne (tgt := 1696) dL_law_1687 (by decide) (fun hc49 => ?_) (fun hc49 => ?_)
                                · refine x_iconst (v := (-1)) dL_law_1690 (by decide) ?_
                                  refine x_istore (ls' := [some (.ref (oX ω 1)), some (.ref (zad ω 16)), some (.ref (zad ω 201)), some (.ref (zad ω 202)), some (.ref (zad ω 203)), some (.ref (zad ω 204)), some (.ref (zad ω 205)), some (.ref (zad ω 206)), some (.int x2), none, none, none, none, none, some (.int v16), some (.int x36), some (.int x35), some (.int (-1)), none, none, none, none, none, none]) dL_law_1691 (Nat.le_of_ble_eq_true rfl) rfl ?_
                                  refine x_goto (tgt := 1909) dL_law_1693 (by decide) ?_
                                  refine y_mask (bs := [true, true, true, true, true, true, true, true, true, false, false, false, false, false, true, false, true, true, false, false, false, false, false, false]) (ls' := [some (.ref (oX ω 1)), some (.ref (zad ω 16)), some (.ref (zad ω 201)), some (.ref (zad ω 202)), some (.ref (zad ω 203)), some (.ref (zad ω 204)), some (.ref (zad ω 205)), some (.ref (zad ω 206)), some (.int x2), none, none, none, none, none, some (.int v16), none, some (.int x35), some (.int (-1)), none, none, none, none, none, none]) rfl ?_
                                  refine x_wid (c1 := (c39 + 3)) (s1 := (s39 + 30)) (by omega) (by omega) ?_
                                  exact hj43 _ _
                                · refine x_bipush (v := 10) dL_law_1696 (by decide) ?_
                                  refine y_newT (n := 0) (c1 := (c39 + 1)) (s1 := (s39 + 10)) hl0 w_arrI ⟨rfl, rfl⟩ ⟨by omega, by omega⟩ dL_law_1698 (fun ω51 m50 h51 l51 => ?_)
                                  rewrite [← zXt.x h51 1, ← zXt.za h51 16, ← zXt.za h51 201, ← zXt.za h51 202, ← zXt.za h51 203, ← zXt.za h51 204, ← zXt.za h51 205, ← zXt.za h51 206]
                                  refine x_astore (ls' := [some (.ref (oX ω51 1)), some (.ref (zad ω51 16)), some (.ref (zad ω51 201)), some (.ref (zad ω51 202)), some (.ref (zad ω51 203)), some (.ref (zad ω51 204)), some (.ref (zad ω51 205)), some (.ref (zad ω51 206)), some (.int x2), none, none, none, none, none, some (.int v16), some (.int x36), some (.int x35), some (.int (-2)), some (.ref (zTd ω51 0)), none, none, none, none, none]) dL_law_1700 (Nat.le_of_ble_eq_true rfl) rfl ?_
                                  refine x_bipush (v := 10) dL_law_1702 (by decide) ?_
                                  refine y_newT (n := 1) (c1 := (c39 + 2)) (s1 := (s39 + 20)) l51 w_arrI ⟨rfl, rfl⟩ ⟨by omega, by omega⟩ dL_law_1704 (fun ω53 m52 h53 l53 => ?_)
                                  rewrite [← zXt.x h53 1, ← zXt.za h53 16, ← zXt.za h53 201, ← zXt.za h53 202, ← zXt.za h53 203, ← zXt.za h53 204, ← zXt.za h53 205, ← zXt.za h53 206, ← zXt.zt h53 (i := 0) (by rw [l51]; decide)]
                                  refine x_astore (ls' := [some (.ref (oX ω53 1)), some (.ref (zad ω53 16)), some (.ref (zad ω53 201)), some (.ref (zad ω53 202)), some (.ref (zad ω53 203)), some (.ref (zad ω53 204)), some (.ref (zad ω53 205)), some (.ref (zad ω53 206)), some (.int x2), none, none, none, none, none, some (.int v16), some (.int x36), some (.int x35), some (.int (-2)), some (.ref (zTd ω53 0)), some (.ref (zTd ω53 1)), none, none, none, none]) dL_law_1706 (Nat.le_of_ble_eq_true rfl) rfl ?_
                                  refine x_bipush (v := 10) dL_law_1708 (by decide) ?_
                                  refine y_newT (n := 2) (c1 := (c39 + 3)) (s1 := (s39 + 30)) l53 w_arrI ⟨rfl, rfl⟩ ⟨by omega, by omega⟩ dL_law_1710 (fun ω55 m54 h55 l55 => ?_)
                                  rewrite [← zXt.x h55 1, ← zXt.za h55 16, ← zXt.za h55 201, ← zXt.za h55 202, ← zXt.za h55 203, ← zXt.za h55 204, ← zXt.za h55 205, ← zXt.za h55 206, ← zXt.zt h55 (i := 0) (by rw [l53]; decide), ← zXt.zt h55 (i := 1) (by rw [l53]; decide)]
                                  refine x_astore (ls' := [some (.ref (oX ω55 1)), some (.ref (zad ω55 16)), some (.ref (zad ω55 201)), some (.ref (zad ω55 202)), some (.ref (zad ω55 203)), some (.ref (zad ω55 204)), some (.ref (zad ω55 205)), some (.ref (zad ω55 206)), some (.int x2), none, none, none, none, none, some (.int v16), some (.int x36), some (.int x35), some (.int (-2)), some (.ref (zTd ω55 0)), some (.ref (zTd ω55 1)), some (.ref (zTd ω55 2)), none, none, none]) dL_law_1712 (Nat.le_of_ble_eq_true rfl) rfl ?_
                                  refine x_aload_n dL_law_1714 rfl ?_
                                  refine x_aload dL_law_1715 rfl ?_
                                  refine x_aload dL_law_1717 rfl ?_
                                  refine x_aload dL_law_1719 rfl ?_
                                  refine x_iconst (v := 4) dL_law_1721 (by decide) ?_
                                  refine y_iald hz_204 hn_204 dL_law_1722 (fun hi => ?_)
                                  refine x_aload dL_law_1723 rfl ?_
                                  refine x_iconst (v := 2) dL_law_1725 (by decide) ?_
                                  refine y_iald hz_204 hn_204 dL_law_1726 (fun hi => ?_)
                                  refine x_aload dL_law_1727 rfl ?_
                                  refine x_aload dL_law_1729 rfl ?_
                                  refine y_callSV (rest := []) (c1 := (c39 + 3)) (s1 := (s39 + 30)) (c_Law_bents ω55 (zI m54 204 (zIx 4)) (zI m54 204 (zIx 2)) 0 (by rw [l55]; decide) 1 (by rw [l55]; decide) m54) ms_RL_99 rfl (Nat.le_of_ble_eq_true rfl) (Nat.le_of_ble_eq_true rfl) (Nat.le_of_ble_eq_true rfl) ⟨rfl, rfl⟩ ⟨by omega, by omega⟩ dL_law_1731 (fun m56 => ?_)
                                  refine x_iconst (v := 1) dL_law_1734 (by decide) ?_
                                  refine x_istore (ls' := [some (.ref (oX ω55 1)), some (.ref (zad ω55 16)), some (.ref (zad ω55 201)), some (.ref (zad ω55 202)), some (.ref (zad ω55 203)), some (.ref (zad ω55 204)), some (.ref (zad ω55 205)), some (.ref (zad ω55 206)), some (.int x2), none, none, none, none, none, some (.int v16), some (.int x36), some (.int x35), some (.int (-2)), some (.ref (zTd ω55 0)), some (.ref (zTd ω55 1)), some (.ref (zTd ω55 2)), some (.int 1), none, none]) dL_law_1735 (Nat.le_of_ble_eq_true rfl) rfl ?_
                                  refine x_iconst (v := 0) dL_law_1737 (by decide) ?_
                                  refine x_istore (ls' := [some (.ref (oX ω55 1)), some (.ref (zad ω55 16)), some (.ref (zad ω55 201)), some (.ref (zad ω55 202)), some (.ref (zad ω55 203)), some (.ref (zad ω55 204)), some (.ref (zad ω55 205)), some (.ref (zad ω55 206)), some (.int x2), none, none, none, none, none, some (.int v16), some (.int x36), some (.int x35), some (.int (-2)), some (.ref (zTd ω55 0)), some (.ref (zTd ω55 1)), some (.ref (zTd ω55 2)), some (.int 1), some (.int 0), none]) dL_law_1738 (Nat.le_of_ble_eq_true rfl) rfl ?_
                                  refine y_Lq2 (fun x57 x58 => [some (.ref (oX ω55 1)), some (.ref (zad ω55 16)), some (.ref (zad ω55 201)), some (.ref (zad ω55 202)), some (.ref (zad ω55 203)), some (.ref (zad ω55 204)), some (.ref (zad ω55 205)), some (.ref (zad ω55 206)), some (.int x2), none, none, none, none, none, some (.int v16), some (.int x36), some (.int x35), some (.int (-2)), some (.ref (zTd ω55 0)), some (.ref (zTd ω55 1)), some (.ref (zTd ω55 2)), some (.int x57), some (.int x58), none]) (fun r59 hr59 x57 x58 => ?_) zFu _ _
                                  refine x_iload dL_law_1740 rfl ?_
                                  refine x_aload dL_law_1742 rfl ?_
                                  refine x_iconst (v := 0) dL_law_1744 (by decide) ?_
                                  refine y_iald hz_204 hn_204 dL_law_1745 (fun hi => ?_)
                                  refine x_icmp_ge (tgt := 1765) dL_law_1746 (by decide) (fun hc60 => ?_) (fun hc60 => ?_)
                                  · refine x_iload dL_law_1765 rfl ?_
                                    refine x_iload dL_law_1767 rfl ?_
                                    refine x_icmp_le (tgt := 1775) dL_law_1769 (by decide) (fun hc61 => ?_) (fun hc61 => ?_)
                                    · refine x_iload dL_law_1775 rfl ?_
                                      refine x_iload dL_law_1777 rfl ?_
                                      refine x_isub dL_law_1779 ?_
                                      refine y_letI (fun x62 => ?_)
                                      refine x_istore (ls' := [some (.ref (oX ω55 1)), some (.ref (zad ω55 16)), some (.ref (zad ω55 201)), some (.ref (zad ω55 202)), some (.ref (zad ω55 203)), some (.ref (zad ω55 204)), some (.ref (zad ω55 205)), some (.ref (zad ω55 206)), some (.int x2), none, none, none, none, none, some (.int v16), some (.int x62), some (.int x35), some (.int (-2)), some (.ref (zTd ω55 0)), some (.ref (zTd ω55 1)), some (.ref (zTd ω55 2)), some (.int x57), some (.int x58), none]) dL_law_1780 (Nat.le_of_ble_eq_true rfl) rfl ?_
                                      refine x_aload dL_law_1782 rfl ?_
                                      refine x_iconst (v := 5) dL_law_1784 (by decide) ?_
                                      refine x_dup2 dL_law_1785 rfl rfl ?_
                                      refine y_iald hz_204 hn_204 dL_law_1786 (fun hi => ?_)
                                      refine x_iload dL_law_1787 rfl ?_
                                      refine x_iadd dL_law_1789 ?_
                                      refine y_iast hz_204 hn_204 dL_law_1790 (fun hi => ?_)
                                      refine y_letM (fun m63 => ?_)
                                      refine x_aload_n dL_law_1791 rfl ?_
                                      refine x_aload dL_law_1792 rfl ?_
                                      refine x_aload dL_law_1794 rfl ?_
                                      refine x_iconst (v := 4) dL_law_1796 (by decide) ?_
                                      refine y_iald hz_204 hn_204 dL_law_1797 (fun hi => ?_)
                                      refine x_aload dL_law_1798 rfl ?_
                                      refine x_aload dL_law_1800 rfl ?_
                                      refine y_callSV (rest := []) (c1 := (c39 + 3)) (s1 := (s39 + 30)) (c_Law_place ω55 (zI m63 204 (zIx 4)) 0 (by rw [l55]; decide) 2 (by rw [l55]; decide) m63) ms_RL_103 rfl (Nat.le_of_ble_eq_true rfl) (Nat.le_of_ble_eq_true rfl) (Nat.le_of_ble_eq_true rfl) ⟨rfl, rfl⟩ ⟨by omega, by omega⟩ dL_law_1802 (fun m64 => ?_)
                                      refine x_aload dL_law_1805 rfl ?_
                                      refine x_iconst (v := 1) dL_law_1807 (by decide) ?_
                                      refine x_aload dL_law_1808 rfl ?_
                                      refine x_iconst (v := 4) dL_law_1810 (by decide) ?_
                                      refine y_iald hz_204 hn_204 dL_law_1811 (fun hi => ?_)
                                      refine x_aload dL_law_1812 rfl ?_
                                      refine x_aload dL_law_1814 rfl ?_
                                      refine x_aload dL_law_1816 rfl ?_
                                      refine y_callSP (rest := []) (c1 := (c39 + 3)) (s1 := (s39 + 30)) (c_Law_asked ω55 1 (zI m64 204 (zIx 4)) 0 (by rw [l55]; decide) 2 (by rw [l55]; decide) m64) ms_RL_191 rfl (Nat.le_of_ble_eq_true rfl) (Nat.le_of_ble_eq_true rfl) (Nat.le_of_ble_eq_true rfl) ⟨rfl, rfl⟩ ⟨by omega, by omega⟩ dL_law_1818 (fun v65 => ?_)
                                      refine x_istore (ls' := [some (.ref (oX ω55 1)), some (.ref (zad ω55 16)), some (.ref (zad ω55 201)), some (.ref (zad ω55 202)), some (.ref (zad ω55 203)), some (.ref (zad ω55 204)), some (.ref (zad ω55 205)), some (.ref (zad ω55 206)), some (.int x2), none, none, none, none, none, some (.int v16), some (.int x62), some (.int x35), some (.int (-2)), some (.ref (zTd ω55 0)), some (.ref (zTd ω55 1)), some (.ref (zTd ω55 2)), some (.int x57), some (.int v65), none]) dL_law_1821 (Nat.le_of_ble_eq_true rfl) rfl ?_
                                      refine x_aload dL_law_1823 rfl ?_
                                      refine x_iconst (v := 0) dL_law_1825 (by decide) ?_
                                      refine y_iald hz_205 hn_205 dL_law_1826 (fun hi => ?_)
                                      refine y_join (fun j68 => ∀ (x67 : Int32), Sx ω ω55 true 112 19601 198013 kk_Law_law fI (c39 + 3) (s39 + 30) m64 1854 [some (.ref (oX ω55 1)), some (.ref (zad ω55 16)), some (.ref (zad ω55 201)), some (.ref (zad ω55 202)), some (.ref (zad ω55 203)), some (.ref (zad ω55 204)), some (.ref (zad ω55 205)), some (.ref (zad ω55 206)), some (.int x2), none, none, none, none, none, some (.int v16), some (.int x62), some (.int x35), some (.int (-2)), none, none, none, none, some (.int v65), none] [.int x67] (j68 x67)) ?_ (fun j68 hj68 => ?_)
                                      · intro x67
                                        refine x_istore (ls' := [some (.ref (oX ω55 1)), some (.ref (zad ω55 16)), some (.ref (zad ω55 201)), some (.ref (zad ω55 202)), some (.ref (zad ω55 203)), some (.ref (zad ω55 204)), some (.ref (zad ω55 205)), some (.ref (zad ω55 206)), some (.int x2), none, none, none, none, none, some (.int v16), some (.int x62), some (.int x35), some (.int (-2)), none, none, none, none, some (.int v65), some (.int x67)]) dL_law_1854 (Nat.le_of_ble_eq_true rfl) rfl ?_
                                        refine x_aload dL_law_1856 rfl ?_
                                        refine x_iconst (v := 4) dL_law_1858 (by decide) ?_
                                        refine x_dup2 dL_law_1859 rfl rfl ?_
                                        refine y_iald hz_204 hn_204 dL_law_1860 (fun hi => ?_)
                                        refine x_iconst (v := 1) dL_law_1861 (by decide) ?_
                                        refine x_iadd dL_law_1862 ?_
                                        refine y_iast hz_204 hn_204 dL_law_1863 (fun hi => ?_)
                                        refine y_letM (fun m69 => ?_)
                                        refine x_aload dL_law_1864 rfl ?_
                                        refine x_iconst (v := 0) dL_law_1866 (by decide) ?_
                                        refine y_iald hz_205 hn_205 dL_law_1867 (fun hi => ?_)
                                        refine x_iconst (v := 1) dL_law_1868 (by decide) ?_
                                        refine y_join (fun j71 => Sx ω ω55 true 112 19601 198013 kk_Law_law fI (c39 + 3) (s39 + 30) m69 1895 [some (.ref (oX ω55 1)), some (.ref (zad ω55 16)), some (.ref (zad ω55 201)), some (.ref (zad ω55 202)), some (.ref (zad ω55 203)), some (.ref (zad ω55 204)), some (.ref (zad ω55 205)), some (.ref (zad ω55 206)), some (.int x2), none, none, none, none, none, some (.int v16), none, some (.int x35), none, none, none, none, none, none, none] [] j71) ?_ (fun j71 hj71 => ?_)
                                        · refine x_aload dL_law_1895 rfl ?_
                                          refine x_iconst (v := 4) dL_law_1897 (by decide) ?_
                                          refine y_iald hz_204 hn_204 dL_law_1898 (fun hi => ?_)
                                          refine x_iconst (v := 1) dL_law_1899 (by decide) ?_
                                          refine x_isub dL_law_1900 ?_
                                          refine y_letI (fun x72 => ?_)
                                          refine x_istore (ls' := [some (.ref (oX ω55 1)), some (.ref (zad ω55 16)), some (.ref (zad ω55 201)), some (.ref (zad ω55 202)), some (.ref (zad ω55 203)), some (.ref (zad ω55 204)), some (.ref (zad ω55 205)), some (.ref (zad ω55 206)), some (.int x2), none, none, none, none, none, some (.int v16), none, some (.int x35), some (.int x72), none, none, none, none, none, none]) dL_law_1901 (Nat.le_of_ble_eq_true rfl) rfl ?_
                                          refine x_goto (tgt := 1909) dL_law_1903 (by decide) ?_
                                          refine y_drop (zXt.trans h51 (zXt.trans h53 h55)) (ls' := [some (.ref (oX ω 1)), some (.ref (zad ω 16)), some (.ref (zad ω 201)), some (.ref (zad ω 202)), some (.ref (zad ω 203)), some (.ref (zad ω 204)), some (.ref (zad ω 205)), some (.ref (zad ω 206)), some (.int x2), none, none, none, none, none, some (.int v16), none, some (.int x35), some (.int x72), none, none, none, none, none, none]) (st' := []) (by simp only [zXt.za h51, zXt.x h51, zXt.za h53, zXt.x h53, zXt.za h55, zXt.x h55]) (by simp only [zXt.za h51, zXt.x h51, zXt.za h53, zXt.x h53, zXt.za h55, zXt.x h55]) ?_
                                          exact hj43 _ _
                                        · refine x_icmp_ne (tgt := 1885) dL_law_1869 (by decide) (fun hc70 => ?_) (fun hc70 => ?_)
                                          · refine x_iload dL_law_1872 rfl ?_
                                            refine x_if_eq (tgt := 1906) dL_law_1874 (by decide) (fun hc75 => ?_) (fun hc75 => ?_)
                                            · refine x_goto (tgt := 1673) dL_law_1906 (by decide) ?_
                                              refine y_mask (bs := [true, true, true, true, true, true, true, true, true, false, false, false, false, false, true, true, true, true, false, false, false, false, false, false]) (ls' := [some (.ref (oX ω55 1)), some (.ref (zad ω55 16)), some (.ref (zad ω55 201)), some (.ref (zad ω55 202)), some (.ref (zad ω55 203)), some (.ref (zad ω55 204)), some (.ref (zad ω55 205)), some (.ref (zad ω55 206)), some (.int x2), none, none, none, none, none, some (.int v16), some (.int x62), some (.int x35), some (.int (-2)), none, none, none, none, none, none]) rfl ?_
                                              refine y_drop (zXt.trans h51 (zXt.trans h53 h55)) (ls' := [some (.ref (oX ω 1)), some (.ref (zad ω 16)), some (.ref (zad ω 201)), some (.ref (zad ω 202)), some (.ref (zad ω 203)), some (.ref (zad ω 204)), some (.ref (zad ω 205)), some (.ref (zad ω 206)), some (.int x2), none, none, none, none, none, some (.int v16), some (.int x62), some (.int x35), some (.int (-2)), none, none, none, none, none, none]) (st' := []) (by simp only [zXt.za h51, zXt.x h51, zXt.za h53, zXt.x h53, zXt.za h55, zXt.x h55]) (by simp only [zXt.za h51, zXt.x h51, zXt.za h53, zXt.x h53, zXt.za h55, zXt.x h55]) ?_
                                              exact hr37 _ _
                                            · refine x_iload dL_law_1877 rfl ?_
                                              refine x_if_eq (tgt := 1906) dL_law_1879 (by decide) (fun hc76 => ?_) (fun hc76 => ?_)
                                              · refine x_goto (tgt := 1673) dL_law_1906 (by decide) ?_
                                                refine y_mask (bs := [true, true, true, true, true, true, true, true, true, false, false, false, false, false, true, true, true, true, false, false, false, false, false, false]) (ls' := [some (.ref (oX ω55 1)), some (.ref (zad ω55 16)), some (.ref (zad ω55 201)), some (.ref (zad ω55 202)), some (.ref (zad ω55 203)), some (.ref (zad ω55 204)), some (.ref (zad ω55 205)), some (.ref (zad ω55 206)), some (.int x2), none, none, none, none, none, some (.int v16), some (.int x62), some (.int x35), some (.int (-2)), none, none, none, none, none, none]) rfl ?_
                                                refine y_drop (zXt.trans h51 (zXt.trans h53 h55)) (ls' := [some (.ref (oX ω 1)), some (.ref (zad ω 16)), some (.ref (zad ω 201)), some (.ref (zad ω 202)), some (.ref (zad ω 203)), some (.ref (zad ω 204)), some (.ref (zad ω 205)), some (.ref (zad ω 206)), some (.int x2), none, none, none, none, none, some (.int v16), some (.int x62), some (.int x35), some (.int (-2)), none, none, none, none, none, none]) (st' := []) (by simp only [zXt.za h51, zXt.x h51, zXt.za h53, zXt.x h53, zXt.za h55, zXt.x h55]) (by simp only [zXt.za h51, zXt.x h51, zXt.za h53, zXt.x h53, zXt.za h55, zXt.x h55]) ?_
                                                exact hr37 _ _
                                              · refine x_goto (tgt := 1895) dL_law_1882 (by decide) ?_
                                                refine y_mask (bs := [true, true, true, true, true, true, true, true, true, false, false, false, false, false, true, false, true, false, false, false, false, false, false, false]) (ls' := [some (.ref (oX ω55 1)), some (.ref (zad ω55 16)), some (.ref (zad ω55 201)), some (.ref (zad ω55 202)), some (.ref (zad ω55 203)), some (.ref (zad ω55 204)), some (.ref (zad ω55 205)), some (.ref (zad ω55 206)), some (.int x2), none, none, none, none, none, some (.int v16), none, some (.int x35), none, none, none, none, none, none, none]) rfl ?_
                                                exact hj71
                                          · refine x_iload dL_law_1885 rfl ?_
                                            refine x_if_ne (tgt := 1895) dL_law_1887 (by decide) (fun hc73 => ?_) (fun hc73 => ?_)
                                            · refine x_iload dL_law_1890 rfl ?_
                                              refine x_if_eq (tgt := 1906) dL_law_1892 (by decide) (fun hc74 => ?_) (fun hc74 => ?_)
                                              · refine x_goto (tgt := 1673) dL_law_1906 (by decide) ?_
                                                refine y_mask (bs := [true, true, true, true, true, true, true, true, true, false, false, false, false, false, true, true, true, true, false, false, false, false, false, false]) (ls' := [some (.ref (oX ω55 1)), some (.ref (zad ω55 16)), some (.ref (zad ω55 201)), some (.ref (zad ω55 202)), some (.ref (zad ω55 203)), some (.ref (zad ω55 204)), some (.ref (zad ω55 205)), some (.ref (zad ω55 206)), some (.int x2), none, none, none, none, none, some (.int v16), some (.int x62), some (.int x35), some (.int (-2)), none, none, none, none, none, none]) rfl ?_
                                                refine y_drop (zXt.trans h51 (zXt.trans h53 h55)) (ls' := [some (.ref (oX ω 1)), some (.ref (zad ω 16)), some (.ref (zad ω 201)), some (.ref (zad ω 202)), some (.ref (zad ω 203)), some (.ref (zad ω 204)), some (.ref (zad ω 205)), some (.ref (zad ω 206)), some (.int x2), none, none, none, none, none, some (.int v16), some (.int x62), some (.int x35), some (.int (-2)), none, none, none, none, none, none]) (st' := []) (by simp only [zXt.za h51, zXt.x h51, zXt.za h53, zXt.x h53, zXt.za h55, zXt.x h55]) (by simp only [zXt.za h51, zXt.x h51, zXt.za h53, zXt.x h53, zXt.za h55, zXt.x h55]) ?_
                                                exact hr37 _ _
                                              · refine y_mask (bs := [true, true, true, true, true, true, true, true, true, false, false, false, false, false, true, false, true, false, false, false, false, false, false, false]) (ls' := [some (.ref (oX ω55 1)), some (.ref (zad ω55 16)), some (.ref (zad ω55 201)), some (.ref (zad ω55 202)), some (.ref (zad ω55 203)), some (.ref (zad ω55 204)), some (.ref (zad ω55 205)), some (.ref (zad ω55 206)), some (.int x2), none, none, none, none, none, some (.int v16), none, some (.int x35), none, none, none, none, none, none, none]) rfl ?_
                                                exact hj71
                                            · refine y_mask (bs := [true, true, true, true, true, true, true, true, true, false, false, false, false, false, true, false, true, false, false, false, false, false, false, false]) (ls' := [some (.ref (oX ω55 1)), some (.ref (zad ω55 16)), some (.ref (zad ω55 201)), some (.ref (zad ω55 202)), some (.ref (zad ω55 203)), some (.ref (zad ω55 204)), some (.ref (zad ω55 205)), some (.ref (zad ω55 206)), some (.int x2), none, none, none, none, none, some (.int v16), none, some (.int x35), none, none, none, none, none, none, none]) rfl ?_
                                              exact hj71
                                      · refine y_join (fun j77 => Sx ω ω55 true 112 19601 198013 kk_Law_law fI (c39 + 3) (s39 + 30) m64 1853 [some (.ref (oX ω55 1)), some (.ref (zad ω55 16)), some (.ref (zad ω55 201)), some (.ref (zad ω55 202)), some (.ref (zad ω55 203)), some (.ref (zad ω55 204)), some (.ref (zad ω55 205)), some (.ref (zad ω55 206)), some (.int x2), none, none, none, none, none, some (.int v16), some (.int x62), some (.int x35), some (.int (-2)), none, none, none, none, some (.int v65), none] [] j77) ?_ (fun j77 hj77 => ?_)
                                        · refine x_iconst (v := 0) dL_law_1853 (by decide) ?_
                                          exact hj68 _
                                        · refine x_if_le (tgt := 1853) dL_law_1827 (by decide) (fun hc66 => ?_) (fun hc66 => ?_)
                                          · refine y_mask (bs := [true, true, true, true, true, true, true, true, true, false, false, false, false, false, true, true, true, true, false, false, false, false, true, false]) (ls' := [some (.ref (oX ω55 1)), some (.ref (zad ω55 16)), some (.ref (zad ω55 201)), some (.ref (zad ω55 202)), some (.ref (zad ω55 203)), some (.ref (zad ω55 204)), some (.ref (zad ω55 205)), some (.ref (zad ω55 206)), some (.int x2), none, none, none, none, none, some (.int v16), some (.int x62), some (.int x35), some (.int (-2)), none, none, none, none, some (.int v65), none]) rfl ?_
                                            exact hj77
                                          · refine x_aload dL_law_1830 rfl ?_
                                            refine x_iconst (v := 5) dL_law_1832 (by decide) ?_
                                            refine x_aload dL_law_1833 rfl ?_
                                            refine x_iconst (v := 4) dL_law_1835 (by decide) ?_
                                            refine y_iald hz_204 hn_204 dL_law_1836 (fun hi => ?_)
                                            refine x_aload dL_law_1837 rfl ?_
                                            refine x_aload dL_law_1839 rfl ?_
                                            refine x_aload dL_law_1841 rfl ?_
                                            refine y_callSP (rest := []) (c1 := (c39 + 3)) (s1 := (s39 + 30)) (c_Law_asked ω55 5 (zI m64 204 (zIx 4)) 0 (by rw [l55]; decide) 2 (by rw [l55]; decide) m64) ms_RL_191 rfl (Nat.le_of_ble_eq_true rfl) (Nat.le_of_ble_eq_true rfl) (Nat.le_of_ble_eq_true rfl) ⟨rfl, rfl⟩ ⟨by omega, by omega⟩ dL_law_1843 (fun v78 => ?_)
                                            refine x_if_eq (tgt := 1853) dL_law_1846 (by decide) (fun hc79 => ?_) (fun hc79 => ?_)
                                            · refine y_mask (bs := [true, true, true, true, true, true, true, true, true, false, false, false, false, false, true, true, true, true, false, false, false, false, true, false]) (ls' := [some (.ref (oX ω55 1)), some (.ref (zad ω55 16)), some (.ref (zad ω55 201)), some (.ref (zad ω55 202)), some (.ref (zad ω55 203)), some (.ref (zad ω55 204)), some (.ref (zad ω55 205)), some (.ref (zad ω55 206)), some (.int x2), none, none, none, none, none, some (.int v16), some (.int x62), some (.int x35), some (.int (-2)), none, none, none, none, some (.int v65), none]) rfl ?_
                                              exact hj77
                                            · refine x_iconst (v := 1) dL_law_1849 (by decide) ?_
                                              refine x_goto (tgt := 1854) dL_law_1850 (by decide) ?_
                                              refine y_mask (bs := [true, true, true, true, true, true, true, true, true, false, false, false, false, false, true, true, true, true, false, false, false, false, true, false]) (ls' := [some (.ref (oX ω55 1)), some (.ref (zad ω55 16)), some (.ref (zad ω55 201)), some (.ref (zad ω55 202)), some (.ref (zad ω55 203)), some (.ref (zad ω55 204)), some (.ref (zad ω55 205)), some (.ref (zad ω55 206)), some (.int x2), none, none, none, none, none, some (.int v16), some (.int x62), some (.int x35), some (.int (-2)), none, none, none, none, some (.int v65), none]) rfl ?_
                                              exact hj68 _
                                    · refine x_goto (tgt := 1909) dL_law_1772 (by decide) ?_
                                      refine y_mask (bs := [true, true, true, true, true, true, true, true, true, false, false, false, false, false, true, false, true, true, false, false, false, false, false, false]) (ls' := [some (.ref (oX ω55 1)), some (.ref (zad ω55 16)), some (.ref (zad ω55 201)), some (.ref (zad ω55 202)), some (.ref (zad ω55 203)), some (.ref (zad ω55 204)), some (.ref (zad ω55 205)), some (.ref (zad ω55 206)), some (.int x2), none, none, none, none, none, some (.int v16), none, some (.int x35), some (.int (-2)), none, none, none, none, none, none]) rfl ?_
                                      refine y_drop (zXt.trans h51 (zXt.trans h53 h55)) (ls' := [some (.ref (oX ω 1)), some (.ref (zad ω 16)), some (.ref (zad ω 201)), some (.ref (zad ω 202)), some (.ref (zad ω 203)), some (.ref (zad ω 204)), some (.ref (zad ω 205)), some (.ref (zad ω 206)), some (.int x2), none, none, none, none, none, some (.int v16), none, some (.int x35), some (.int (-2)), none, none, none, none, none, none]) (st' := []) (by simp only [zXt.za h51, zXt.x h51, zXt.za h53, zXt.x h53, zXt.za h55, zXt.x h55]) (by simp only [zXt.za h51, zXt.x h51, zXt.za h53, zXt.x h53, zXt.za h55, zXt.x h55]) ?_
                                      exact hj43 _ _
                                  · refine x_iload dL_law_1749 rfl ?_
                                    refine x_aload dL_law_1751 rfl ?_
                                    refine x_iload dL_law_1753 rfl ?_
                                    refine y_taild (by rw [l55]; decide) dL_law_1755 (fun hi => ?_)
                                    refine x_iadd dL_law_1756 ?_
                                    refine y_letI (fun x80 => ?_)
                                    refine x_istore (ls' := [some (.ref (oX ω55 1)), some (.ref (zad ω55 16)), some (.ref (zad ω55 201)), some (.ref (zad ω55 202)), some (.ref (zad ω55 203)), some (.ref (zad ω55 204)), some (.ref (zad ω55 205)), some (.ref (zad ω55 206)), some (.int x2), none, none, none, none, none, some (.int v16), some (.int x36), some (.int x35), some (.int (-2)), some (.ref (zTd ω55 0)), some (.ref (zTd ω55 1)), some (.ref (zTd ω55 2)), some (.int x80), some (.int x58), none]) dL_law_1757 (Nat.le_of_ble_eq_true rfl) rfl ?_
                                    refine y_iinc (w := 1) dL_law_1759 rfl (by decide) (Nat.le_of_ble_eq_true rfl) (fun x81 => ?_)
                                    refine x_goto (tgt := 1740) dL_law_1762 (by decide) ?_
                                    exact hr59 _ _
                              · refine y_mask (bs := [true, true, true, true, true, true, true, true, true, false, false, false, false, false, true, false, true, true, false, false, false, false, false, false]) (ls' := [some (.ref (oX ω 1)), some (.ref (zad ω 16)), some (.ref (zad ω 201)), some (.ref (zad ω 202)), some (.ref (zad ω 203)), some (.ref (zad ω 204)), some (.ref (zad ω 205)), some (.ref (zad ω 206)), some (.int x2), none, none, none, none, none, some (.int v16), none, some (.int x35), some (.int (-2)), none, none, none, none, none, none]) rfl ?_
                                refine x_wid (c1 := (c39 + 3)) (s1 := (s39 + 30)) (by omega) (by omega) ?_
                                exact hj43 _ _
                          · refine x_aload_n dL_law_1639 rfl ?_
                            refine x_iconst (v := 2) dL_law_1640 (by decide) ?_
                            refine x_iconst (v := 5) dL_law_1641 (by decide) ?_
                            refine x_iconst (v := 0) dL_law_1642 (by decide) ?_
                            refine x_iconst (v := 0) dL_law_1643 (by decide) ?_
                            refine y_callSH (rest := []) (c1 := (c5 + 3)) (s1 := (s5 + 18)) (c_Law_refused ω 2 5 0 0 m4) mh_RL_169 rfl (Nat.le_of_ble_eq_true rfl) (Nat.le_of_ble_eq_true rfl) (Nat.le_of_ble_eq_true rfl) ⟨rfl, rfl⟩ ⟨by omega, by omega⟩ dL_law_1644 (fun v83 m82 => ?_)
                            refine x_iconst (v := 3) dL_law_1647 (by decide) ?_
                            refine x_icmp_eq (tgt := 1935) dL_law_1648 (by decide) (fun hc84 => ?_) (fun hc84 => ?_)
                            · refine y_mask (bs := [true, true, true, true, true, true, true, true, true, false, false, false, false, false, true, false, false, false, false, false, false, false, false, false]) (ls' := [some (.ref (oX ω 1)), some (.ref (zad ω 16)), some (.ref (zad ω 201)), some (.ref (zad ω 202)), some (.ref (zad ω 203)), some (.ref (zad ω 204)), some (.ref (zad ω 205)), some (.ref (zad ω 206)), some (.int x2), none, none, none, none, none, some (.int v16), none, none, none, none, none, none, none, none, none]) rfl ?_
                              refine x_wid (c1 := (c5 + 635)) (s1 := (s5 + 6338)) (by omega) (by omega) ?_
                              exact hj23 _ _
                            · refine x_iconst (v := 0) dL_law_1651 (by decide) ?_
                              exact x_zretF zXt.refl rfl rfl (zBo_nar (by decide)) ⟨by omega, by omega⟩ dL_law_1652
                        · refine x_aload dL_law_1298 rfl ?_
                          refine x_iconst (v := 0) dL_law_1300 (by decide) ?_
                          refine x_iload dL_law_1301 rfl ?_
                          refine x_iconst (v := 3) dL_law_1303 (by decide) ?_
                          refine y_callSP (rest := [.int 0, .ref (zad ω 205)]) (c1 := c5) (s1 := s5) (c_Law_low ω v8 3 m4) ms_RL_76 rfl (Nat.le_of_ble_eq_true rfl) (Nat.le_of_ble_eq_true rfl) (Nat.le_of_ble_eq_true rfl) ⟨rfl, rfl⟩ ⟨by omega, by omega⟩ dL_law_1304 (fun v85 => ?_)
                          refine y_iast hz_205 hn_205 dL_law_1307 (fun hi => ?_)
                          refine y_letM (fun m86 => ?_)
                          refine x_iconst (v := 0) dL_law_1308 (by decide) ?_
                          refine x_istore (ls' := [some (.ref (oX ω 1)), some (.ref (zad ω 16)), some (.ref (zad ω 201)), some (.ref (zad ω 202)), some (.ref (zad ω 203)), some (.ref (zad ω 204)), some (.ref (zad ω 205)), some (.ref (zad ω 206)), some (.int x2), some (.int v7), some (.int v8), some (.int v9), some (.int x11), some (.int x14), some (.int v16), some (.int 0), none, none, none, none, none, none, none, none]) dL_law_1309 (Nat.le_of_ble_eq_true rfl) rfl ?_
                          refine y_mask (bs := [true, true, true, true, true, true, true, true, true, true, true, true, false, false, true, true, false, false, false, false, false, false, false, false]) (ls' := [some (.ref (oX ω 1)), some (.ref (zad ω 16)), some (.ref (zad ω 201)), some (.ref (zad ω 202)), some (.ref (zad ω 203)), some (.ref (zad ω 204)), some (.ref (zad ω 205)), some (.ref (zad ω 206)), some (.int x2), some (.int v7), some (.int v8), some (.int v9), none, none, some (.int v16), some (.int 0), none, none, none, none, none, none, none, none]) rfl ?_
                          refine y_Lp1 (fun x87 => [some (.ref (oX ω 1)), some (.ref (zad ω 16)), some (.ref (zad ω 201)), some (.ref (zad ω 202)), some (.ref (zad ω 203)), some (.ref (zad ω 204)), some (.ref (zad ω 205)), some (.ref (zad ω 206)), some (.int x2), some (.int v7), some (.int v8), some (.int v9), none, none, some (.int v16), some (.int x87), none, none, none, none, none, none, none, none]) (fun r88 hr88 x87 m89 => ?_) zFu _ _
                          refine x_iload dL_law_1311 rfl ?_
                          refine x_iconst (v := 2) dL_law_1313 (by decide) ?_
                          refine x_icmp_ge (tgt := 1466) dL_law_1314 (by decide) (fun hc90 => ?_) (fun hc90 => ?_)
                          · refine x_aload dL_law_1466 rfl ?_
                            refine x_iconst (v := 0) dL_law_1468 (by decide) ?_
                            refine y_iald hz_205 hn_205 dL_law_1469 (fun hi => ?_)
                            refine y_join (fun j93 => ∀ (m92 : Mm), Sx ω ω true 112 19601 198013 kk_Law_law fI c5 s5 m92 1480 [some (.ref (oX ω 1)), some (.ref (zad ω 16)), some (.ref (zad ω 201)), some (.ref (zad ω 202)), some (.ref (zad ω 203)), some (.ref (zad ω 204)), some (.ref (zad ω 205)), some (.ref (zad ω 206)), some (.int x2), some (.int v7), none, none, none, none, some (.int v16), none, none, none, none, none, none, none, none, none] [] (j93 m92)) ?_ (fun j93 hj93 => ?_)
                            · intro m92
                              refine x_aload_n dL_law_1480 rfl ?_
                              refine x_aload dL_law_1481 rfl ?_
                              refine x_iconst (v := 1) dL_law_1483 (by decide) ?_
                              refine y_callSV (rest := []) (c1 := c5) (s1 := s5) (c_Law_ask ω 1 m92) ms_RL_182 rfl (Nat.le_of_ble_eq_true rfl) (Nat.le_of_ble_eq_true rfl) (Nat.le_of_ble_eq_true rfl) ⟨rfl, rfl⟩ ⟨by omega, by omega⟩ dL_law_1484 (fun m94 => ?_)
                              refine x_aload dL_law_1487 rfl ?_
                              refine x_iconst (v := 0) dL_law_1489 (by decide) ?_
                              refine y_iald hz_205 hn_205 dL_law_1490 (fun hi => ?_)
                              refine y_join (fun j97 => ∀ (m96 : Mm), Sx ω ω true 112 19601 198013 kk_Law_law fI c5 s5 m96 1528 [some (.ref (oX ω 1)), some (.ref (zad ω 16)), some (.ref (zad ω 201)), some (.ref (zad ω 202)), some (.ref (zad ω 203)), some (.ref (zad ω 204)), some (.ref (zad ω 205)), some (.ref (zad ω 206)), some (.int x2), some (.int v7), none, none, none, none, some (.int v16), none, none, none, none, none, none, none, none, none] [] (j97 m96)) ?_ (fun j97 hj97 => ?_)
                              · intro m96
                                refine x_aload dL_law_1528 rfl ?_
                                refine x_iconst (v := 4) dL_law_1530 (by decide) ?_
                                refine x_iload dL_law_1531 rfl ?_
                                refine x_bipush (v := 9) dL_law_1533 (by decide) ?_
                                refine x_ishr dL_law_1535 ?_
                                refine x_sipush (v := 390) dL_law_1536 (by decide) ?_
                                refine y_callSP (rest := [.int 4, .ref (zad ω 204)]) (c1 := c5) (s1 := s5) (c_Law_low ω (v7 >>> (9 &&& 31)) 390 m96) ms_RL_76 rfl (Nat.le_of_ble_eq_true rfl) (Nat.le_of_ble_eq_true rfl) (Nat.le_of_ble_eq_true rfl) ⟨rfl, rfl⟩ ⟨by omega, by omega⟩ dL_law_1539 (fun v98 => ?_)
                                refine y_iast hz_204 hn_204 dL_law_1542 (fun hi => ?_)
                                refine y_letM (fun m99 => ?_)
                                refine x_bipush (v := 10) dL_law_1543 (by decide) ?_
                                refine y_newT (n := 0) (c1 := (c5 + 1)) (s1 := (s5 + 10)) hl0 w_arrI ⟨rfl, rfl⟩ ⟨by omega, by omega⟩ dL_law_1545 (fun ω101 m100 h101 l101 => ?_)
                                rewrite [← zXt.x h101 1, ← zXt.za h101 16, ← zXt.za h101 201, ← zXt.za h101 202, ← zXt.za h101 203, ← zXt.za h101 204, ← zXt.za h101 205, ← zXt.za h101 206]
                                refine x_astore (ls' := [some (.ref (oX ω101 1)), some (.ref (zad ω101 16)), some (.ref (zad ω101 201)), some (.ref (zad ω101 202)), some (.ref (zad ω101 203)), some (.ref (zad ω101 204)), some (.ref (zad ω101 205)), some (.ref (zad ω101 206)), some (.int x2), some (.int v7), none, none, none, none, some (.int v16), some (.ref (zTd ω101 0)), none, none, none, none, none, none, none, none]) dL_law_1547 (Nat.le_of_ble_eq_true rfl) rfl ?_
                                refine x_bipush (v := 10) dL_law_1549 (by decide) ?_
                                refine y_newT (n := 1) (c1 := (c5 + 2)) (s1 := (s5 + 20)) l101 w_arrI ⟨rfl, rfl⟩ ⟨by omega, by omega⟩ dL_law_1551 (fun ω103 m102 h103 l103 => ?_)
                                rewrite [← zXt.x h103 1, ← zXt.za h103 16, ← zXt.za h103 201, ← zXt.za h103 202, ← zXt.za h103 203, ← zXt.za h103 204, ← zXt.za h103 205, ← zXt.za h103 206, ← zXt.zt h103 (i := 0) (by rw [l101]; decide)]
                                refine x_astore (ls' := [some (.ref (oX ω103 1)), some (.ref (zad ω103 16)), some (.ref (zad ω103 201)), some (.ref (zad ω103 202)), some (.ref (zad ω103 203)), some (.ref (zad ω103 204)), some (.ref (zad ω103 205)), some (.ref (zad ω103 206)), some (.int x2), some (.int v7), none, none, none, none, some (.int v16), some (.ref (zTd ω103 0)), some (.ref (zTd ω103 1)), none, none, none, none, none, none, none]) dL_law_1553 (Nat.le_of_ble_eq_true rfl) rfl ?_
                                refine x_aload_n dL_law_1555 rfl ?_
                                refine x_aload dL_law_1556 rfl ?_
                                refine x_aload dL_law_1558 rfl ?_
                                refine x_aload dL_law_1560 rfl ?_
                                refine x_iconst (v := 4) dL_law_1562 (by decide) ?_
                                refine y_iald hz_204 hn_204 dL_law_1563 (fun hi => ?_)
                                refine x_aload dL_law_1564 rfl ?_
                                refine x_iconst (v := 2) dL_law_1566 (by decide) ?_
                                refine y_iald hz_204 hn_204 dL_law_1567 (fun hi => ?_)
                                refine x_aload dL_law_1568 rfl ?_
                                refine x_aload dL_law_1570 rfl ?_
                                refine y_callSV (rest := []) (c1 := (c5 + 2)) (s1 := (s5 + 20)) (c_Law_bents ω103 (zI m102 204 (zIx 4)) (zI m102 204 (zIx 2)) 0 (by rw [l103]; decide) 1 (by rw [l103]; decide) m102) ms_RL_99 rfl (Nat.le_of_ble_eq_true rfl) (Nat.le_of_ble_eq_true rfl) (Nat.le_of_ble_eq_true rfl) ⟨rfl, rfl⟩ ⟨by omega, by omega⟩ dL_law_1572 (fun m104 => ?_)
                                refine x_iconst (v := 1) dL_law_1575 (by decide) ?_
                                refine x_istore (ls' := [some (.ref (oX ω103 1)), some (.ref (zad ω103 16)), some (.ref (zad ω103 201)), some (.ref (zad ω103 202)), some (.ref (zad ω103 203)), some (.ref (zad ω103 204)), some (.ref (zad ω103 205)), some (.ref (zad ω103 206)), some (.int x2), some (.int v7), none, none, none, none, some (.int v16), some (.ref (zTd ω103 0)), some (.ref (zTd ω103 1)), some (.int 1), none, none, none, none, none, none]) dL_law_1576 (Nat.le_of_ble_eq_true rfl) rfl ?_
                                refine x_iconst (v := 0) dL_law_1578 (by decide) ?_
                                refine x_istore (ls' := [some (.ref (oX ω103 1)), some (.ref (zad ω103 16)), some (.ref (zad ω103 201)), some (.ref (zad ω103 202)), some (.ref (zad ω103 203)), some (.ref (zad ω103 204)), some (.ref (zad ω103 205)), some (.ref (zad ω103 206)), some (.int x2), some (.int v7), none, none, none, none, some (.int v16), some (.ref (zTd ω103 0)), some (.ref (zTd ω103 1)), some (.int 1), some (.int 0), none, none, none, none, none]) dL_law_1579 (Nat.le_of_ble_eq_true rfl) rfl ?_
                                refine y_mask (bs := [true, true, true, true, true, true, true, true, true, false, false, false, false, false, true, false, true, true, true, false, false, false, false, false]) (ls' := [some (.ref (oX ω103 1)), some (.ref (zad ω103 16)), some (.ref (zad ω103 201)), some (.ref (zad ω103 202)), some (.ref (zad ω103 203)), some (.ref (zad ω103 204)), some (.ref (zad ω103 205)), some (.ref (zad ω103 206)), some (.int x2), none, none, none, none, none, some (.int v16), none, some (.ref (zTd ω103 1)), some (.int 1), some (.int 0), none, none, none, none, none]) rfl ?_
                                refine y_Lq2 (fun x105 x106 => [some (.ref (oX ω103 1)), some (.ref (zad ω103 16)), some (.ref (zad ω103 201)), some (.ref (zad ω103 202)), some (.ref (zad ω103 203)), some (.ref (zad ω103 204)), some (.ref (zad ω103 205)), some (.ref (zad ω103 206)), some (.int x2), none, none, none, none, none, some (.int v16), none, some (.ref (zTd ω103 1)), some (.int x105), some (.int x106), none, none, none, none, none]) (fun r107 hr107 x105 x106 => ?_) zFu _ _
                                refine x_iload dL_law_1581 rfl ?_
                                refine x_aload dL_law_1583 rfl ?_
                                refine x_iconst (v := 0) dL_law_1585 (by decide) ?_
                                refine y_iald hz_204 hn_204 dL_law_1586 (fun hi => ?_)
                                refine x_icmp_ge (tgt := 1606) dL_law_1587 (by decide) (fun hc108 => ?_) (fun hc108 => ?_)
                                · refine x_aload_n dL_law_1606 rfl ?_
                                  refine y_callVI (rest := []) (c1 := (c5 + 2)) (s1 := (s5 + 20)) (c_Loo_questionFault ω103 m104) mv_RL_185 hz_16 rfl (Nat.le_of_ble_eq_true rfl) (Nat.le_of_ble_eq_true rfl) (Nat.le_of_ble_eq_true rfl) ⟨rfl, rfl⟩ ⟨by omega, by omega⟩ dL_law_1607 (fun v110 m109 => ?_)
                                  refine x_iconst (v := (-1)) dL_law_1610 (by decide) ?_
                                  refine x_icmp_ne (tgt := 1627) dL_law_1611 (by decide) (fun hc111 => ?_) (fun hc111 => ?_)
                                  · refine x_aload_n dL_law_1614 rfl ?_
                                    refine x_aload dL_law_1615 rfl ?_
                                    refine x_iconst (v := 4) dL_law_1617 (by decide) ?_
                                    refine y_iald hz_204 hn_204 dL_law_1618 (fun hi => ?_)
                                    refine y_callVI (rest := []) (c1 := (c5 + 2)) (s1 := (s5 + 20)) (cn_Loo_search ω103 (zI m109 204 (zIx 4)) m109) mv_RL_188 hz_16 rfl (Nat.le_of_ble_eq_true rfl) (Nat.le_of_ble_eq_true rfl) (Nat.le_of_ble_eq_true rfl) ⟨rfl, rfl⟩ ⟨by omega, by omega⟩ dL_law_1619 (fun v113 m112 => ?_)
                                    refine x_iload dL_law_1622 rfl ?_
                                    refine x_icmp_eq (tgt := 1629) dL_law_1624 (by decide) (fun hc114 => ?_) (fun hc114 => ?_)
                                    · refine x_goto (tgt := 1935) dL_law_1629 (by decide) ?_
                                      refine y_mask (bs := [true, true, true, true, true, true, true, true, true, false, false, false, false, false, true, false, false, false, false, false, false, false, false, false]) (ls' := [some (.ref (oX ω103 1)), some (.ref (zad ω103 16)), some (.ref (zad ω103 201)), some (.ref (zad ω103 202)), some (.ref (zad ω103 203)), some (.ref (zad ω103 204)), some (.ref (zad ω103 205)), some (.ref (zad ω103 206)), some (.int x2), none, none, none, none, none, some (.int v16), none, none, none, none, none, none, none, none, none]) rfl ?_
                                      refine y_drop (zXt.trans h101 h103) (ls' := [some (.ref (oX ω 1)), some (.ref (zad ω 16)), some (.ref (zad ω 201)), some (.ref (zad ω 202)), some (.ref (zad ω 203)), some (.ref (zad ω 204)), some (.ref (zad ω 205)), some (.ref (zad ω 206)), some (.int x2), none, none, none, none, none, some (.int v16), none, none, none, none, none, none, none, none, none]) (st' := []) (by simp only [zXt.za h101, zXt.x h101, zXt.za h103, zXt.x h103]) (by simp only [zXt.za h101, zXt.x h101, zXt.za h103, zXt.x h103]) ?_
                                      refine x_wid (c1 := (c5 + 635)) (s1 := (s5 + 6338)) (by omega) (by omega) ?_
                                      exact hj23 _ _
                                    · refine x_iconst (v := 0) dL_law_1627 (by decide) ?_
                                      exact x_zretF (zXt.trans h101 h103) rfl rfl (zBo_nar (by decide)) ⟨by omega, by omega⟩ dL_law_1628
                                  · refine x_iconst (v := 0) dL_law_1627 (by decide) ?_
                                    exact x_zretF (zXt.trans h101 h103) rfl rfl (zBo_nar (by decide)) ⟨by omega, by omega⟩ dL_law_1628
                                · refine x_iload dL_law_1590 rfl ?_
                                  refine x_aload dL_law_1592 rfl ?_
                                  refine x_iload dL_law_1594 rfl ?_
                                  refine y_taild (by rw [l103]; decide) dL_law_1596 (fun hi => ?_)
                                  refine x_iadd dL_law_1597 ?_
                                  refine y_letI (fun x115 => ?_)
                                  refine x_istore (ls' := [some (.ref (oX ω103 1)), some (.ref (zad ω103 16)), some (.ref (zad ω103 201)), some (.ref (zad ω103 202)), some (.ref (zad ω103 203)), some (.ref (zad ω103 204)), some (.ref (zad ω103 205)), some (.ref (zad ω103 206)), some (.int x2), none, none, none, none, none, some (.int v16), none, some (.ref (zTd ω103 1)), some (.int x115), some (.int x106), none, none, none, none, none]) dL_law_1598 (Nat.le_of_ble_eq_true rfl) rfl ?_
                                  refine y_iinc (w := 1) dL_law_1600 rfl (by decide) (Nat.le_of_ble_eq_true rfl) (fun x116 => ?_)
                                  refine x_goto (tgt := 1581) dL_law_1603 (by decide) ?_
                                  exact hr107 _ _
                              · refine x_if_le (tgt := 1528) dL_law_1491 (by decide) (fun hc95 => ?_) (fun hc95 => ?_)
                                · exact hj97 _
                                · refine x_aload_n dL_law_1494 rfl ?_
                                  refine x_aload dL_law_1495 rfl ?_
                                  refine x_iconst (v := 0) dL_law_1497 (by decide) ?_
                                  refine y_iald hz_205 hn_205 dL_law_1498 (fun hi => ?_)
                                  refine x_iconst (v := 1) dL_law_1499 (by decide) ?_
                                  refine y_join (fun j119 => ∀ (x118 : Int32), Sx ω ω true 112 19601 198013 kk_Law_law fI c5 s5 m94 1510 [some (.ref (oX ω 1)), some (.ref (zad ω 16)), some (.ref (zad ω 201)), some (.ref (zad ω 202)), some (.ref (zad ω 203)), some (.ref (zad ω 204)), some (.ref (zad ω 205)), some (.ref (zad ω 206)), some (.int x2), some (.int v7), none, none, none, none, some (.int v16), none, none, none, none, none, none, none, none, none] [.int x118, .ref (zad ω 16)] (j119 x118)) ?_ (fun j119 hj119 => ?_)
                                  · intro x118
                                    refine y_callVI (rest := []) (c1 := c5) (s1 := s5) (cn_Loo_type ω x118 m94) mv_RL_62 hz_16 rfl (Nat.le_of_ble_eq_true rfl) (Nat.le_of_ble_eq_true rfl) (Nat.le_of_ble_eq_true rfl) ⟨rfl, rfl⟩ ⟨by omega, by omega⟩ dL_law_1510 (fun v121 m120 => ?_)
                                    refine x_pop dL_law_1513 rfl ?_
                                    refine x_aload_n dL_law_1514 rfl ?_
                                    refine x_aload dL_law_1515 rfl ?_
                                    refine x_iconst (v := 5) dL_law_1517 (by decide) ?_
                                    refine y_callSV (rest := []) (c1 := c5) (s1 := s5) (c_Law_ask ω 5 m120) ms_RL_182 rfl (Nat.le_of_ble_eq_true rfl) (Nat.le_of_ble_eq_true rfl) (Nat.le_of_ble_eq_true rfl) ⟨rfl, rfl⟩ ⟨by omega, by omega⟩ dL_law_1518 (fun m122 => ?_)
                                    refine x_aload_n dL_law_1521 rfl ?_
                                    refine x_bipush (v := 41) dL_law_1522 (by decide) ?_
                                    refine y_callVI (rest := []) (c1 := c5) (s1 := s5) (cn_Loo_type ω 41 m122) mv_RL_62 hz_16 rfl (Nat.le_of_ble_eq_true rfl) (Nat.le_of_ble_eq_true rfl) (Nat.le_of_ble_eq_true rfl) ⟨rfl, rfl⟩ ⟨by omega, by omega⟩ dL_law_1524 (fun v124 m123 => ?_)
                                    refine x_pop dL_law_1527 rfl ?_
                                    exact hj97 _
                                  · refine x_icmp_ne (tgt := 1508) dL_law_1500 (by decide) (fun hc117 => ?_) (fun hc117 => ?_)
                                    · refine x_bipush (v := 38) dL_law_1503 (by decide) ?_
                                      refine x_goto (tgt := 1510) dL_law_1505 (by decide) ?_
                                      exact hj119 _
                                    · refine x_bipush (v := 124) dL_law_1508 (by decide) ?_
                                      exact hj119 _
                            · refine x_if_le (tgt := 1480) dL_law_1470 (by decide) (fun hc91 => ?_) (fun hc91 => ?_)
                              · refine y_mask (bs := [true, true, true, true, true, true, true, true, true, true, false, false, false, false, true, false, false, false, false, false, false, false, false, false]) (ls' := [some (.ref (oX ω 1)), some (.ref (zad ω 16)), some (.ref (zad ω 201)), some (.ref (zad ω 202)), some (.ref (zad ω 203)), some (.ref (zad ω 204)), some (.ref (zad ω 205)), some (.ref (zad ω 206)), some (.int x2), some (.int v7), none, none, none, none, some (.int v16), none, none, none, none, none, none, none, none, none]) rfl ?_
                                exact hj93 _
                              · refine x_aload_n dL_law_1473 rfl ?_
                                refine x_bipush (v := 40) dL_law_1474 (by decide) ?_
                                refine y_callVI (rest := []) (c1 := c5) (s1 := s5) (cn_Loo_type ω 40 m89) mv_RL_62 hz_16 rfl (Nat.le_of_ble_eq_true rfl) (Nat.le_of_ble_eq_true rfl) (Nat.le_of_ble_eq_true rfl) ⟨rfl, rfl⟩ ⟨by omega, by omega⟩ dL_law_1476 (fun v126 m125 => ?_)
                                refine x_pop dL_law_1479 rfl ?_
                                refine y_mask (bs := [true, true, true, true, true, true, true, true, true, true, false, false, false, false, true, false, false, false, false, false, false, false, false, false]) (ls' := [some (.ref (oX ω 1)), some (.ref (zad ω 16)), some (.ref (zad ω 201)), some (.ref (zad ω 202)), some (.ref (zad ω 203)), some (.ref (zad ω 204)), some (.ref (zad ω 205)), some (.ref (zad ω 206)), some (.int x2), some (.int v7), none, none, none, none, some (.int v16), none, none, none, none, none, none, none, none, none]) rfl ?_
                                exact hj93 _
                          · refine x_iload dL_law_1317 rfl ?_
                            refine y_join (fun j129 => ∀ (x128 : Int32), Sx ω ω true 112 19601 198013 kk_Law_law fI c5 s5 m89 1333 [some (.ref (oX ω 1)), some (.ref (zad ω 16)), some (.ref (zad ω 201)), some (.ref (zad ω 202)), some (.ref (zad ω 203)), some (.ref (zad ω 204)), some (.ref (zad ω 205)), some (.ref (zad ω 206)), some (.int x2), some (.int v7), some (.int v8), some (.int v9), none, none, some (.int v16), some (.int x87), none, none, none, none, none, none, none, none] [.int x128] (j129 x128)) ?_ (fun j129 hj129 => ?_)
                            · intro x128
                              refine x_istore (ls' := [some (.ref (oX ω 1)), some (.ref (zad ω 16)), some (.ref (zad ω 201)), some (.ref (zad ω 202)), some (.ref (zad ω 203)), some (.ref (zad ω 204)), some (.ref (zad ω 205)), some (.ref (zad ω 206)), some (.int x2), some (.int v7), some (.int v8), some (.int v9), none, none, some (.int v16), some (.int x87), some (.int x128), none, none, none, none, none, none, none]) dL_law_1333 (Nat.le_of_ble_eq_true rfl) rfl ?_
                              refine x_aload dL_law_1335 rfl ?_
                              refine x_iconst (v := 1) dL_law_1337 (by decide) ?_
                              refine x_iconst (v := 4) dL_law_1338 (by decide) ?_
                              refine x_iload dL_law_1339 rfl ?_
                              refine x_imul dL_law_1341 ?_
                              refine x_iadd dL_law_1342 ?_
                              refine x_iload dL_law_1343 rfl ?_
                              refine x_iconst (v := 2) dL_law_1345 (by decide) ?_
                              refine y_callSP (rest := [.int (1 + (4 * x87)), .ref (zad ω 205)]) (c1 := c5) (s1 := s5) (c_Law_low ω x128 2 m89) ms_RL_76 rfl (Nat.le_of_ble_eq_true rfl) (Nat.le_of_ble_eq_true rfl) (Nat.le_of_ble_eq_true rfl) ⟨rfl, rfl⟩ ⟨by omega, by omega⟩ dL_law_1346 (fun v130 => ?_)
                              refine y_iast hz_205 hn_205 dL_law_1349 (fun hi => ?_)
                              refine y_letM (fun m131 => ?_)
                              refine x_aload dL_law_1350 rfl ?_
                              refine x_iconst (v := 2) dL_law_1352 (by decide) ?_
                              refine x_iconst (v := 4) dL_law_1353 (by decide) ?_
                              refine x_iload dL_law_1354 rfl ?_
                              refine x_imul dL_law_1356 ?_
                              refine x_iadd dL_law_1357 ?_
                              refine x_iconst (v := 1) dL_law_1358 (by decide) ?_
                              refine x_iload dL_law_1359 rfl ?_
                              refine x_iconst (v := 1) dL_law_1361 (by decide) ?_
                              refine x_ishr dL_law_1362 ?_
                              refine x_iconst (v := 5) dL_law_1363 (by decide) ?_
                              refine y_callSP (rest := [.int 1, .int (2 + (4 * x87)), .ref (zad ω 205)]) (c1 := c5) (s1 := s5) (c_Law_low ω (x128 >>> (1 &&& 31)) 5 m131) ms_RL_76 rfl (Nat.le_of_ble_eq_true rfl) (Nat.le_of_ble_eq_true rfl) (Nat.le_of_ble_eq_true rfl) ⟨rfl, rfl⟩ ⟨by omega, by omega⟩ dL_law_1364 (fun v132 => ?_)
                              refine x_iadd dL_law_1367 ?_
                              refine y_iast hz_205 hn_205 dL_law_1368 (fun hi => ?_)
                              refine y_letM (fun m133 => ?_)
                              refine x_aload dL_law_1369 rfl ?_
                              refine x_iconst (v := 3) dL_law_1371 (by decide) ?_
                              refine x_iconst (v := 4) dL_law_1372 (by decide) ?_
                              refine x_iload dL_law_1373 rfl ?_
                              refine x_imul dL_law_1375 ?_
                              refine x_iadd dL_law_1376 ?_
                              refine x_iload dL_law_1377 rfl ?_
                              refine x_iconst (v := 4) dL_law_1379 (by decide) ?_
                              refine x_ishr dL_law_1380 ?_
                              refine x_aload dL_law_1381 rfl ?_
                              refine x_iconst (v := 0) dL_law_1383 (by decide) ?_
                              refine y_iald hz_204 hn_204 dL_law_1384 (fun hi => ?_)
                              refine y_callSP (rest := [.int (3 + (4 * x87)), .ref (zad ω 205)]) (c1 := c5) (s1 := s5) (c_Law_low ω (x128 >>> (4 &&& 31)) (zI m133 204 (zIx 0)) m133) ms_RL_76 rfl (Nat.le_of_ble_eq_true rfl) (Nat.le_of_ble_eq_true rfl) (Nat.le_of_ble_eq_true rfl) ⟨rfl, rfl⟩ ⟨by omega, by omega⟩ dL_law_1385 (fun v134 => ?_)
                              refine y_iast hz_205 hn_205 dL_law_1388 (fun hi => ?_)
                              refine y_letM (fun m135 => ?_)
                              refine x_aload dL_law_1389 rfl ?_
                              refine x_iconst (v := 4) dL_law_1391 (by decide) ?_
                              refine x_iconst (v := 4) dL_law_1392 (by decide) ?_
                              refine x_iload dL_law_1393 rfl ?_
                              refine x_imul dL_law_1395 ?_
                              refine x_iadd dL_law_1396 ?_
                              refine x_aload dL_law_1397 rfl ?_
                              refine x_iconst (v := 2) dL_law_1399 (by decide) ?_
                              refine x_iconst (v := 4) dL_law_1400 (by decide) ?_
                              refine x_iload dL_law_1401 rfl ?_
                              refine x_imul dL_law_1403 ?_
                              refine x_iadd dL_law_1404 ?_
                              refine y_iald hz_205 hn_205 dL_law_1405 (fun hi => ?_)
                              refine x_iconst (v := 2) dL_law_1406 (by decide) ?_
                              refine y_join (fun j138 => ∀ (x137 : Int32), Sx ω ω true 112 19601 198013 kk_Law_law fI c5 s5 m135 1459 [some (.ref (oX ω 1)), some (.ref (zad ω 16)), some (.ref (zad ω 201)), some (.ref (zad ω 202)), some (.ref (zad ω 203)), some (.ref (zad ω 204)), some (.ref (zad ω 205)), some (.ref (zad ω 206)), some (.int x2), some (.int v7), some (.int v8), some (.int v9), none, none, some (.int v16), some (.int x87), none, none, none, none, none, none, none, none] [.int x137, .int (4 + (4 * x87)), .ref (zad ω 205)] (j138 x137)) ?_ (fun j138 hj138 => ?_)
                              · intro x137
                                refine y_iast hz_205 hn_205 dL_law_1459 (fun hi => ?_)
                                refine y_letM (fun m139 => ?_)
                                refine y_iinc (w := 1) dL_law_1460 rfl (by decide) (Nat.le_of_ble_eq_true rfl) (fun x140 => ?_)
                                refine x_goto (tgt := 1311) dL_law_1463 (by decide) ?_
                                exact hr88 _ _
                              · refine x_icmp_ne (tgt := 1421) dL_law_1407 (by decide) (fun hc136 => ?_) (fun hc136 => ?_)
                                · refine x_iload dL_law_1410 rfl ?_
                                  refine x_bipush (v := 7) dL_law_1412 (by decide) ?_
                                  refine x_ishr dL_law_1414 ?_
                                  refine y_callSP (rest := [.int (4 + (4 * x87)), .ref (zad ω 205)]) (c1 := c5) (s1 := s5) (c_Law_drawDate ω (x128 >>> (7 &&& 31)) m135) ms_RL_143 rfl (Nat.le_of_ble_eq_true rfl) (Nat.le_of_ble_eq_true rfl) (Nat.le_of_ble_eq_true rfl) ⟨rfl, rfl⟩ ⟨by omega, by omega⟩ dL_law_1415 (fun v144 => ?_)
                                  refine x_goto (tgt := 1459) dL_law_1418 (by decide) ?_
                                  refine y_mask (bs := [true, true, true, true, true, true, true, true, true, true, true, true, false, false, true, true, false, false, false, false, false, false, false, false]) (ls' := [some (.ref (oX ω 1)), some (.ref (zad ω 16)), some (.ref (zad ω 201)), some (.ref (zad ω 202)), some (.ref (zad ω 203)), some (.ref (zad ω 204)), some (.ref (zad ω 205)), some (.ref (zad ω 206)), some (.int x2), some (.int v7), some (.int v8), some (.int v9), none, none, some (.int v16), some (.int x87), none, none, none, none, none, none, none, none]) rfl ?_
                                  exact hj138 _
                                · refine x_aload dL_law_1421 rfl ?_
                                  refine x_iconst (v := 2) dL_law_1423 (by decide) ?_
                                  refine x_iconst (v := 4) dL_law_1424 (by decide) ?_
                                  refine x_iload dL_law_1425 rfl ?_
                                  refine x_imul dL_law_1427 ?_
                                  refine x_iadd dL_law_1428 ?_
                                  refine y_iald hz_205 hn_205 dL_law_1429 (fun hi => ?_)
                                  refine x_iconst (v := 3) dL_law_1430 (by decide) ?_
                                  refine x_icmp_ne (tgt := 1447) dL_law_1431 (by decide) (fun hc141 => ?_) (fun hc141 => ?_)
                                  · refine x_iload dL_law_1434 rfl ?_
                                    refine x_bipush (v := 7) dL_law_1436 (by decide) ?_
                                    refine x_ishr dL_law_1438 ?_
                                    refine x_bipush (v := 7) dL_law_1439 (by decide) ?_
                                    refine y_callSP (rest := [.int (4 + (4 * x87)), .ref (zad ω 205)]) (c1 := c5) (s1 := s5) (c_Law_low ω (x128 >>> (7 &&& 31)) 7 m135) ms_RL_76 rfl (Nat.le_of_ble_eq_true rfl) (Nat.le_of_ble_eq_true rfl) (Nat.le_of_ble_eq_true rfl) ⟨rfl, rfl⟩ ⟨by omega, by omega⟩ dL_law_1441 (fun v143 => ?_)
                                    refine x_goto (tgt := 1459) dL_law_1444 (by decide) ?_
                                    refine y_mask (bs := [true, true, true, true, true, true, true, true, true, true, true, true, false, false, true, true, false, false, false, false, false, false, false, false]) (ls' := [some (.ref (oX ω 1)), some (.ref (zad ω 16)), some (.ref (zad ω 201)), some (.ref (zad ω 202)), some (.ref (zad ω 203)), some (.ref (zad ω 204)), some (.ref (zad ω 205)), some (.ref (zad ω 206)), some (.int x2), some (.int v7), some (.int v8), some (.int v9), none, none, some (.int v16), some (.int x87), none, none, none, none, none, none, none, none]) rfl ?_
                                    exact hj138 _
                                  · refine x_iload dL_law_1447 rfl ?_
                                    refine x_bipush (v := 7) dL_law_1449 (by decide) ?_
                                    refine x_ishr dL_law_1451 ?_
                                    refine x_aload dL_law_1452 rfl ?_
                                    refine x_iconst (v := 0) dL_law_1454 (by decide) ?_
                                    refine y_iald hz_204 hn_204 dL_law_1455 (fun hi => ?_)
                                    refine y_callSP (rest := [.int (4 + (4 * x87)), .ref (zad ω 205)]) (c1 := c5) (s1 := s5) (c_Law_low ω (x128 >>> (7 &&& 31)) (zI m135 204 (zIx 0)) m135) ms_RL_76 rfl (Nat.le_of_ble_eq_true rfl) (Nat.le_of_ble_eq_true rfl) (Nat.le_of_ble_eq_true rfl) ⟨rfl, rfl⟩ ⟨by omega, by omega⟩ dL_law_1456 (fun v142 => ?_)
                                    refine y_mask (bs := [true, true, true, true, true, true, true, true, true, true, true, true, false, false, true, true, false, false, false, false, false, false, false, false]) (ls' := [some (.ref (oX ω 1)), some (.ref (zad ω 16)), some (.ref (zad ω 201)), some (.ref (zad ω 202)), some (.ref (zad ω 203)), some (.ref (zad ω 204)), some (.ref (zad ω 205)), some (.ref (zad ω 206)), some (.int x2), some (.int v7), some (.int v8), some (.int v9), none, none, some (.int v16), some (.int x87), none, none, none, none, none, none, none, none]) rfl ?_
                                    exact hj138 _
                            · refine x_if_ne (tgt := 1329) dL_law_1319 (by decide) (fun hc127 => ?_) (fun hc127 => ?_)
                              · refine x_iload dL_law_1322 rfl ?_
                                refine x_iconst (v := 3) dL_law_1324 (by decide) ?_
                                refine x_ishr dL_law_1325 ?_
                                refine x_goto (tgt := 1333) dL_law_1326 (by decide) ?_
                                exact hj129 _
                              · refine x_iload dL_law_1329 rfl ?_
                                refine x_iconst (v := 5) dL_law_1331 (by decide) ?_
                                refine x_ishr dL_law_1332 ?_
                                exact hj129 _
                · refine x_iload dL_law_759 rfl ?_
                  refine x_bipush (v := 8) dL_law_761 (by decide) ?_
                  refine y_callSP (rest := []) (c1 := c5) (s1 := s5) (c_Law_low ω v8 8 m4) ms_RL_76 rfl (Nat.le_of_ble_eq_true rfl) (Nat.le_of_ble_eq_true rfl) (Nat.le_of_ble_eq_true rfl) ⟨rfl, rfl⟩ ⟨by omega, by omega⟩ dL_law_763 (fun v182 => ?_)
                  refine y_join (fun j185 => ∀ (x184 : Int32), Sx ω ω true 112 19601 198013 kk_Law_law fI c5 s5 m4 786 [some (.ref (oX ω 1)), some (.ref (zad ω 16)), some (.ref (zad ω 201)), some (.ref (zad ω 202)), some (.ref (zad ω 203)), some (.ref (zad ω 204)), some (.ref (zad ω 205)), some (.ref (zad ω 206)), some (.int x2), some (.int v7), none, none, none, some (.int x14), some (.int v16), none, none, none, none, none, none, none, none, none] [.int x184] (j185 x184)) ?_ (fun j185 hj185 => ?_)
                  · intro x184
                    refine x_istore (ls' := [some (.ref (oX ω 1)), some (.ref (zad ω 16)), some (.ref (zad ω 201)), some (.ref (zad ω 202)), some (.ref (zad ω 203)), some (.ref (zad ω 204)), some (.ref (zad ω 205)), some (.ref (zad ω 206)), some (.int x2), some (.int v7), none, none, none, some (.int x14), some (.int v16), some (.int x184), none, none, none, none, none, none, none, none]) dL_law_786 (Nat.le_of_ble_eq_true rfl) rfl ?_
                    refine x_iload dL_law_788 rfl ?_
                    refine x_bipush (v := 9) dL_law_790 (by decide) ?_
                    refine x_ishr dL_law_792 ?_
                    refine x_iconst (v := 2) dL_law_793 (by decide) ?_
                    refine y_callSP (rest := []) (c1 := c5) (s1 := s5) (c_Law_low ω (v7 >>> (9 &&& 31)) 2 m4) ms_RL_76 rfl (Nat.le_of_ble_eq_true rfl) (Nat.le_of_ble_eq_true rfl) (Nat.le_of_ble_eq_true rfl) ⟨rfl, rfl⟩ ⟨by omega, by omega⟩ dL_law_794 (fun v186 => ?_)
                    refine y_join (fun j189 => ∀ (x188 : Int32), Sx ω ω true 112 19601 198013 kk_Law_law fI c5 s5 m4 807 [some (.ref (oX ω 1)), some (.ref (zad ω 16)), some (.ref (zad ω 201)), some (.ref (zad ω 202)), some (.ref (zad ω 203)), some (.ref (zad ω 204)), some (.ref (zad ω 205)), some (.ref (zad ω 206)), some (.int x2), none, none, none, none, some (.int x14), none, some (.int x184), none, none, none, none, none, none, none, none] [.int x188] (j189 x188)) ?_ (fun j189 hj189 => ?_)
                    · intro x188
                      refine x_istore (ls' := [some (.ref (oX ω 1)), some (.ref (zad ω 16)), some (.ref (zad ω 201)), some (.ref (zad ω 202)), some (.ref (zad ω 203)), some (.ref (zad ω 204)), some (.ref (zad ω 205)), some (.ref (zad ω 206)), some (.int x2), none, none, none, none, some (.int x14), none, some (.int x184), some (.int x188), none, none, none, none, none, none, none]) dL_law_807 (Nat.le_of_ble_eq_true rfl) rfl ?_
                      refine x_iconst (v := 0) dL_law_809 (by decide) ?_
                      refine x_istore (ls' := [some (.ref (oX ω 1)), some (.ref (zad ω 16)), some (.ref (zad ω 201)), some (.ref (zad ω 202)), some (.ref (zad ω 203)), some (.ref (zad ω 204)), some (.ref (zad ω 205)), some (.ref (zad ω 206)), some (.int x2), none, none, none, none, some (.int x14), none, some (.int x184), some (.int x188), some (.int 0), none, none, none, none, none, none]) dL_law_810 (Nat.le_of_ble_eq_true rfl) rfl ?_
                      refine x_iconst (v := 0) dL_law_812 (by decide) ?_
                      refine x_istore (ls' := [some (.ref (oX ω 1)), some (.ref (zad ω 16)), some (.ref (zad ω 201)), some (.ref (zad ω 202)), some (.ref (zad ω 203)), some (.ref (zad ω 204)), some (.ref (zad ω 205)), some (.ref (zad ω 206)), some (.int x2), none, none, none, none, some (.int x14), none, some (.int x184), some (.int x188), some (.int 0), some (.int 0), none, none, none, none, none]) dL_law_813 (Nat.le_of_ble_eq_true rfl) rfl ?_
                      refine y_Lq2 (fun x190 x191 => [some (.ref (oX ω 1)), some (.ref (zad ω 16)), some (.ref (zad ω 201)), some (.ref (zad ω 202)), some (.ref (zad ω 203)), some (.ref (zad ω 204)), some (.ref (zad ω 205)), some (.ref (zad ω 206)), some (.int x2), none, none, none, none, some (.int x14), none, some (.int x184), some (.int x188), some (.int x190), some (.int x191), none, none, none, none, none]) (fun r192 hr192 x190 x191 => ?_) zFu _ _
                      refine x_iload dL_law_815 rfl ?_
                      refine x_aload dL_law_817 rfl ?_
                      refine x_iconst (v := 1) dL_law_819 (by decide) ?_
                      refine y_iald hz_204 hn_204 dL_law_820 (fun hi => ?_)
                      refine x_icmp_ge (tgt := 879) dL_law_821 (by decide) (fun hc193 => ?_) (fun hc193 => ?_)
                      · refine x_iload dL_law_879 rfl ?_
                        refine x_if_le (tgt := 901) dL_law_881 (by decide) (fun hc194 => ?_) (fun hc194 => ?_)
                        · refine x_aload dL_law_901 rfl ?_
                          refine x_iconst (v := 1) dL_law_903 (by decide) ?_
                          refine y_iald hz_204 hn_204 dL_law_904 (fun hi => ?_)
                          refine x_bipush (v := 10) dL_law_905 (by decide) ?_
                          refine x_icmp_ne (tgt := 913) dL_law_907 (by decide) (fun hc195 => ?_) (fun hc195 => ?_)
                          · refine x_goto (tgt := 1954) dL_law_910 (by decide) ?_
                            refine y_mask (bs := [true, true, true, true, true, true, true, true, true, false, false, false, false, false, false, false, false, false, false, false, false, false, false, false]) (ls' := [some (.ref (oX ω 1)), some (.ref (zad ω 16)), some (.ref (zad ω 201)), some (.ref (zad ω 202)), some (.ref (zad ω 203)), some (.ref (zad ω 204)), some (.ref (zad ω 205)), some (.ref (zad ω 206)), some (.int x2), none, none, none, none, none, none, none, none, none, none, none, none, none, none, none]) rfl ?_
                            refine x_wid (c1 := (c5 + 647)) (s1 := (s5 + 6434)) (by omega) (by omega) ?_
                            exact hj19 _
                          · refine x_aload dL_law_913 rfl ?_
                            refine x_iconst (v := 3) dL_law_915 (by decide) ?_
                            refine x_aload dL_law_916 rfl ?_
                            refine x_iconst (v := 1) dL_law_918 (by decide) ?_
                            refine y_iald hz_204 hn_204 dL_law_919 (fun hi => ?_)
                            refine x_imul dL_law_920 ?_
                            refine x_iload dL_law_921 rfl ?_
                            refine y_iast hz_203 hn_203 dL_law_923 (fun hi => ?_)
                            refine y_letM (fun m196 => ?_)
                            refine x_aload dL_law_924 rfl ?_
                            refine x_iconst (v := 3) dL_law_926 (by decide) ?_
                            refine x_aload dL_law_927 rfl ?_
                            refine x_iconst (v := 1) dL_law_929 (by decide) ?_
                            refine y_iald hz_204 hn_204 dL_law_930 (fun hi => ?_)
                            refine x_imul dL_law_931 ?_
                            refine x_iconst (v := 1) dL_law_932 (by decide) ?_
                            refine x_iadd dL_law_933 ?_
                            refine x_iload dL_law_934 rfl ?_
                            refine y_iast hz_203 hn_203 dL_law_936 (fun hi => ?_)
                            refine y_letM (fun m197 => ?_)
                            refine x_aload dL_law_937 rfl ?_
                            refine x_iconst (v := 3) dL_law_939 (by decide) ?_
                            refine x_aload dL_law_940 rfl ?_
                            refine x_iconst (v := 1) dL_law_942 (by decide) ?_
                            refine y_iald hz_204 hn_204 dL_law_943 (fun hi => ?_)
                            refine x_imul dL_law_944 ?_
                            refine x_iconst (v := 2) dL_law_945 (by decide) ?_
                            refine x_iadd dL_law_946 ?_
                            refine x_iload dL_law_947 rfl ?_
                            refine y_iast hz_203 hn_203 dL_law_949 (fun hi => ?_)
                            refine y_letM (fun m198 => ?_)
                            refine x_aload dL_law_950 rfl ?_
                            refine x_iconst (v := 1) dL_law_952 (by decide) ?_
                            refine x_dup2 dL_law_953 rfl rfl ?_
                            refine y_iald hz_204 hn_204 dL_law_954 (fun hi => ?_)
                            refine x_iconst (v := 1) dL_law_955 (by decide) ?_
                            refine x_iadd dL_law_956 ?_
                            refine y_iast hz_204 hn_204 dL_law_957 (fun hi => ?_)
                            refine y_letM (fun m199 => ?_)
                            refine x_aload_n dL_law_958 rfl ?_
                            refine x_iload dL_law_959 rfl ?_
                            refine x_iload dL_law_961 rfl ?_
                            refine x_iload dL_law_963 rfl ?_
                            refine y_callVI (rest := []) (c1 := c5) (s1 := s5) (cn_Loo_dispense ω x14 x188 x184 m199) mv_RL_79 hz_16 rfl (Nat.le_of_ble_eq_true rfl) (Nat.le_of_ble_eq_true rfl) (Nat.le_of_ble_eq_true rfl) ⟨rfl, rfl⟩ ⟨by omega, by omega⟩ dL_law_965 (fun v201 m200 => ?_)
                            refine x_aload dL_law_968 rfl ?_
                            refine x_iconst (v := 1) dL_law_970 (by decide) ?_
                            refine y_iald hz_204 hn_204 dL_law_971 (fun hi => ?_)
                            refine x_icmp_eq (tgt := 977) dL_law_972 (by decide) (fun hc202 => ?_) (fun hc202 => ?_)
                            · refine x_iload dL_law_977 rfl ?_
                              refine x_istore (ls' := [some (.ref (oX ω 1)), some (.ref (zad ω 16)), some (.ref (zad ω 201)), some (.ref (zad ω 202)), some (.ref (zad ω 203)), some (.ref (zad ω 204)), some (.ref (zad ω 205)), some (.ref (zad ω 206)), some (.int x2), none, none, none, none, some (.int x14), some (.int x188), some (.int x184), some (.int x188), some (.int x190), some (.int x191), none, none, none, none, none]) dL_law_979 (Nat.le_of_ble_eq_true rfl) rfl ?_
                              refine x_goto (tgt := 1935) dL_law_981 (by decide) ?_
                              refine y_mask (bs := [true, true, true, true, true, true, true, true, true, false, false, false, false, false, true, false, false, false, false, false, false, false, false, false]) (ls' := [some (.ref (oX ω 1)), some (.ref (zad ω 16)), some (.ref (zad ω 201)), some (.ref (zad ω 202)), some (.ref (zad ω 203)), some (.ref (zad ω 204)), some (.ref (zad ω 205)), some (.ref (zad ω 206)), some (.int x2), none, none, none, none, none, some (.int x188), none, none, none, none, none, none, none, none, none]) rfl ?_
                              refine x_wid (c1 := (c5 + 635)) (s1 := (s5 + 6338)) (by omega) (by omega) ?_
                              exact hj23 _ _
                            · refine x_iconst (v := 0) dL_law_975 (by decide) ?_
                              exact x_zretF zXt.refl rfl rfl (zBo_nar (by decide)) ⟨by omega, by omega⟩ dL_law_976
                        · refine x_aload_n dL_law_884 rfl ?_
                          refine x_iconst (v := 0) dL_law_885 (by decide) ?_
                          refine x_iload dL_law_886 rfl ?_
                          refine x_iload dL_law_888 rfl ?_
                          refine x_iload dL_law_890 rfl ?_
                          refine y_callSH (rest := []) (c1 := (c5 + 3)) (s1 := (s5 + 18)) (c_Law_refused ω 0 x14 x188 x184 m4) mh_RL_169 rfl (Nat.le_of_ble_eq_true rfl) (Nat.le_of_ble_eq_true rfl) (Nat.le_of_ble_eq_true rfl) ⟨rfl, rfl⟩ ⟨by omega, by omega⟩ dL_law_892 (fun v204 m203 => ?_)
                          refine x_iconst (v := 3) dL_law_895 (by decide) ?_
                          refine x_icmp_eq (tgt := 1954) dL_law_896 (by decide) (fun hc205 => ?_) (fun hc205 => ?_)
                          · refine y_mask (bs := [true, true, true, true, true, true, true, true, true, false, false, false, false, false, false, false, false, false, false, false, false, false, false, false]) (ls' := [some (.ref (oX ω 1)), some (.ref (zad ω 16)), some (.ref (zad ω 201)), some (.ref (zad ω 202)), some (.ref (zad ω 203)), some (.ref (zad ω 204)), some (.ref (zad ω 205)), some (.ref (zad ω 206)), some (.int x2), none, none, none, none, none, none, none, none, none, none, none, none, none, none, none]) rfl ?_
                            refine x_wid (c1 := (c5 + 647)) (s1 := (s5 + 6434)) (by omega) (by omega) ?_
                            exact hj19 _
                          · refine x_iconst (v := 0) dL_law_899 (by decide) ?_
                            exact x_zretF zXt.refl rfl rfl (zBo_nar (by decide)) ⟨by omega, by omega⟩ dL_law_900
                      · refine x_aload dL_law_824 rfl ?_
                        refine x_iconst (v := 3) dL_law_826 (by decide) ?_
                        refine x_iload dL_law_827 rfl ?_
                        refine x_imul dL_law_829 ?_
                        refine y_iald hz_203 hn_203 dL_law_830 (fun hi => ?_)
                        refine x_iload dL_law_831 rfl ?_
                        refine y_join (fun j208 => ∀ (x207 : Int32), Sx ω ω true 112 19601 198013 kk_Law_law fI c5 s5 m4 873 [some (.ref (oX ω 1)), some (.ref (zad ω 16)), some (.ref (zad ω 201)), some (.ref (zad ω 202)), some (.ref (zad ω 203)), some (.ref (zad ω 204)), some (.ref (zad ω 205)), some (.ref (zad ω 206)), some (.int x2), none, none, none, none, some (.int x14), none, some (.int x184), some (.int x188), some (.int x207), some (.int x191), none, none, none, none, none] [] (j208 x207)) ?_ (fun j208 hj208 => ?_)
                        · intro x207
                          refine y_iinc (w := 1) dL_law_873 rfl (by decide) (Nat.le_of_ble_eq_true rfl) (fun x209 => ?_)
                          refine x_goto (tgt := 815) dL_law_876 (by decide) ?_
                          exact hr192 _ _
                        · refine x_icmp_ne (tgt := 873) dL_law_833 (by decide) (fun hc206 => ?_) (fun hc206 => ?_)
                          · refine x_aload dL_law_836 rfl ?_
                            refine x_iconst (v := 3) dL_law_838 (by decide) ?_
                            refine x_iload dL_law_839 rfl ?_
                            refine x_imul dL_law_841 ?_
                            refine x_iconst (v := 1) dL_law_842 (by decide) ?_
                            refine x_iadd dL_law_843 ?_
                            refine y_iald hz_203 hn_203 dL_law_844 (fun hi => ?_)
                            refine x_iload dL_law_845 rfl ?_
                            refine x_isub dL_law_847 ?_
                            refine x_bipush (v := 10) dL_law_848 (by decide) ?_
                            refine x_icmp_ge (tgt := 873) dL_law_850 (by decide) (fun hc210 => ?_) (fun hc210 => ?_)
                            · exact hj208 _
                            · refine x_iload dL_law_853 rfl ?_
                              refine x_aload dL_law_855 rfl ?_
                              refine x_iconst (v := 3) dL_law_857 (by decide) ?_
                              refine x_iload dL_law_858 rfl ?_
                              refine x_imul dL_law_860 ?_
                              refine x_iconst (v := 1) dL_law_861 (by decide) ?_
                              refine x_iadd dL_law_862 ?_
                              refine y_iald hz_203 hn_203 dL_law_863 (fun hi => ?_)
                              refine x_isub dL_law_864 ?_
                              refine x_bipush (v := 10) dL_law_865 (by decide) ?_
                              refine x_icmp_ge (tgt := 873) dL_law_867 (by decide) (fun hc211 => ?_) (fun hc211 => ?_)
                              · exact hj208 _
                              · refine x_iconst (v := 3) dL_law_870 (by decide) ?_
                                refine x_istore (ls' := [some (.ref (oX ω 1)), some (.ref (zad ω 16)), some (.ref (zad ω 201)), some (.ref (zad ω 202)), some (.ref (zad ω 203)), some (.ref (zad ω 204)), some (.ref (zad ω 205)), some (.ref (zad ω 206)), some (.int x2), none, none, none, none, some (.int x14), none, some (.int x184), some (.int x188), some (.int 3), some (.int x191), none, none, none, none, none]) dL_law_871 (Nat.le_of_ble_eq_true rfl) rfl ?_
                                exact hj208 _
                          · exact hj208 _
                    · refine x_if_ne (tgt := 805) dL_law_797 (by decide) (fun hc187 => ?_) (fun hc187 => ?_)
                      · refine x_bipush (v := 40) dL_law_800 (by decide) ?_
                        refine x_goto (tgt := 807) dL_law_802 (by decide) ?_
                        refine y_mask (bs := [true, true, true, true, true, true, true, true, true, false, false, false, false, true, false, true, false, false, false, false, false, false, false, false]) (ls' := [some (.ref (oX ω 1)), some (.ref (zad ω 16)), some (.ref (zad ω 201)), some (.ref (zad ω 202)), some (.ref (zad ω 203)), some (.ref (zad ω 204)), some (.ref (zad ω 205)), some (.ref (zad ω 206)), some (.int x2), none, none, none, none, some (.int x14), none, some (.int x184), none, none, none, none, none, none, none, none]) rfl ?_
                        exact hj189 _
                      · refine x_iload dL_law_805 rfl ?_
                        refine y_mask (bs := [true, true, true, true, true, true, true, true, true, false, false, false, false, true, false, true, false, false, false, false, false, false, false, false]) (ls' := [some (.ref (oX ω 1)), some (.ref (zad ω 16)), some (.ref (zad ω 201)), some (.ref (zad ω 202)), some (.ref (zad ω 203)), some (.ref (zad ω 204)), some (.ref (zad ω 205)), some (.ref (zad ω 206)), some (.int x2), none, none, none, none, some (.int x14), none, some (.int x184), none, none, none, none, none, none, none, none]) rfl ?_
                        exact hj189 _
                  · refine x_if_ne (tgt := 774) dL_law_766 (by decide) (fun hc183 => ?_) (fun hc183 => ?_)
                    · refine x_bipush (v := 99) dL_law_769 (by decide) ?_
                      refine x_goto (tgt := 786) dL_law_771 (by decide) ?_
                      refine y_mask (bs := [true, true, true, true, true, true, true, true, true, true, false, false, false, true, true, false, false, false, false, false, false, false, false, false]) (ls' := [some (.ref (oX ω 1)), some (.ref (zad ω 16)), some (.ref (zad ω 201)), some (.ref (zad ω 202)), some (.ref (zad ω 203)), some (.ref (zad ω 204)), some (.ref (zad ω 205)), some (.ref (zad ω 206)), some (.int x2), some (.int v7), none, none, none, some (.int x14), some (.int v16), none, none, none, none, none, none, none, none, none]) rfl ?_
                      exact hj185 _
                    · refine x_iload dL_law_774 rfl ?_
                      refine x_iconst (v := 3) dL_law_776 (by decide) ?_
                      refine x_ishr dL_law_777 ?_
                      refine x_bipush (v := 61) dL_law_778 (by decide) ?_
                      refine y_callSP (rest := []) (c1 := c5) (s1 := s5) (c_Law_low ω (v8 >>> (3 &&& 31)) 61 m4) ms_RL_76 rfl (Nat.le_of_ble_eq_true rfl) (Nat.le_of_ble_eq_true rfl) (Nat.le_of_ble_eq_true rfl) ⟨rfl, rfl⟩ ⟨by omega, by omega⟩ dL_law_780 (fun v212 => ?_)
                      refine x_bipush (v := 30) dL_law_783 (by decide) ?_
                      refine x_isub dL_law_785 ?_
                      refine y_mask (bs := [true, true, true, true, true, true, true, true, true, true, false, false, false, true, true, false, false, false, false, false, false, false, false, false]) (ls' := [some (.ref (oX ω 1)), some (.ref (zad ω 16)), some (.ref (zad ω 201)), some (.ref (zad ω 202)), some (.ref (zad ω 203)), some (.ref (zad ω 204)), some (.ref (zad ω 205)), some (.ref (zad ω 206)), some (.int x2), some (.int v7), none, none, none, some (.int x14), some (.int v16), none, none, none, none, none, none, none, none, none]) rfl ?_
                      exact hj185 _
            · refine x_aload dL_law_152 rfl ?_
              refine x_iconst (v := 0) dL_law_154 (by decide) ?_
              refine y_iald hz_204 hn_204 dL_law_155 (fun hi => ?_)
              refine x_bipush (v := 10) dL_law_156 (by decide) ?_
              refine x_icmp_ne (tgt := 164) dL_law_158 (by decide) (fun hc222 => ?_) (fun hc222 => ?_)
              · refine x_goto (tgt := 1954) dL_law_161 (by decide) ?_
                refine y_mask (bs := [true, true, true, true, true, true, true, true, true, false, false, false, false, false, false, false, false, false, false, false, false, false, false, false]) (ls' := [some (.ref (oX ω 1)), some (.ref (zad ω 16)), some (.ref (zad ω 201)), some (.ref (zad ω 202)), some (.ref (zad ω 203)), some (.ref (zad ω 204)), some (.ref (zad ω 205)), some (.ref (zad ω 206)), some (.int x2), none, none, none, none, none, none, none, none, none, none, none, none, none, none, none]) rfl ?_
                refine x_wid (c1 := (c5 + 647)) (s1 := (s5 + 6434)) (by omega) (by omega) ?_
                exact hj19 _
              · refine x_bipush (v := 6) dL_law_164 (by decide) ?_
                refine x_aload dL_law_166 rfl ?_
                refine x_iconst (v := 0) dL_law_168 (by decide) ?_
                refine y_iald hz_204 hn_204 dL_law_169 (fun hi => ?_)
                refine x_imul dL_law_170 ?_
                refine y_letI (fun x223 => ?_)
                refine x_istore (ls' := [some (.ref (oX ω 1)), some (.ref (zad ω 16)), some (.ref (zad ω 201)), some (.ref (zad ω 202)), some (.ref (zad ω 203)), some (.ref (zad ω 204)), some (.ref (zad ω 205)), some (.ref (zad ω 206)), some (.int x2), some (.int v7), some (.int v8), some (.int v9), some (.int x11), some (.int x14), some (.int v16), some (.int x223), none, none, none, none, none, none, none, none]) dL_law_171 (Nat.le_of_ble_eq_true rfl) rfl ?_
                refine x_iload dL_law_173 rfl ?_
                refine x_bipush (v := 7) dL_law_175 (by decide) ?_
                refine x_ishr dL_law_177 ?_
                refine x_aload dL_law_178 rfl ?_
                refine x_iconst (v := 0) dL_law_180 (by decide) ?_
                refine y_iald hz_204 hn_204 dL_law_181 (fun hi => ?_)
                refine y_join (fun j226 => ∀ (x225 : Int32), Sx ω ω true 112 19601 198013 kk_Law_law fI c5 s5 m4 190 [some (.ref (oX ω 1)), some (.ref (zad ω 16)), some (.ref (zad ω 201)), some (.ref (zad ω 202)), some (.ref (zad ω 203)), some (.ref (zad ω 204)), some (.ref (zad ω 205)), some (.ref (zad ω 206)), some (.int x2), some (.int v7), some (.int v8), some (.int v9), none, some (.int x14), some (.int v16), some (.int x223), none, none, none, none, none, none, none, none] [.int x225, .int (v7 >>> (7 &&& 31))] (j226 x225)) ?_ (fun j226 hj226 => ?_)
                · intro x225
                  refine y_callSP (rest := []) (c1 := c5) (s1 := s5) (c_Law_low ω (v7 >>> (7 &&& 31)) x225 m4) ms_RL_76 rfl (Nat.le_of_ble_eq_true rfl) (Nat.le_of_ble_eq_true rfl) (Nat.le_of_ble_eq_true rfl) ⟨rfl, rfl⟩ ⟨by omega, by omega⟩ dL_law_190 (fun v227 => ?_)
                  refine x_istore (ls' := [some (.ref (oX ω 1)), some (.ref (zad ω 16)), some (.ref (zad ω 201)), some (.ref (zad ω 202)), some (.ref (zad ω 203)), some (.ref (zad ω 204)), some (.ref (zad ω 205)), some (.ref (zad ω 206)), some (.int x2), some (.int v7), some (.int v8), some (.int v9), none, some (.int x14), some (.int v16), some (.int x223), some (.int v227), none, none, none, none, none, none, none]) dL_law_193 (Nat.le_of_ble_eq_true rfl) rfl ?_
                  refine x_aload_n dL_law_195 rfl ?_
                  refine x_iload dL_law_196 rfl ?_
                  refine x_iload dL_law_198 rfl ?_
                  refine y_join (fun j230 => ∀ (x229 : Int32), Sx ω ω true 112 19601 198013 kk_Law_law fI c5 s5 m4 309 [some (.ref (oX ω 1)), some (.ref (zad ω 16)), some (.ref (zad ω 201)), some (.ref (zad ω 202)), some (.ref (zad ω 203)), some (.ref (zad ω 204)), some (.ref (zad ω 205)), some (.ref (zad ω 206)), some (.int x2), some (.int v7), some (.int v8), some (.int v9), none, some (.int x14), some (.int v16), some (.int x223), none, none, none, none, none, none, none, none] [.int x229, .int x223, .ref (zad ω 201)] (j230 x229)) ?_ (fun j230 hj230 => ?_)
                  · intro x229
                    refine y_iast hz_201 hn_201 dL_law_309 (fun hi => ?_)
                    refine y_letM (fun m231 => ?_)
                    refine x_iload dL_law_310 rfl ?_
                    refine x_bipush (v := 10) dL_law_312 (by decide) ?_
                    refine x_ishr dL_law_314 ?_
                    refine x_bipush (v := 7) dL_law_315 (by decide) ?_
                    refine y_callSP (rest := []) (c1 := c5) (s1 := s5) (c_Law_low ω (v7 >>> (10 &&& 31)) 7 m231) ms_RL_76 rfl (Nat.le_of_ble_eq_true rfl) (Nat.le_of_ble_eq_true rfl) (Nat.le_of_ble_eq_true rfl) ⟨rfl, rfl⟩ ⟨by omega, by omega⟩ dL_law_317 (fun v232 => ?_)
                    refine x_istore (ls' := [some (.ref (oX ω 1)), some (.ref (zad ω 16)), some (.ref (zad ω 201)), some (.ref (zad ω 202)), some (.ref (zad ω 203)), some (.ref (zad ω 204)), some (.ref (zad ω 205)), some (.ref (zad ω 206)), some (.int x2), some (.int v7), some (.int v8), some (.int v9), none, some (.int x14), some (.int v16), some (.int x223), none, some (.int v232), none, none, none, none, none, none]) dL_law_320 (Nat.le_of_ble_eq_true rfl) rfl ?_
                    refine x_aload_n dL_law_322 rfl ?_
                    refine x_iload dL_law_323 rfl ?_
                    refine x_iconst (v := 1) dL_law_325 (by decide) ?_
                    refine x_iadd dL_law_326 ?_
                    refine x_iload dL_law_327 rfl ?_
                    refine y_join (fun j235 => ∀ (x234 : Int32), Sx ω ω true 112 19601 198013 kk_Law_law fI c5 s5 m231 401 [some (.ref (oX ω 1)), some (.ref (zad ω 16)), some (.ref (zad ω 201)), some (.ref (zad ω 202)), some (.ref (zad ω 203)), some (.ref (zad ω 204)), some (.ref (zad ω 205)), some (.ref (zad ω 206)), some (.int x2), some (.int v7), some (.int v8), some (.int v9), none, none, some (.int v16), some (.int x223), none, none, none, none, none, none, none, none] [.int x234, .int (x223 + 1), .ref (zad ω 201)] (j235 x234)) ?_ (fun j235 hj235 => ?_)
                    · intro x234
                      refine y_iast hz_201 hn_201 dL_law_401 (fun hi => ?_)
                      refine y_letM (fun m236 => ?_)
                      refine x_iload dL_law_402 rfl ?_
                      refine x_bipush (v := 13) dL_law_404 (by decide) ?_
                      refine x_ishr dL_law_406 ?_
                      refine x_iconst (v := 2) dL_law_407 (by decide) ?_
                      refine y_callSP (rest := []) (c1 := c5) (s1 := s5) (c_Law_low ω (v7 >>> (13 &&& 31)) 2 m236) ms_RL_76 rfl (Nat.le_of_ble_eq_true rfl) (Nat.le_of_ble_eq_true rfl) (Nat.le_of_ble_eq_true rfl) ⟨rfl, rfl⟩ ⟨by omega, by omega⟩ dL_law_408 (fun v237 => ?_)
                      refine y_join (fun j240 => ∀ (m239 : Mm), Sx ω ω true 112 19601 198013 kk_Law_law fI c5 s5 m239 427 [some (.ref (oX ω 1)), some (.ref (zad ω 16)), some (.ref (zad ω 201)), some (.ref (zad ω 202)), some (.ref (zad ω 203)), some (.ref (zad ω 204)), some (.ref (zad ω 205)), some (.ref (zad ω 206)), some (.int x2), some (.int v7), some (.int v8), some (.int v9), none, none, some (.int v16), some (.int x223), none, none, none, none, none, none, none, none] [] (j240 m239)) ?_ (fun j240 hj240 => ?_)
                      · intro m239
                        refine x_aload_n dL_law_427 rfl ?_
                        refine x_iload dL_law_428 rfl ?_
                        refine x_iconst (v := 2) dL_law_430 (by decide) ?_
                        refine x_iadd dL_law_431 ?_
                        refine x_iload dL_law_432 rfl ?_
                        refine y_callSP (rest := [.int (x223 + 2), .ref (zad ω 201)]) (c1 := c5) (s1 := s5) (c_Law_drawStep ω v9 m239) ms_RL_151 rfl (Nat.le_of_ble_eq_true rfl) (Nat.le_of_ble_eq_true rfl) (Nat.le_of_ble_eq_true rfl) ⟨rfl, rfl⟩ ⟨by omega, by omega⟩ dL_law_434 (fun v241 => ?_)
                        refine y_iast hz_201 hn_201 dL_law_437 (fun hi => ?_)
                        refine y_letM (fun m242 => ?_)
                        refine x_aload_n dL_law_438 rfl ?_
                        refine x_iload dL_law_439 rfl ?_
                        refine x_iconst (v := 3) dL_law_441 (by decide) ?_
                        refine x_iadd dL_law_442 ?_
                        refine x_iload dL_law_443 rfl ?_
                        refine x_bipush (v := 14) dL_law_445 (by decide) ?_
                        refine x_ishr dL_law_447 ?_
                        refine x_iconst (v := 2) dL_law_448 (by decide) ?_
                        refine y_callSP (rest := [.int (x223 + 3), .ref (zad ω 201)]) (c1 := c5) (s1 := s5) (c_Law_low ω (v7 >>> (14 &&& 31)) 2 m242) ms_RL_76 rfl (Nat.le_of_ble_eq_true rfl) (Nat.le_of_ble_eq_true rfl) (Nat.le_of_ble_eq_true rfl) ⟨rfl, rfl⟩ ⟨by omega, by omega⟩ dL_law_449 (fun v243 => ?_)
                        refine y_join (fun j246 => ∀ (x245 : Int32), Sx ω ω true 112 19601 198013 kk_Law_law fI c5 s5 m242 467 [some (.ref (oX ω 1)), some (.ref (zad ω 16)), some (.ref (zad ω 201)), some (.ref (zad ω 202)), some (.ref (zad ω 203)), some (.ref (zad ω 204)), some (.ref (zad ω 205)), some (.ref (zad ω 206)), some (.int x2), some (.int v7), some (.int v8), none, none, none, some (.int v16), some (.int x223), none, none, none, none, none, none, none, none] [.int x245, .int (x223 + 3), .ref (zad ω 201)] (j246 x245)) ?_ (fun j246 hj246 => ?_)
                        · intro x245
                          refine y_iast hz_201 hn_201 dL_law_467 (fun hi => ?_)
                          refine y_letM (fun m247 => ?_)
                          refine x_aload_n dL_law_468 rfl ?_
                          refine x_iload dL_law_469 rfl ?_
                          refine x_iconst (v := 4) dL_law_471 (by decide) ?_
                          refine x_iadd dL_law_472 ?_
                          refine x_iload dL_law_473 rfl ?_
                          refine x_bipush (v := 15) dL_law_475 (by decide) ?_
                          refine x_ishr dL_law_477 ?_
                          refine x_iconst (v := 2) dL_law_478 (by decide) ?_
                          refine y_callSP (rest := [.int (x223 + 4), .ref (zad ω 201)]) (c1 := c5) (s1 := s5) (c_Law_low ω (v7 >>> (15 &&& 31)) 2 m247) ms_RL_76 rfl (Nat.le_of_ble_eq_true rfl) (Nat.le_of_ble_eq_true rfl) (Nat.le_of_ble_eq_true rfl) ⟨rfl, rfl⟩ ⟨by omega, by omega⟩ dL_law_479 (fun v248 => ?_)
                          refine y_join (fun j251 => ∀ (x250 : Int32), Sx ω ω true 112 19601 198013 kk_Law_law fI c5 s5 m247 497 [some (.ref (oX ω 1)), some (.ref (zad ω 16)), some (.ref (zad ω 201)), some (.ref (zad ω 202)), some (.ref (zad ω 203)), some (.ref (zad ω 204)), some (.ref (zad ω 205)), some (.ref (zad ω 206)), some (.int x2), some (.int v7), some (.int v8), none, none, none, some (.int v16), some (.int x223), none, none, none, none, none, none, none, none] [.int x250, .int (x223 + 4), .ref (zad ω 201)] (j251 x250)) ?_ (fun j251 hj251 => ?_)
                          · intro x250
                            refine y_iast hz_201 hn_201 dL_law_497 (fun hi => ?_)
                            refine y_letM (fun m252 => ?_)
                            refine x_aload_n dL_law_498 rfl ?_
                            refine x_iload dL_law_499 rfl ?_
                            refine x_iconst (v := 5) dL_law_501 (by decide) ?_
                            refine x_iadd dL_law_502 ?_
                            refine x_iload dL_law_503 rfl ?_
                            refine x_bipush (v := 16) dL_law_505 (by decide) ?_
                            refine x_ishr dL_law_507 ?_
                            refine x_iconst (v := 3) dL_law_508 (by decide) ?_
                            refine y_callSP (rest := [.int (x223 + 5), .ref (zad ω 201)]) (c1 := c5) (s1 := s5) (c_Law_low ω (v7 >>> (16 &&& 31)) 3 m252) ms_RL_76 rfl (Nat.le_of_ble_eq_true rfl) (Nat.le_of_ble_eq_true rfl) (Nat.le_of_ble_eq_true rfl) ⟨rfl, rfl⟩ ⟨by omega, by omega⟩ dL_law_509 (fun v253 => ?_)
                            refine y_join (fun j256 => ∀ (x255 : Int32), Sx ω ω true 112 19601 198013 kk_Law_law fI c5 s5 m252 527 [some (.ref (oX ω 1)), some (.ref (zad ω 16)), some (.ref (zad ω 201)), some (.ref (zad ω 202)), some (.ref (zad ω 203)), some (.ref (zad ω 204)), some (.ref (zad ω 205)), some (.ref (zad ω 206)), some (.int x2), some (.int v7), none, none, none, none, some (.int v16), some (.int x223), none, none, none, none, none, none, none, none] [.int x255, .int (x223 + 5), .ref (zad ω 201)] (j256 x255)) ?_ (fun j256 hj256 => ?_)
                            · intro x255
                              refine y_iast hz_201 hn_201 dL_law_527 (fun hi => ?_)
                              refine y_letM (fun m257 => ?_)
                              refine x_aload_n dL_law_528 rfl ?_
                              refine x_iload dL_law_529 rfl ?_
                              refine x_iconst (v := 4) dL_law_531 (by decide) ?_
                              refine x_iadd dL_law_532 ?_
                              refine y_iald hz_201 hn_201 dL_law_533 (fun hi => ?_)
                              refine x_sipush (v := 1000) dL_law_534 (by decide) ?_
                              refine x_idiv dL_law_537 (by decide) ?_
                              refine x_iconst (v := 1) dL_law_538 (by decide) ?_
                              refine y_join (fun j260 => ∀ (m259 : Mm), Sx ω ω true 112 19601 198013 kk_Law_law fI c5 s5 m259 560 [some (.ref (oX ω 1)), some (.ref (zad ω 16)), some (.ref (zad ω 201)), some (.ref (zad ω 202)), some (.ref (zad ω 203)), some (.ref (zad ω 204)), some (.ref (zad ω 205)), some (.ref (zad ω 206)), some (.int x2), some (.int v7), none, none, none, none, some (.int v16), some (.int x223), none, none, none, none, none, none, none, none] [] (j260 m259)) ?_ (fun j260 hj260 => ?_)
                              · intro m259
                                refine x_aload_n dL_law_560 rfl ?_
                                refine x_iload dL_law_561 rfl ?_
                                refine x_iconst (v := 5) dL_law_563 (by decide) ?_
                                refine x_iadd dL_law_564 ?_
                                refine y_iald hz_201 hn_201 dL_law_565 (fun hi => ?_)
                                refine x_sipush (v := 1000) dL_law_566 (by decide) ?_
                                refine x_idiv dL_law_569 (by decide) ?_
                                refine x_iconst (v := 1) dL_law_570 (by decide) ?_
                                refine y_join (fun j263 => ∀ (m262 : Mm), Sx ω ω true 112 19601 198013 kk_Law_law fI c5 s5 m262 583 [some (.ref (oX ω 1)), some (.ref (zad ω 16)), some (.ref (zad ω 201)), some (.ref (zad ω 202)), some (.ref (zad ω 203)), some (.ref (zad ω 204)), some (.ref (zad ω 205)), some (.ref (zad ω 206)), some (.int x2), some (.int v7), none, none, none, none, some (.int v16), none, none, none, none, none, none, none, none, none] [] (j263 m262)) ?_ (fun j263 hj263 => ?_)
                                · intro m262
                                  refine x_aload_n dL_law_583 rfl ?_
                                  refine x_aload_n dL_law_584 rfl ?_
                                  refine x_aload dL_law_585 rfl ?_
                                  refine x_iconst (v := 0) dL_law_587 (by decide) ?_
                                  refine y_iald hz_204 hn_204 dL_law_588 (fun hi => ?_)
                                  refine y_callSV (rest := []) (c1 := c5) (s1 := s5) (c_Law_rule ω (zI m262 204 (zIx 0)) m262) ms_RL_154 rfl (Nat.le_of_ble_eq_true rfl) (Nat.le_of_ble_eq_true rfl) (Nat.le_of_ble_eq_true rfl) ⟨rfl, rfl⟩ ⟨by omega, by omega⟩ dL_law_589 (fun m264 => ?_)
                                  refine x_aload_n dL_law_592 rfl ?_
                                  refine x_aload dL_law_593 rfl ?_
                                  refine x_iconst (v := 0) dL_law_595 (by decide) ?_
                                  refine y_iald hz_204 hn_204 dL_law_596 (fun hi => ?_)
                                  refine x_iconst (v := 2) dL_law_597 (by decide) ?_
                                  refine x_iload dL_law_598 rfl ?_
                                  refine x_bipush (v := 18) dL_law_600 (by decide) ?_
                                  refine x_ishr dL_law_602 ?_
                                  refine x_bipush (v := 10) dL_law_603 (by decide) ?_
                                  refine y_callSP (rest := [.int 2, .int (zI m264 204 (zIx 0)), .ref (zad ω 202)]) (c1 := c5) (s1 := s5) (c_Law_low ω (v7 >>> (18 &&& 31)) 10 m264) ms_RL_76 rfl (Nat.le_of_ble_eq_true rfl) (Nat.le_of_ble_eq_true rfl) (Nat.le_of_ble_eq_true rfl) ⟨rfl, rfl⟩ ⟨by omega, by omega⟩ dL_law_605 (fun v265 => ?_)
                                  refine x_imul dL_law_608 ?_
                                  refine x_iload dL_law_609 rfl ?_
                                  refine x_bipush (v := 22) dL_law_611 (by decide) ?_
                                  refine x_ishr dL_law_613 ?_
                                  refine x_iconst (v := 2) dL_law_614 (by decide) ?_
                                  refine y_callSP (rest := [.int (2 * v265), .int (zI m264 204 (zIx 0)), .ref (zad ω 202)]) (c1 := c5) (s1 := s5) (c_Law_low ω (v7 >>> (22 &&& 31)) 2 m264) ms_RL_76 rfl (Nat.le_of_ble_eq_true rfl) (Nat.le_of_ble_eq_true rfl) (Nat.le_of_ble_eq_true rfl) ⟨rfl, rfl⟩ ⟨by omega, by omega⟩ dL_law_615 (fun v266 => ?_)
                                  refine x_iadd dL_law_618 ?_
                                  refine y_iast hz_202 hn_202 dL_law_619 (fun hi => ?_)
                                  refine y_letM (fun m267 => ?_)
                                  refine x_aload dL_law_620 rfl ?_
                                  refine x_iconst (v := 0) dL_law_622 (by decide) ?_
                                  refine x_dup2 dL_law_623 rfl rfl ?_
                                  refine y_iald hz_204 hn_204 dL_law_624 (fun hi => ?_)
                                  refine x_iconst (v := 1) dL_law_625 (by decide) ?_
                                  refine x_iadd dL_law_626 ?_
                                  refine y_iast hz_204 hn_204 dL_law_627 (fun hi => ?_)
                                  refine y_letM (fun m268 => ?_)
                                  refine x_aload_n dL_law_628 rfl ?_
                                  refine y_callVI (rest := []) (c1 := c5) (s1 := s5) (c_Loo_fault ω m268) mv_RL_158 hz_16 rfl (Nat.le_of_ble_eq_true rfl) (Nat.le_of_ble_eq_true rfl) (Nat.le_of_ble_eq_true rfl) ⟨rfl, rfl⟩ ⟨by omega, by omega⟩ dL_law_629 (fun v270 m269 => ?_)
                                  refine x_iconst (v := (-1)) dL_law_632 (by decide) ?_
                                  refine x_icmp_ne (tgt := 685) dL_law_633 (by decide) (fun hc271 => ?_) (fun hc271 => ?_)
                                  · refine x_aload_n dL_law_636 rfl ?_
                                    refine x_aload_n dL_law_637 rfl ?_
                                    refine x_aload dL_law_638 rfl ?_
                                    refine x_iconst (v := 0) dL_law_640 (by decide) ?_
                                    refine y_iald hz_204 hn_204 dL_law_641 (fun hi => ?_)
                                    refine x_iconst (v := 1) dL_law_642 (by decide) ?_
                                    refine x_isub dL_law_643 ?_
                                    refine y_iald hz_202 hn_202 dL_law_644 (fun hi => ?_)
                                    refine x_iconst (v := 2) dL_law_645 (by decide) ?_
                                    refine x_idiv dL_law_646 (by decide) ?_
                                    refine x_aload_n dL_law_647 rfl ?_
                                    refine x_aload dL_law_648 rfl ?_
                                    refine x_iconst (v := 0) dL_law_650 (by decide) ?_
                                    refine y_iald hz_204 hn_204 dL_law_651 (fun hi => ?_)
                                    refine x_iconst (v := 1) dL_law_652 (by decide) ?_
                                    refine x_isub dL_law_653 ?_
                                    refine y_iald hz_202 hn_202 dL_law_654 (fun hi => ?_)
                                    refine x_iconst (v := 2) dL_law_655 (by decide) ?_
                                    refine x_irem dL_law_656 (by decide) ?_
                                    refine x_iconst (v := 1) dL_law_657 (by decide) ?_
                                    refine y_join (fun j274 => ∀ (x273 : Int32), Sx ω ω true 112 19601 198013 kk_Law_law fI c5 s5 m269 666 [some (.ref (oX ω 1)), some (.ref (zad ω 16)), some (.ref (zad ω 201)), some (.ref (zad ω 202)), some (.ref (zad ω 203)), some (.ref (zad ω 204)), some (.ref (zad ω 205)), some (.ref (zad ω 206)), some (.int x2), none, none, none, none, none, some (.int v16), none, none, none, none, none, none, none, none, none] [.int x273, .int ((zI m269 202 (zIx ((zI m269 204 (zIx 0)) - 1))) / 2), .ref (zad ω 16)] (j274 x273)) ?_ (fun j274 hj274 => ?_)
                                    · intro x273
                                      refine y_callVI (rest := []) (c1 := c5) (s1 := s5) (cn_Loo_feast ω ((zI m269 202 (zIx ((zI m269 204 (zIx 0)) - 1))) / 2) x273 m269) mv_RL_89 hz_16 rfl (Nat.le_of_ble_eq_true rfl) (Nat.le_of_ble_eq_true rfl) (Nat.le_of_ble_eq_true rfl) ⟨rfl, rfl⟩ ⟨by omega, by omega⟩ dL_law_666 (fun v276 m275 => ?_)
                                      refine x_aload dL_law_669 rfl ?_
                                      refine x_iconst (v := 0) dL_law_671 (by decide) ?_
                                      refine y_iald hz_204 hn_204 dL_law_672 (fun hi => ?_)
                                      refine x_iconst (v := 1) dL_law_673 (by decide) ?_
                                      refine x_isub dL_law_674 ?_
                                      refine x_icmp_ne (tgt := 685) dL_law_675 (by decide) (fun hc277 => ?_) (fun hc277 => ?_)
                                      · refine x_aload_n dL_law_678 rfl ?_
                                        refine y_callVI (rest := []) (c1 := c5) (s1 := s5) (c_Loo_wipe ω m275) mv_RL_162 hz_16 rfl (Nat.le_of_ble_eq_true rfl) (Nat.le_of_ble_eq_true rfl) (Nat.le_of_ble_eq_true rfl) ⟨rfl, rfl⟩ ⟨by omega, by omega⟩ dL_law_679 (fun v279 m278 => ?_)
                                        refine x_if_eq (tgt := 687) dL_law_682 (by decide) (fun hc280 => ?_) (fun hc280 => ?_)
                                        · refine x_goto (tgt := 1935) dL_law_687 (by decide) ?_
                                          refine x_wid (c1 := (c5 + 635)) (s1 := (s5 + 6338)) (by omega) (by omega) ?_
                                          exact hj23 _ _
                                        · refine x_iconst (v := 0) dL_law_685 (by decide) ?_
                                          exact x_zretF zXt.refl rfl rfl (zBo_nar (by decide)) ⟨by omega, by omega⟩ dL_law_686
                                      · refine x_iconst (v := 0) dL_law_685 (by decide) ?_
                                        exact x_zretF zXt.refl rfl rfl (zBo_nar (by decide)) ⟨by omega, by omega⟩ dL_law_686
                                    · refine x_icmp_ne (tgt := 665) dL_law_658 (by decide) (fun hc272 => ?_) (fun hc272 => ?_)
                                      · refine x_iconst (v := 1) dL_law_661 (by decide) ?_
                                        refine x_goto (tgt := 666) dL_law_662 (by decide) ?_
                                        refine y_mask (bs := [true, true, true, true, true, true, true, true, true, false, false, false, false, false, true, false, false, false, false, false, false, false, false, false]) (ls' := [some (.ref (oX ω 1)), some (.ref (zad ω 16)), some (.ref (zad ω 201)), some (.ref (zad ω 202)), some (.ref (zad ω 203)), some (.ref (zad ω 204)), some (.ref (zad ω 205)), some (.ref (zad ω 206)), some (.int x2), none, none, none, none, none, some (.int v16), none, none, none, none, none, none, none, none, none]) rfl ?_
                                        exact hj274 _
                                      · refine x_iconst (v := 0) dL_law_665 (by decide) ?_
                                        refine y_mask (bs := [true, true, true, true, true, true, true, true, true, false, false, false, false, false, true, false, false, false, false, false, false, false, false, false]) (ls' := [some (.ref (oX ω 1)), some (.ref (zad ω 16)), some (.ref (zad ω 201)), some (.ref (zad ω 202)), some (.ref (zad ω 203)), some (.ref (zad ω 204)), some (.ref (zad ω 205)), some (.ref (zad ω 206)), some (.int x2), none, none, none, none, none, some (.int v16), none, none, none, none, none, none, none, none, none]) rfl ?_
                                        exact hj274 _
                                  · refine x_iconst (v := 0) dL_law_685 (by decide) ?_
                                    exact x_zretF zXt.refl rfl rfl (zBo_nar (by decide)) ⟨by omega, by omega⟩ dL_law_686
                                · refine x_icmp_ne (tgt := 583) dL_law_571 (by decide) (fun hc261 => ?_) (fun hc261 => ?_)
                                  · refine x_aload_n dL_law_574 rfl ?_
                                    refine x_iload dL_law_575 rfl ?_
                                    refine x_iconst (v := 5) dL_law_577 (by decide) ?_
                                    refine x_iadd dL_law_578 ?_
                                    refine x_sipush (v := 6000) dL_law_579 (by decide) ?_
                                    refine y_iast hz_201 hn_201 dL_law_582 (fun hi => ?_)
                                    refine y_letM (fun m281 => ?_)
                                    refine y_mask (bs := [true, true, true, true, true, true, true, true, true, true, false, false, false, false, true, false, false, false, false, false, false, false, false, false]) (ls' := [some (.ref (oX ω 1)), some (.ref (zad ω 16)), some (.ref (zad ω 201)), some (.ref (zad ω 202)), some (.ref (zad ω 203)), some (.ref (zad ω 204)), some (.ref (zad ω 205)), some (.ref (zad ω 206)), some (.int x2), some (.int v7), none, none, none, none, some (.int v16), none, none, none, none, none, none, none, none, none]) rfl ?_
                                    exact hj263 _
                                  · refine y_mask (bs := [true, true, true, true, true, true, true, true, true, true, false, false, false, false, true, false, false, false, false, false, false, false, false, false]) (ls' := [some (.ref (oX ω 1)), some (.ref (zad ω 16)), some (.ref (zad ω 201)), some (.ref (zad ω 202)), some (.ref (zad ω 203)), some (.ref (zad ω 204)), some (.ref (zad ω 205)), some (.ref (zad ω 206)), some (.int x2), some (.int v7), none, none, none, none, some (.int v16), none, none, none, none, none, none, none, none, none]) rfl ?_
                                    exact hj263 _
                              · refine x_icmp_ne (tgt := 560) dL_law_539 (by decide) (fun hc258 => ?_) (fun hc258 => ?_)
                                · refine x_aload_n dL_law_542 rfl ?_
                                  refine x_iload dL_law_543 rfl ?_
                                  refine x_iconst (v := 1) dL_law_545 (by decide) ?_
                                  refine x_iadd dL_law_546 ?_
                                  refine y_iald hz_201 hn_201 dL_law_547 (fun hi => ?_)
                                  refine x_if_ne (tgt := 560) dL_law_548 (by decide) (fun hc282 => ?_) (fun hc282 => ?_)
                                  · refine x_aload_n dL_law_551 rfl ?_
                                    refine x_iload dL_law_552 rfl ?_
                                    refine x_iconst (v := 4) dL_law_554 (by decide) ?_
                                    refine x_iadd dL_law_555 ?_
                                    refine x_sipush (v := 4003) dL_law_556 (by decide) ?_
                                    refine y_iast hz_201 hn_201 dL_law_559 (fun hi => ?_)
                                    refine y_letM (fun m283 => ?_)
                                    exact hj260 _
                                  · exact hj260 _
                                · exact hj260 _
                            · refine x_if_ne (tgt := 526) dL_law_512 (by decide) (fun hc254 => ?_) (fun hc254 => ?_)
                              · refine x_iload dL_law_515 rfl ?_
                                refine x_bipush (v := 17) dL_law_517 (by decide) ?_
                                refine x_ishr dL_law_519 ?_
                                refine y_callSP (rest := [.int (x223 + 5), .ref (zad ω 201)]) (c1 := c5) (s1 := s5) (c_Law_drawStep ω (v8 >>> (17 &&& 31)) m252) ms_RL_151 rfl (Nat.le_of_ble_eq_true rfl) (Nat.le_of_ble_eq_true rfl) (Nat.le_of_ble_eq_true rfl) ⟨rfl, rfl⟩ ⟨by omega, by omega⟩ dL_law_520 (fun v284 => ?_)
                                refine x_goto (tgt := 527) dL_law_523 (by decide) ?_
                                refine y_mask (bs := [true, true, true, true, true, true, true, true, true, true, false, false, false, false, true, true, false, false, false, false, false, false, false, false]) (ls' := [some (.ref (oX ω 1)), some (.ref (zad ω 16)), some (.ref (zad ω 201)), some (.ref (zad ω 202)), some (.ref (zad ω 203)), some (.ref (zad ω 204)), some (.ref (zad ω 205)), some (.ref (zad ω 206)), some (.int x2), some (.int v7), none, none, none, none, some (.int v16), some (.int x223), none, none, none, none, none, none, none, none]) rfl ?_
                                exact hj256 _
                              · refine x_iconst (v := 0) dL_law_526 (by decide) ?_
                                refine y_mask (bs := [true, true, true, true, true, true, true, true, true, true, false, false, false, false, true, true, false, false, false, false, false, false, false, false]) (ls' := [some (.ref (oX ω 1)), some (.ref (zad ω 16)), some (.ref (zad ω 201)), some (.ref (zad ω 202)), some (.ref (zad ω 203)), some (.ref (zad ω 204)), some (.ref (zad ω 205)), some (.ref (zad ω 206)), some (.int x2), some (.int v7), none, none, none, none, some (.int v16), some (.int x223), none, none, none, none, none, none, none, none]) rfl ?_
                                exact hj256 _
                          · refine x_if_ne (tgt := 489) dL_law_482 (by decide) (fun hc249 => ?_) (fun hc249 => ?_)
                            · refine x_iconst (v := 0) dL_law_485 (by decide) ?_
                              refine x_goto (tgt := 497) dL_law_486 (by decide) ?_
                              exact hj251 _
                            · refine x_iload dL_law_489 rfl ?_
                              refine x_bipush (v := 12) dL_law_491 (by decide) ?_
                              refine x_ishr dL_law_493 ?_
                              refine y_callSP (rest := [.int (x223 + 4), .ref (zad ω 201)]) (c1 := c5) (s1 := s5) (c_Law_drawStep ω (v8 >>> (12 &&& 31)) m247) ms_RL_151 rfl (Nat.le_of_ble_eq_true rfl) (Nat.le_of_ble_eq_true rfl) (Nat.le_of_ble_eq_true rfl) ⟨rfl, rfl⟩ ⟨by omega, by omega⟩ dL_law_494 (fun v285 => ?_)
                              exact hj251 _
                        · refine x_if_ne (tgt := 459) dL_law_452 (by decide) (fun hc244 => ?_) (fun hc244 => ?_)
                          · refine x_iconst (v := (-1)) dL_law_455 (by decide) ?_
                            refine x_goto (tgt := 467) dL_law_456 (by decide) ?_
                            refine y_mask (bs := [true, true, true, true, true, true, true, true, true, true, true, false, false, false, true, true, false, false, false, false, false, false, false, false]) (ls' := [some (.ref (oX ω 1)), some (.ref (zad ω 16)), some (.ref (zad ω 201)), some (.ref (zad ω 202)), some (.ref (zad ω 203)), some (.ref (zad ω 204)), some (.ref (zad ω 205)), some (.ref (zad ω 206)), some (.int x2), some (.int v7), some (.int v8), none, none, none, some (.int v16), some (.int x223), none, none, none, none, none, none, none, none]) rfl ?_
                            exact hj246 _
                          · refine x_iload dL_law_459 rfl ?_
                            refine x_bipush (v := 9) dL_law_461 (by decide) ?_
                            refine x_ishr dL_law_463 ?_
                            refine y_callSP (rest := [.int (x223 + 3), .ref (zad ω 201)]) (c1 := c5) (s1 := s5) (c_Law_drawStep ω (v9 >>> (9 &&& 31)) m242) ms_RL_151 rfl (Nat.le_of_ble_eq_true rfl) (Nat.le_of_ble_eq_true rfl) (Nat.le_of_ble_eq_true rfl) ⟨rfl, rfl⟩ ⟨by omega, by omega⟩ dL_law_464 (fun v286 => ?_)
                            refine y_mask (bs := [true, true, true, true, true, true, true, true, true, true, true, false, false, false, true, true, false, false, false, false, false, false, false, false]) (ls' := [some (.ref (oX ω 1)), some (.ref (zad ω 16)), some (.ref (zad ω 201)), some (.ref (zad ω 202)), some (.ref (zad ω 203)), some (.ref (zad ω 204)), some (.ref (zad ω 205)), some (.ref (zad ω 206)), some (.int x2), some (.int v7), some (.int v8), none, none, none, some (.int v16), some (.int x223), none, none, none, none, none, none, none, none]) rfl ?_
                            exact hj246 _
                      · refine x_if_ne (tgt := 427) dL_law_411 (by decide) (fun hc238 => ?_) (fun hc238 => ?_)
                        · refine x_aload_n dL_law_414 rfl ?_
                          refine x_iload dL_law_415 rfl ?_
                          refine x_iconst (v := 1) dL_law_417 (by decide) ?_
                          refine x_iadd dL_law_418 ?_
                          refine x_aload_n dL_law_419 rfl ?_
                          refine x_iload dL_law_420 rfl ?_
                          refine x_iconst (v := 1) dL_law_422 (by decide) ?_
                          refine x_iadd dL_law_423 ?_
                          refine y_iald hz_201 hn_201 dL_law_424 (fun hi => ?_)
                          refine x_ineg dL_law_425 ?_
                          refine y_iast hz_201 hn_201 dL_law_426 (fun hi => ?_)
                          refine y_letM (fun m287 => ?_)
                          exact hj240 _
                        · exact hj240 _
                    · refine x_if_ne (tgt := 348) dL_law_329 (by decide) (fun hc233 => ?_) (fun hc233 => ?_)
                      · refine x_ldcI (v := 130000) ci_RL_147 dL_law_332 ?_
                        refine x_iload dL_law_334 rfl ?_
                        refine x_bipush (v := 9) dL_law_336 (by decide) ?_
                        refine x_ishr dL_law_338 ?_
                        refine x_bipush (v := 7) dL_law_339 (by decide) ?_
                        refine y_callSP (rest := [.int 130000, .int (x223 + 1), .ref (zad ω 201)]) (c1 := c5) (s1 := s5) (c_Law_low ω (v8 >>> (9 &&& 31)) 7 m231) ms_RL_76 rfl (Nat.le_of_ble_eq_true rfl) (Nat.le_of_ble_eq_true rfl) (Nat.le_of_ble_eq_true rfl) ⟨rfl, rfl⟩ ⟨by omega, by omega⟩ dL_law_341 (fun v294 => ?_)
                        refine x_iadd dL_law_344 ?_
                        refine x_goto (tgt := 401) dL_law_345 (by decide) ?_
                        refine y_mask (bs := [true, true, true, true, true, true, true, true, true, true, true, true, false, false, true, true, false, false, false, false, false, false, false, false]) (ls' := [some (.ref (oX ω 1)), some (.ref (zad ω 16)), some (.ref (zad ω 201)), some (.ref (zad ω 202)), some (.ref (zad ω 203)), some (.ref (zad ω 204)), some (.ref (zad ω 205)), some (.ref (zad ω 206)), some (.int x2), some (.int v7), some (.int v8), some (.int v9), none, none, some (.int v16), some (.int x223), none, none, none, none, none, none, none, none]) rfl ?_
                        exact hj235 _
                      · refine x_iload dL_law_348 rfl ?_
                        refine x_iconst (v := 1) dL_law_350 (by decide) ?_
                        refine x_icmp_ne (tgt := 359) dL_law_351 (by decide) (fun hc288 => ?_) (fun hc288 => ?_)
                        · refine x_ldcI (v := 140000) ci_RL_148 dL_law_354 ?_
                          refine x_goto (tgt := 401) dL_law_356 (by decide) ?_
                          refine y_mask (bs := [true, true, true, true, true, true, true, true, true, true, true, true, false, false, true, true, false, false, false, false, false, false, false, false]) (ls' := [some (.ref (oX ω 1)), some (.ref (zad ω 16)), some (.ref (zad ω 201)), some (.ref (zad ω 202)), some (.ref (zad ω 203)), some (.ref (zad ω 204)), some (.ref (zad ω 205)), some (.ref (zad ω 206)), some (.int x2), some (.int v7), some (.int v8), some (.int v9), none, none, some (.int v16), some (.int x223), none, none, none, none, none, none, none, none]) rfl ?_
                          exact hj235 _
                        · refine x_iload dL_law_359 rfl ?_
                          refine x_iconst (v := 2) dL_law_361 (by decide) ?_
                          refine y_join (fun j290 => Sx ω ω true 112 19601 198013 kk_Law_law fI c5 s5 m231 380 [some (.ref (oX ω 1)), some (.ref (zad ω 16)), some (.ref (zad ω 201)), some (.ref (zad ω 202)), some (.ref (zad ω 203)), some (.ref (zad ω 204)), some (.ref (zad ω 205)), some (.ref (zad ω 206)), some (.int x2), some (.int v7), some (.int v8), some (.int v9), none, none, some (.int v16), some (.int x223), none, some (.int v232), none, none, none, none, none, none] [.int (x223 + 1), .ref (zad ω 201)] j290) ?_ (fun j290 hj290 => ?_)
                          · refine x_iload dL_law_380 rfl ?_
                            refine x_iconst (v := 3) dL_law_382 (by decide) ?_
                            refine x_icmp_ne (tgt := 400) dL_law_383 (by decide) (fun hc291 => ?_) (fun hc291 => ?_)
                            · refine x_ldcI (v := 160000) ci_RL_150 dL_law_386 ?_
                              refine x_iload dL_law_388 rfl ?_
                              refine x_bipush (v := 9) dL_law_390 (by decide) ?_
                              refine x_ishr dL_law_392 ?_
                              refine y_callSP (rest := [.int 160000, .int (x223 + 1), .ref (zad ω 201)]) (c1 := c5) (s1 := s5) (c_Law_drawDate ω (v8 >>> (9 &&& 31)) m231) ms_RL_143 rfl (Nat.le_of_ble_eq_true rfl) (Nat.le_of_ble_eq_true rfl) (Nat.le_of_ble_eq_true rfl) ⟨rfl, rfl⟩ ⟨by omega, by omega⟩ dL_law_393 (fun v292 => ?_)
                              refine x_iadd dL_law_396 ?_
                              refine x_goto (tgt := 401) dL_law_397 (by decide) ?_
                              refine y_mask (bs := [true, true, true, true, true, true, true, true, true, true, true, true, false, false, true, true, false, false, false, false, false, false, false, false]) (ls' := [some (.ref (oX ω 1)), some (.ref (zad ω 16)), some (.ref (zad ω 201)), some (.ref (zad ω 202)), some (.ref (zad ω 203)), some (.ref (zad ω 204)), some (.ref (zad ω 205)), some (.ref (zad ω 206)), some (.int x2), some (.int v7), some (.int v8), some (.int v9), none, none, some (.int v16), some (.int x223), none, none, none, none, none, none, none, none]) rfl ?_
                              exact hj235 _
                            · refine x_iconst (v := 0) dL_law_400 (by decide) ?_
                              refine y_mask (bs := [true, true, true, true, true, true, true, true, true, true, true, true, false, false, true, true, false, false, false, false, false, false, false, false]) (ls' := [some (.ref (oX ω 1)), some (.ref (zad ω 16)), some (.ref (zad ω 201)), some (.ref (zad ω 202)), some (.ref (zad ω 203)), some (.ref (zad ω 204)), some (.ref (zad ω 205)), some (.ref (zad ω 206)), some (.int x2), some (.int v7), some (.int v8), some (.int v9), none, none, some (.int v16), some (.int x223), none, none, none, none, none, none, none, none]) rfl ?_
                              exact hj235 _
                          · refine x_icmp_ne (tgt := 380) dL_law_362 (by decide) (fun hc289 => ?_) (fun hc289 => ?_)
                            · refine x_aload dL_law_365 rfl ?_
                              refine x_iconst (v := 0) dL_law_367 (by decide) ?_
                              refine y_iald hz_204 hn_204 dL_law_368 (fun hi => ?_)
                              refine x_if_le (tgt := 380) dL_law_369 (by decide) (fun hc293 => ?_) (fun hc293 => ?_)
                              · refine y_mask (bs := [true, true, true, true, true, true, true, true, true, true, true, true, false, false, true, true, false, true, false, false, false, false, false, false]) (ls' := [some (.ref (oX ω 1)), some (.ref (zad ω 16)), some (.ref (zad ω 201)), some (.ref (zad ω 202)), some (.ref (zad ω 203)), some (.ref (zad ω 204)), some (.ref (zad ω 205)), some (.ref (zad ω 206)), some (.int x2), some (.int v7), some (.int v8), some (.int v9), none, none, some (.int v16), some (.int x223), none, some (.int v232), none, none, none, none, none, none]) rfl ?_
                                exact hj290
                              · refine x_ldcI (v := 150000) ci_RL_149 dL_law_372 ?_
                                refine x_iload dL_law_374 rfl ?_
                                refine x_iadd dL_law_376 ?_
                                refine x_goto (tgt := 401) dL_law_377 (by decide) ?_
                                refine y_mask (bs := [true, true, true, true, true, true, true, true, true, true, true, true, false, false, true, true, false, false, false, false, false, false, false, false]) (ls' := [some (.ref (oX ω 1)), some (.ref (zad ω 16)), some (.ref (zad ω 201)), some (.ref (zad ω 202)), some (.ref (zad ω 203)), some (.ref (zad ω 204)), some (.ref (zad ω 205)), some (.ref (zad ω 206)), some (.int x2), some (.int v7), some (.int v8), some (.int v9), none, none, some (.int v16), some (.int x223), none, none, none, none, none, none, none, none]) rfl ?_
                                exact hj235 _
                            · refine y_mask (bs := [true, true, true, true, true, true, true, true, true, true, true, true, false, false, true, true, false, true, false, false, false, false, false, false]) (ls' := [some (.ref (oX ω 1)), some (.ref (zad ω 16)), some (.ref (zad ω 201)), some (.ref (zad ω 202)), some (.ref (zad ω 203)), some (.ref (zad ω 204)), some (.ref (zad ω 205)), some (.ref (zad ω 206)), some (.int x2), some (.int v7), some (.int v8), some (.int v9), none, none, some (.int v16), some (.int x223), none, some (.int v232), none, none, none, none, none, none]) rfl ?_
                              exact hj290
                  · refine x_if_ne (tgt := 215) dL_law_200 (by decide) (fun hc228 => ?_) (fun hc228 => ?_)
                    · refine x_sipush (v := 10000) dL_law_203 (by decide) ?_
                      refine x_iload dL_law_206 rfl ?_
                      refine y_callSP (rest := [.int 10000, .int x223, .ref (zad ω 201)]) (c1 := c5) (s1 := s5) (c_Law_drawDate ω v8 m4) ms_RL_143 rfl (Nat.le_of_ble_eq_true rfl) (Nat.le_of_ble_eq_true rfl) (Nat.le_of_ble_eq_true rfl) ⟨rfl, rfl⟩ ⟨by omega, by omega⟩ dL_law_208 (fun v302 => ?_)
                      refine x_iadd dL_law_211 ?_
                      refine x_goto (tgt := 309) dL_law_212 (by decide) ?_
                      refine y_mask (bs := [true, true, true, true, true, true, true, true, true, true, true, true, false, true, true, true, false, false, false, false, false, false, false, false]) (ls' := [some (.ref (oX ω 1)), some (.ref (zad ω 16)), some (.ref (zad ω 201)), some (.ref (zad ω 202)), some (.ref (zad ω 203)), some (.ref (zad ω 204)), some (.ref (zad ω 205)), some (.ref (zad ω 206)), some (.int x2), some (.int v7), some (.int v8), some (.int v9), none, some (.int x14), some (.int v16), some (.int x223), none, none, none, none, none, none, none, none]) rfl ?_
                      exact hj230 _
                    · refine x_iload dL_law_215 rfl ?_
                      refine x_iconst (v := 1) dL_law_217 (by decide) ?_
                      refine x_icmp_ne (tgt := 266) dL_law_218 (by decide) (fun hc295 => ?_) (fun hc295 => ?_)
                      · refine x_sipush (v := 20000) dL_law_221 (by decide) ?_
                        refine x_sipush (v := 1000) dL_law_224 (by decide) ?_
                        refine x_iconst (v := 1) dL_law_227 (by decide) ?_
                        refine x_iload dL_law_228 rfl ?_
                        refine x_iconst (v := 5) dL_law_230 (by decide) ?_
                        refine y_callSP (rest := [.int 1, .int 1000, .int 20000, .int x223, .ref (zad ω 201)]) (c1 := c5) (s1 := s5) (c_Law_low ω v8 5 m4) ms_RL_76 rfl (Nat.le_of_ble_eq_true rfl) (Nat.le_of_ble_eq_true rfl) (Nat.le_of_ble_eq_true rfl) ⟨rfl, rfl⟩ ⟨by omega, by omega⟩ dL_law_231 (fun v299 => ?_)
                        refine x_iadd dL_law_234 ?_
                        refine x_imul dL_law_235 ?_
                        refine x_iadd dL_law_236 ?_
                        refine x_bipush (v := 100) dL_law_237 (by decide) ?_
                        refine x_iload dL_law_239 rfl ?_
                        refine x_iconst (v := 3) dL_law_241 (by decide) ?_
                        refine x_ishr dL_law_242 ?_
                        refine x_bipush (v := 7) dL_law_243 (by decide) ?_
                        refine y_callSP (rest := [.int 100, .int (20000 + (1000 * (1 + v299))), .int x223, .ref (zad ω 201)]) (c1 := c5) (s1 := s5) (c_Law_low ω (v8 >>> (3 &&& 31)) 7 m4) ms_RL_76 rfl (Nat.le_of_ble_eq_true rfl) (Nat.le_of_ble_eq_true rfl) (Nat.le_of_ble_eq_true rfl) ⟨rfl, rfl⟩ ⟨by omega, by omega⟩ dL_law_245 (fun v300 => ?_)
                        refine x_imul dL_law_248 ?_
                        refine x_iadd dL_law_249 ?_
                        refine x_iconst (v := 1) dL_law_250 (by decide) ?_
                        refine x_iadd dL_law_251 ?_
                        refine x_iload dL_law_252 rfl ?_
                        refine x_bipush (v := 6) dL_law_254 (by decide) ?_
                        refine x_ishr dL_law_256 ?_
                        refine x_bipush (v := 12) dL_law_257 (by decide) ?_
                        refine y_callSP (rest := [.int (((20000 + (1000 * (1 + v299))) + (100 * v300)) + 1), .int x223, .ref (zad ω 201)]) (c1 := c5) (s1 := s5) (c_Law_low ω (v8 >>> (6 &&& 31)) 12 m4) ms_RL_76 rfl (Nat.le_of_ble_eq_true rfl) (Nat.le_of_ble_eq_true rfl) (Nat.le_of_ble_eq_true rfl) ⟨rfl, rfl⟩ ⟨by omega, by omega⟩ dL_law_259 (fun v301 => ?_)
                        refine x_iadd dL_law_262 ?_
                        refine x_goto (tgt := 309) dL_law_263 (by decide) ?_
                        refine y_mask (bs := [true, true, true, true, true, true, true, true, true, true, true, true, false, true, true, true, false, false, false, false, false, false, false, false]) (ls' := [some (.ref (oX ω 1)), some (.ref (zad ω 16)), some (.ref (zad ω 201)), some (.ref (zad ω 202)), some (.ref (zad ω 203)), some (.ref (zad ω 204)), some (.ref (zad ω 205)), some (.ref (zad ω 206)), some (.int x2), some (.int v7), some (.int v8), some (.int v9), none, some (.int x14), some (.int v16), some (.int x223), none, none, none, none, none, none, none, none]) rfl ?_
                        exact hj230 _
                      · refine x_iload dL_law_266 rfl ?_
                        refine x_iconst (v := 2) dL_law_268 (by decide) ?_
                        refine x_icmp_ne (tgt := 304) dL_law_269 (by decide) (fun hc296 => ?_) (fun hc296 => ?_)
                        · refine x_sipush (v := 30000) dL_law_272 (by decide) ?_
                          refine x_bipush (v := 100) dL_law_275 (by decide) ?_
                          refine x_iload dL_law_277 rfl ?_
                          refine x_iconst (v := 3) dL_law_279 (by decide) ?_
                          refine x_ishr dL_law_280 ?_
                          refine x_bipush (v := 7) dL_law_281 (by decide) ?_
                          refine y_callSP (rest := [.int 100, .int 30000, .int x223, .ref (zad ω 201)]) (c1 := c5) (s1 := s5) (c_Law_low ω (v8 >>> (3 &&& 31)) 7 m4) ms_RL_76 rfl (Nat.le_of_ble_eq_true rfl) (Nat.le_of_ble_eq_true rfl) (Nat.le_of_ble_eq_true rfl) ⟨rfl, rfl⟩ ⟨by omega, by omega⟩ dL_law_283 (fun v297 => ?_)
                          refine x_imul dL_law_286 ?_
                          refine x_iadd dL_law_287 ?_
                          refine x_iconst (v := 1) dL_law_288 (by decide) ?_
                          refine x_iadd dL_law_289 ?_
                          refine x_iload dL_law_290 rfl ?_
                          refine x_bipush (v := 6) dL_law_292 (by decide) ?_
                          refine x_ishr dL_law_294 ?_
                          refine x_bipush (v := 12) dL_law_295 (by decide) ?_
                          refine y_callSP (rest := [.int ((30000 + (100 * v297)) + 1), .int x223, .ref (zad ω 201)]) (c1 := c5) (s1 := s5) (c_Law_low ω (v8 >>> (6 &&& 31)) 12 m4) ms_RL_76 rfl (Nat.le_of_ble_eq_true rfl) (Nat.le_of_ble_eq_true rfl) (Nat.le_of_ble_eq_true rfl) ⟨rfl, rfl⟩ ⟨by omega, by omega⟩ dL_law_297 (fun v298 => ?_)
                          refine x_iadd dL_law_300 ?_
                          refine x_goto (tgt := 309) dL_law_301 (by decide) ?_
                          refine y_mask (bs := [true, true, true, true, true, true, true, true, true, true, true, true, false, true, true, true, false, false, false, false, false, false, false, false]) (ls' := [some (.ref (oX ω 1)), some (.ref (zad ω 16)), some (.ref (zad ω 201)), some (.ref (zad ω 202)), some (.ref (zad ω 203)), some (.ref (zad ω 204)), some (.ref (zad ω 205)), some (.ref (zad ω 206)), some (.int x2), some (.int v7), some (.int v8), some (.int v9), none, some (.int x14), some (.int v16), some (.int x223), none, none, none, none, none, none, none, none]) rfl ?_
                          exact hj230 _
                        · refine x_ldcI (v := 40000) ci_RL_146 dL_law_304 ?_
                          refine x_iload dL_law_306 rfl ?_
                          refine x_iadd dL_law_308 ?_
                          refine y_mask (bs := [true, true, true, true, true, true, true, true, true, true, true, true, false, true, true, true, false, false, false, false, false, false, false, false]) (ls' := [some (.ref (oX ω 1)), some (.ref (zad ω 16)), some (.ref (zad ω 201)), some (.ref (zad ω 202)), some (.ref (zad ω 203)), some (.ref (zad ω 204)), some (.ref (zad ω 205)), some (.ref (zad ω 206)), some (.int x2), some (.int v7), some (.int v8), some (.int v9), none, some (.int x14), some (.int v16), some (.int x223), none, none, none, none, none, none, none, none]) rfl ?_
                          exact hj230 _
                · refine x_if_le (tgt := 189) dL_law_182 (by decide) (fun hc224 => ?_) (fun hc224 => ?_)
                  · refine x_iconst (v := 3) dL_law_189 (by decide) ?_
                    refine y_mask (bs := [true, true, true, true, true, true, true, true, true, true, true, true, false, true, true, true, false, false, false, false, false, false, false, false]) (ls' := [some (.ref (oX ω 1)), some (.ref (zad ω 16)), some (.ref (zad ω 201)), some (.ref (zad ω 202)), some (.ref (zad ω 203)), some (.ref (zad ω 204)), some (.ref (zad ω 205)), some (.ref (zad ω 206)), some (.int x2), some (.int v7), some (.int v8), some (.int v9), none, some (.int x14), some (.int v16), some (.int x223), none, none, none, none, none, none, none, none]) rfl ?_
                    exact hj226 _
                  · refine x_iconst (v := 5) dL_law_185 (by decide) ?_
                    refine x_goto (tgt := 190) dL_law_186 (by decide) ?_
                    refine y_mask (bs := [true, true, true, true, true, true, true, true, true, true, true, true, false, true, true, true, false, false, false, false, false, false, false, false]) (ls' := [some (.ref (oX ω 1)), some (.ref (zad ω 16)), some (.ref (zad ω 201)), some (.ref (zad ω 202)), some (.ref (zad ω 203)), some (.ref (zad ω 204)), some (.ref (zad ω 205)), some (.ref (zad ω 206)), some (.int x2), some (.int v7), some (.int v8), some (.int v9), none, some (.int x14), some (.int v16), some (.int x223), none, none, none, none, none, none, none, none]) rfl ?_
                    exact hj226 _
      · refine x_if_ne (tgt := 121) dL_law_114 (by decide) (fun hc13 => ?_) (fun hc13 => ?_)
        · refine x_iconst (v := 0) dL_law_117 (by decide) ?_
          refine x_goto (tgt := 132) dL_law_118 (by decide) ?_
          exact hj15 _
        · refine x_iload dL_law_121 rfl ?_
          refine x_iconst (v := 5) dL_law_123 (by decide) ?_
          refine x_ishr dL_law_124 ?_
          refine x_aload dL_law_125 rfl ?_
          refine x_iconst (v := 0) dL_law_127 (by decide) ?_
          refine y_iald hz_204 hn_204 dL_law_128 (fun hi => ?_)
          refine y_callSP (rest := []) (c1 := c5) (s1 := s5) (c_Law_low ω (v7 >>> (5 &&& 31)) (zI m4 204 (zIx 0)) m4) ms_RL_76 rfl (Nat.le_of_ble_eq_true rfl) (Nat.le_of_ble_eq_true rfl) (Nat.le_of_ble_eq_true rfl) ⟨rfl, rfl⟩ ⟨by omega, by omega⟩ dL_law_129 (fun v303 => ?_)
          exact hj15 _
    · refine x_icmp_ge (tgt := 101) dL_law_94 (by decide) (fun hc10 => ?_) (fun hc10 => ?_)
      · refine x_iload dL_law_101 rfl ?_
        refine x_bipush (v := 14) dL_law_103 (by decide) ?_
        refine y_callSP (rest := []) (c1 := c5) (s1 := s5) (c_Law_low ω v7 14 m4) ms_RL_76 rfl (Nat.le_of_ble_eq_true rfl) (Nat.le_of_ble_eq_true rfl) (Nat.le_of_ble_eq_true rfl) ⟨rfl, rfl⟩ ⟨by omega, by omega⟩ dL_law_105 (fun v304 => ?_)
        exact hj12 _
      · refine x_iconst (v := 0) dL_law_97 (by decide) ?_
        refine x_goto (tgt := 108) dL_law_98 (by decide) ?_
        exact hj12 _
