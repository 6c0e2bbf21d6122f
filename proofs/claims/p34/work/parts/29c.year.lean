abbrev kk_Law_year : Kx := (yL_year.cls, cL_year, 24, (some .boolean), [], false)
set_option maxHeartbeats 4000000 in
set_option maxRecDepth 100000 in
theorem c_Law_year (ω : Wd) (p7 : Int32) (hl0 : (oT ω).length = 0) (m : Mm) : Ev ω true 108 6 60 yL_year cL_year 24 (some .boolean) [.ref (zad ω 16), .ref (zad ω 201), .ref (zad ω 202), .ref (zad ω 203), .ref (zad ω 204), .ref (zad ω 206), .int p7] m fI (f_Law_year p7 m) := by
  refine Ev.of (b := false) (ls := [some (.ref (zad ω 16)), some (.ref (zad ω 201)), some (.ref (zad ω 202)), some (.ref (zad ω 203)), some (.ref (zad ω 204)), some (.ref (zad ω 206)), some (.int p7), none, none, none, none, none, none, none, none, none, none, none, none, none, none, none, none, none]) (plainFor_of_name (by decide +kernel)) (fun h => by cases h) rfl (Nat.le_of_ble_eq_true rfl) rfl ?_
  change Sx ω ω true 108 6 60 kk_Law_year fI 0 0 m 0 _ _ _
  unfold f_Law_year
  refine x_bipush (v := 10) dL_year_0 (by decide) ?_
  refine y_newT (n := 0) (c1 := 1) (s1 := 10) hl0 w_arrI ⟨rfl, rfl⟩ ⟨(Nat.le_of_ble_eq_true rfl), (Nat.le_of_ble_eq_true rfl)⟩ dL_year_2 (fun ω2 m1 h2 l2 => ?_)
  rewrite [← zXt.za h2 16, ← zXt.za h2 201, ← zXt.za h2 202, ← zXt.za h2 203, ← zXt.za h2 204, ← zXt.za h2 206]
  refine x_astore (ls' := [some (.ref (zad ω2 16)), some (.ref (zad ω2 201)), some (.ref (zad ω2 202)), some (.ref (zad ω2 203)), some (.ref (zad ω2 204)), some (.ref (zad ω2 206)), some (.int p7), some (.ref (zTd ω2 0)), none, none, none, none, none, none, none, none, none, none, none, none, none, none, none, none]) dL_year_4 (Nat.le_of_ble_eq_true rfl) rfl ?_
  refine x_bipush (v := 10) dL_year_6 (by decide) ?_
  refine y_newT (n := 1) (c1 := 2) (s1 := 20) l2 w_arrI ⟨rfl, rfl⟩ ⟨(Nat.le_of_ble_eq_true rfl), (Nat.le_of_ble_eq_true rfl)⟩ dL_year_8 (fun ω4 m3 h4 l4 => ?_)
  rewrite [← zXt.za h4 16, ← zXt.za h4 201, ← zXt.za h4 202, ← zXt.za h4 203, ← zXt.za h4 204, ← zXt.za h4 206, ← zXt.zt h4 (i := 0) (by rw [l2]; decide)]
  refine x_astore (ls' := [some (.ref (zad ω4 16)), some (.ref (zad ω4 201)), some (.ref (zad ω4 202)), some (.ref (zad ω4 203)), some (.ref (zad ω4 204)), some (.ref (zad ω4 206)), some (.int p7), some (.ref (zTd ω4 0)), some (.ref (zTd ω4 1)), none, none, none, none, none, none, none, none, none, none, none, none, none, none, none]) dL_year_10 (Nat.le_of_ble_eq_true rfl) rfl ?_
  refine x_bipush (v := 10) dL_year_12 (by decide) ?_
  refine y_newT (n := 2) (c1 := 3) (s1 := 30) l4 w_arrI ⟨rfl, rfl⟩ ⟨(Nat.le_of_ble_eq_true rfl), (Nat.le_of_ble_eq_true rfl)⟩ dL_year_14 (fun ω6 m5 h6 l6 => ?_)
  rewrite [← zXt.za h6 16, ← zXt.za h6 201, ← zXt.za h6 202, ← zXt.za h6 203, ← zXt.za h6 204, ← zXt.za h6 206, ← zXt.zt h6 (i := 0) (by rw [l4]; decide), ← zXt.zt h6 (i := 1) (by rw [l4]; decide)]
  refine x_astore (ls' := [some (.ref (zad ω6 16)), some (.ref (zad ω6 201)), some (.ref (zad ω6 202)), some (.ref (zad ω6 203)), some (.ref (zad ω6 204)), some (.ref (zad ω6 206)), some (.int p7), some (.ref (zTd ω6 0)), some (.ref (zTd ω6 1)), some (.ref (zTd ω6 2)), none, none, none, none, none, none, none, none, none, none, none, none, none, none]) dL_year_16 (Nat.le_of_ble_eq_true rfl) rfl ?_
  refine x_bipush (v := 10) dL_year_18 (by decide) ?_
  refine y_newT (n := 3) (c1 := 4) (s1 := 40) l6 w_arrI ⟨rfl, rfl⟩ ⟨(Nat.le_of_ble_eq_true rfl), (Nat.le_of_ble_eq_true rfl)⟩ dL_year_20 (fun ω8 m7 h8 l8 => ?_)
  rewrite [← zXt.za h8 16, ← zXt.za h8 201, ← zXt.za h8 202, ← zXt.za h8 203, ← zXt.za h8 204, ← zXt.za h8 206, ← zXt.zt h8 (i := 0) (by rw [l6]; decide), ← zXt.zt h8 (i := 1) (by rw [l6]; decide), ← zXt.zt h8 (i := 2) (by rw [l6]; decide)]
  refine x_astore (ls' := [some (.ref (zad ω8 16)), some (.ref (zad ω8 201)), some (.ref (zad ω8 202)), some (.ref (zad ω8 203)), some (.ref (zad ω8 204)), some (.ref (zad ω8 206)), some (.int p7), some (.ref (zTd ω8 0)), some (.ref (zTd ω8 1)), some (.ref (zTd ω8 2)), some (.ref (zTd ω8 3)), none, none, none, none, none, none, none, none, none, none, none, none, none]) dL_year_22 (Nat.le_of_ble_eq_true rfl) rfl ?_
  refine x_aload_n dL_year_24 rfl ?_
  refine x_aload_n dL_year_25 rfl ?_
  refine x_aload dL_year_26 rfl ?_
  refine x_iload dL_year_28 rfl ?_
  refine x_iconst (v := 1) dL_year_30 (by decide) ?_
  refine x_aload dL_year_31 rfl ?_
  refine x_iconst (v := 2) dL_year_33 (by decide) ?_
  refine y_iald hz_204 hn_204 dL_year_34 (fun hi => ?_)
  refine x_isub dL_year_35 ?_
  refine x_aload dL_year_36 rfl ?_
  refine x_aload dL_year_38 rfl ?_
  refine y_callSV (rest := []) (c1 := 4) (s1 := 40) (c_Law_bents ω8 p7 (1 - (zI m7 204 (zIx 2))) 0 (by rw [l8]; decide) 2 (by rw [l8]; decide) m7) ms_RL_99 rfl (Nat.le_of_ble_eq_true rfl) (Nat.le_of_ble_eq_true rfl) (Nat.le_of_ble_eq_true rfl) ⟨rfl, rfl⟩ ⟨(Nat.le_of_ble_eq_true rfl), (Nat.le_of_ble_eq_true rfl)⟩ dL_year_40 (fun m9 => ?_)
  refine x_aload_n dL_year_43 rfl ?_
  refine x_aload_n dL_year_44 rfl ?_
  refine x_aload dL_year_45 rfl ?_
  refine x_iload dL_year_47 rfl ?_
  refine x_aload dL_year_49 rfl ?_
  refine x_iconst (v := 2) dL_year_51 (by decide) ?_
  refine y_iald hz_204 hn_204 dL_year_52 (fun hi => ?_)
  refine x_aload dL_year_53 rfl ?_
  refine x_aload dL_year_55 rfl ?_
  refine y_callSV (rest := []) (c1 := 4) (s1 := 40) (c_Law_bents ω8 p7 (zI m9 204 (zIx 2)) 1 (by rw [l8]; decide) 2 (by rw [l8]; decide) m9) ms_RL_99 rfl (Nat.le_of_ble_eq_true rfl) (Nat.le_of_ble_eq_true rfl) (Nat.le_of_ble_eq_true rfl) ⟨rfl, rfl⟩ ⟨(Nat.le_of_ble_eq_true rfl), (Nat.le_of_ble_eq_true rfl)⟩ dL_year_57 (fun m10 => ?_)
  refine x_aload_n dL_year_60 rfl ?_
  refine x_aload dL_year_61 rfl ?_
  refine x_iload dL_year_63 rfl ?_
  refine x_aload dL_year_65 rfl ?_
  refine x_aload dL_year_67 rfl ?_
  refine y_callSV (rest := []) (c1 := 4) (s1 := 40) (c_Law_place ω8 p7 1 (by rw [l8]; decide) 3 (by rw [l8]; decide) m10) ms_RL_103 rfl (Nat.le_of_ble_eq_true rfl) (Nat.le_of_ble_eq_true rfl) (Nat.le_of_ble_eq_true rfl) ⟨rfl, rfl⟩ ⟨(Nat.le_of_ble_eq_true rfl), (Nat.le_of_ble_eq_true rfl)⟩ dL_year_69 (fun m11 => ?_)
  refine x_iconst (v := 1) dL_year_72 (by decide) ?_
  refine x_istore (ls' := [some (.ref (zad ω8 16)), some (.ref (zad ω8 201)), some (.ref (zad ω8 202)), some (.ref (zad ω8 203)), some (.ref (zad ω8 204)), some (.ref (zad ω8 206)), some (.int p7), some (.ref (zTd ω8 0)), some (.ref (zTd ω8 1)), some (.ref (zTd ω8 2)), some (.ref (zTd ω8 3)), some (.int 1), none, none, none, none, none, none, none, none, none, none, none, none]) dL_year_73 (Nat.le_of_ble_eq_true rfl) rfl ?_
  refine x_iconst (v := 0) dL_year_75 (by decide) ?_
  refine x_istore (ls' := [some (.ref (zad ω8 16)), some (.ref (zad ω8 201)), some (.ref (zad ω8 202)), some (.ref (zad ω8 203)), some (.ref (zad ω8 204)), some (.ref (zad ω8 206)), some (.int p7), some (.ref (zTd ω8 0)), some (.ref (zTd ω8 1)), some (.ref (zTd ω8 2)), some (.ref (zTd ω8 3)), some (.int 1), some (.int 0), none, none, none, none, none, none, none, none, none, none, none]) dL_year_76 (Nat.le_of_ble_eq_true rfl) rfl ?_
  refine y_mask (bs := [true, false, true, false, true, true, true, true, true, true, true, true, true, false, false, false, false, false, false, false, false, false, false, false]) (ls' := [some (.ref (zad ω8 16)), none, some (.ref (zad ω8 202)), none, some (.ref (zad ω8 204)), some (.ref (zad ω8 206)), some (.int p7), some (.ref (zTd ω8 0)), some (.ref (zTd ω8 1)), some (.ref (zTd ω8 2)), some (.ref (zTd ω8 3)), some (.int 1), some (.int 0), none, none, none, none, none, none, none, none, none, none, none]) rfl ?_
  refine y_Lp2 (fun x12 x13 => [some (.ref (zad ω8 16)), none, some (.ref (zad ω8 202)), none, some (.ref (zad ω8 204)), some (.ref (zad ω8 206)), some (.int p7), some (.ref (zTd ω8 0)), some (.ref (zTd ω8 1)), some (.ref (zTd ω8 2)), some (.ref (zTd ω8 3)), some (.int x12), some (.int x13), none, none, none, none, none, none, none, none, none, none, none]) (fun r14 hr14 x12 x13 m15 => ?_) zFu _ _ _
  refine x_iload dL_year_78 rfl ?_
  refine x_aload dL_year_80 rfl ?_
  refine x_iconst (v := 0) dL_year_82 (by decide) ?_
  refine y_iald hz_204 hn_204 dL_year_83 (fun hi => ?_)
  refine x_icmp_ge (tgt := 223) dL_year_84 (by decide) (fun hc16 => ?_) (fun hc16 => ?_)
  · refine x_aload_n dL_year_223 rfl ?_
    refine x_iload dL_year_224 rfl ?_
    refine y_callVI (rest := []) (c1 := 4) (s1 := 40) (cn_Loo_yearCost ω8 p7 m15) mv_RL_120 hz_16 rfl (Nat.le_of_ble_eq_true rfl) (Nat.le_of_ble_eq_true rfl) (Nat.le_of_ble_eq_true rfl) ⟨rfl, rfl⟩ ⟨(Nat.le_of_ble_eq_true rfl), (Nat.le_of_ble_eq_true rfl)⟩ dL_year_226 (fun v18 m17 => ?_)
    refine x_iload dL_year_229 rfl ?_
    refine x_icmp_ne (tgt := 250) dL_year_231 (by decide) (fun hc19 => ?_) (fun hc19 => ?_)
    · refine x_aload_n dL_year_234 rfl ?_
      refine x_iload dL_year_235 rfl ?_
      refine y_callVI (rest := []) (c1 := 4) (s1 := 40) (cn_Loo_clashes ω8 p7 m17) mv_RL_123 hz_16 rfl (Nat.le_of_ble_eq_true rfl) (Nat.le_of_ble_eq_true rfl) (Nat.le_of_ble_eq_true rfl) ⟨rfl, rfl⟩ ⟨(Nat.le_of_ble_eq_true rfl), (Nat.le_of_ble_eq_true rfl)⟩ dL_year_237 (fun v21 m20 => ?_)
      refine x_aload dL_year_240 rfl ?_
      refine x_aload dL_year_242 rfl ?_
      refine y_callSP (rest := [.int v21]) (c1 := 4) (s1 := 40) (c_Law_clashes ω8 1 (by rw [l8]; decide) m20) ms_RL_58 rfl (Nat.le_of_ble_eq_true rfl) (Nat.le_of_ble_eq_true rfl) (Nat.le_of_ble_eq_true rfl) ⟨rfl, rfl⟩ ⟨(Nat.le_of_ble_eq_true rfl), (Nat.le_of_ble_eq_true rfl)⟩ dL_year_244 (fun v22 => ?_)
      refine x_icmp_eq (tgt := 252) dL_year_247 (by decide) (fun hc23 => ?_) (fun hc23 => ?_)
      · refine x_bipush (v := 10) dL_year_252 (by decide) ?_
        refine y_newT (n := 4) (c1 := 5) (s1 := 50) l8 w_arrI ⟨rfl, rfl⟩ ⟨(Nat.le_of_ble_eq_true rfl), (Nat.le_of_ble_eq_true rfl)⟩ dL_year_254 (fun ω25 m24 h25 l25 => ?_)
        rewrite [← zXt.za h25 16, ← zXt.za h25 202, ← zXt.za h25 204, ← zXt.za h25 206, ← zXt.zt h25 (i := 0) (by rw [l8]; decide), ← zXt.zt h25 (i := 1) (by rw [l8]; decide), ← zXt.zt h25 (i := 2) (by rw [l8]; decide), ← zXt.zt h25 (i := 3) (by rw [l8]; decide)]
        refine x_astore (ls' := [some (.ref (zad ω25 16)), none, some (.ref (zad ω25 202)), none, some (.ref (zad ω25 204)), some (.ref (zad ω25 206)), some (.int p7), some (.ref (zTd ω25 0)), some (.ref (zTd ω25 1)), some (.ref (zTd ω25 2)), some (.ref (zTd ω25 3)), some (.int x12), some (.ref (zTd ω25 4)), none, none, none, none, none, none, none, none, none, none, none]) dL_year_256 (Nat.le_of_ble_eq_true rfl) rfl ?_
        refine x_bipush (v := 10) dL_year_258 (by decide) ?_
        refine y_newT (n := 5) (c1 := 6) (s1 := 60) l25 w_arrI ⟨rfl, rfl⟩ ⟨(Nat.le_of_ble_eq_true rfl), (Nat.le_of_ble_eq_true rfl)⟩ dL_year_260 (fun ω27 m26 h27 l27 => ?_)
        rewrite [← zXt.za h27 16, ← zXt.za h27 202, ← zXt.za h27 204, ← zXt.za h27 206, ← zXt.zt h27 (i := 0) (by rw [l25]; decide), ← zXt.zt h27 (i := 1) (by rw [l25]; decide), ← zXt.zt h27 (i := 2) (by rw [l25]; decide), ← zXt.zt h27 (i := 3) (by rw [l25]; decide), ← zXt.zt h27 (i := 4) (by rw [l25]; decide)]
        refine x_astore (ls' := [some (.ref (zad ω27 16)), none, some (.ref (zad ω27 202)), none, some (.ref (zad ω27 204)), some (.ref (zad ω27 206)), some (.int p7), some (.ref (zTd ω27 0)), some (.ref (zTd ω27 1)), some (.ref (zTd ω27 2)), some (.ref (zTd ω27 3)), some (.int x12), some (.ref (zTd ω27 4)), some (.ref (zTd ω27 5)), none, none, none, none, none, none, none, none, none, none]) dL_year_262 (Nat.le_of_ble_eq_true rfl) rfl ?_
        refine x_iconst (v := 0) dL_year_264 (by decide) ?_
        refine x_istore (ls' := [some (.ref (zad ω27 16)), none, some (.ref (zad ω27 202)), none, some (.ref (zad ω27 204)), some (.ref (zad ω27 206)), some (.int p7), some (.ref (zTd ω27 0)), some (.ref (zTd ω27 1)), some (.ref (zTd ω27 2)), some (.ref (zTd ω27 3)), some (.int x12), some (.ref (zTd ω27 4)), some (.ref (zTd ω27 5)), some (.int 0), none, none, none, none, none, none, none, none, none]) dL_year_265 (Nat.le_of_ble_eq_true rfl) rfl ?_
        refine x_iconst (v := 0) dL_year_267 (by decide) ?_
        refine x_istore (ls' := [some (.ref (zad ω27 16)), none, some (.ref (zad ω27 202)), none, some (.ref (zad ω27 204)), some (.ref (zad ω27 206)), some (.int p7), some (.ref (zTd ω27 0)), some (.ref (zTd ω27 1)), some (.ref (zTd ω27 2)), some (.ref (zTd ω27 3)), some (.int x12), some (.ref (zTd ω27 4)), some (.ref (zTd ω27 5)), some (.int 0), some (.int 0), none, none, none, none, none, none, none, none]) dL_year_268 (Nat.le_of_ble_eq_true rfl) rfl ?_
        refine x_iconst (v := 0) dL_year_270 (by decide) ?_
        refine x_istore (ls' := [some (.ref (zad ω27 16)), none, some (.ref (zad ω27 202)), none, some (.ref (zad ω27 204)), some (.ref (zad ω27 206)), some (.int p7), some (.ref (zTd ω27 0)), some (.ref (zTd ω27 1)), some (.ref (zTd ω27 2)), some (.ref (zTd ω27 3)), some (.int x12), some (.ref (zTd ω27 4)), some (.ref (zTd ω27 5)), some (.int 0), some (.int 0), some (.int 0), none, none, none, none, none, none, none]) dL_year_271 (Nat.le_of_ble_eq_true rfl) rfl ?_
        refine y_mask (bs := [true, false, true, false, true, true, true, true, true, false, true, false, true, true, true, true, true, false, false, false, false, false, false, false]) (ls' := [some (.ref (zad ω27 16)), none, some (.ref (zad ω27 202)), none, some (.ref (zad ω27 204)), some (.ref (zad ω27 206)), some (.int p7), some (.ref (zTd ω27 0)), some (.ref (zTd ω27 1)), none, some (.ref (zTd ω27 3)), none, some (.ref (zTd ω27 4)), some (.ref (zTd ω27 5)), some (.int 0), some (.int 0), some (.int 0), none, none, none, none, none, none, none]) rfl ?_
        refine y_Lp3 (fun x28 x29 x30 => [some (.ref (zad ω27 16)), none, some (.ref (zad ω27 202)), none, some (.ref (zad ω27 204)), some (.ref (zad ω27 206)), some (.int p7), some (.ref (zTd ω27 0)), some (.ref (zTd ω27 1)), none, some (.ref (zTd ω27 3)), none, some (.ref (zTd ω27 4)), some (.ref (zTd ω27 5)), some (.int x28), some (.int x29), some (.int x30), none, none, none, none, none, none, none]) (fun r31 hr31 x28 x29 x30 m32 => ?_) zFu _ _ _ _
        refine x_iload dL_year_273 rfl ?_
        refine x_iload dL_year_275 rfl ?_
        refine y_callSP (rest := [.int x30]) (c1 := 6) (s1 := 60) (c_Law_days ω27 p7 m32) ms_RL_16 rfl (Nat.le_of_ble_eq_true rfl) (Nat.le_of_ble_eq_true rfl) (Nat.le_of_ble_eq_true rfl) ⟨rfl, rfl⟩ ⟨(Nat.le_of_ble_eq_true rfl), (Nat.le_of_ble_eq_true rfl)⟩ dL_year_277 (fun v33 => ?_)
        refine x_icmp_ge (tgt := 614) dL_year_280 (by decide) (fun hc34 => ?_) (fun hc34 => ?_)
        · refine x_iconst (v := 0) dL_year_614 (by decide) ?_
          refine x_istore (ls' := [some (.ref (zad ω27 16)), none, some (.ref (zad ω27 202)), none, some (.ref (zad ω27 204)), some (.ref (zad ω27 206)), some (.int p7), some (.ref (zTd ω27 0)), some (.ref (zTd ω27 1)), none, some (.ref (zTd ω27 3)), none, some (.ref (zTd ω27 4)), some (.ref (zTd ω27 5)), some (.int x28), some (.int x29), some (.int 0), none, none, none, none, none, none, none]) dL_year_615 (Nat.le_of_ble_eq_true rfl) rfl ?_
          refine y_mask (bs := [true, false, false, false, true, false, true, false, false, false, false, false, true, false, true, false, true, false, false, false, false, false, false, false]) (ls' := [some (.ref (zad ω27 16)), none, none, none, some (.ref (zad ω27 204)), none, some (.int p7), none, none, none, none, none, some (.ref (zTd ω27 4)), none, some (.int x28), none, some (.int 0), none, none, none, none, none, none, none]) rfl ?_
          refine y_Lp1 (fun x35 => [some (.ref (zad ω27 16)), none, none, none, some (.ref (zad ω27 204)), none, some (.int p7), none, none, none, none, none, some (.ref (zTd ω27 4)), none, some (.int x28), none, some (.int x35), none, none, none, none, none, none, none]) (fun r36 hr36 x35 m37 => ?_) zFu _ _
          refine x_iload dL_year_617 rfl ?_
          refine x_aload dL_year_619 rfl ?_
          refine x_iconst (v := 3) dL_year_621 (by decide) ?_
          refine y_iald hz_204 hn_204 dL_year_622 (fun hi => ?_)
          refine x_icmp_ge (tgt := 650) dL_year_623 (by decide) (fun hc38 => ?_) (fun hc38 => ?_)
          · refine x_aload_n dL_year_650 rfl ?_
            refine x_iload dL_year_651 rfl ?_
            refine y_callVI (rest := []) (c1 := 6) (s1 := 60) (cn_Loo_silent ω27 p7 m37) mv_RL_131 hz_16 rfl (Nat.le_of_ble_eq_true rfl) (Nat.le_of_ble_eq_true rfl) (Nat.le_of_ble_eq_true rfl) ⟨rfl, rfl⟩ ⟨(Nat.le_of_ble_eq_true rfl), (Nat.le_of_ble_eq_true rfl)⟩ dL_year_653 (fun v40 m39 => ?_)
            refine x_iload dL_year_656 rfl ?_
            refine y_join (fun j43 => ∀ (m42 : Mm), Sx ω ω27 true 108 6 60 kk_Law_year fI 6 60 m42 754 [none, none, none, none, none, none, none, none, none, none, none, none, none, none, none, none, none, none, none, none, none, none, none, none] [] (j43 m42)) ?_ (fun j43 hj43 => ?_)
            · intro m42
              refine x_iconst (v := 0) dL_year_754 (by decide) ?_
              exact x_zretF (zXt.trans h2 (zXt.trans h4 (zXt.trans h6 (zXt.trans h8 (zXt.trans h25 h27))))) rfl rfl (zBo_nar (by decide)) ⟨(Nat.le_of_ble_eq_true rfl), (Nat.le_of_ble_eq_true rfl)⟩ dL_year_755
            · refine x_icmp_ne (tgt := 754) dL_year_658 (by decide) (fun hc41 => ?_) (fun hc41 => ?_)
              · refine x_aload_n dL_year_661 rfl ?_
                refine x_iload dL_year_662 rfl ?_
                refine y_callVI (rest := []) (c1 := 6) (s1 := 60) (cn_Loo_begin ω27 p7 m39) mv_RL_134 hz_16 rfl (Nat.le_of_ble_eq_true rfl) (Nat.le_of_ble_eq_true rfl) (Nat.le_of_ble_eq_true rfl) ⟨rfl, rfl⟩ ⟨(Nat.le_of_ble_eq_true rfl), (Nat.le_of_ble_eq_true rfl)⟩ dL_year_664 (fun v45 m44 => ?_)
                refine x_iload dL_year_667 rfl ?_
                refine y_callSP (rest := [.int v45]) (c1 := 6) (s1 := 60) (c_Law_great ω27 p7 m44) ms_RL_31 rfl (Nat.le_of_ble_eq_true rfl) (Nat.le_of_ble_eq_true rfl) (Nat.le_of_ble_eq_true rfl) ⟨rfl, rfl⟩ ⟨(Nat.le_of_ble_eq_true rfl), (Nat.le_of_ble_eq_true rfl)⟩ dL_year_669 (fun v46 => ?_)
                refine x_icmp_ne (tgt := 754) dL_year_672 (by decide) (fun hc47 => ?_) (fun hc47 => ?_)
                · refine x_aload_n dL_year_675 rfl ?_
                  refine x_iload dL_year_676 rfl ?_
                  refine y_callSP (rest := [.ref (zad ω27 16)]) (c1 := 6) (s1 := 60) (c_Law_great ω27 p7 m44) ms_RL_31 rfl (Nat.le_of_ble_eq_true rfl) (Nat.le_of_ble_eq_true rfl) (Nat.le_of_ble_eq_true rfl) ⟨rfl, rfl⟩ ⟨(Nat.le_of_ble_eq_true rfl), (Nat.le_of_ble_eq_true rfl)⟩ dL_year_678 (fun v48 => ?_)
                  refine x_aload dL_year_681 rfl ?_
                  refine x_iconst (v := 2) dL_year_683 (by decide) ?_
                  refine y_iald hz_204 hn_204 dL_year_684 (fun hi => ?_)
                  refine y_callVI (rest := []) (c1 := 6) (s1 := 60) (cn_Loo_age ω27 v48 (zI m44 204 (zIx 2)) m44) mv_RL_136 hz_16 rfl (Nat.le_of_ble_eq_true rfl) (Nat.le_of_ble_eq_true rfl) (Nat.le_of_ble_eq_true rfl) ⟨rfl, rfl⟩ ⟨(Nat.le_of_ble_eq_true rfl), (Nat.le_of_ble_eq_true rfl)⟩ dL_year_685 (fun v50 m49 => ?_)
                  refine x_iload dL_year_688 rfl ?_
                  refine y_callSP (rest := [.int v50]) (c1 := 6) (s1 := 60) (c_Law_great ω27 p7 m49) ms_RL_31 rfl (Nat.le_of_ble_eq_true rfl) (Nat.le_of_ble_eq_true rfl) (Nat.le_of_ble_eq_true rfl) ⟨rfl, rfl⟩ ⟨(Nat.le_of_ble_eq_true rfl), (Nat.le_of_ble_eq_true rfl)⟩ dL_year_690 (fun v51 => ?_)
                  refine x_aload dL_year_693 rfl ?_
                  refine x_iconst (v := 2) dL_year_695 (by decide) ?_
                  refine y_iald hz_204 hn_204 dL_year_696 (fun hi => ?_)
                  refine y_callSP (rest := [.int v50]) (c1 := 6) (s1 := 60) (c_Law_age ω27 v51 (zI m49 204 (zIx 2)) m49) ms_RL_37 rfl (Nat.le_of_ble_eq_true rfl) (Nat.le_of_ble_eq_true rfl) (Nat.le_of_ble_eq_true rfl) ⟨rfl, rfl⟩ ⟨(Nat.le_of_ble_eq_true rfl), (Nat.le_of_ble_eq_true rfl)⟩ dL_year_697 (fun v52 => ?_)
                  refine x_icmp_ne (tgt := 754) dL_year_700 (by decide) (fun hc53 => ?_) (fun hc53 => ?_)
                  · refine x_aload_n dL_year_703 rfl ?_
                    refine x_iload dL_year_704 rfl ?_
                    refine x_sipush (v := 364) dL_year_706 (by decide) ?_
                    refine y_callVI (rest := []) (c1 := 6) (s1 := 60) (cn_Loo_date ω27 p7 364 m49) mv_RL_137 hz_16 rfl (Nat.le_of_ble_eq_true rfl) (Nat.le_of_ble_eq_true rfl) (Nat.le_of_ble_eq_true rfl) ⟨rfl, rfl⟩ ⟨(Nat.le_of_ble_eq_true rfl), (Nat.le_of_ble_eq_true rfl)⟩ dL_year_709 (fun v55 m54 => ?_)
                    refine x_iload dL_year_712 rfl ?_
                    refine x_sipush (v := 364) dL_year_714 (by decide) ?_
                    refine y_callSP (rest := [.int v55]) (c1 := 6) (s1 := 60) (c_Law_date ω27 p7 364 m54) ms_RL_40 rfl (Nat.le_of_ble_eq_true rfl) (Nat.le_of_ble_eq_true rfl) (Nat.le_of_ble_eq_true rfl) ⟨rfl, rfl⟩ ⟨(Nat.le_of_ble_eq_true rfl), (Nat.le_of_ble_eq_true rfl)⟩ dL_year_717 (fun v56 => ?_)
                    refine x_icmp_ne (tgt := 754) dL_year_720 (by decide) (fun hc57 => ?_) (fun hc57 => ?_)
                    · refine x_aload_n dL_year_723 rfl ?_
                      refine x_iload dL_year_724 rfl ?_
                      refine x_sipush (v := 365) dL_year_726 (by decide) ?_
                      refine y_callVI (rest := []) (c1 := 6) (s1 := 60) (cn_Loo_date ω27 p7 365 m54) mv_RL_137 hz_16 rfl (Nat.le_of_ble_eq_true rfl) (Nat.le_of_ble_eq_true rfl) (Nat.le_of_ble_eq_true rfl) ⟨rfl, rfl⟩ ⟨(Nat.le_of_ble_eq_true rfl), (Nat.le_of_ble_eq_true rfl)⟩ dL_year_729 (fun v59 m58 => ?_)
                      refine x_iload dL_year_732 rfl ?_
                      refine y_callSP (rest := [.int v59]) (c1 := 6) (s1 := 60) (c_Law_leap ω27 p7 m58) ms_RL_10 rfl (Nat.le_of_ble_eq_true rfl) (Nat.le_of_ble_eq_true rfl) (Nat.le_of_ble_eq_true rfl) ⟨rfl, rfl⟩ ⟨(Nat.le_of_ble_eq_true rfl), (Nat.le_of_ble_eq_true rfl)⟩ dL_year_734 (fun v60 => ?_)
                      refine y_join (fun j63 => ∀ (x62 : Int32), Sx ω ω27 true 108 6 60 kk_Law_year fI 6 60 m58 747 [none, none, none, none, none, none, none, none, none, none, none, none, none, none, none, none, none, none, none, none, none, none, none, none] [.int x62, .int v59] (j63 x62)) ?_ (fun j63 hj63 => ?_)
                      · intro x62
                        refine x_icmp_ne (tgt := 754) dL_year_747 (by decide) (fun hc64 => ?_) (fun hc64 => ?_)
                        · refine x_iconst (v := 1) dL_year_750 (by decide) ?_
                          refine x_goto (tgt := 755) dL_year_751 (by decide) ?_
                          exact x_zretF (zXt.trans h2 (zXt.trans h4 (zXt.trans h6 (zXt.trans h8 (zXt.trans h25 h27))))) rfl rfl (zBo_nar (by decide)) ⟨(Nat.le_of_ble_eq_true rfl), (Nat.le_of_ble_eq_true rfl)⟩ dL_year_755
                        · exact hj43 _
                      · refine x_if_eq (tgt := 746) dL_year_737 (by decide) (fun hc61 => ?_) (fun hc61 => ?_)
                        · refine x_iconst (v := (-1)) dL_year_746 (by decide) ?_
                          refine y_mask (bs := [false, false, false, false, false, false, false, false, false, false, false, false, false, false, false, false, false, false, false, false, false, false, false, false]) (ls' := [none, none, none, none, none, none, none, none, none, none, none, none, none, none, none, none, none, none, none, none, none, none, none, none]) rfl ?_
                          exact hj63 _
                        · refine x_sipush (v := 1231) dL_year_740 (by decide) ?_
                          refine x_goto (tgt := 747) dL_year_743 (by decide) ?_
                          refine y_mask (bs := [false, false, false, false, false, false, false, false, false, false, false, false, false, false, false, false, false, false, false, false, false, false, false, false]) (ls' := [none, none, none, none, none, none, none, none, none, none, none, none, none, none, none, none, none, none, none, none, none, none, none, none]) rfl ?_
                          exact hj63 _
                    · refine y_mask (bs := [false, false, false, false, false, false, false, false, false, false, false, false, false, false, false, false, false, false, false, false, false, false, false, false]) (ls' := [none, none, none, none, none, none, none, none, none, none, none, none, none, none, none, none, none, none, none, none, none, none, none, none]) rfl ?_
                      exact hj43 _
                  · refine y_mask (bs := [false, false, false, false, false, false, false, false, false, false, false, false, false, false, false, false, false, false, false, false, false, false, false, false]) (ls' := [none, none, none, none, none, none, none, none, none, none, none, none, none, none, none, none, none, none, none, none, none, none, none, none]) rfl ?_
                    exact hj43 _
                · refine y_mask (bs := [false, false, false, false, false, false, false, false, false, false, false, false, false, false, false, false, false, false, false, false, false, false, false, false]) (ls' := [none, none, none, none, none, none, none, none, none, none, none, none, none, none, none, none, none, none, none, none, none, none, none, none]) rfl ?_
                  exact hj43 _
              · refine y_mask (bs := [false, false, false, false, false, false, false, false, false, false, false, false, false, false, false, false, false, false, false, false, false, false, false, false]) (ls' := [none, none, none, none, none, none, none, none, none, none, none, none, none, none, none, none, none, none, none, none, none, none, none, none]) rfl ?_
                exact hj43 _
          · refine x_aload_n dL_year_626 rfl ?_
            refine x_iload dL_year_627 rfl ?_
            refine x_iload dL_year_629 rfl ?_
            refine y_callVI (rest := []) (c1 := 6) (s1 := 60) (cn_Loo_peals ω27 x35 p7 m37) mv_RL_128 hz_16 rfl (Nat.le_of_ble_eq_true rfl) (Nat.le_of_ble_eq_true rfl) (Nat.le_of_ble_eq_true rfl) ⟨rfl, rfl⟩ ⟨(Nat.le_of_ble_eq_true rfl), (Nat.le_of_ble_eq_true rfl)⟩ dL_year_631 (fun v66 m65 => ?_)
            refine x_aload dL_year_634 rfl ?_
            refine x_iload dL_year_636 rfl ?_
            refine y_taild (by rw [l27]; decide) dL_year_638 (fun hi => ?_)
            refine x_icmp_eq (tgt := 644) dL_year_639 (by decide) (fun hc67 => ?_) (fun hc67 => ?_)
            · refine y_iinc (w := 1) dL_year_644 rfl (by decide) (Nat.le_of_ble_eq_true rfl) (fun x68 => ?_)
              refine x_goto (tgt := 617) dL_year_647 (by decide) ?_
              exact hr36 _ _
            · refine x_iconst (v := 0) dL_year_642 (by decide) ?_
              exact x_zretF (zXt.trans h2 (zXt.trans h4 (zXt.trans h6 (zXt.trans h8 (zXt.trans h25 h27))))) rfl rfl (zBo_nar (by decide)) ⟨(Nat.le_of_ble_eq_true rfl), (Nat.le_of_ble_eq_true rfl)⟩ dL_year_643
        · refine x_iconst (v := 0) dL_year_283 (by decide) ?_
          refine x_istore (ls' := [some (.ref (zad ω27 16)), none, some (.ref (zad ω27 202)), none, some (.ref (zad ω27 204)), some (.ref (zad ω27 206)), some (.int p7), some (.ref (zTd ω27 0)), some (.ref (zTd ω27 1)), none, some (.ref (zTd ω27 3)), none, some (.ref (zTd ω27 4)), some (.ref (zTd ω27 5)), some (.int x28), some (.int x29), some (.int x30), some (.int 0), none, none, none, none, none, none]) dL_year_284 (Nat.le_of_ble_eq_true rfl) rfl ?_
          refine y_Lp3 (fun x69 x70 x71 => [some (.ref (zad ω27 16)), none, some (.ref (zad ω27 202)), none, some (.ref (zad ω27 204)), some (.ref (zad ω27 206)), some (.int p7), some (.ref (zTd ω27 0)), some (.ref (zTd ω27 1)), none, some (.ref (zTd ω27 3)), none, some (.ref (zTd ω27 4)), some (.ref (zTd ω27 5)), some (.int x69), some (.int x70), some (.int x30), some (.int x71), none, none, none, none, none, none]) (fun r72 hr72 x69 x70 x71 m73 => ?_) zFu _ _ _ _
          refine x_iload dL_year_286 rfl ?_
          refine x_aload dL_year_288 rfl ?_
          refine x_iconst (v := 0) dL_year_290 (by decide) ?_
          refine y_iald hz_204 hn_204 dL_year_291 (fun hi => ?_)
          refine x_icmp_ge (tgt := 608) dL_year_292 (by decide) (fun hc74 => ?_) (fun hc74 => ?_)
          · refine y_iinc (w := 1) dL_year_608 rfl (by decide) (Nat.le_of_ble_eq_true rfl) (fun x75 => ?_)
            refine x_goto (tgt := 273) dL_year_611 (by decide) ?_
            refine y_mask (bs := [true, false, true, false, true, true, true, true, true, false, true, false, true, true, true, true, true, false, false, false, false, false, false, false]) (ls' := [some (.ref (zad ω27 16)), none, some (.ref (zad ω27 202)), none, some (.ref (zad ω27 204)), some (.ref (zad ω27 206)), some (.int p7), some (.ref (zTd ω27 0)), some (.ref (zTd ω27 1)), none, some (.ref (zTd ω27 3)), none, some (.ref (zTd ω27 4)), some (.ref (zTd ω27 5)), some (.int x69), some (.int x70), some (.int x75), none, none, none, none, none, none, none]) rfl ?_
            exact hr31 _ _ _ _
          · refine x_aload dL_year_295 rfl ?_
            refine x_iload dL_year_297 rfl ?_
            refine y_taild (by rw [l27]; decide) dL_year_299 (fun hi => ?_)
            refine x_iload dL_year_300 rfl ?_
            refine y_join (fun j80 => ∀ (x77 x78 : Int32) (m79 : Mm), Sx ω ω27 true 108 6 60 kk_Law_year fI 6 60 m79 602 [some (.ref (zad ω27 16)), none, some (.ref (zad ω27 202)), none, some (.ref (zad ω27 204)), some (.ref (zad ω27 206)), some (.int p7), some (.ref (zTd ω27 0)), some (.ref (zTd ω27 1)), none, some (.ref (zTd ω27 3)), none, some (.ref (zTd ω27 4)), some (.ref (zTd ω27 5)), some (.int x77), some (.int x78), some (.int x30), some (.int x71), none, none, none, none, none, none] [] (j80 x77 x78 m79)) ?_ (fun j80 hj80 => ?_)
            · intro x77 x78 m79
              refine y_iinc (w := 1) dL_year_602 rfl (by decide) (Nat.le_of_ble_eq_true rfl) (fun x81 => ?_)
              refine x_goto (tgt := 286) dL_year_605 (by decide) ?_
              exact hr72 _ _ _ _
            · refine x_icmp_eq (tgt := 308) dL_year_302 (by decide) (fun hc76 => ?_) (fun hc76 => ?_)
              · refine x_aload dL_year_308 rfl ?_
                refine x_iload dL_year_310 rfl ?_
                refine y_taild (by rw [l27]; decide) dL_year_312 (fun hi => ?_)
                refine y_join (fun j84 => ∀ (x83 : Int32), Sx ω ω27 true 108 6 60 kk_Law_year fI 6 60 m73 348 [some (.ref (zad ω27 16)), none, some (.ref (zad ω27 202)), none, some (.ref (zad ω27 204)), some (.ref (zad ω27 206)), some (.int p7), some (.ref (zTd ω27 0)), some (.ref (zTd ω27 1)), none, some (.ref (zTd ω27 3)), none, some (.ref (zTd ω27 4)), some (.ref (zTd ω27 5)), some (.int x69), some (.int x70), some (.int x30), some (.int x71), none, none, none, none, none, none] [.int x83] (j84 x83)) ?_ (fun j84 hj84 => ?_)
                · intro x83
                  refine x_istore (ls' := [some (.ref (zad ω27 16)), none, some (.ref (zad ω27 202)), none, some (.ref (zad ω27 204)), some (.ref (zad ω27 206)), some (.int p7), some (.ref (zTd ω27 0)), some (.ref (zTd ω27 1)), none, some (.ref (zTd ω27 3)), none, some (.ref (zTd ω27 4)), some (.ref (zTd ω27 5)), some (.int x69), some (.int x70), some (.int x30), some (.int x71), some (.int x83), none, none, none, none, none]) dL_year_348 (Nat.le_of_ble_eq_true rfl) rfl ?_
                  refine x_iconst (v := 0) dL_year_350 (by decide) ?_
                  refine x_istore (ls' := [some (.ref (zad ω27 16)), none, some (.ref (zad ω27 202)), none, some (.ref (zad ω27 204)), some (.ref (zad ω27 206)), some (.int p7), some (.ref (zTd ω27 0)), some (.ref (zTd ω27 1)), none, some (.ref (zTd ω27 3)), none, some (.ref (zTd ω27 4)), some (.ref (zTd ω27 5)), some (.int x69), some (.int x70), some (.int x30), some (.int x71), some (.int x83), some (.int 0), none, none, none, none]) dL_year_351 (Nat.le_of_ble_eq_true rfl) rfl ?_
                  refine y_Lp3 (fun x85 x86 x87 => [some (.ref (zad ω27 16)), none, some (.ref (zad ω27 202)), none, some (.ref (zad ω27 204)), some (.ref (zad ω27 206)), some (.int p7), some (.ref (zTd ω27 0)), some (.ref (zTd ω27 1)), none, some (.ref (zTd ω27 3)), none, some (.ref (zTd ω27 4)), some (.ref (zTd ω27 5)), some (.int x85), some (.int x86), some (.int x30), some (.int x71), some (.int x83), some (.int x87), none, none, none, none]) (fun r88 hr88 x85 x86 x87 m89 => ?_) zFu _ _ _ _
                  refine x_iload dL_year_353 rfl ?_
                  refine x_bipush (v := 6) dL_year_355 (by decide) ?_
                  refine x_icmp_ge (tgt := 602) dL_year_357 (by decide) (fun hc90 => ?_) (fun hc90 => ?_)
                  · refine y_mask (bs := [true, false, true, false, true, true, true, true, true, false, true, false, true, true, true, true, true, true, false, false, false, false, false, false]) (ls' := [some (.ref (zad ω27 16)), none, some (.ref (zad ω27 202)), none, some (.ref (zad ω27 204)), some (.ref (zad ω27 206)), some (.int p7), some (.ref (zTd ω27 0)), some (.ref (zTd ω27 1)), none, some (.ref (zTd ω27 3)), none, some (.ref (zTd ω27 4)), some (.ref (zTd ω27 5)), some (.int x85), some (.int x86), some (.int x30), some (.int x71), none, none, none, none, none, none]) rfl ?_
                    exact hj80 _ _ _
                  · refine x_iconst (v := 0) dL_year_360 (by decide) ?_
                    refine x_istore (ls' := [some (.ref (zad ω27 16)), none, some (.ref (zad ω27 202)), none, some (.ref (zad ω27 204)), some (.ref (zad ω27 206)), some (.int p7), some (.ref (zTd ω27 0)), some (.ref (zTd ω27 1)), none, some (.ref (zTd ω27 3)), none, some (.ref (zTd ω27 4)), some (.ref (zTd ω27 5)), some (.int x85), some (.int x86), some (.int x30), some (.int x71), some (.int x83), some (.int x87), some (.int 0), none, none, none]) dL_year_361 (Nat.le_of_ble_eq_true rfl) rfl ?_
                    refine y_Lp3 (fun x91 x92 x93 => [some (.ref (zad ω27 16)), none, some (.ref (zad ω27 202)), none, some (.ref (zad ω27 204)), some (.ref (zad ω27 206)), some (.int p7), some (.ref (zTd ω27 0)), some (.ref (zTd ω27 1)), none, some (.ref (zTd ω27 3)), none, some (.ref (zTd ω27 4)), some (.ref (zTd ω27 5)), some (.int x91), some (.int x92), some (.int x30), some (.int x71), some (.int x83), some (.int x87), some (.int x93), none, none, none]) (fun r94 hr94 x91 x92 x93 m95 => ?_) zFu _ _ _ _
                    refine x_iload dL_year_363 rfl ?_
                    refine x_bipush (v := 6) dL_year_365 (by decide) ?_
                    refine x_icmp_ge (tgt := 596) dL_year_367 (by decide) (fun hc96 => ?_) (fun hc96 => ?_)
                    · refine y_iinc (w := 1) dL_year_596 rfl (by decide) (Nat.le_of_ble_eq_true rfl) (fun x97 => ?_)
                      refine x_goto (tgt := 353) dL_year_599 (by decide) ?_
                      refine y_mask (bs := [true, false, true, false, true, true, true, true, true, false, true, false, true, true, true, true, true, true, true, true, false, false, false, false]) (ls' := [some (.ref (zad ω27 16)), none, some (.ref (zad ω27 202)), none, some (.ref (zad ω27 204)), some (.ref (zad ω27 206)), some (.int p7), some (.ref (zTd ω27 0)), some (.ref (zTd ω27 1)), none, some (.ref (zTd ω27 3)), none, some (.ref (zTd ω27 4)), some (.ref (zTd ω27 5)), some (.int x91), some (.int x92), some (.int x30), some (.int x71), some (.int x83), some (.int x97), none, none, none, none]) rfl ?_
                      exact hr88 _ _ _ _
                    · refine x_iconst (v := (-1)) dL_year_370 (by decide) ?_
                      refine x_istore (ls' := [some (.ref (zad ω27 16)), none, some (.ref (zad ω27 202)), none, some (.ref (zad ω27 204)), some (.ref (zad ω27 206)), some (.int p7), some (.ref (zTd ω27 0)), some (.ref (zTd ω27 1)), none, some (.ref (zTd ω27 3)), none, some (.ref (zTd ω27 4)), some (.ref (zTd ω27 5)), some (.int x91), some (.int x92), some (.int x30), some (.int x71), some (.int x83), some (.int x87), some (.int x93), some (.int (-1)), none, none]) dL_year_371 (Nat.le_of_ble_eq_true rfl) rfl ?_
                      refine x_iload dL_year_373 rfl ?_
                      refine x_aload dL_year_375 rfl ?_
                      refine x_iload dL_year_377 rfl ?_
                      refine y_iald hz_206 hn_206 dL_year_379 (fun hi => ?_)
                      refine y_join (fun j100 => ∀ (x99 : Int32), Sx ω ω27 true 108 6 60 kk_Law_year fI 6 60 m95 399 [some (.ref (zad ω27 16)), none, some (.ref (zad ω27 202)), none, some (.ref (zad ω27 204)), some (.ref (zad ω27 206)), some (.int p7), some (.ref (zTd ω27 0)), some (.ref (zTd ω27 1)), none, some (.ref (zTd ω27 3)), none, some (.ref (zTd ω27 4)), some (.ref (zTd ω27 5)), some (.int x91), some (.int x92), some (.int x30), some (.int x71), some (.int x83), some (.int x87), some (.int x93), some (.int (-1)), none, none] [.int x99] (j100 x99)) ?_ (fun j100 hj100 => ?_)
                      · intro x99
                        refine x_istore (ls' := [some (.ref (zad ω27 16)), none, some (.ref (zad ω27 202)), none, some (.ref (zad ω27 204)), some (.ref (zad ω27 206)), some (.int p7), some (.ref (zTd ω27 0)), some (.ref (zTd ω27 1)), none, some (.ref (zTd ω27 3)), none, some (.ref (zTd ω27 4)), some (.ref (zTd ω27 5)), some (.int x91), some (.int x92), some (.int x30), some (.int x71), some (.int x83), some (.int x87), some (.int x93), some (.int (-1)), some (.int x99), none]) dL_year_399 (Nat.le_of_ble_eq_true rfl) rfl ?_
                        refine x_iconst (v := 0) dL_year_401 (by decide) ?_
                        refine x_istore (ls' := [some (.ref (zad ω27 16)), none, some (.ref (zad ω27 202)), none, some (.ref (zad ω27 204)), some (.ref (zad ω27 206)), some (.int p7), some (.ref (zTd ω27 0)), some (.ref (zTd ω27 1)), none, some (.ref (zTd ω27 3)), none, some (.ref (zTd ω27 4)), some (.ref (zTd ω27 5)), some (.int x91), some (.int x92), some (.int x30), some (.int x71), some (.int x83), some (.int x87), some (.int x93), some (.int (-1)), some (.int x99), some (.int 0)]) dL_year_402 (Nat.le_of_ble_eq_true rfl) rfl ?_
                        refine y_Lq2 (fun x101 x102 => [some (.ref (zad ω27 16)), none, some (.ref (zad ω27 202)), none, some (.ref (zad ω27 204)), some (.ref (zad ω27 206)), some (.int p7), some (.ref (zTd ω27 0)), some (.ref (zTd ω27 1)), none, some (.ref (zTd ω27 3)), none, some (.ref (zTd ω27 4)), some (.ref (zTd ω27 5)), some (.int x91), some (.int x92), some (.int x30), some (.int x71), some (.int x83), some (.int x87), some (.int x93), some (.int x101), some (.int x99), some (.int x102)]) (fun r103 hr103 x101 x102 => ?_) zFu _ _
                        refine x_iload dL_year_404 rfl ?_
                        refine x_aload dL_year_406 rfl ?_
                        refine x_iconst (v := 3) dL_year_408 (by decide) ?_
                        refine y_iald hz_204 hn_204 dL_year_409 (fun hi => ?_)
                        refine y_join (fun j105 => Sx ω ω27 true 108 6 60 kk_Law_year fI 6 60 m95 493 [some (.ref (zad ω27 16)), none, some (.ref (zad ω27 202)), none, some (.ref (zad ω27 204)), some (.ref (zad ω27 206)), some (.int p7), some (.ref (zTd ω27 0)), some (.ref (zTd ω27 1)), none, some (.ref (zTd ω27 3)), none, some (.ref (zTd ω27 4)), some (.ref (zTd ω27 5)), some (.int x91), some (.int x92), some (.int x30), some (.int x71), some (.int x83), some (.int x87), some (.int x93), some (.int x101), some (.int x99), none] [] j105) ?_ (fun j105 hj105 => ?_)
                        · refine x_iload dL_year_493 rfl ?_
                          refine x_bipush (v := 12) dL_year_495 (by decide) ?_
                          refine y_join (fun j109 => ∀ (x107 : Int32) (m108 : Mm), Sx ω ω27 true 108 6 60 kk_Law_year fI 6 60 m108 543 [some (.ref (zad ω27 16)), none, some (.ref (zad ω27 202)), none, some (.ref (zad ω27 204)), some (.ref (zad ω27 206)), some (.int p7), some (.ref (zTd ω27 0)), some (.ref (zTd ω27 1)), none, some (.ref (zTd ω27 3)), none, some (.ref (zTd ω27 4)), some (.ref (zTd ω27 5)), some (.int x91), some (.int x107), some (.int x30), some (.int x71), some (.int x83), some (.int x87), some (.int x93), some (.int x101), some (.int x99), none] [] (j109 x107 m108)) ?_ (fun j109 hj109 => ?_)
                          · intro x107 m108
                            refine x_iload dL_year_543 rfl ?_
                            refine x_iload dL_year_545 rfl ?_
                            refine y_join (fun j112 => ∀ (x111 : Int32), Sx ω ω27 true 108 6 60 kk_Law_year fI 6 60 m108 560 [some (.ref (zad ω27 16)), none, some (.ref (zad ω27 202)), none, some (.ref (zad ω27 204)), some (.ref (zad ω27 206)), some (.int p7), some (.ref (zTd ω27 0)), some (.ref (zTd ω27 1)), none, some (.ref (zTd ω27 3)), none, some (.ref (zTd ω27 4)), some (.ref (zTd ω27 5)), none, some (.int x107), some (.int x30), some (.int x71), some (.int x83), some (.int x87), some (.int x93), some (.int x101), none, none] [.int x111, .int x91] (j112 x111)) ?_ (fun j112 hj112 => ?_)
                            · intro x111
                              refine x_iadd dL_year_560 ?_
                              refine y_letI (fun x113 => ?_)
                              refine x_istore (ls' := [some (.ref (zad ω27 16)), none, some (.ref (zad ω27 202)), none, some (.ref (zad ω27 204)), some (.ref (zad ω27 206)), some (.int p7), some (.ref (zTd ω27 0)), some (.ref (zTd ω27 1)), none, some (.ref (zTd ω27 3)), none, some (.ref (zTd ω27 4)), some (.ref (zTd ω27 5)), some (.int x113), some (.int x107), some (.int x30), some (.int x71), some (.int x83), some (.int x87), some (.int x93), some (.int x101), none, none]) dL_year_561 (Nat.le_of_ble_eq_true rfl) rfl ?_
                              refine x_iload dL_year_563 rfl ?_
                              refine y_join (fun j116 => ∀ (m115 : Mm), Sx ω ω27 true 108 6 60 kk_Law_year fI 6 60 m115 590 [some (.ref (zad ω27 16)), none, some (.ref (zad ω27 202)), none, some (.ref (zad ω27 204)), some (.ref (zad ω27 206)), some (.int p7), some (.ref (zTd ω27 0)), some (.ref (zTd ω27 1)), none, some (.ref (zTd ω27 3)), none, some (.ref (zTd ω27 4)), some (.ref (zTd ω27 5)), some (.int x113), some (.int x107), some (.int x30), some (.int x71), some (.int x83), some (.int x87), some (.int x93), none, none, none] [] (j116 m115)) ?_ (fun j116 hj116 => ?_)
                              · intro m115
                                refine y_iinc (w := 1) dL_year_590 rfl (by decide) (Nat.le_of_ble_eq_true rfl) (fun x117 => ?_)
                                refine x_goto (tgt := 363) dL_year_593 (by decide) ?_
                                exact hr94 _ _ _ _
                              · refine x_if_ge (tgt := 571) dL_year_565 (by decide) (fun hc114 => ?_) (fun hc114 => ?_)
                                · refine x_aload dL_year_571 rfl ?_
                                  refine x_iload dL_year_573 rfl ?_
                                  refine x_dup2 dL_year_575 rfl rfl ?_
                                  refine y_taild (by rw [l27]; decide) dL_year_576 (fun hi => ?_)
                                  refine x_iconst (v := 1) dL_year_577 (by decide) ?_
                                  refine x_iadd dL_year_578 ?_
                                  refine y_tast (by rw [l27]; decide) dL_year_579 (fun hi => ?_)
                                  refine y_letM (fun m118 => ?_)
                                  refine x_aload dL_year_580 rfl ?_
                                  refine x_iload dL_year_582 rfl ?_
                                  refine x_iload dL_year_584 rfl ?_
                                  refine x_iload dL_year_586 rfl ?_
                                  refine x_iadd dL_year_588 ?_
                                  refine y_tast (by rw [l27]; decide) dL_year_589 (fun hi => ?_)
                                  refine y_letM (fun m119 => ?_)
                                  refine y_mask (bs := [true, false, true, false, true, true, true, true, true, false, true, false, true, true, true, true, true, true, true, true, true, false, false, false]) (ls' := [some (.ref (zad ω27 16)), none, some (.ref (zad ω27 202)), none, some (.ref (zad ω27 204)), some (.ref (zad ω27 206)), some (.int p7), some (.ref (zTd ω27 0)), some (.ref (zTd ω27 1)), none, some (.ref (zTd ω27 3)), none, some (.ref (zTd ω27 4)), some (.ref (zTd ω27 5)), some (.int x113), some (.int x107), some (.int x30), some (.int x71), some (.int x83), some (.int x87), some (.int x93), none, none, none]) rfl ?_
                                  exact hj116 _
                                · refine x_goto (tgt := 590) dL_year_568 (by decide) ?_
                                  refine y_mask (bs := [true, false, true, false, true, true, true, true, true, false, true, false, true, true, true, true, true, true, true, true, true, false, false, false]) (ls' := [some (.ref (zad ω27 16)), none, some (.ref (zad ω27 202)), none, some (.ref (zad ω27 204)), some (.ref (zad ω27 206)), some (.int p7), some (.ref (zTd ω27 0)), some (.ref (zTd ω27 1)), none, some (.ref (zTd ω27 3)), none, some (.ref (zTd ω27 4)), some (.ref (zTd ω27 5)), some (.int x113), some (.int x107), some (.int x30), some (.int x71), some (.int x83), some (.int x87), some (.int x93), none, none, none]) rfl ?_
                                  exact hj116 _
                            · refine y_join (fun j120 => Sx ω ω27 true 108 6 60 kk_Law_year fI 6 60 m108 559 [some (.ref (zad ω27 16)), none, some (.ref (zad ω27 202)), none, some (.ref (zad ω27 204)), some (.ref (zad ω27 206)), some (.int p7), some (.ref (zTd ω27 0)), some (.ref (zTd ω27 1)), none, some (.ref (zTd ω27 3)), none, some (.ref (zTd ω27 4)), some (.ref (zTd ω27 5)), none, some (.int x107), some (.int x30), some (.int x71), some (.int x83), some (.int x87), some (.int x93), some (.int x101), none, none] [.int x91] j120) ?_ (fun j120 hj120 => ?_)
                              · refine x_iconst (v := 0) dL_year_559 (by decide) ?_
                                exact hj112 _
                              · refine x_if_eq (tgt := 559) dL_year_547 (by decide) (fun hc110 => ?_) (fun hc110 => ?_)
                                · refine y_mask (bs := [true, false, true, false, true, true, true, true, true, false, true, false, true, true, false, true, true, true, true, true, true, true, false, false]) (ls' := [some (.ref (zad ω27 16)), none, some (.ref (zad ω27 202)), none, some (.ref (zad ω27 204)), some (.ref (zad ω27 206)), some (.int p7), some (.ref (zTd ω27 0)), some (.ref (zTd ω27 1)), none, some (.ref (zTd ω27 3)), none, some (.ref (zTd ω27 4)), some (.ref (zTd ω27 5)), none, some (.int x107), some (.int x30), some (.int x71), some (.int x83), some (.int x87), some (.int x93), some (.int x101), none, none]) rfl ?_
                                  exact hj120
                                · refine x_iload dL_year_550 rfl ?_
                                  refine x_if_ge (tgt := 559) dL_year_552 (by decide) (fun hc121 => ?_) (fun hc121 => ?_)
                                  · refine y_mask (bs := [true, false, true, false, true, true, true, true, true, false, true, false, true, true, false, true, true, true, true, true, true, true, false, false]) (ls' := [some (.ref (zad ω27 16)), none, some (.ref (zad ω27 202)), none, some (.ref (zad ω27 204)), some (.ref (zad ω27 206)), some (.int p7), some (.ref (zTd ω27 0)), some (.ref (zTd ω27 1)), none, some (.ref (zTd ω27 3)), none, some (.ref (zTd ω27 4)), some (.ref (zTd ω27 5)), none, some (.int x107), some (.int x30), some (.int x71), some (.int x83), some (.int x87), some (.int x93), some (.int x101), none, none]) rfl ?_
                                    exact hj120
                                  · refine x_iconst (v := 1) dL_year_555 (by decide) ?_
                                    refine x_goto (tgt := 560) dL_year_556 (by decide) ?_
                                    refine y_mask (bs := [true, false, true, false, true, true, true, true, true, false, true, false, true, true, false, true, true, true, true, true, true, true, false, false]) (ls' := [some (.ref (zad ω27 16)), none, some (.ref (zad ω27 202)), none, some (.ref (zad ω27 204)), some (.ref (zad ω27 206)), some (.int p7), some (.ref (zTd ω27 0)), some (.ref (zTd ω27 1)), none, some (.ref (zTd ω27 3)), none, some (.ref (zTd ω27 4)), some (.ref (zTd ω27 5)), none, some (.int x107), some (.int x30), some (.int x71), some (.int x83), some (.int x87), some (.int x93), some (.int x101), none, none]) rfl ?_
                                    exact hj112 _
                          · refine x_icmp_ge (tgt := 543) dL_year_497 (by decide) (fun hc106 => ?_) (fun hc106 => ?_)
                            · exact hj109 _ _
                            · refine x_iload dL_year_500 rfl ?_
                              refine y_join (fun j123 => Sx ω ω27 true 108 6 60 kk_Law_year fI 6 60 m95 521 [some (.ref (zad ω27 16)), none, some (.ref (zad ω27 202)), none, some (.ref (zad ω27 204)), some (.ref (zad ω27 206)), some (.int p7), some (.ref (zTd ω27 0)), some (.ref (zTd ω27 1)), none, some (.ref (zTd ω27 3)), none, some (.ref (zTd ω27 4)), some (.ref (zTd ω27 5)), some (.int x91), some (.int x92), some (.int x30), some (.int x71), some (.int x83), some (.int x87), some (.int x93), some (.int x101), some (.int x99), none] [] j123) ?_ (fun j123 hj123 => ?_)
                              · refine x_aload_n dL_year_521 rfl ?_
                                refine x_iload dL_year_522 rfl ?_
                                refine x_iload dL_year_524 rfl ?_
                                refine x_iload dL_year_526 rfl ?_
                                refine x_iload dL_year_528 rfl ?_
                                refine y_callVI (rest := []) (c1 := 6) (s1 := 60) (cn_Loo_rings ω27 x71 p7 x87 x93 m95) mv_RL_125 hz_16 rfl (Nat.le_of_ble_eq_true rfl) (Nat.le_of_ble_eq_true rfl) (Nat.le_of_ble_eq_true rfl) ⟨rfl, rfl⟩ ⟨(Nat.le_of_ble_eq_true rfl), (Nat.le_of_ble_eq_true rfl)⟩ dL_year_530 (fun v125 m124 => ?_)
                                refine x_iload dL_year_533 rfl ?_
                                refine x_icmp_eq (tgt := 540) dL_year_535 (by decide) (fun hc126 => ?_) (fun hc126 => ?_)
                                · refine y_iinc (w := 1) dL_year_540 rfl (by decide) (Nat.le_of_ble_eq_true rfl) (fun x127 => ?_)
                                  exact hj109 _ _
                                · refine x_iconst (v := 0) dL_year_538 (by decide) ?_
                                  exact x_zretF (zXt.trans h2 (zXt.trans h4 (zXt.trans h6 (zXt.trans h8 (zXt.trans h25 h27))))) rfl rfl (zBo_nar (by decide)) ⟨(Nat.le_of_ble_eq_true rfl), (Nat.le_of_ble_eq_true rfl)⟩ dL_year_539
                              · refine x_if_ne (tgt := 521) dL_year_502 (by decide) (fun hc122 => ?_) (fun hc122 => ?_)
                                · refine x_iload dL_year_505 rfl ?_
                                  refine x_iconst (v := 5) dL_year_507 (by decide) ?_
                                  refine x_icmp_ne (tgt := 543) dL_year_508 (by decide) (fun hc128 => ?_) (fun hc128 => ?_)
                                  · refine x_iload dL_year_511 rfl ?_
                                    refine x_iload dL_year_513 rfl ?_
                                    refine x_bipush (v := 6) dL_year_515 (by decide) ?_
                                    refine x_irem dL_year_517 (by decide) ?_
                                    refine x_icmp_ne (tgt := 543) dL_year_518 (by decide) (fun hc129 => ?_) (fun hc129 => ?_)
                                    · exact hj123
                                    · exact hj109 _ _
                                  · exact hj109 _ _
                                · exact hj123
                        · refine x_icmp_ge (tgt := 493) dL_year_410 (by decide) (fun hc104 => ?_) (fun hc104 => ?_)
                          · refine y_mask (bs := [true, false, true, false, true, true, true, true, true, false, true, false, true, true, true, true, true, true, true, true, true, true, true, false]) (ls' := [some (.ref (zad ω27 16)), none, some (.ref (zad ω27 202)), none, some (.ref (zad ω27 204)), some (.ref (zad ω27 206)), some (.int p7), some (.ref (zTd ω27 0)), some (.ref (zTd ω27 1)), none, some (.ref (zTd ω27 3)), none, some (.ref (zTd ω27 4)), some (.ref (zTd ω27 5)), some (.int x91), some (.int x92), some (.int x30), some (.int x71), some (.int x83), some (.int x87), some (.int x93), some (.int x101), some (.int x99), none]) rfl ?_
                            exact hj105
                          · refine x_iload dL_year_413 rfl ?_
                            refine x_if_eq (tgt := 493) dL_year_415 (by decide) (fun hc130 => ?_) (fun hc130 => ?_)
                            · refine y_mask (bs := [true, false, true, false, true, true, true, true, true, false, true, false, true, true, true, true, true, true, true, true, true, true, true, false]) (ls' := [some (.ref (zad ω27 16)), none, some (.ref (zad ω27 202)), none, some (.ref (zad ω27 204)), some (.ref (zad ω27 206)), some (.int p7), some (.ref (zTd ω27 0)), some (.ref (zTd ω27 1)), none, some (.ref (zTd ω27 3)), none, some (.ref (zTd ω27 4)), some (.ref (zTd ω27 5)), some (.int x91), some (.int x92), some (.int x30), some (.int x71), some (.int x83), some (.int x87), some (.int x93), some (.int x101), some (.int x99), none]) rfl ?_
                              exact hj105
                            · refine x_aload dL_year_418 rfl ?_
                              refine x_bipush (v := 6) dL_year_420 (by decide) ?_
                              refine x_iconst (v := 2) dL_year_422 (by decide) ?_
                              refine x_iload dL_year_423 rfl ?_
                              refine x_imul dL_year_425 ?_
                              refine x_iadd dL_year_426 ?_
                              refine y_iald hz_206 hn_206 dL_year_427 (fun hi => ?_)
                              refine x_iload dL_year_428 rfl ?_
                              refine y_join (fun j133 => ∀ (x132 : Int32), Sx ω ω27 true 108 6 60 kk_Law_year fI 6 60 m95 487 [some (.ref (zad ω27 16)), none, some (.ref (zad ω27 202)), none, some (.ref (zad ω27 204)), some (.ref (zad ω27 206)), some (.int p7), some (.ref (zTd ω27 0)), some (.ref (zTd ω27 1)), none, some (.ref (zTd ω27 3)), none, some (.ref (zTd ω27 4)), some (.ref (zTd ω27 5)), some (.int x91), some (.int x92), some (.int x30), some (.int x71), some (.int x83), some (.int x87), some (.int x93), some (.int x132), some (.int x99), some (.int x102)] [] (j133 x132)) ?_ (fun j133 hj133 => ?_)
                              · intro x132
                                refine y_iinc (w := 1) dL_year_487 rfl (by decide) (Nat.le_of_ble_eq_true rfl) (fun x134 => ?_)
                                refine x_goto (tgt := 404) dL_year_490 (by decide) ?_
                                exact hr103 _ _
                              · refine x_icmp_ne (tgt := 487) dL_year_430 (by decide) (fun hc131 => ?_) (fun hc131 => ?_)
                                · refine x_aload dL_year_433 rfl ?_
                                  refine x_iload dL_year_435 rfl ?_
                                  refine y_taild (by rw [l27]; decide) dL_year_437 (fun hi => ?_)
                                  refine y_join (fun j136 => Sx ω ω27 true 108 6 60 kk_Law_year fI 6 60 m95 465 [some (.ref (zad ω27 16)), none, some (.ref (zad ω27 202)), none, some (.ref (zad ω27 204)), some (.ref (zad ω27 206)), some (.int p7), some (.ref (zTd ω27 0)), some (.ref (zTd ω27 1)), none, some (.ref (zTd ω27 3)), none, some (.ref (zTd ω27 4)), some (.ref (zTd ω27 5)), some (.int x91), some (.int x92), some (.int x30), some (.int x71), some (.int x83), some (.int x87), some (.int x93), some (.int x101), some (.int x99), some (.int x102)] [] j136) ?_ (fun j136 hj136 => ?_)
                                  · refine x_iload dL_year_465 rfl ?_
                                    refine y_join (fun j138 => Sx ω ω27 true 108 6 60 kk_Law_year fI 6 60 m95 483 [some (.ref (zad ω27 16)), none, some (.ref (zad ω27 202)), none, some (.ref (zad ω27 204)), some (.ref (zad ω27 206)), some (.int p7), some (.ref (zTd ω27 0)), some (.ref (zTd ω27 1)), none, some (.ref (zTd ω27 3)), none, some (.ref (zTd ω27 4)), some (.ref (zTd ω27 5)), some (.int x91), some (.int x92), some (.int x30), some (.int x71), some (.int x83), some (.int x87), some (.int x93), none, some (.int x99), some (.int x102)] [] j138) ?_ (fun j138 hj138 => ?_)
                                    · refine x_iload dL_year_483 rfl ?_
                                      refine x_istore (ls' := [some (.ref (zad ω27 16)), none, some (.ref (zad ω27 202)), none, some (.ref (zad ω27 204)), some (.ref (zad ω27 206)), some (.int p7), some (.ref (zTd ω27 0)), some (.ref (zTd ω27 1)), none, some (.ref (zTd ω27 3)), none, some (.ref (zTd ω27 4)), some (.ref (zTd ω27 5)), some (.int x91), some (.int x92), some (.int x30), some (.int x71), some (.int x83), some (.int x87), some (.int x93), some (.int x102), some (.int x99), some (.int x102)]) dL_year_485 (Nat.le_of_ble_eq_true rfl) rfl ?_
                                      exact hj133 _
                                    · refine x_if_lt (tgt := 483) dL_year_467 (by decide) (fun hc137 => ?_) (fun hc137 => ?_)
                                      · refine y_mask (bs := [true, false, true, false, true, true, true, true, true, false, true, false, true, true, true, true, true, true, true, true, true, false, true, true]) (ls' := [some (.ref (zad ω27 16)), none, some (.ref (zad ω27 202)), none, some (.ref (zad ω27 204)), some (.ref (zad ω27 206)), some (.int p7), some (.ref (zTd ω27 0)), some (.ref (zTd ω27 1)), none, some (.ref (zTd ω27 3)), none, some (.ref (zTd ω27 4)), some (.ref (zTd ω27 5)), some (.int x91), some (.int x92), some (.int x30), some (.int x71), some (.int x83), some (.int x87), some (.int x93), none, some (.int x99), some (.int x102)]) rfl ?_
                                        exact hj138
                                      · refine x_aload dL_year_470 rfl ?_
                                        refine x_iload dL_year_472 rfl ?_
                                        refine y_taild (by rw [l27]; decide) dL_year_474 (fun hi => ?_)
                                        refine x_aload dL_year_475 rfl ?_
                                        refine x_iload dL_year_477 rfl ?_
                                        refine y_taild (by rw [l27]; decide) dL_year_479 (fun hi => ?_)
                                        refine x_icmp_ge (tgt := 487) dL_year_480 (by decide) (fun hc139 => ?_) (fun hc139 => ?_)
                                        · exact hj133 _
                                        · refine y_mask (bs := [true, false, true, false, true, true, true, true, true, false, true, false, true, true, true, true, true, true, true, true, true, false, true, true]) (ls' := [some (.ref (zad ω27 16)), none, some (.ref (zad ω27 202)), none, some (.ref (zad ω27 204)), some (.ref (zad ω27 206)), some (.int p7), some (.ref (zTd ω27 0)), some (.ref (zTd ω27 1)), none, some (.ref (zTd ω27 3)), none, some (.ref (zTd ω27 4)), some (.ref (zTd ω27 5)), some (.int x91), some (.int x92), some (.int x30), some (.int x71), some (.int x83), some (.int x87), some (.int x93), none, some (.int x99), some (.int x102)]) rfl ?_
                                          exact hj138
                                  · refine x_if_le (tgt := 465) dL_year_438 (by decide) (fun hc135 => ?_) (fun hc135 => ?_)
                                    · exact hj136
                                    · refine x_iload dL_year_441 rfl ?_
                                      refine x_aload dL_year_443 rfl ?_
                                      refine x_iload dL_year_445 rfl ?_
                                      refine y_taild (by rw [l27]; decide) dL_year_447 (fun hi => ?_)
                                      refine x_isub dL_year_448 ?_
                                      refine x_aload dL_year_449 rfl ?_
                                      refine x_bipush (v := 7) dL_year_451 (by decide) ?_
                                      refine x_iconst (v := 2) dL_year_453 (by decide) ?_
                                      refine x_iload dL_year_454 rfl ?_
                                      refine x_imul dL_year_456 ?_
                                      refine x_iadd dL_year_457 ?_
                                      refine y_iald hz_206 hn_206 dL_year_458 (fun hi => ?_)
                                      refine x_icmp_gt (tgt := 465) dL_year_459 (by decide) (fun hc140 => ?_) (fun hc140 => ?_)
                                      · exact hj136
                                      · refine x_goto (tgt := 487) dL_year_462 (by decide) ?_
                                        exact hj133 _
                                · exact hj133 _
                      · refine y_join (fun j141 => Sx ω ω27 true 108 6 60 kk_Law_year fI 6 60 m95 398 [some (.ref (zad ω27 16)), none, some (.ref (zad ω27 202)), none, some (.ref (zad ω27 204)), some (.ref (zad ω27 206)), some (.int p7), some (.ref (zTd ω27 0)), some (.ref (zTd ω27 1)), none, some (.ref (zTd ω27 3)), none, some (.ref (zTd ω27 4)), some (.ref (zTd ω27 5)), some (.int x91), some (.int x92), some (.int x30), some (.int x71), some (.int x83), some (.int x87), some (.int x93), some (.int (-1)), none, none] [] j141) ?_ (fun j141 hj141 => ?_)
                        · refine x_iconst (v := 0) dL_year_398 (by decide) ?_
                          exact hj100 _
                        · refine x_icmp_ge (tgt := 398) dL_year_380 (by decide) (fun hc98 => ?_) (fun hc98 => ?_)
                          · exact hj141
                          · refine x_iload dL_year_383 rfl ?_
                            refine x_aload_n dL_year_385 rfl ?_
                            refine x_iload dL_year_386 rfl ?_
                            refine y_iald hz_202 hn_202 dL_year_388 (fun hi => ?_)
                            refine x_iconst (v := 2) dL_year_389 (by decide) ?_
                            refine x_idiv dL_year_390 (by decide) ?_
                            refine x_icmp_ge (tgt := 398) dL_year_391 (by decide) (fun hc142 => ?_) (fun hc142 => ?_)
                            · exact hj141
                            · refine x_iconst (v := 1) dL_year_394 (by decide) ?_
                              refine x_goto (tgt := 399) dL_year_395 (by decide) ?_
                              exact hj100 _
                · refine y_join (fun j143 => Sx ω ω27 true 108 6 60 kk_Law_year fI 6 60 m73 347 [some (.ref (zad ω27 16)), none, some (.ref (zad ω27 202)), none, some (.ref (zad ω27 204)), some (.ref (zad ω27 206)), some (.int p7), some (.ref (zTd ω27 0)), some (.ref (zTd ω27 1)), none, some (.ref (zTd ω27 3)), none, some (.ref (zTd ω27 4)), some (.ref (zTd ω27 5)), some (.int x69), some (.int x70), some (.int x30), some (.int x71), none, none, none, none, none, none] [] j143) ?_ (fun j143 hj143 => ?_)
                  · refine x_iconst (v := 0) dL_year_347 (by decide) ?_
                    exact hj84 _
                  · refine x_if_lt (tgt := 347) dL_year_313 (by decide) (fun hc82 => ?_) (fun hc82 => ?_)
                    · exact hj143
                    · refine x_aload dL_year_316 rfl ?_
                      refine x_iload dL_year_318 rfl ?_
                      refine y_taild (by rw [l27]; decide) dL_year_320 (fun hi => ?_)
                      refine x_aload dL_year_321 rfl ?_
                      refine x_iload dL_year_323 rfl ?_
                      refine y_taild (by rw [l27]; decide) dL_year_325 (fun hi => ?_)
                      refine x_isub dL_year_326 ?_
                      refine x_aload dL_year_327 rfl ?_
                      refine x_iload dL_year_329 rfl ?_
                      refine y_taild (by rw [l27]; decide) dL_year_331 (fun hi => ?_)
                      refine x_aload dL_year_332 rfl ?_
                      refine x_iload dL_year_334 rfl ?_
                      refine y_taild (by rw [l27]; decide) dL_year_336 (fun hi => ?_)
                      refine x_isub dL_year_337 ?_
                      refine x_imul dL_year_338 ?_
                      refine x_iconst (v := 1) dL_year_339 (by decide) ?_
                      refine x_icmp_ne (tgt := 347) dL_year_340 (by decide) (fun hc144 => ?_) (fun hc144 => ?_)
                      · refine x_iconst (v := 1) dL_year_343 (by decide) ?_
                        refine x_goto (tgt := 348) dL_year_344 (by decide) ?_
                        exact hj84 _
                      · exact hj143
              · refine x_goto (tgt := 602) dL_year_305 (by decide) ?_
                exact hj80 _ _ _
      · refine x_iconst (v := 0) dL_year_250 (by decide) ?_
        exact x_zretF (zXt.trans h2 (zXt.trans h4 (zXt.trans h6 h8))) rfl rfl (zBo_nar (by decide)) ⟨(Nat.le_of_ble_eq_true rfl), (Nat.le_of_ble_eq_true rfl)⟩ dL_year_251
    · refine x_iconst (v := 0) dL_year_250 (by decide) ?_
      exact x_zretF (zXt.trans h2 (zXt.trans h4 (zXt.trans h6 h8))) rfl rfl (zBo_nar (by decide)) ⟨(Nat.le_of_ble_eq_true rfl), (Nat.le_of_ble_eq_true rfl)⟩ dL_year_251
  · refine x_aload dL_year_87 rfl ?_
    refine x_iload dL_year_89 rfl ?_
    refine y_taild (by rw [l8]; decide) dL_year_91 (fun hi => ?_)
    refine x_aload dL_year_92 rfl ?_
    refine x_iload dL_year_94 rfl ?_
    refine y_taild (by rw [l8]; decide) dL_year_96 (fun hi => ?_)
    refine x_isub dL_year_97 ?_
    refine y_letI (fun x145 => ?_)
    refine x_istore (ls' := [some (.ref (zad ω8 16)), none, some (.ref (zad ω8 202)), none, some (.ref (zad ω8 204)), some (.ref (zad ω8 206)), some (.int p7), some (.ref (zTd ω8 0)), some (.ref (zTd ω8 1)), some (.ref (zTd ω8 2)), some (.ref (zTd ω8 3)), some (.int x12), some (.int x13), some (.int x145), none, none, none, none, none, none, none, none, none, none]) dL_year_98 (Nat.le_of_ble_eq_true rfl) rfl ?_
    refine x_aload_n dL_year_100 rfl ?_
    refine x_iload dL_year_101 rfl ?_
    refine x_iload dL_year_103 rfl ?_
    refine y_callVI (rest := []) (c1 := 4) (s1 := 40) (cn_Loo_bent ω8 x13 p7 m15) mv_RL_107 hz_16 rfl (Nat.le_of_ble_eq_true rfl) (Nat.le_of_ble_eq_true rfl) (Nat.le_of_ble_eq_true rfl) ⟨rfl, rfl⟩ ⟨(Nat.le_of_ble_eq_true rfl), (Nat.le_of_ble_eq_true rfl)⟩ dL_year_105 (fun v147 m146 => ?_)
    refine x_aload dL_year_108 rfl ?_
    refine x_iload dL_year_110 rfl ?_
    refine y_taild (by rw [l8]; decide) dL_year_112 (fun hi => ?_)
    refine x_icmp_ne (tgt := 205) dL_year_113 (by decide) (fun hc148 => ?_) (fun hc148 => ?_)
    · refine x_aload_n dL_year_116 rfl ?_
      refine x_iload dL_year_117 rfl ?_
      refine x_iload dL_year_119 rfl ?_
      refine y_callVI (rest := []) (c1 := 4) (s1 := 40) (cn_Loo_day ω8 x13 p7 m146) mv_RL_110 hz_16 rfl (Nat.le_of_ble_eq_true rfl) (Nat.le_of_ble_eq_true rfl) (Nat.le_of_ble_eq_true rfl) ⟨rfl, rfl⟩ ⟨(Nat.le_of_ble_eq_true rfl), (Nat.le_of_ble_eq_true rfl)⟩ dL_year_121 (fun v150 m149 => ?_)
      refine x_aload dL_year_124 rfl ?_
      refine x_iload dL_year_126 rfl ?_
      refine y_taild (by rw [l8]; decide) dL_year_128 (fun hi => ?_)
      refine x_icmp_ne (tgt := 205) dL_year_129 (by decide) (fun hc151 => ?_) (fun hc151 => ?_)
      · refine x_aload_n dL_year_132 rfl ?_
        refine x_iload dL_year_133 rfl ?_
        refine x_iload dL_year_135 rfl ?_
        refine y_callVI (rest := []) (c1 := 4) (s1 := 40) (cn_Loo_dayByDays ω8 x13 p7 m149) mv_RL_111 hz_16 rfl (Nat.le_of_ble_eq_true rfl) (Nat.le_of_ble_eq_true rfl) (Nat.le_of_ble_eq_true rfl) ⟨rfl, rfl⟩ ⟨(Nat.le_of_ble_eq_true rfl), (Nat.le_of_ble_eq_true rfl)⟩ dL_year_137 (fun v153 m152 => ?_)
        refine x_aload dL_year_140 rfl ?_
        refine x_iload dL_year_142 rfl ?_
        refine y_taild (by rw [l8]; decide) dL_year_144 (fun hi => ?_)
        refine x_icmp_ne (tgt := 205) dL_year_145 (by decide) (fun hc154 => ?_) (fun hc154 => ?_)
        · refine x_aload_n dL_year_148 rfl ?_
          refine x_iload dL_year_149 rfl ?_
          refine x_iload dL_year_151 rfl ?_
          refine y_callVI (rest := []) (c1 := 4) (s1 := 40) (cn_Loo_cost ω8 x13 p7 m152) mv_RL_114 hz_16 rfl (Nat.le_of_ble_eq_true rfl) (Nat.le_of_ble_eq_true rfl) (Nat.le_of_ble_eq_true rfl) ⟨rfl, rfl⟩ ⟨(Nat.le_of_ble_eq_true rfl), (Nat.le_of_ble_eq_true rfl)⟩ dL_year_153 (fun v156 m155 => ?_)
          refine x_aload dL_year_156 rfl ?_
          refine x_iload dL_year_158 rfl ?_
          refine y_taild (by rw [l8]; decide) dL_year_160 (fun hi => ?_)
          refine x_icmp_ne (tgt := 205) dL_year_161 (by decide) (fun hc157 => ?_) (fun hc157 => ?_)
          · refine x_aload_n dL_year_164 rfl ?_
            refine x_iload dL_year_165 rfl ?_
            refine x_iload dL_year_167 rfl ?_
            refine y_callVI (rest := []) (c1 := 4) (s1 := 40) (cn_Loo_isMidnight ω8 x13 p7 m155) mv_RL_117 hz_16 rfl (Nat.le_of_ble_eq_true rfl) (Nat.le_of_ble_eq_true rfl) (Nat.le_of_ble_eq_true rfl) ⟨rfl, rfl⟩ ⟨(Nat.le_of_ble_eq_true rfl), (Nat.le_of_ble_eq_true rfl)⟩ dL_year_169 (fun v159 m158 => ?_)
            refine x_aload dL_year_172 rfl ?_
            refine x_iload dL_year_174 rfl ?_
            refine y_taild (by rw [l8]; decide) dL_year_176 (fun hi => ?_)
            refine y_join (fun j162 => ∀ (x161 : Int32), Sx ω ω8 true 108 6 60 kk_Law_year fI 4 40 m158 202 [some (.ref (zad ω8 16)), none, some (.ref (zad ω8 202)), none, some (.ref (zad ω8 204)), some (.ref (zad ω8 206)), some (.int p7), some (.ref (zTd ω8 0)), some (.ref (zTd ω8 1)), some (.ref (zTd ω8 2)), some (.ref (zTd ω8 3)), some (.int x12), some (.int x13), none, none, none, none, none, none, none, none, none, none, none] [.int x161, .int v159] (j162 x161)) ?_ (fun j162 hj162 => ?_)
            · intro x161
              refine x_icmp_eq (tgt := 207) dL_year_202 (by decide) (fun hc163 => ?_) (fun hc163 => ?_)
              · refine x_iload dL_year_207 rfl ?_
                refine x_aload dL_year_209 rfl ?_
                refine x_iload dL_year_211 rfl ?_
                refine y_taild (by rw [l8]; decide) dL_year_213 (fun hi => ?_)
                refine x_iadd dL_year_214 ?_
                refine y_letI (fun x164 => ?_)
                refine x_istore (ls' := [some (.ref (zad ω8 16)), none, some (.ref (zad ω8 202)), none, some (.ref (zad ω8 204)), some (.ref (zad ω8 206)), some (.int p7), some (.ref (zTd ω8 0)), some (.ref (zTd ω8 1)), some (.ref (zTd ω8 2)), some (.ref (zTd ω8 3)), some (.int x164), some (.int x13), none, none, none, none, none, none, none, none, none, none, none]) dL_year_215 (Nat.le_of_ble_eq_true rfl) rfl ?_
                refine y_iinc (w := 1) dL_year_217 rfl (by decide) (Nat.le_of_ble_eq_true rfl) (fun x165 => ?_)
                refine x_goto (tgt := 78) dL_year_220 (by decide) ?_
                exact hr14 _ _ _
              · refine x_iconst (v := 0) dL_year_205 (by decide) ?_
                exact x_zretF (zXt.trans h2 (zXt.trans h4 (zXt.trans h6 h8))) rfl rfl (zBo_nar (by decide)) ⟨(Nat.le_of_ble_eq_true rfl), (Nat.le_of_ble_eq_true rfl)⟩ dL_year_206
            · refine y_join (fun j166 => Sx ω ω8 true 108 6 60 kk_Law_year fI 4 40 m158 201 [some (.ref (zad ω8 16)), none, some (.ref (zad ω8 202)), none, some (.ref (zad ω8 204)), some (.ref (zad ω8 206)), some (.int p7), some (.ref (zTd ω8 0)), some (.ref (zTd ω8 1)), some (.ref (zTd ω8 2)), some (.ref (zTd ω8 3)), some (.int x12), some (.int x13), none, none, none, none, none, none, none, none, none, none, none] [.int v159] j166) ?_ (fun j166 hj166 => ?_)
              · refine x_iconst (v := 0) dL_year_201 (by decide) ?_
                exact hj162 _
              · refine x_if_lt (tgt := 201) dL_year_177 (by decide) (fun hc160 => ?_) (fun hc160 => ?_)
                · refine y_mask (bs := [true, false, true, false, true, true, true, true, true, true, true, true, true, false, false, false, false, false, false, false, false, false, false, false]) (ls' := [some (.ref (zad ω8 16)), none, some (.ref (zad ω8 202)), none, some (.ref (zad ω8 204)), some (.ref (zad ω8 206)), some (.int p7), some (.ref (zTd ω8 0)), some (.ref (zTd ω8 1)), some (.ref (zTd ω8 2)), some (.ref (zTd ω8 3)), some (.int x12), some (.int x13), none, none, none, none, none, none, none, none, none, none, none]) rfl ?_
                  exact hj166
                · refine x_aload dL_year_180 rfl ?_
                  refine x_iload dL_year_182 rfl ?_
                  refine y_taild (by rw [l8]; decide) dL_year_184 (fun hi => ?_)
                  refine x_if_lt (tgt := 201) dL_year_185 (by decide) (fun hc167 => ?_) (fun hc167 => ?_)
                  · refine y_mask (bs := [true, false, true, false, true, true, true, true, true, true, true, true, true, false, false, false, false, false, false, false, false, false, false, false]) (ls' := [some (.ref (zad ω8 16)), none, some (.ref (zad ω8 202)), none, some (.ref (zad ω8 204)), some (.ref (zad ω8 206)), some (.int p7), some (.ref (zTd ω8 0)), some (.ref (zTd ω8 1)), some (.ref (zTd ω8 2)), some (.ref (zTd ω8 3)), some (.int x12), some (.int x13), none, none, none, none, none, none, none, none, none, none, none]) rfl ?_
                    exact hj166
                  · refine x_iload dL_year_188 rfl ?_
                    refine x_iload dL_year_190 rfl ?_
                    refine x_imul dL_year_192 ?_
                    refine x_iconst (v := 1) dL_year_193 (by decide) ?_
                    refine x_icmp_ne (tgt := 201) dL_year_194 (by decide) (fun hc168 => ?_) (fun hc168 => ?_)
                    · refine x_iconst (v := 1) dL_year_197 (by decide) ?_
                      refine x_goto (tgt := 202) dL_year_198 (by decide) ?_
                      refine y_mask (bs := [true, false, true, false, true, true, true, true, true, true, true, true, true, false, false, false, false, false, false, false, false, false, false, false]) (ls' := [some (.ref (zad ω8 16)), none, some (.ref (zad ω8 202)), none, some (.ref (zad ω8 204)), some (.ref (zad ω8 206)), some (.int p7), some (.ref (zTd ω8 0)), some (.ref (zTd ω8 1)), some (.ref (zTd ω8 2)), some (.ref (zTd ω8 3)), some (.int x12), some (.int x13), none, none, none, none, none, none, none, none, none, none, none]) rfl ?_
                      exact hj162 _
                    · refine y_mask (bs := [true, false, true, false, true, true, true, true, true, true, true, true, true, false, false, false, false, false, false, false, false, false, false, false]) (ls' := [some (.ref (zad ω8 16)), none, some (.ref (zad ω8 202)), none, some (.ref (zad ω8 204)), some (.ref (zad ω8 206)), some (.int p7), some (.ref (zTd ω8 0)), some (.ref (zTd ω8 1)), some (.ref (zTd ω8 2)), some (.ref (zTd ω8 3)), some (.int x12), some (.int x13), none, none, none, none, none, none, none, none, none, none, none]) rfl ?_
                      exact hj166
          · refine x_iconst (v := 0) dL_year_205 (by decide) ?_
            exact x_zretF (zXt.trans h2 (zXt.trans h4 (zXt.trans h6 h8))) rfl rfl (zBo_nar (by decide)) ⟨(Nat.le_of_ble_eq_true rfl), (Nat.le_of_ble_eq_true rfl)⟩ dL_year_206
        · refine x_iconst (v := 0) dL_year_205 (by decide) ?_
          exact x_zretF (zXt.trans h2 (zXt.trans h4 (zXt.trans h6 h8))) rfl rfl (zBo_nar (by decide)) ⟨(Nat.le_of_ble_eq_true rfl), (Nat.le_of_ble_eq_true rfl)⟩ dL_year_206
      · refine x_iconst (v := 0) dL_year_205 (by decide) ?_
        exact x_zretF (zXt.trans h2 (zXt.trans h4 (zXt.trans h6 h8))) rfl rfl (zBo_nar (by decide)) ⟨(Nat.le_of_ble_eq_true rfl), (Nat.le_of_ble_eq_true rfl)⟩ dL_year_206
    · refine x_iconst (v := 0) dL_year_205 (by decide) ?_
      exact x_zretF (zXt.trans h2 (zXt.trans h4 (zXt.trans h6 h8))) rfl rfl (zBo_nar (by decide)) ⟨(Nat.le_of_ble_eq_true rfl), (Nat.le_of_ble_eq_true rfl)⟩ dL_year_206
