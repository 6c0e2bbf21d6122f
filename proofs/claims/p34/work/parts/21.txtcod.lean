abbrev kk_Txt_append : Kx := (yX8_append.cls, cX8_append, 2, (some .boolean), [], false)
set_option maxHeartbeats 4000000 in
set_option maxRecDepth 100000 in
theorem c_Txt_append (ω : Wd) (a : Nat) (hT : zT a = 8) (p1 : Int32) (m : Mm) : Ev ω true 1 0 0 yX8_append cX8_append 2 (some .boolean) [.ref (zad ω a), .int p1] m fI (f_Txt_append a p1 m) := by
  refine Ev.of (b := false) (ls := [some (.ref (zad ω a)), some (.int p1)]) (plainFor_of_name (by decide +kernel)) (fun h => by cases h) rfl (Nat.le_of_ble_eq_true rfl) rfl ?_
  change Sx ω ω true 1 0 0 kk_Txt_append fI 0 0 m 0 _ _ _
  unfold f_Txt_append
  refine x_aload_n dX8_append_0 rfl ?_
  refine y_getI fl_RX8_13 hT dX8_append_1 ?_
  refine x_bipush (v := 40) dX8_append_4 (by decide) ?_
  refine x_icmp_lt (tgt := 11) dX8_append_6 (by decide) (fun hc1 => ?_) (fun hc1 => ?_)
  · refine x_aload_n dX8_append_11 rfl ?_
    refine y_getF fl_RX8_9 hT (lq_8_0 hT) (by rw [lt_8_0 hT]; decide) dX8_append_12 ?_
    refine x_aload_n dX8_append_15 rfl ?_
    refine y_getI fl_RX8_13 hT dX8_append_16 ?_
    refine x_iload_n dX8_append_19 rfl ?_
    refine x_guard (fun hv => ?_)
    refine y_cast (lt_8_0 hT) (ln_8_0 hT) hv dX8_append_20 (fun hi => ?_)
    refine y_letM (fun m2 => ?_)
    refine x_aload_n dX8_append_21 rfl ?_
    refine x_dup dX8_append_22 rfl ?_
    refine y_getI fl_RX8_13 hT dX8_append_23 ?_
    refine x_iconst (v := 1) dX8_append_26 (by decide) ?_
    refine x_iadd dX8_append_27 ?_
    refine y_putI fp_RX8_13 hT dX8_append_28 ?_
    refine y_letM (fun m3 => ?_)
    refine x_iconst (v := 1) dX8_append_31 (by decide) ?_
    exact x_zret rfl rfl (zBo_nar (by decide)) ⟨(Nat.le_of_ble_eq_true rfl), (Nat.le_of_ble_eq_true rfl)⟩ dX8_append_32
  · refine x_iconst (v := 0) dX8_append_9 (by decide) ?_
    exact x_zret rfl rfl (zBo_nar (by decide)) ⟨(Nat.le_of_ble_eq_true rfl), (Nat.le_of_ble_eq_true rfl)⟩ dX8_append_10
abbrev kk_Txt_length : Kx := (yX8_length.cls, cX8_length, 1, (some .int), [], false)
set_option maxHeartbeats 4000000 in
set_option maxRecDepth 100000 in
theorem c_Txt_length (ω : Wd) (a : Nat) (hT : zT a = 8) (m : Mm) : Ev ω true 1 0 0 yX8_length cX8_length 1 (some .int) [.ref (zad ω a)] m (fP m) (f_Txt_length a m) := by
  refine Ev.of (b := false) (ls := [some (.ref (zad ω a))]) (plainFor_of_name (by decide +kernel)) (fun h => by cases h) rfl (Nat.le_of_ble_eq_true rfl) rfl ?_
  change Sx ω ω true 1 0 0 kk_Txt_length (fP m) 0 0 m 0 _ _ _
  unfold f_Txt_length
  refine x_aload_n dX8_length_0 rfl ?_
  refine y_getI fl_RX8_13 hT dX8_length_1 ?_
  exact x_iret rfl rfl ⟨(Nat.le_of_ble_eq_true rfl), (Nat.le_of_ble_eq_true rfl)⟩ dX8_length_4
abbrev kk_Txt_clear : Kx := (yX8_clear.cls, cX8_clear, 1, none, [], false)
set_option maxHeartbeats 4000000 in
set_option maxRecDepth 100000 in
theorem c_Txt_clear (ω : Wd) (a : Nat) (hT : zT a = 8) (m : Mm) : Ev ω true 1 0 0 yX8_clear cX8_clear 1 none [.ref (zad ω a)] m fV (f_Txt_clear a m) := by
  refine Ev.of (b := false) (ls := [some (.ref (zad ω a))]) (plainFor_of_name (by decide +kernel)) (fun h => by cases h) rfl (Nat.le_of_ble_eq_true rfl) rfl ?_
  change Sx ω ω true 1 0 0 kk_Txt_clear fV 0 0 m 0 _ _ _
  unfold f_Txt_clear
  refine x_aload_n dX8_clear_0 rfl ?_
  refine x_iconst (v := 0) dX8_clear_1 (by decide) ?_
  refine y_putI fp_RX8_13 hT dX8_clear_2 ?_
  refine y_letM (fun m1 => ?_)
  exact x_vret rfl rfl ⟨(Nat.le_of_ble_eq_true rfl), (Nat.le_of_ble_eq_true rfl)⟩ dX8_clear_5
abbrev kk_Cod_clear : Kx := (yX3_clear.cls, cX3_clear, 1, none, [], false)
set_option maxHeartbeats 4000000 in
set_option maxRecDepth 100000 in
theorem c_Cod_clear (ω : Wd) (a : Nat) (hT : zT a = 3) (m : Mm) : Ev ω true 1 0 0 yX3_clear cX3_clear 1 none [.ref (zad ω a)] m fV (f_Cod_clear a m) := by
  refine Ev.of (b := false) (ls := [some (.ref (zad ω a))]) (plainFor_of_name (by decide +kernel)) (fun h => by cases h) rfl (Nat.le_of_ble_eq_true rfl) rfl ?_
  change Sx ω ω true 1 0 0 kk_Cod_clear fV 0 0 m 0 _ _ _
  unfold f_Cod_clear
  refine x_aload_n dX3_clear_0 rfl ?_
  refine x_iconst (v := 0) dX3_clear_1 (by decide) ?_
  refine y_putI fp_RX3_18 hT dX3_clear_2 ?_
  refine y_letM (fun m1 => ?_)
  refine x_aload_n dX3_clear_5 rfl ?_
  refine x_iconst (v := 0) dX3_clear_6 (by decide) ?_
  refine y_putI fp_RX3_22 hT dX3_clear_7 ?_
  refine y_letM (fun m2 => ?_)
  exact x_vret rfl rfl ⟨(Nat.le_of_ble_eq_true rfl), (Nat.le_of_ble_eq_true rfl)⟩ dX3_clear_10
abbrev kk_Txt_at : Kx := (yX8_at.cls, cX8_at, 2, (some .char), [], false)
set_option maxHeartbeats 4000000 in
set_option maxRecDepth 100000 in
theorem c_Txt_at (ω : Wd) (a : Nat) (hT : zT a = 8) (p1 : Int32) (m : Mm) : Ev ω true 1 0 0 yX8_at cX8_at 2 (some .char) [.ref (zad ω a), .int p1] m (fP m) (f_Txt_at a p1 m) := by
  refine Ev.of (b := false) (ls := [some (.ref (zad ω a)), some (.int p1)]) (plainFor_of_name (by decide +kernel)) (fun h => by cases h) rfl (Nat.le_of_ble_eq_true rfl) rfl ?_
  change Sx ω ω true 1 0 0 kk_Txt_at (fP m) 0 0 m 0 _ _ _
  unfold f_Txt_at
  refine x_iload_n dX8_at_0 rfl ?_
  refine y_join (fun j2 => Sx ω ω true 1 0 0 kk_Txt_at (fP m) 0 0 m 21 [none, none] [] j2) ?_ (fun j2 hj2 => ?_)
  · refine x_iconst (v := 0) dX8_at_21 (by decide) ?_
    exact x_zret rfl rfl (zCh_nar (by decide)) ⟨(Nat.le_of_ble_eq_true rfl), (Nat.le_of_ble_eq_true rfl)⟩ dX8_at_22
  · refine x_if_lt (tgt := 21) dX8_at_1 (by decide) (fun hc1 => ?_) (fun hc1 => ?_)
    · refine y_mask (bs := [false, false]) (ls' := [none, none]) rfl ?_
      exact hj2
    · refine x_iload_n dX8_at_4 rfl ?_
      refine x_aload_n dX8_at_5 rfl ?_
      refine y_getI fl_RX8_13 hT dX8_at_6 ?_
      refine x_icmp_ge (tgt := 21) dX8_at_9 (by decide) (fun hc3 => ?_) (fun hc3 => ?_)
      · refine y_mask (bs := [false, false]) (ls' := [none, none]) rfl ?_
        exact hj2
      · refine x_aload_n dX8_at_12 rfl ?_
        refine y_getF fl_RX8_9 hT (lq_8_0 hT) (by rw [lt_8_0 hT]; decide) dX8_at_13 ?_
        refine x_iload_n dX8_at_16 rfl ?_
        refine y_cald (lt_8_0 hT) (ln_8_0 hT) dX8_at_17 (fun hi => ?_)
        refine x_goto (tgt := 22) dX8_at_18 (by decide) ?_
        refine x_guard (fun hv => ?_)
        exact x_zret rfl rfl (zCh_nar hv) ⟨(Nat.le_of_ble_eq_true rfl), (Nat.le_of_ble_eq_true rfl)⟩ dX8_at_22
abbrev kk_Cod_name : Kx := (yX3_name.cls, cX3_name, 2, none, [], false)
set_option maxHeartbeats 4000000 in
set_option maxRecDepth 100000 in
theorem c_Cod_name (ω : Wd) (a : Nat) (hT : zT a = 3) (p1 : Int32) (m : Mm) : Ev ω true 1 0 0 yX3_name cX3_name 2 none [.ref (zad ω a), .int p1] m fV (f_Cod_name a p1 m) := by
  refine Ev.of (b := false) (ls := [some (.ref (zad ω a)), some (.int p1)]) (plainFor_of_name (by decide +kernel)) (fun h => by cases h) rfl (Nat.le_of_ble_eq_true rfl) rfl ?_
  change Sx ω ω true 1 0 0 kk_Cod_name fV 0 0 m 0 _ _ _
  unfold f_Cod_name
  refine x_aload_n dX3_name_0 rfl ?_
  refine x_dup dX3_name_1 rfl ?_
  refine y_getI fl_RX3_22 hT dX3_name_2 ?_
  refine x_iconst (v := 1) dX3_name_5 (by decide) ?_
  refine x_iload_n dX3_name_6 rfl ?_
  refine x_ishl dX3_name_7 ?_
  refine x_ior dX3_name_8 ?_
  refine y_putI fp_RX3_22 hT dX3_name_9 ?_
  refine y_letM (fun m1 => ?_)
  exact x_vret rfl rfl ⟨(Nat.le_of_ble_eq_true rfl), (Nat.le_of_ble_eq_true rfl)⟩ dX3_name_12
abbrev kk_Cod_add : Kx := (yX3_add.cls, cX3_add, 3, (some .boolean), [], false)
set_option maxHeartbeats 4000000 in
set_option maxRecDepth 100000 in
theorem c_Cod_add (ω : Wd) (a : Nat) (hT : zT a = 3) (p1 : Int32) (p2 : Int32) (m : Mm) : Ev ω true 1 0 0 yX3_add cX3_add 3 (some .boolean) [.ref (zad ω a), .int p1, .int p2] m fI (f_Cod_add a p1 p2 m) := by
  refine Ev.of (b := false) (ls := [some (.ref (zad ω a)), some (.int p1), some (.int p2)]) (plainFor_of_name (by decide +kernel)) (fun h => by cases h) rfl (Nat.le_of_ble_eq_true rfl) rfl ?_
  change Sx ω ω true 1 0 0 kk_Cod_add fI 0 0 m 0 _ _ _
  unfold f_Cod_add
  refine x_aload_n dX3_add_0 rfl ?_
  refine y_getI fl_RX3_18 hT dX3_add_1 ?_
  refine x_bipush (v := 40) dX3_add_4 (by decide) ?_
  refine x_icmp_lt (tgt := 11) dX3_add_6 (by decide) (fun hc1 => ?_) (fun hc1 => ?_)
  · refine x_aload_n dX3_add_11 rfl ?_
    refine y_getF fl_RX3_11 hT (lq_3_0 hT) (by rw [lt_3_0 hT]; decide) dX3_add_12 ?_
    refine x_aload_n dX3_add_15 rfl ?_
    refine y_getI fl_RX3_18 hT dX3_add_16 ?_
    refine x_iload_n dX3_add_19 rfl ?_
    refine y_iast (lt_3_0 hT) (ln_3_0 hT) dX3_add_20 (fun hi => ?_)
    refine y_letM (fun m2 => ?_)
    refine x_aload_n dX3_add_21 rfl ?_
    refine y_getF fl_RX3_15 hT (lq_3_1 hT) (by rw [lt_3_1 hT]; decide) dX3_add_22 ?_
    refine x_aload_n dX3_add_25 rfl ?_
    refine y_getI fl_RX3_18 hT dX3_add_26 ?_
    refine x_iload_n dX3_add_29 rfl ?_
    refine y_iast (lt_3_1 hT) (ln_3_1 hT) dX3_add_30 (fun hi => ?_)
    refine y_letM (fun m3 => ?_)
    refine x_aload_n dX3_add_31 rfl ?_
    refine x_dup dX3_add_32 rfl ?_
    refine y_getI fl_RX3_18 hT dX3_add_33 ?_
    refine x_iconst (v := 1) dX3_add_36 (by decide) ?_
    refine x_iadd dX3_add_37 ?_
    refine y_putI fp_RX3_18 hT dX3_add_38 ?_
    refine y_letM (fun m4 => ?_)
    refine x_iconst (v := 1) dX3_add_41 (by decide) ?_
    exact x_zret rfl rfl (zBo_nar (by decide)) ⟨(Nat.le_of_ble_eq_true rfl), (Nat.le_of_ble_eq_true rfl)⟩ dX3_add_42
  · refine x_iconst (v := 0) dX3_add_9 (by decide) ?_
    exact x_zret rfl rfl (zBo_nar (by decide)) ⟨(Nat.le_of_ble_eq_true rfl), (Nat.le_of_ble_eq_true rfl)⟩ dX3_add_10
abbrev kk_Cod_size : Kx := (yX3_size.cls, cX3_size, 1, (some .int), [], false)
set_option maxHeartbeats 4000000 in
set_option maxRecDepth 100000 in
theorem c_Cod_size (ω : Wd) (a : Nat) (hT : zT a = 3) (m : Mm) : Ev ω true 1 0 0 yX3_size cX3_size 1 (some .int) [.ref (zad ω a)] m (fP m) (f_Cod_size a m) := by
  refine Ev.of (b := false) (ls := [some (.ref (zad ω a))]) (plainFor_of_name (by decide +kernel)) (fun h => by cases h) rfl (Nat.le_of_ble_eq_true rfl) rfl ?_
  change Sx ω ω true 1 0 0 kk_Cod_size (fP m) 0 0 m 0 _ _ _
  unfold f_Cod_size
  refine x_aload_n dX3_size_0 rfl ?_
  refine y_getI fl_RX3_18 hT dX3_size_1 ?_
  exact x_iret rfl rfl ⟨(Nat.le_of_ble_eq_true rfl), (Nat.le_of_ble_eq_true rfl)⟩ dX3_size_4
abbrev kk_Cod_landHere : Kx := (yX3_landHere.cls, cX3_landHere, 2, (some .boolean), [], false)
set_option maxHeartbeats 4000000 in
set_option maxRecDepth 100000 in
theorem c_Cod_landHere (ω : Wd) (a : Nat) (hT : zT a = 3) (p1 : Int32) (m : Mm) : Ev ω true 1 0 0 yX3_landHere cX3_landHere 2 (some .boolean) [.ref (zad ω a), .int p1] m fI (f_Cod_landHere a p1 m) := by
  refine Ev.of (b := false) (ls := [some (.ref (zad ω a)), some (.int p1)]) (plainFor_of_name (by decide +kernel)) (fun h => by cases h) rfl (Nat.le_of_ble_eq_true rfl) rfl ?_
  change Sx ω ω true 1 0 0 kk_Cod_landHere fI 0 0 m 0 _ _ _
  unfold f_Cod_landHere
  refine x_iload_n dX3_landHere_0 rfl ?_
  refine x_if_lt (tgt := 12) dX3_landHere_1 (by decide) (fun hc1 => ?_) (fun hc1 => ?_)
  · refine x_iconst (v := 0) dX3_landHere_12 (by decide) ?_
    exact x_zret rfl rfl (zBo_nar (by decide)) ⟨(Nat.le_of_ble_eq_true rfl), (Nat.le_of_ble_eq_true rfl)⟩ dX3_landHere_13
  · refine x_iload_n dX3_landHere_4 rfl ?_
    refine x_aload_n dX3_landHere_5 rfl ?_
    refine y_getI fl_RX3_18 hT dX3_landHere_6 ?_
    refine x_icmp_lt (tgt := 14) dX3_landHere_9 (by decide) (fun hc2 => ?_) (fun hc2 => ?_)
    · refine x_aload_n dX3_landHere_14 rfl ?_
      refine y_getF fl_RX3_15 hT (lq_3_1 hT) (by rw [lt_3_1 hT]; decide) dX3_landHere_15 ?_
      refine x_iload_n dX3_landHere_18 rfl ?_
      refine x_aload_n dX3_landHere_19 rfl ?_
      refine y_getI fl_RX3_18 hT dX3_landHere_20 ?_
      refine y_iast (lt_3_1 hT) (ln_3_1 hT) dX3_landHere_23 (fun hi => ?_)
      refine y_letM (fun m3 => ?_)
      refine x_iconst (v := 1) dX3_landHere_24 (by decide) ?_
      exact x_zret rfl rfl (zBo_nar (by decide)) ⟨(Nat.le_of_ble_eq_true rfl), (Nat.le_of_ble_eq_true rfl)⟩ dX3_landHere_25
    · refine x_iconst (v := 0) dX3_landHere_12 (by decide) ?_
      exact x_zret rfl rfl (zBo_nar (by decide)) ⟨(Nat.le_of_ble_eq_true rfl), (Nat.le_of_ble_eq_true rfl)⟩ dX3_landHere_13
abbrev kk_Cod_namesBeyond : Kx := (yX3_namesBeyond.cls, cX3_namesBeyond, 2, (some .boolean), [], false)
set_option maxHeartbeats 4000000 in
set_option maxRecDepth 100000 in
theorem c_Cod_namesBeyond (ω : Wd) (a : Nat) (hT : zT a = 3) (p1 : Int32) (m : Mm) : Ev ω true 1 0 0 yX3_namesBeyond cX3_namesBeyond 2 (some .boolean) [.ref (zad ω a), .int p1] m (fP m) (f_Cod_namesBeyond a p1 m) := by
  refine Ev.of (b := false) (ls := [some (.ref (zad ω a)), some (.int p1)]) (plainFor_of_name (by decide +kernel)) (fun h => by cases h) rfl (Nat.le_of_ble_eq_true rfl) rfl ?_
  change Sx ω ω true 1 0 0 kk_Cod_namesBeyond (fP m) 0 0 m 0 _ _ _
  unfold f_Cod_namesBeyond
  refine x_aload_n dX3_namesBeyond_0 rfl ?_
  refine y_getI fl_RX3_22 hT dX3_namesBeyond_1 ?_
  refine x_iload_n dX3_namesBeyond_4 rfl ?_
  refine x_iushr dX3_namesBeyond_5 ?_
  refine x_if_eq (tgt := 13) dX3_namesBeyond_6 (by decide) (fun hc1 => ?_) (fun hc1 => ?_)
  · refine x_iconst (v := 0) dX3_namesBeyond_13 (by decide) ?_
    exact x_zret rfl rfl (zBo_nar (by decide)) ⟨(Nat.le_of_ble_eq_true rfl), (Nat.le_of_ble_eq_true rfl)⟩ dX3_namesBeyond_14
  · refine x_iconst (v := 1) dX3_namesBeyond_9 (by decide) ?_
    refine x_goto (tgt := 14) dX3_namesBeyond_10 (by decide) ?_
    exact x_zret rfl rfl (zBo_nar (by decide)) ⟨(Nat.le_of_ble_eq_true rfl), (Nat.le_of_ble_eq_true rfl)⟩ dX3_namesBeyond_14
abbrev kk_Txt_copyFrom : Kx := (yX8_copyFrom.cls, cX8_copyFrom, 2, none, [], false)
set_option maxHeartbeats 4000000 in
set_option maxRecDepth 100000 in
theorem c_Txt_copyFrom (ω : Wd) (a : Nat) (hT : zT a = 8) (o1 : Nat) (ho1 : zT o1 = 8) (m : Mm) : Ev ω true 2 0 0 yX8_copyFrom cX8_copyFrom 2 none [.ref (zad ω a), .ref (zad ω o1)] m fV (f_Txt_copyFrom a o1 m) := by
  refine Ev.of (b := false) (ls := [some (.ref (zad ω a)), some (.ref (zad ω o1))]) (plainFor_of_name (by decide +kernel)) (fun h => by cases h) rfl (Nat.le_of_ble_eq_true rfl) rfl ?_
  change Sx ω ω true 2 0 0 kk_Txt_copyFrom fV 0 0 m 0 _ _ _
  unfold f_Txt_copyFrom
  refine x_aload_n dX8_copyFrom_0 rfl ?_
  refine y_getF fl_RX8_9 ho1 (lq_8_0 ho1) (by rw [lt_8_0 ho1]; decide) dX8_copyFrom_1 ?_
  refine x_iconst (v := 0) dX8_copyFrom_4 (by decide) ?_
  refine x_aload_n dX8_copyFrom_5 rfl ?_
  refine y_getF fl_RX8_9 hT (lq_8_0 hT) (by rw [lt_8_0 hT]; decide) dX8_copyFrom_6 ?_
  refine x_iconst (v := 0) dX8_copyFrom_9 (by decide) ?_
  refine x_bipush (v := 40) dX8_copyFrom_10 (by decide) ?_
  refine y_copy (t0 := 1) (Or.inr rfl) cp_RX8_17 (lt_8_0 ho1) (lt_8_0 hT) (Nat.le_of_ble_eq_true rfl) (Nat.le_of_ble_eq_true rfl) dX8_copyFrom_12 (fun hi => ?_)
  refine y_letM (fun m1 => ?_)
  refine x_aload_n dX8_copyFrom_15 rfl ?_
  refine x_aload_n dX8_copyFrom_16 rfl ?_
  refine y_getI fl_RX8_13 ho1 dX8_copyFrom_17 ?_
  refine y_putI fp_RX8_13 hT dX8_copyFrom_20 ?_
  refine y_letM (fun m2 => ?_)
  exact x_vret rfl rfl ⟨(Nat.le_of_ble_eq_true rfl), (Nat.le_of_ble_eq_true rfl)⟩ dX8_copyFrom_23
abbrev kk_Cod_copyFrom : Kx := (yX3_copyFrom.cls, cX3_copyFrom, 2, none, [], false)
set_option maxHeartbeats 4000000 in
set_option maxRecDepth 100000 in
theorem c_Cod_copyFrom (ω : Wd) (a : Nat) (hT : zT a = 3) (o1 : Nat) (ho1 : zT o1 = 3) (m : Mm) : Ev ω true 2 0 0 yX3_copyFrom cX3_copyFrom 2 none [.ref (zad ω a), .ref (zad ω o1)] m fV (f_Cod_copyFrom a o1 m) := by
  refine Ev.of (b := false) (ls := [some (.ref (zad ω a)), some (.ref (zad ω o1))]) (plainFor_of_name (by decide +kernel)) (fun h => by cases h) rfl (Nat.le_of_ble_eq_true rfl) rfl ?_
  change Sx ω ω true 2 0 0 kk_Cod_copyFrom fV 0 0 m 0 _ _ _
  unfold f_Cod_copyFrom
  refine x_aload_n dX3_copyFrom_0 rfl ?_
  refine y_getF fl_RX3_11 ho1 (lq_3_0 ho1) (by rw [lt_3_0 ho1]; decide) dX3_copyFrom_1 ?_
  refine x_iconst (v := 0) dX3_copyFrom_4 (by decide) ?_
  refine x_aload_n dX3_copyFrom_5 rfl ?_
  refine y_getF fl_RX3_11 hT (lq_3_0 hT) (by rw [lt_3_0 hT]; decide) dX3_copyFrom_6 ?_
  refine x_iconst (v := 0) dX3_copyFrom_9 (by decide) ?_
  refine x_bipush (v := 40) dX3_copyFrom_10 (by decide) ?_
  refine y_copy (t0 := 0) (Or.inl rfl) cp_RX3_32 (lt_3_0 ho1) (lt_3_0 hT) (Nat.le_of_ble_eq_true rfl) (Nat.le_of_ble_eq_true rfl) dX3_copyFrom_12 (fun hi => ?_)
  refine y_letM (fun m1 => ?_)
  refine x_aload_n dX3_copyFrom_15 rfl ?_
  refine y_getF fl_RX3_15 ho1 (lq_3_1 ho1) (by rw [lt_3_1 ho1]; decide) dX3_copyFrom_16 ?_
  refine x_iconst (v := 0) dX3_copyFrom_19 (by decide) ?_
  refine x_aload_n dX3_copyFrom_20 rfl ?_
  refine y_getF fl_RX3_15 hT (lq_3_1 hT) (by rw [lt_3_1 hT]; decide) dX3_copyFrom_21 ?_
  refine x_iconst (v := 0) dX3_copyFrom_24 (by decide) ?_
  refine x_bipush (v := 40) dX3_copyFrom_25 (by decide) ?_
  refine y_copy (t0 := 0) (Or.inl rfl) cp_RX3_32 (lt_3_1 ho1) (lt_3_1 hT) (Nat.le_of_ble_eq_true rfl) (Nat.le_of_ble_eq_true rfl) dX3_copyFrom_27 (fun hi => ?_)
  refine y_letM (fun m2 => ?_)
  refine x_aload_n dX3_copyFrom_30 rfl ?_
  refine x_aload_n dX3_copyFrom_31 rfl ?_
  refine y_getI fl_RX3_18 ho1 dX3_copyFrom_32 ?_
  refine y_putI fp_RX3_18 hT dX3_copyFrom_35 ?_
  refine y_letM (fun m3 => ?_)
  refine x_aload_n dX3_copyFrom_38 rfl ?_
  refine x_aload_n dX3_copyFrom_39 rfl ?_
  refine y_getI fl_RX3_22 ho1 dX3_copyFrom_40 ?_
  refine y_putI fp_RX3_22 hT dX3_copyFrom_43 ?_
  refine y_letM (fun m4 => ?_)
  exact x_vret rfl rfl ⟨(Nat.le_of_ble_eq_true rfl), (Nat.le_of_ble_eq_true rfl)⟩ dX3_copyFrom_46
abbrev kk_Cod_kindAt : Kx := (yX3_kindAt.cls, cX3_kindAt, 2, (some .int), [], false)
set_option maxHeartbeats 4000000 in
set_option maxRecDepth 100000 in
theorem c_Cod_kindAt (ω : Wd) (a : Nat) (hT : zT a = 3) (p1 : Int32) (m : Mm) : Ev ω true 1 0 0 yX3_kindAt cX3_kindAt 2 (some .int) [.ref (zad ω a), .int p1] m (fP m) (f_Cod_kindAt a p1 m) := by
  refine Ev.of (b := false) (ls := [some (.ref (zad ω a)), some (.int p1)]) (plainFor_of_name (by decide +kernel)) (fun h => by cases h) rfl (Nat.le_of_ble_eq_true rfl) rfl ?_
  change Sx ω ω true 1 0 0 kk_Cod_kindAt (fP m) 0 0 m 0 _ _ _
  unfold f_Cod_kindAt
  refine x_iload_n dX3_kindAt_0 rfl ?_
  refine y_join (fun j2 => Sx ω ω true 1 0 0 kk_Cod_kindAt (fP m) 0 0 m 21 [none, none] [] j2) ?_ (fun j2 hj2 => ?_)
  · refine x_iconst (v := 0) dX3_kindAt_21 (by decide) ?_
    exact x_iret rfl rfl ⟨(Nat.le_of_ble_eq_true rfl), (Nat.le_of_ble_eq_true rfl)⟩ dX3_kindAt_22
  · refine x_if_lt (tgt := 21) dX3_kindAt_1 (by decide) (fun hc1 => ?_) (fun hc1 => ?_)
    · refine y_mask (bs := [false, false]) (ls' := [none, none]) rfl ?_
      exact hj2
    · refine x_iload_n dX3_kindAt_4 rfl ?_
      refine x_aload_n dX3_kindAt_5 rfl ?_
      refine y_getI fl_RX3_18 hT dX3_kindAt_6 ?_
      refine x_icmp_ge (tgt := 21) dX3_kindAt_9 (by decide) (fun hc3 => ?_) (fun hc3 => ?_)
      · refine y_mask (bs := [false, false]) (ls' := [none, none]) rfl ?_
        exact hj2
      · refine x_aload_n dX3_kindAt_12 rfl ?_
        refine y_getF fl_RX3_11 hT (lq_3_0 hT) (by rw [lt_3_0 hT]; decide) dX3_kindAt_13 ?_
        refine x_iload_n dX3_kindAt_16 rfl ?_
        refine y_iald (lt_3_0 hT) (ln_3_0 hT) dX3_kindAt_17 (fun hi => ?_)
        refine x_goto (tgt := 22) dX3_kindAt_18 (by decide) ?_
        exact x_iret rfl rfl ⟨(Nat.le_of_ble_eq_true rfl), (Nat.le_of_ble_eq_true rfl)⟩ dX3_kindAt_22
abbrev kk_Cod_argumentAt : Kx := (yX3_argumentAt.cls, cX3_argumentAt, 2, (some .int), [], false)
set_option maxHeartbeats 4000000 in
set_option maxRecDepth 100000 in
theorem c_Cod_argumentAt (ω : Wd) (a : Nat) (hT : zT a = 3) (p1 : Int32) (m : Mm) : Ev ω true 1 0 0 yX3_argumentAt cX3_argumentAt 2 (some .int) [.ref (zad ω a), .int p1] m (fP m) (f_Cod_argumentAt a p1 m) := by
  refine Ev.of (b := false) (ls := [some (.ref (zad ω a)), some (.int p1)]) (plainFor_of_name (by decide +kernel)) (fun h => by cases h) rfl (Nat.le_of_ble_eq_true rfl) rfl ?_
  change Sx ω ω true 1 0 0 kk_Cod_argumentAt (fP m) 0 0 m 0 _ _ _
  unfold f_Cod_argumentAt
  refine x_iload_n dX3_argumentAt_0 rfl ?_
  refine y_join (fun j2 => Sx ω ω true 1 0 0 kk_Cod_argumentAt (fP m) 0 0 m 21 [none, none] [] j2) ?_ (fun j2 hj2 => ?_)
  · refine x_iconst (v := 0) dX3_argumentAt_21 (by decide) ?_
    exact x_iret rfl rfl ⟨(Nat.le_of_ble_eq_true rfl), (Nat.le_of_ble_eq_true rfl)⟩ dX3_argumentAt_22
  · refine x_if_lt (tgt := 21) dX3_argumentAt_1 (by decide) (fun hc1 => ?_) (fun hc1 => ?_)
    · refine y_mask (bs := [false, false]) (ls' := [none, none]) rfl ?_
      exact hj2
    · refine x_iload_n dX3_argumentAt_4 rfl ?_
      refine x_aload_n dX3_argumentAt_5 rfl ?_
      refine y_getI fl_RX3_18 hT dX3_argumentAt_6 ?_
      refine x_icmp_ge (tgt := 21) dX3_argumentAt_9 (by decide) (fun hc3 => ?_) (fun hc3 => ?_)
      · refine y_mask (bs := [false, false]) (ls' := [none, none]) rfl ?_
        exact hj2
      · refine x_aload_n dX3_argumentAt_12 rfl ?_
        refine y_getF fl_RX3_15 hT (lq_3_1 hT) (by rw [lt_3_1 hT]; decide) dX3_argumentAt_13 ?_
        refine x_iload_n dX3_argumentAt_16 rfl ?_
        refine y_iald (lt_3_1 hT) (ln_3_1 hT) dX3_argumentAt_17 (fun hi => ?_)
        refine x_goto (tgt := 22) dX3_argumentAt_18 (by decide) ?_
        exact x_iret rfl rfl ⟨(Nat.le_of_ble_eq_true rfl), (Nat.le_of_ble_eq_true rfl)⟩ dX3_argumentAt_22
abbrev kk_Cod_placeAfter : Kx := (yX3_placeAfter.cls, cX3_placeAfter, 5, (some .int), [], false)
set_option maxHeartbeats 4000000 in
set_option maxRecDepth 100000 in
theorem c_Cod_placeAfter (ω : Wd) (a : Nat) (hT : zT a = 3) (p1 : Int32) (p2 : Int32) (m : Mm) : Ev ω true 2 0 0 yX3_placeAfter cX3_placeAfter 5 (some .int) [.ref (zad ω a), .int p1, .int p2] m (fP m) (f_Cod_placeAfter a p1 p2 m) := by
  refine Ev.of (b := false) (ls := [some (.ref (zad ω a)), some (.int p1), some (.int p2), none, none]) (plainFor_of_name (by decide +kernel)) (fun h => by cases h) rfl (Nat.le_of_ble_eq_true rfl) rfl ?_
  change Sx ω ω true 2 0 0 kk_Cod_placeAfter (fP m) 0 0 m 0 _ _ _
  unfold f_Cod_placeAfter
  refine x_aload_n dX3_placeAfter_0 rfl ?_
  refine x_iload_n dX3_placeAfter_1 rfl ?_
  refine y_callVP (rest := []) (c1 := 0) (s1 := 0) (c_Cod_kindAt ω a hT p1 m) mv_RX3_25 hT rfl (Nat.le_of_ble_eq_true rfl) (Nat.le_of_ble_eq_true rfl) (Nat.le_of_ble_eq_true rfl) ⟨rfl, rfl⟩ ⟨(Nat.le_of_ble_eq_true rfl), (Nat.le_of_ble_eq_true rfl)⟩ dX3_placeAfter_2 (fun v1 => ?_)
  refine x_istore_n (ls' := [some (.ref (zad ω a)), some (.int p1), some (.int p2), some (.int v1), none]) dX3_placeAfter_5 (Nat.le_of_ble_eq_true rfl) rfl ?_
  refine x_iload_n dX3_placeAfter_6 rfl ?_
  refine x_bipush (v := 18) dX3_placeAfter_7 (by decide) ?_
  refine y_join (fun j4 => ∀ (x3 : Int32), Sx ω ω true 2 0 0 kk_Cod_placeAfter (fP m) 0 0 m 37 [some (.ref (zad ω a)), some (.int p1), none, none, none] [.int x3] (j4 x3)) ?_ (fun j4 hj4 => ?_)
  · intro x3
    refine x_istore (ls' := [some (.ref (zad ω a)), some (.int p1), none, none, some (.int x3)]) dX3_placeAfter_37 (Nat.le_of_ble_eq_true rfl) rfl ?_
    refine x_iload dX3_placeAfter_39 rfl ?_
    refine x_if_eq (tgt := 52) dX3_placeAfter_41 (by decide) (fun hc5 => ?_) (fun hc5 => ?_)
    · refine x_iload_n dX3_placeAfter_52 rfl ?_
      refine x_iconst (v := 1) dX3_placeAfter_53 (by decide) ?_
      refine x_iadd dX3_placeAfter_54 ?_
      exact x_iret rfl rfl ⟨(Nat.le_of_ble_eq_true rfl), (Nat.le_of_ble_eq_true rfl)⟩ dX3_placeAfter_55
    · refine x_aload_n dX3_placeAfter_44 rfl ?_
      refine x_iload_n dX3_placeAfter_45 rfl ?_
      refine y_callVP (rest := []) (c1 := 0) (s1 := 0) (c_Cod_argumentAt ω a hT p1 m) mv_RX3_29 hT rfl (Nat.le_of_ble_eq_true rfl) (Nat.le_of_ble_eq_true rfl) (Nat.le_of_ble_eq_true rfl) ⟨rfl, rfl⟩ ⟨(Nat.le_of_ble_eq_true rfl), (Nat.le_of_ble_eq_true rfl)⟩ dX3_placeAfter_46 (fun v6 => ?_)
      refine x_goto (tgt := 55) dX3_placeAfter_49 (by decide) ?_
      exact x_iret rfl rfl ⟨(Nat.le_of_ble_eq_true rfl), (Nat.le_of_ble_eq_true rfl)⟩ dX3_placeAfter_55
  · refine y_join (fun j7 => Sx ω ω true 2 0 0 kk_Cod_placeAfter (fP m) 0 0 m 32 [some (.ref (zad ω a)), some (.int p1), none, none, none] [] j7) ?_ (fun j7 hj7 => ?_)
    · refine x_iconst (v := 1) dX3_placeAfter_32 (by decide) ?_
      refine x_goto (tgt := 37) dX3_placeAfter_33 (by decide) ?_
      exact hj4 _
    · refine x_icmp_eq (tgt := 32) dX3_placeAfter_9 (by decide) (fun hc2 => ?_) (fun hc2 => ?_)
      · refine y_mask (bs := [true, true, false, false, false]) (ls' := [some (.ref (zad ω a)), some (.int p1), none, none, none]) rfl ?_
        exact hj7
      · refine x_iload_n dX3_placeAfter_12 rfl ?_
        refine x_bipush (v := 19) dX3_placeAfter_13 (by decide) ?_
        refine y_join (fun j9 => Sx ω ω true 2 0 0 kk_Cod_placeAfter (fP m) 0 0 m 22 [some (.ref (zad ω a)), some (.int p1), some (.int p2), some (.int v1), none] [] j9) ?_ (fun j9 hj9 => ?_)
        · refine x_iload_n dX3_placeAfter_22 rfl ?_
          refine x_bipush (v := 20) dX3_placeAfter_23 (by decide) ?_
          refine y_join (fun j11 => Sx ω ω true 2 0 0 kk_Cod_placeAfter (fP m) 0 0 m 36 [some (.ref (zad ω a)), some (.int p1), none, none, none] [] j11) ?_ (fun j11 hj11 => ?_)
          · refine x_iconst (v := 0) dX3_placeAfter_36 (by decide) ?_
            exact hj4 _
          · refine x_icmp_ne (tgt := 36) dX3_placeAfter_25 (by decide) (fun hc10 => ?_) (fun hc10 => ?_)
            · refine x_iload_n dX3_placeAfter_28 rfl ?_
              refine x_if_eq (tgt := 36) dX3_placeAfter_29 (by decide) (fun hc12 => ?_) (fun hc12 => ?_)
              · refine y_mask (bs := [true, true, false, false, false]) (ls' := [some (.ref (zad ω a)), some (.int p1), none, none, none]) rfl ?_
                exact hj11
              · refine y_mask (bs := [true, true, false, false, false]) (ls' := [some (.ref (zad ω a)), some (.int p1), none, none, none]) rfl ?_
                exact hj7
            · refine y_mask (bs := [true, true, false, false, false]) (ls' := [some (.ref (zad ω a)), some (.int p1), none, none, none]) rfl ?_
              exact hj11
        · refine x_icmp_ne (tgt := 22) dX3_placeAfter_15 (by decide) (fun hc8 => ?_) (fun hc8 => ?_)
          · refine x_iload_n dX3_placeAfter_18 rfl ?_
            refine x_if_eq (tgt := 32) dX3_placeAfter_19 (by decide) (fun hc13 => ?_) (fun hc13 => ?_)
            · refine y_mask (bs := [true, true, false, false, false]) (ls' := [some (.ref (zad ω a)), some (.int p1), none, none, none]) rfl ?_
              exact hj7
            · exact hj9
          · exact hj9
